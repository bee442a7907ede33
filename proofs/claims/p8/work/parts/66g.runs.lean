/-! printed by wip/l/gent1.py: runs of both sides, by steps -/
theorem q_fill0_3 {D : zD} {T : zT} (hT : hTab T) (hO : vOK T) {N : Nat} {h : zH} {Q : zR → Prop} (v : Int) (hv0 : zHv h)
    (k0 : vP D T N 1 6 h [some (2, 3), some (1, v), none, some (0, 0), some (0, 60)] [] Q) :
    vP D T N 1 0 h [some (2, 3), some (1, v), none, none, none] [] Q := by
  refine v_push (0) (hT _ zt_J7_fill_d0a16 rfl _ _ rfl) rfl ?_
  refine v_store1 [some (2, 3), some (1, v), none, some (0, 0), none] (hT _ zt_J7_fill_d0a16 rfl _ _ rfl) ⟨rfl, Nat.ne_of_beq_eq_false rfl⟩ (Nat.le_of_ble_eq_true rfl) rfl ?_
  refine v_load (v := (2, 3)) (hT _ zt_J7_fill_d0a16 rfl _ _ rfl) rfl rfl ?_
  refine v_alen (r := 3) (n := 60) (hT _ zt_J7_fill_d0a16 rfl _ _ rfl) rfl rfl ?_
  show vP D T N 1 4 h [some (2, 3), some (1, v), none, some (0, 0), none] [(0, 60)] _
  refine v_store1 [some (2, 3), some (1, v), none, some (0, 0), some (0, 60)] (hT _ zt_J7_fill_d0a16 rfl _ _ rfl) ⟨rfl, Nat.ne_of_beq_eq_false rfl⟩ (Nat.le_of_ble_eq_true rfl) rfl ?_
  exact k0 
theorem q_fill1_3 {D : zD} {T : zT} (hT : hTab T) (hO : vOK T) {N : Nat} {h : zH} {Q : zR → Prop} (v i : Int) (hv0 : zHv h)
    (k0 : (i < 60) → (0 ≤ i) → vP D T N 1 6 (zset h 3 i.toNat (1, v)) [some (2, 3), some (1, v), none, some (0, (i + 1)), some (0, 60)] [] Q)
    (k1 : (60 ≤ i) → Q (h, none)) :
    vP D T (N + 1) 1 6 h [some (2, 3), some (1, v), none, some (0, i), some (0, 60)] [] Q := by
  refine v_loadS (v := (0, i)) (hT _ zt_J7_fill_d0a16 rfl _ _ rfl) rfl rfl ?_
  refine v_load (v := (0, 60)) (hT _ zt_J7_fill_d0a16 rfl _ _ rfl) rfl rfl ?_
  refine v_ic (hT _ zt_J7_fill_d0a16 rfl _ _ rfl) (fun hc1 => ?_) (fun hc1 => ?_)
  · have hc1 : i < 60 := hc1
    refine v_load (v := (2, 3)) (hT _ zt_J7_fill_d0a16 rfl _ _ rfl) rfl rfl ?_
    refine v_load (v := (0, i)) (hT _ zt_J7_fill_d0a16 rfl _ _ rfl) rfl rfl ?_
    refine v_load (v := (1, v)) (hT _ zt_J7_fill_d0a16 rfl _ _ rfl) rfl rfl ?_
    refine v_ast (r := 3) (hT _ zt_J7_fill_d0a16 rfl _ _ rfl) rfl rfl (fun ha2 hb3 hf4 => ?_)
    refine v_iinc (x := i) (u := 1) (w := (i + 1)) [some (2, 3), some (1, v), none, some (0, (i + 1)), some (0, 60)] (hT _ zt_J7_fill_d0a16 rfl _ _ rfl) rfl rfl (Nat.le_of_ble_eq_true rfl) (vz_inc (by omega) (by omega)) rfl ?_
    refine v_goto (hT _ zt_J7_fill_d0a16 rfl _ _ rfl) ?_
    exact k0 hc1 ha2
  · have hc1 : 60 ≤ i := Int.not_lt.mp hc1
    refine v_ret0 (hT _ zt_J7_fill_d0a16 rfl _ _ rfl) ?_
    exact k1 hc1
theorem q_fill_3 {D : zD} {T : zT} (hT : hTab T) (hO : vOK T) {N : Nat} {h : zH} {Q : zR → Prop} (v : Int) (k : ∀ h' : zH, (∀ a b, h' a b = if a = 3 ∧ b < 60 then (1, v) else h a b) → Q (h', none)) : vP D T N 1 0 h [some (2, 3), some (1, v), none, none, none] [] Q := by
  refine vP_hv (fun hv => q_fill0_3 hT hO v hv ?_)
  have key := vP_loop (D := D) (T := T) (mi := 1) (pc := 6) (Q := Q) (fun h' l => ∃ i : Int, 0 ≤ i ∧ i ≤ 60 ∧ l = [some (2, 3), some (1, v), none, some (0, i), some (0, 60)] ∧ ∀ a b, h' a b = if a = 3 ∧ (b : Int) < i then (1, v) else h a b) ?_
  · refine key N h _ ⟨0, Int.le_refl _, by decide, rfl, fun a b => ?_⟩
    rw [if_neg (fun c => by omega)]
  · rintro N h' l ⟨i, i0, i1, rfl, he⟩ ih
    refine vP_hv (fun hv' => q_fill1_3 hT hO v i hv' ?_ ?_)
    · intro c1 c2
      refine ih _ _ ⟨i + 1, by omega, by omega, rfl, fun a b => ?_⟩
      by_cases e : a = 3 ∧ b = i.toNat
      · rw [show zset h' 3 i.toNat (1, v) a b = (1, v) from if_pos e, if_pos ⟨e.1, by omega⟩]
      · rw [zset_ne e, he]
        by_cases e2 : a = 3 ∧ (b : Int) < i
        · rw [if_pos e2, if_pos ⟨e2.1, by omega⟩]
        · rw [if_neg e2, if_neg (fun c => e2 ⟨c.1, by have := e; omega⟩)]
    · intro c1
      refine k h' (fun a b => ?_)
      rw [he]
      by_cases e : a = 3 ∧ b < 60
      · rw [if_pos e, if_pos ⟨e.1, by omega⟩]
      · rw [if_neg e, if_neg (fun c => e ⟨c.1, by omega⟩)]
theorem q_fill0_5 {D : zD} {T : zT} (hT : hTab T) (hO : vOK T) {N : Nat} {h : zH} {Q : zR → Prop} (v : Int) (hv0 : zHv h)
    (k0 : vP D T N 1 6 h [some (2, 5), some (1, v), none, some (0, 0), some (0, 60)] [] Q) :
    vP D T N 1 0 h [some (2, 5), some (1, v), none, none, none] [] Q := by
  refine v_push (0) (hT _ zt_J7_fill_d0a16 rfl _ _ rfl) rfl ?_
  refine v_store1 [some (2, 5), some (1, v), none, some (0, 0), none] (hT _ zt_J7_fill_d0a16 rfl _ _ rfl) ⟨rfl, Nat.ne_of_beq_eq_false rfl⟩ (Nat.le_of_ble_eq_true rfl) rfl ?_
  refine v_load (v := (2, 5)) (hT _ zt_J7_fill_d0a16 rfl _ _ rfl) rfl rfl ?_
  refine v_alen (r := 5) (n := 60) (hT _ zt_J7_fill_d0a16 rfl _ _ rfl) rfl rfl ?_
  show vP D T N 1 4 h [some (2, 5), some (1, v), none, some (0, 0), none] [(0, 60)] _
  refine v_store1 [some (2, 5), some (1, v), none, some (0, 0), some (0, 60)] (hT _ zt_J7_fill_d0a16 rfl _ _ rfl) ⟨rfl, Nat.ne_of_beq_eq_false rfl⟩ (Nat.le_of_ble_eq_true rfl) rfl ?_
  exact k0 
theorem q_fill1_5 {D : zD} {T : zT} (hT : hTab T) (hO : vOK T) {N : Nat} {h : zH} {Q : zR → Prop} (v i : Int) (hv0 : zHv h)
    (k0 : (i < 60) → (0 ≤ i) → vP D T N 1 6 (zset h 5 i.toNat (1, v)) [some (2, 5), some (1, v), none, some (0, (i + 1)), some (0, 60)] [] Q)
    (k1 : (60 ≤ i) → Q (h, none)) :
    vP D T (N + 1) 1 6 h [some (2, 5), some (1, v), none, some (0, i), some (0, 60)] [] Q := by
  refine v_loadS (v := (0, i)) (hT _ zt_J7_fill_d0a16 rfl _ _ rfl) rfl rfl ?_
  refine v_load (v := (0, 60)) (hT _ zt_J7_fill_d0a16 rfl _ _ rfl) rfl rfl ?_
  refine v_ic (hT _ zt_J7_fill_d0a16 rfl _ _ rfl) (fun hc1 => ?_) (fun hc1 => ?_)
  · have hc1 : i < 60 := hc1
    refine v_load (v := (2, 5)) (hT _ zt_J7_fill_d0a16 rfl _ _ rfl) rfl rfl ?_
    refine v_load (v := (0, i)) (hT _ zt_J7_fill_d0a16 rfl _ _ rfl) rfl rfl ?_
    refine v_load (v := (1, v)) (hT _ zt_J7_fill_d0a16 rfl _ _ rfl) rfl rfl ?_
    refine v_ast (r := 5) (hT _ zt_J7_fill_d0a16 rfl _ _ rfl) rfl rfl (fun ha2 hb3 hf4 => ?_)
    refine v_iinc (x := i) (u := 1) (w := (i + 1)) [some (2, 5), some (1, v), none, some (0, (i + 1)), some (0, 60)] (hT _ zt_J7_fill_d0a16 rfl _ _ rfl) rfl rfl (Nat.le_of_ble_eq_true rfl) (vz_inc (by omega) (by omega)) rfl ?_
    refine v_goto (hT _ zt_J7_fill_d0a16 rfl _ _ rfl) ?_
    exact k0 hc1 ha2
  · have hc1 : 60 ≤ i := Int.not_lt.mp hc1
    refine v_ret0 (hT _ zt_J7_fill_d0a16 rfl _ _ rfl) ?_
    exact k1 hc1
theorem q_fill_5 {D : zD} {T : zT} (hT : hTab T) (hO : vOK T) {N : Nat} {h : zH} {Q : zR → Prop} (v : Int) (k : ∀ h' : zH, (∀ a b, h' a b = if a = 5 ∧ b < 60 then (1, v) else h a b) → Q (h', none)) : vP D T N 1 0 h [some (2, 5), some (1, v), none, none, none] [] Q := by
  refine vP_hv (fun hv => q_fill0_5 hT hO v hv ?_)
  have key := vP_loop (D := D) (T := T) (mi := 1) (pc := 6) (Q := Q) (fun h' l => ∃ i : Int, 0 ≤ i ∧ i ≤ 60 ∧ l = [some (2, 5), some (1, v), none, some (0, i), some (0, 60)] ∧ ∀ a b, h' a b = if a = 5 ∧ (b : Int) < i then (1, v) else h a b) ?_
  · refine key N h _ ⟨0, Int.le_refl _, by decide, rfl, fun a b => ?_⟩
    rw [if_neg (fun c => by omega)]
  · rintro N h' l ⟨i, i0, i1, rfl, he⟩ ih
    refine vP_hv (fun hv' => q_fill1_5 hT hO v i hv' ?_ ?_)
    · intro c1 c2
      refine ih _ _ ⟨i + 1, by omega, by omega, rfl, fun a b => ?_⟩
      by_cases e : a = 5 ∧ b = i.toNat
      · rw [show zset h' 5 i.toNat (1, v) a b = (1, v) from if_pos e, if_pos ⟨e.1, by omega⟩]
      · rw [zset_ne e, he]
        by_cases e2 : a = 5 ∧ (b : Int) < i
        · rw [if_pos e2, if_pos ⟨e2.1, by omega⟩]
        · rw [if_neg e2, if_neg (fun c => e2 ⟨c.1, by have := e; omega⟩)]
    · intro c1
      refine k h' (fun a b => ?_)
      rw [he]
      by_cases e : a = 5 ∧ b < 60
      · rw [if_pos e, if_pos ⟨e.1, by omega⟩]
      · rw [if_neg e, if_neg (fun c => e ⟨c.1, by omega⟩)]
theorem q_fill0_7 {D : zD} {T : zT} (hT : hTab T) (hO : vOK T) {N : Nat} {h : zH} {Q : zR → Prop} (v : Int) (hv0 : zHv h)
    (k0 : vP D T N 1 6 h [some (2, 7), some (1, v), none, some (0, 0), some (0, 60)] [] Q) :
    vP D T N 1 0 h [some (2, 7), some (1, v), none, none, none] [] Q := by
  refine v_push (0) (hT _ zt_J7_fill_d0a16 rfl _ _ rfl) rfl ?_
  refine v_store1 [some (2, 7), some (1, v), none, some (0, 0), none] (hT _ zt_J7_fill_d0a16 rfl _ _ rfl) ⟨rfl, Nat.ne_of_beq_eq_false rfl⟩ (Nat.le_of_ble_eq_true rfl) rfl ?_
  refine v_load (v := (2, 7)) (hT _ zt_J7_fill_d0a16 rfl _ _ rfl) rfl rfl ?_
  refine v_alen (r := 7) (n := 60) (hT _ zt_J7_fill_d0a16 rfl _ _ rfl) rfl rfl ?_
  show vP D T N 1 4 h [some (2, 7), some (1, v), none, some (0, 0), none] [(0, 60)] _
  refine v_store1 [some (2, 7), some (1, v), none, some (0, 0), some (0, 60)] (hT _ zt_J7_fill_d0a16 rfl _ _ rfl) ⟨rfl, Nat.ne_of_beq_eq_false rfl⟩ (Nat.le_of_ble_eq_true rfl) rfl ?_
  exact k0 
theorem q_fill1_7 {D : zD} {T : zT} (hT : hTab T) (hO : vOK T) {N : Nat} {h : zH} {Q : zR → Prop} (v i : Int) (hv0 : zHv h)
    (k0 : (i < 60) → (0 ≤ i) → vP D T N 1 6 (zset h 7 i.toNat (1, v)) [some (2, 7), some (1, v), none, some (0, (i + 1)), some (0, 60)] [] Q)
    (k1 : (60 ≤ i) → Q (h, none)) :
    vP D T (N + 1) 1 6 h [some (2, 7), some (1, v), none, some (0, i), some (0, 60)] [] Q := by
  refine v_loadS (v := (0, i)) (hT _ zt_J7_fill_d0a16 rfl _ _ rfl) rfl rfl ?_
  refine v_load (v := (0, 60)) (hT _ zt_J7_fill_d0a16 rfl _ _ rfl) rfl rfl ?_
  refine v_ic (hT _ zt_J7_fill_d0a16 rfl _ _ rfl) (fun hc1 => ?_) (fun hc1 => ?_)
  · have hc1 : i < 60 := hc1
    refine v_load (v := (2, 7)) (hT _ zt_J7_fill_d0a16 rfl _ _ rfl) rfl rfl ?_
    refine v_load (v := (0, i)) (hT _ zt_J7_fill_d0a16 rfl _ _ rfl) rfl rfl ?_
    refine v_load (v := (1, v)) (hT _ zt_J7_fill_d0a16 rfl _ _ rfl) rfl rfl ?_
    refine v_ast (r := 7) (hT _ zt_J7_fill_d0a16 rfl _ _ rfl) rfl rfl (fun ha2 hb3 hf4 => ?_)
    refine v_iinc (x := i) (u := 1) (w := (i + 1)) [some (2, 7), some (1, v), none, some (0, (i + 1)), some (0, 60)] (hT _ zt_J7_fill_d0a16 rfl _ _ rfl) rfl rfl (Nat.le_of_ble_eq_true rfl) (vz_inc (by omega) (by omega)) rfl ?_
    refine v_goto (hT _ zt_J7_fill_d0a16 rfl _ _ rfl) ?_
    exact k0 hc1 ha2
  · have hc1 : 60 ≤ i := Int.not_lt.mp hc1
    refine v_ret0 (hT _ zt_J7_fill_d0a16 rfl _ _ rfl) ?_
    exact k1 hc1
theorem q_fill_7 {D : zD} {T : zT} (hT : hTab T) (hO : vOK T) {N : Nat} {h : zH} {Q : zR → Prop} (v : Int) (k : ∀ h' : zH, (∀ a b, h' a b = if a = 7 ∧ b < 60 then (1, v) else h a b) → Q (h', none)) : vP D T N 1 0 h [some (2, 7), some (1, v), none, none, none] [] Q := by
  refine vP_hv (fun hv => q_fill0_7 hT hO v hv ?_)
  have key := vP_loop (D := D) (T := T) (mi := 1) (pc := 6) (Q := Q) (fun h' l => ∃ i : Int, 0 ≤ i ∧ i ≤ 60 ∧ l = [some (2, 7), some (1, v), none, some (0, i), some (0, 60)] ∧ ∀ a b, h' a b = if a = 7 ∧ (b : Int) < i then (1, v) else h a b) ?_
  · refine key N h _ ⟨0, Int.le_refl _, by decide, rfl, fun a b => ?_⟩
    rw [if_neg (fun c => by omega)]
  · rintro N h' l ⟨i, i0, i1, rfl, he⟩ ih
    refine vP_hv (fun hv' => q_fill1_7 hT hO v i hv' ?_ ?_)
    · intro c1 c2
      refine ih _ _ ⟨i + 1, by omega, by omega, rfl, fun a b => ?_⟩
      by_cases e : a = 7 ∧ b = i.toNat
      · rw [show zset h' 7 i.toNat (1, v) a b = (1, v) from if_pos e, if_pos ⟨e.1, by omega⟩]
      · rw [zset_ne e, he]
        by_cases e2 : a = 7 ∧ (b : Int) < i
        · rw [if_pos e2, if_pos ⟨e2.1, by omega⟩]
        · rw [if_neg e2, if_neg (fun c => e2 ⟨c.1, by have := e; omega⟩)]
    · intro c1
      refine k h' (fun a b => ?_)
      rw [he]
      by_cases e : a = 7 ∧ b < 60
      · rw [if_pos e, if_pos ⟨e.1, by omega⟩]
      · rw [if_neg e, if_neg (fun c => e ⟨c.1, by omega⟩)]
theorem q_fill0_9 {D : zD} {T : zT} (hT : hTab T) (hO : vOK T) {N : Nat} {h : zH} {Q : zR → Prop} (v : Int) (hv0 : zHv h)
    (k0 : vP D T N 1 6 h [some (2, 9), some (1, v), none, some (0, 0), some (0, 60)] [] Q) :
    vP D T N 1 0 h [some (2, 9), some (1, v), none, none, none] [] Q := by
  refine v_push (0) (hT _ zt_J7_fill_d0a16 rfl _ _ rfl) rfl ?_
  refine v_store1 [some (2, 9), some (1, v), none, some (0, 0), none] (hT _ zt_J7_fill_d0a16 rfl _ _ rfl) ⟨rfl, Nat.ne_of_beq_eq_false rfl⟩ (Nat.le_of_ble_eq_true rfl) rfl ?_
  refine v_load (v := (2, 9)) (hT _ zt_J7_fill_d0a16 rfl _ _ rfl) rfl rfl ?_
  refine v_alen (r := 9) (n := 60) (hT _ zt_J7_fill_d0a16 rfl _ _ rfl) rfl rfl ?_
  show vP D T N 1 4 h [some (2, 9), some (1, v), none, some (0, 0), none] [(0, 60)] _
  refine v_store1 [some (2, 9), some (1, v), none, some (0, 0), some (0, 60)] (hT _ zt_J7_fill_d0a16 rfl _ _ rfl) ⟨rfl, Nat.ne_of_beq_eq_false rfl⟩ (Nat.le_of_ble_eq_true rfl) rfl ?_
  exact k0 
theorem q_fill1_9 {D : zD} {T : zT} (hT : hTab T) (hO : vOK T) {N : Nat} {h : zH} {Q : zR → Prop} (v i : Int) (hv0 : zHv h)
    (k0 : (i < 60) → (0 ≤ i) → vP D T N 1 6 (zset h 9 i.toNat (1, v)) [some (2, 9), some (1, v), none, some (0, (i + 1)), some (0, 60)] [] Q)
    (k1 : (60 ≤ i) → Q (h, none)) :
    vP D T (N + 1) 1 6 h [some (2, 9), some (1, v), none, some (0, i), some (0, 60)] [] Q := by
  refine v_loadS (v := (0, i)) (hT _ zt_J7_fill_d0a16 rfl _ _ rfl) rfl rfl ?_
  refine v_load (v := (0, 60)) (hT _ zt_J7_fill_d0a16 rfl _ _ rfl) rfl rfl ?_
  refine v_ic (hT _ zt_J7_fill_d0a16 rfl _ _ rfl) (fun hc1 => ?_) (fun hc1 => ?_)
  · have hc1 : i < 60 := hc1
    refine v_load (v := (2, 9)) (hT _ zt_J7_fill_d0a16 rfl _ _ rfl) rfl rfl ?_
    refine v_load (v := (0, i)) (hT _ zt_J7_fill_d0a16 rfl _ _ rfl) rfl rfl ?_
    refine v_load (v := (1, v)) (hT _ zt_J7_fill_d0a16 rfl _ _ rfl) rfl rfl ?_
    refine v_ast (r := 9) (hT _ zt_J7_fill_d0a16 rfl _ _ rfl) rfl rfl (fun ha2 hb3 hf4 => ?_)
    refine v_iinc (x := i) (u := 1) (w := (i + 1)) [some (2, 9), some (1, v), none, some (0, (i + 1)), some (0, 60)] (hT _ zt_J7_fill_d0a16 rfl _ _ rfl) rfl rfl (Nat.le_of_ble_eq_true rfl) (vz_inc (by omega) (by omega)) rfl ?_
    refine v_goto (hT _ zt_J7_fill_d0a16 rfl _ _ rfl) ?_
    exact k0 hc1 ha2
  · have hc1 : 60 ≤ i := Int.not_lt.mp hc1
    refine v_ret0 (hT _ zt_J7_fill_d0a16 rfl _ _ rfl) ?_
    exact k1 hc1
theorem q_fill_9 {D : zD} {T : zT} (hT : hTab T) (hO : vOK T) {N : Nat} {h : zH} {Q : zR → Prop} (v : Int) (k : ∀ h' : zH, (∀ a b, h' a b = if a = 9 ∧ b < 60 then (1, v) else h a b) → Q (h', none)) : vP D T N 1 0 h [some (2, 9), some (1, v), none, none, none] [] Q := by
  refine vP_hv (fun hv => q_fill0_9 hT hO v hv ?_)
  have key := vP_loop (D := D) (T := T) (mi := 1) (pc := 6) (Q := Q) (fun h' l => ∃ i : Int, 0 ≤ i ∧ i ≤ 60 ∧ l = [some (2, 9), some (1, v), none, some (0, i), some (0, 60)] ∧ ∀ a b, h' a b = if a = 9 ∧ (b : Int) < i then (1, v) else h a b) ?_
  · refine key N h _ ⟨0, Int.le_refl _, by decide, rfl, fun a b => ?_⟩
    rw [if_neg (fun c => by omega)]
  · rintro N h' l ⟨i, i0, i1, rfl, he⟩ ih
    refine vP_hv (fun hv' => q_fill1_9 hT hO v i hv' ?_ ?_)
    · intro c1 c2
      refine ih _ _ ⟨i + 1, by omega, by omega, rfl, fun a b => ?_⟩
      by_cases e : a = 9 ∧ b = i.toNat
      · rw [show zset h' 9 i.toNat (1, v) a b = (1, v) from if_pos e, if_pos ⟨e.1, by omega⟩]
      · rw [zset_ne e, he]
        by_cases e2 : a = 9 ∧ (b : Int) < i
        · rw [if_pos e2, if_pos ⟨e2.1, by omega⟩]
        · rw [if_neg e2, if_neg (fun c => e2 ⟨c.1, by have := e; omega⟩)]
    · intro c1
      refine k h' (fun a b => ?_)
      rw [he]
      by_cases e : a = 9 ∧ b < 60
      · rw [if_pos e, if_pos ⟨e.1, by omega⟩]
      · rw [if_neg e, if_neg (fun c => e ⟨c.1, by omega⟩)]
theorem y_X11_tray {D : zD} {T : zT} (hT : hTab T) (hO : vOK T) {N : Nat} {h : zH} {Q : zR → Prop} (a b c : Int) (hv0 : zHv h)
    (k0 : (a < 0) → Q (zset h 0 0 (0, 1), some (0, 0)))
    (k1 : (0 ≤ a) → (a < 4) → (b < 0) → Q (zset h 0 0 (0, 1), some (0, 0)))
    (k2 : (0 ≤ a) → (a < 4) → (0 ≤ b) → (3 < b) → Q (zset h 0 0 (0, 1), some (0, 0)))
    (k3 : (0 ≤ a) → (a < 4) → (0 ≤ b) → (b ≤ 3) → (60 < c) → Q (zset h 0 0 (0, 5), some (0, 0)))
    (k4 : (0 ≤ a) → (a < 4) → (0 ≤ b) → (b ≤ 3) → (c ≤ 60) → (c < 0) → Q (zset h 0 0 (0, 6), some (0, 0)))
    (k5 : (0 ≤ a) → (a < 4) → (0 ≤ b) → (b ≤ 3) → (c ≤ 60) → (0 ≤ c) → (a = 0) → vP D T N 1 0 (zset (zset h 2 1 (0, b)) 2 2 (0, c)) [some (2, 3), some (1, 0), none, none, none] [] (fun r1 => vP D T N 127 18 r1.1 [some (2, 2), some (0, b), some (0, c)] (zpush r1.2 []) (fun r2 => vP D T N 188 54 r2.1 [some (2, 0), some (0, a), some (0, b), some (0, c)] (zpush r2.2 []) Q)))
    (k6 : (0 ≤ a) → (a < 4) → (0 ≤ b) → (b ≤ 3) → (c ≤ 60) → (0 ≤ c) → (a = 1) → vP D T N 1 0 (zset (zset h 4 1 (0, b)) 4 2 (0, c)) [some (2, 5), some (1, 0), none, none, none] [] (fun r1 => vP D T N 127 18 r1.1 [some (2, 4), some (0, b), some (0, c)] (zpush r1.2 []) (fun r2 => vP D T N 188 54 r2.1 [some (2, 0), some (0, a), some (0, b), some (0, c)] (zpush r2.2 []) Q)))
    (k7 : (0 ≤ a) → (a < 4) → (0 ≤ b) → (b ≤ 3) → (c ≤ 60) → (0 ≤ c) → (a = 2) → vP D T N 1 0 (zset (zset h 6 1 (0, b)) 6 2 (0, c)) [some (2, 7), some (1, 0), none, none, none] [] (fun r1 => vP D T N 127 18 r1.1 [some (2, 6), some (0, b), some (0, c)] (zpush r1.2 []) (fun r2 => vP D T N 188 54 r2.1 [some (2, 0), some (0, a), some (0, b), some (0, c)] (zpush r2.2 []) Q)))
    (k8 : (0 ≤ a) → (a < 4) → (0 ≤ b) → (b ≤ 3) → (c ≤ 60) → (0 ≤ c) → (a = 3) → vP D T N 1 0 (zset (zset h 8 1 (0, b)) 8 2 (0, c)) [some (2, 9), some (1, 0), none, none, none] [] (fun r1 => vP D T N 127 18 r1.1 [some (2, 8), some (0, b), some (0, c)] (zpush r1.2 []) (fun r2 => vP D T N 188 54 r2.1 [some (2, 0), some (0, a), some (0, b), some (0, c)] (zpush r2.2 []) Q)))
    (k9 : (0 ≤ a) → (4 ≤ a) → Q (zset h 0 0 (0, 1), some (0, 0))) :
    vP D T N 188 0 h [some (2, 0), some (0, a), some (0, b), some (0, c)] [] Q := by
  refine v_load (v := (0, a)) (hT _ zt_X11_tray rfl _ _ rfl) rfl rfl ?_
  refine v_call (w := 1) [some (0, a)] hO (hT _ zt_X11_tray rfl _ _ rfl) rfl rfl ?_
  refine v_load (v := (0, a)) (hT _ zt_X11_isTray rfl _ _ rfl) rfl rfl ?_
  refine v_if (hT _ zt_X11_isTray rfl _ _ rfl) (fun hc1 => ?_) (fun hc1 => ?_)
  · have hc1 : a < 0 := hc1
    refine v_push (0) (hT _ zt_X11_isTray rfl _ _ rfl) rfl ?_
    refine v_ret (hT _ zt_X11_isTray rfl _ _ rfl) (Or.inl rfl) ?_
    show vP D T N 188 4 h [some (2, 0), some (0, a), some (0, b), some (0, c)] [(0, 0)] _
    refine v_if (hT _ zt_X11_tray rfl _ _ rfl) (fun _ => ?_) (fun hc2 => absurd (show (0 : Int) = 0 from (by decide)) hc2)
    refine v_load (v := (2, 0)) (hT _ zt_X11_tray rfl _ _ rfl) rfl rfl ?_
    refine v_push (1) (hT _ zt_X11_tray rfl _ _ rfl) rfl ?_
    refine v_call (w := 2) [some (2, 0), some (0, 1)] hO (hT _ zt_X11_tray rfl _ _ rfl) rfl rfl ?_
    refine v_load (v := (2, 0)) (hT _ zt_X11_refuse rfl _ _ rfl) rfl rfl ?_
    refine v_load (v := (0, 1)) (hT _ zt_X11_refuse rfl _ _ rfl) rfl rfl ?_
    refine v_putf (r := 0) hO (hT _ zt_X11_refuse rfl _ _ rfl) rfl (fun hf3 => ?_)
    refine v_push (0) (hT _ zt_X11_refuse rfl _ _ rfl) rfl ?_
    refine v_ret (hT _ zt_X11_refuse rfl _ _ rfl) (Or.inl rfl) ?_
    show vP D T N 188 19 (zset h 0 0 (0, 1)) [some (2, 0), some (0, a), some (0, b), some (0, c)] [(0, 0)] _
    refine v_ret (hT _ zt_X11_tray rfl _ _ rfl) (Or.inl rfl) ?_
    exact k0 hc1
  · have hc1 : 0 ≤ a := Int.not_lt.mp hc1
    refine v_load (v := (0, a)) (hT _ zt_X11_isTray rfl _ _ rfl) rfl rfl ?_
    refine v_push (4) (hT _ zt_X11_isTray rfl _ _ rfl) rfl ?_
    refine v_ic (hT _ zt_X11_isTray rfl _ _ rfl) (fun hc4 => ?_) (fun hc4 => ?_)
    · have hc4 : a < 4 := hc4
      refine v_push (1) (hT _ zt_X11_isTray rfl _ _ rfl) rfl ?_
      refine v_goto (hT _ zt_X11_isTray rfl _ _ rfl) ?_
      refine v_ret (hT _ zt_X11_isTray rfl _ _ rfl) (Or.inl rfl) ?_
      show vP D T N 188 4 h [some (2, 0), some (0, a), some (0, b), some (0, c)] [(0, 1)] _
      refine v_if (hT _ zt_X11_tray rfl _ _ rfl) (fun hc5 => absurd (show (1 : Int) = 0 from hc5) (by decide)) (fun _ => ?_)
      refine v_load (v := (0, b)) (hT _ zt_X11_tray rfl _ _ rfl) rfl rfl ?_
      refine v_call (w := 1) [some (0, b)] hO (hT _ zt_X11_tray rfl _ _ rfl) rfl rfl ?_
      refine v_load (v := (0, b)) (hT _ zt_X9_isSort rfl _ _ rfl) rfl rfl ?_
      refine v_if (hT _ zt_X9_isSort rfl _ _ rfl) (fun hc6 => ?_) (fun hc6 => ?_)
      · have hc6 : b < 0 := hc6
        refine v_push (0) (hT _ zt_X9_isSort rfl _ _ rfl) rfl ?_
        refine v_ret (hT _ zt_X9_isSort rfl _ _ rfl) (Or.inl rfl) ?_
        show vP D T N 188 11 h [some (2, 0), some (0, a), some (0, b), some (0, c)] [(0, 0)] _
        refine v_if (hT _ zt_X11_tray rfl _ _ rfl) (fun _ => ?_) (fun hc7 => absurd (show (0 : Int) = 0 from (by decide)) hc7)
        refine v_load (v := (2, 0)) (hT _ zt_X11_tray rfl _ _ rfl) rfl rfl ?_
        refine v_push (1) (hT _ zt_X11_tray rfl _ _ rfl) rfl ?_
        refine v_call (w := 2) [some (2, 0), some (0, 1)] hO (hT _ zt_X11_tray rfl _ _ rfl) rfl rfl ?_
        refine v_load (v := (2, 0)) (hT _ zt_X11_refuse rfl _ _ rfl) rfl rfl ?_
        refine v_load (v := (0, 1)) (hT _ zt_X11_refuse rfl _ _ rfl) rfl rfl ?_
        refine v_putf (r := 0) hO (hT _ zt_X11_refuse rfl _ _ rfl) rfl (fun hf8 => ?_)
        refine v_push (0) (hT _ zt_X11_refuse rfl _ _ rfl) rfl ?_
        refine v_ret (hT _ zt_X11_refuse rfl _ _ rfl) (Or.inl rfl) ?_
        show vP D T N 188 19 (zset h 0 0 (0, 1)) [some (2, 0), some (0, a), some (0, b), some (0, c)] [(0, 0)] _
        refine v_ret (hT _ zt_X11_tray rfl _ _ rfl) (Or.inl rfl) ?_
        exact k1 hc1 hc4 hc6
      · have hc6 : 0 ≤ b := Int.not_lt.mp hc6
        refine v_load (v := (0, b)) (hT _ zt_X9_isSort rfl _ _ rfl) rfl rfl ?_
        refine v_push (3) (hT _ zt_X9_isSort rfl _ _ rfl) rfl ?_
        refine v_ic (hT _ zt_X9_isSort rfl _ _ rfl) (fun hc9 => ?_) (fun hc9 => ?_)
        · have hc9 : 3 < b := hc9
          refine v_push (0) (hT _ zt_X9_isSort rfl _ _ rfl) rfl ?_
          refine v_ret (hT _ zt_X9_isSort rfl _ _ rfl) (Or.inl rfl) ?_
          show vP D T N 188 11 h [some (2, 0), some (0, a), some (0, b), some (0, c)] [(0, 0)] _
          refine v_if (hT _ zt_X11_tray rfl _ _ rfl) (fun _ => ?_) (fun hc10 => absurd (show (0 : Int) = 0 from (by decide)) hc10)
          refine v_load (v := (2, 0)) (hT _ zt_X11_tray rfl _ _ rfl) rfl rfl ?_
          refine v_push (1) (hT _ zt_X11_tray rfl _ _ rfl) rfl ?_
          refine v_call (w := 2) [some (2, 0), some (0, 1)] hO (hT _ zt_X11_tray rfl _ _ rfl) rfl rfl ?_
          refine v_load (v := (2, 0)) (hT _ zt_X11_refuse rfl _ _ rfl) rfl rfl ?_
          refine v_load (v := (0, 1)) (hT _ zt_X11_refuse rfl _ _ rfl) rfl rfl ?_
          refine v_putf (r := 0) hO (hT _ zt_X11_refuse rfl _ _ rfl) rfl (fun hf11 => ?_)
          refine v_push (0) (hT _ zt_X11_refuse rfl _ _ rfl) rfl ?_
          refine v_ret (hT _ zt_X11_refuse rfl _ _ rfl) (Or.inl rfl) ?_
          show vP D T N 188 19 (zset h 0 0 (0, 1)) [some (2, 0), some (0, a), some (0, b), some (0, c)] [(0, 0)] _
          refine v_ret (hT _ zt_X11_tray rfl _ _ rfl) (Or.inl rfl) ?_
          exact k2 hc1 hc4 hc6 hc9
        · have hc9 : b ≤ 3 := Int.not_lt.mp hc9
          refine v_push (1) (hT _ zt_X9_isSort rfl _ _ rfl) rfl ?_
          refine v_goto (hT _ zt_X9_isSort rfl _ _ rfl) ?_
          refine v_ret (hT _ zt_X9_isSort rfl _ _ rfl) (Or.inl rfl) ?_
          show vP D T N 188 11 h [some (2, 0), some (0, a), some (0, b), some (0, c)] [(0, 1)] _
          refine v_if (hT _ zt_X11_tray rfl _ _ rfl) (fun hc12 => absurd (show (1 : Int) = 0 from hc12) (by decide)) (fun _ => ?_)
          refine v_load (v := (0, c)) (hT _ zt_X11_tray rfl _ _ rfl) rfl rfl ?_
          refine v_push (60) (hT _ zt_X11_tray rfl _ _ rfl) rfl ?_
          refine v_ic (hT _ zt_X11_tray rfl _ _ rfl) (fun hc13 => ?_) (fun hc13 => ?_)
          · have hc13 : 60 < c := hc13
            refine v_load (v := (2, 0)) (hT _ zt_X11_tray rfl _ _ rfl) rfl rfl ?_
            refine v_push (5) (hT _ zt_X11_tray rfl _ _ rfl) rfl ?_
            refine v_call (w := 2) [some (2, 0), some (0, 5)] hO (hT _ zt_X11_tray rfl _ _ rfl) rfl rfl ?_
            refine v_load (v := (2, 0)) (hT _ zt_X11_refuse rfl _ _ rfl) rfl rfl ?_
            refine v_load (v := (0, 5)) (hT _ zt_X11_refuse rfl _ _ rfl) rfl rfl ?_
            refine v_putf (r := 0) hO (hT _ zt_X11_refuse rfl _ _ rfl) rfl (fun hf14 => ?_)
            refine v_push (0) (hT _ zt_X11_refuse rfl _ _ rfl) rfl ?_
            refine v_ret (hT _ zt_X11_refuse rfl _ _ rfl) (Or.inl rfl) ?_
            show vP D T N 188 31 (zset h 0 0 (0, 5)) [some (2, 0), some (0, a), some (0, b), some (0, c)] [(0, 0)] _
            refine v_ret (hT _ zt_X11_tray rfl _ _ rfl) (Or.inl rfl) ?_
            exact k3 hc1 hc4 hc6 hc9 hc13
          · have hc13 : c ≤ 60 := Int.not_lt.mp hc13
            refine v_load (v := (0, c)) (hT _ zt_X11_tray rfl _ _ rfl) rfl rfl ?_
            refine v_if (hT _ zt_X11_tray rfl _ _ rfl) (fun hc15 => ?_) (fun hc15 => ?_)
            · have hc15 : c < 0 := hc15
              refine v_load (v := (2, 0)) (hT _ zt_X11_tray rfl _ _ rfl) rfl rfl ?_
              refine v_push (6) (hT _ zt_X11_tray rfl _ _ rfl) rfl ?_
              refine v_call (w := 2) [some (2, 0), some (0, 6)] hO (hT _ zt_X11_tray rfl _ _ rfl) rfl rfl ?_
              refine v_load (v := (2, 0)) (hT _ zt_X11_refuse rfl _ _ rfl) rfl rfl ?_
              refine v_load (v := (0, 6)) (hT _ zt_X11_refuse rfl _ _ rfl) rfl rfl ?_
              refine v_putf (r := 0) hO (hT _ zt_X11_refuse rfl _ _ rfl) rfl (fun hf16 => ?_)
              refine v_push (0) (hT _ zt_X11_refuse rfl _ _ rfl) rfl ?_
              refine v_ret (hT _ zt_X11_refuse rfl _ _ rfl) (Or.inl rfl) ?_
              show vP D T N 188 42 (zset h 0 0 (0, 6)) [some (2, 0), some (0, a), some (0, b), some (0, c)] [(0, 0)] _
              refine v_ret (hT _ zt_X11_tray rfl _ _ rfl) (Or.inl rfl) ?_
              exact k4 hc1 hc4 hc6 hc9 hc13 hc15
            · have hc15 : 0 ≤ c := Int.not_lt.mp hc15
              refine v_load (v := (2, 0)) (hT _ zt_X11_tray rfl _ _ rfl) rfl rfl ?_
              refine v_getR (c := 1) (r := 0) (hT _ zt_X11_tray rfl _ _ rfl) rfl rfl rfl ?_
              refine v_load (v := (0, a)) (hT _ zt_X11_tray rfl _ _ rfl) rfl rfl ?_
              refine v_aldV (v := h 1 a.toNat) (r := 1) (hT _ zt_X11_tray rfl _ _ rfl) rfl rfl (fun _ _ _ => rfl) (fun ha17 hb18 => ?_)
              have hb18 : a < 4 := hb18
              rcases (show a = 0 ∨ a = 1 ∨ a = 2 ∨ a = 3 from by omega) with he18 | he18 | he18 | he18
              · rw [show h 1 a.toNat = (2, 2) from by rw [he18]; exact hv0.ref rfl]
                refine v_load (v := (0, b)) (hT _ zt_X11_tray rfl _ _ rfl) rfl rfl ?_
                refine v_load (v := (0, c)) (hT _ zt_X11_tray rfl _ _ rfl) rfl rfl ?_
                refine v_call (w := 3) [some (2, 2), some (0, b), some (0, c)] hO (hT _ zt_X11_tray rfl _ _ rfl) rfl rfl ?_
                refine v_load (v := (2, 2)) (hT _ zt_X9_becomeZeros rfl _ _ rfl) rfl rfl ?_
                refine v_load (v := (0, b)) (hT _ zt_X9_becomeZeros rfl _ _ rfl) rfl rfl ?_
                refine v_putf (r := 2) hO (hT _ zt_X9_becomeZeros rfl _ _ rfl) rfl (fun hf20 => ?_)
                refine v_load (v := (2, 2)) (hT _ zt_X9_becomeZeros rfl _ _ rfl) rfl rfl ?_
                refine v_load (v := (0, c)) (hT _ zt_X9_becomeZeros rfl _ _ rfl) rfl rfl ?_
                refine v_putf (r := 2) hO (hT _ zt_X9_becomeZeros rfl _ _ rfl) rfl (fun hf21 => ?_)
                refine v_load (v := (2, 2)) (hT _ zt_X9_becomeZeros rfl _ _ rfl) rfl rfl ?_
                refine v_getR (c := 3) (r := 2) (hT _ zt_X9_becomeZeros rfl _ _ rfl) rfl rfl rfl ?_
                refine v_push (0) (hT _ zt_X9_becomeZeros rfl _ _ rfl) rfl ?_
                refine v_call (w := 5) [some (2, 3), some (1, 0), none, none, none] hO (hT _ zt_X9_becomeZeros rfl _ _ rfl) rfl rfl ?_
                exact k5 hc1 hc4 hc6 hc9 hc13 hc15 he18
              · rw [show h 1 a.toNat = (2, 4) from by rw [he18]; exact hv0.ref rfl]
                refine v_load (v := (0, b)) (hT _ zt_X11_tray rfl _ _ rfl) rfl rfl ?_
                refine v_load (v := (0, c)) (hT _ zt_X11_tray rfl _ _ rfl) rfl rfl ?_
                refine v_call (w := 3) [some (2, 4), some (0, b), some (0, c)] hO (hT _ zt_X11_tray rfl _ _ rfl) rfl rfl ?_
                refine v_load (v := (2, 4)) (hT _ zt_X9_becomeZeros rfl _ _ rfl) rfl rfl ?_
                refine v_load (v := (0, b)) (hT _ zt_X9_becomeZeros rfl _ _ rfl) rfl rfl ?_
                refine v_putf (r := 4) hO (hT _ zt_X9_becomeZeros rfl _ _ rfl) rfl (fun hf22 => ?_)
                refine v_load (v := (2, 4)) (hT _ zt_X9_becomeZeros rfl _ _ rfl) rfl rfl ?_
                refine v_load (v := (0, c)) (hT _ zt_X9_becomeZeros rfl _ _ rfl) rfl rfl ?_
                refine v_putf (r := 4) hO (hT _ zt_X9_becomeZeros rfl _ _ rfl) rfl (fun hf23 => ?_)
                refine v_load (v := (2, 4)) (hT _ zt_X9_becomeZeros rfl _ _ rfl) rfl rfl ?_
                refine v_getR (c := 5) (r := 4) (hT _ zt_X9_becomeZeros rfl _ _ rfl) rfl rfl rfl ?_
                refine v_push (0) (hT _ zt_X9_becomeZeros rfl _ _ rfl) rfl ?_
                refine v_call (w := 5) [some (2, 5), some (1, 0), none, none, none] hO (hT _ zt_X9_becomeZeros rfl _ _ rfl) rfl rfl ?_
                exact k6 hc1 hc4 hc6 hc9 hc13 hc15 he18
              · rw [show h 1 a.toNat = (2, 6) from by rw [he18]; exact hv0.ref rfl]
                refine v_load (v := (0, b)) (hT _ zt_X11_tray rfl _ _ rfl) rfl rfl ?_
                refine v_load (v := (0, c)) (hT _ zt_X11_tray rfl _ _ rfl) rfl rfl ?_
                refine v_call (w := 3) [some (2, 6), some (0, b), some (0, c)] hO (hT _ zt_X11_tray rfl _ _ rfl) rfl rfl ?_
                refine v_load (v := (2, 6)) (hT _ zt_X9_becomeZeros rfl _ _ rfl) rfl rfl ?_
                refine v_load (v := (0, b)) (hT _ zt_X9_becomeZeros rfl _ _ rfl) rfl rfl ?_
                refine v_putf (r := 6) hO (hT _ zt_X9_becomeZeros rfl _ _ rfl) rfl (fun hf24 => ?_)
                refine v_load (v := (2, 6)) (hT _ zt_X9_becomeZeros rfl _ _ rfl) rfl rfl ?_
                refine v_load (v := (0, c)) (hT _ zt_X9_becomeZeros rfl _ _ rfl) rfl rfl ?_
                refine v_putf (r := 6) hO (hT _ zt_X9_becomeZeros rfl _ _ rfl) rfl (fun hf25 => ?_)
                refine v_load (v := (2, 6)) (hT _ zt_X9_becomeZeros rfl _ _ rfl) rfl rfl ?_
                refine v_getR (c := 7) (r := 6) (hT _ zt_X9_becomeZeros rfl _ _ rfl) rfl rfl rfl ?_
                refine v_push (0) (hT _ zt_X9_becomeZeros rfl _ _ rfl) rfl ?_
                refine v_call (w := 5) [some (2, 7), some (1, 0), none, none, none] hO (hT _ zt_X9_becomeZeros rfl _ _ rfl) rfl rfl ?_
                exact k7 hc1 hc4 hc6 hc9 hc13 hc15 he18
              · rw [show h 1 a.toNat = (2, 8) from by rw [he18]; exact hv0.ref rfl]
                refine v_load (v := (0, b)) (hT _ zt_X11_tray rfl _ _ rfl) rfl rfl ?_
                refine v_load (v := (0, c)) (hT _ zt_X11_tray rfl _ _ rfl) rfl rfl ?_
                refine v_call (w := 3) [some (2, 8), some (0, b), some (0, c)] hO (hT _ zt_X11_tray rfl _ _ rfl) rfl rfl ?_
                refine v_load (v := (2, 8)) (hT _ zt_X9_becomeZeros rfl _ _ rfl) rfl rfl ?_
                refine v_load (v := (0, b)) (hT _ zt_X9_becomeZeros rfl _ _ rfl) rfl rfl ?_
                refine v_putf (r := 8) hO (hT _ zt_X9_becomeZeros rfl _ _ rfl) rfl (fun hf26 => ?_)
                refine v_load (v := (2, 8)) (hT _ zt_X9_becomeZeros rfl _ _ rfl) rfl rfl ?_
                refine v_load (v := (0, c)) (hT _ zt_X9_becomeZeros rfl _ _ rfl) rfl rfl ?_
                refine v_putf (r := 8) hO (hT _ zt_X9_becomeZeros rfl _ _ rfl) rfl (fun hf27 => ?_)
                refine v_load (v := (2, 8)) (hT _ zt_X9_becomeZeros rfl _ _ rfl) rfl rfl ?_
                refine v_getR (c := 9) (r := 8) (hT _ zt_X9_becomeZeros rfl _ _ rfl) rfl rfl rfl ?_
                refine v_push (0) (hT _ zt_X9_becomeZeros rfl _ _ rfl) rfl ?_
                refine v_call (w := 5) [some (2, 9), some (1, 0), none, none, none] hO (hT _ zt_X9_becomeZeros rfl _ _ rfl) rfl rfl ?_
                exact k8 hc1 hc4 hc6 hc9 hc13 hc15 he18
    · have hc4 : 4 ≤ a := Int.not_lt.mp hc4
      refine v_push (0) (hT _ zt_X11_isTray rfl _ _ rfl) rfl ?_
      refine v_ret (hT _ zt_X11_isTray rfl _ _ rfl) (Or.inl rfl) ?_
      show vP D T N 188 4 h [some (2, 0), some (0, a), some (0, b), some (0, c)] [(0, 0)] _
      refine v_if (hT _ zt_X11_tray rfl _ _ rfl) (fun _ => ?_) (fun hc28 => absurd (show (0 : Int) = 0 from (by decide)) hc28)
      refine v_load (v := (2, 0)) (hT _ zt_X11_tray rfl _ _ rfl) rfl rfl ?_
      refine v_push (1) (hT _ zt_X11_tray rfl _ _ rfl) rfl ?_
      refine v_call (w := 2) [some (2, 0), some (0, 1)] hO (hT _ zt_X11_tray rfl _ _ rfl) rfl rfl ?_
      refine v_load (v := (2, 0)) (hT _ zt_X11_refuse rfl _ _ rfl) rfl rfl ?_
      refine v_load (v := (0, 1)) (hT _ zt_X11_refuse rfl _ _ rfl) rfl rfl ?_
      refine v_putf (r := 0) hO (hT _ zt_X11_refuse rfl _ _ rfl) rfl (fun hf29 => ?_)
      refine v_push (0) (hT _ zt_X11_refuse rfl _ _ rfl) rfl ?_
      refine v_ret (hT _ zt_X11_refuse rfl _ _ rfl) (Or.inl rfl) ?_
      show vP D T N 188 19 (zset h 0 0 (0, 1)) [some (2, 0), some (0, a), some (0, b), some (0, c)] [(0, 0)] _
      refine v_ret (hT _ zt_X11_tray rfl _ _ rfl) (Or.inl rfl) ?_
      exact k9 hc1 hc4
theorem y_X11_trayE {D : zD} {T : zT} (hT : hTab T) (hO : vOK T) {N : Nat} {h : zH} {Q : zR → Prop} (a b c : Int)
    (k0 : Q (zset h 0 0 (0, 0), some (0, 1))) :
    vP D T N 188 54 h [some (2, 0), some (0, a), some (0, b), some (0, c)] [] Q := by
  refine v_load (v := (2, 0)) (hT _ zt_X11_tray rfl _ _ rfl) rfl rfl ?_
  refine v_call (w := 1) [some (2, 0)] hO (hT _ zt_X11_tray rfl _ _ rfl) rfl rfl ?_
  refine v_load (v := (2, 0)) (hT _ zt_X11_accept rfl _ _ rfl) rfl rfl ?_
  refine v_push (0) (hT _ zt_X11_accept rfl _ _ rfl) rfl ?_
  refine v_putf (r := 0) hO (hT _ zt_X11_accept rfl _ _ rfl) rfl (fun hf1 => ?_)
  refine v_push (1) (hT _ zt_X11_accept rfl _ _ rfl) rfl ?_
  refine v_ret (hT _ zt_X11_accept rfl _ _ rfl) (Or.inl rfl) ?_
  show vP D T N 188 58 (zset h 0 0 (0, 0)) [some (2, 0), some (0, a), some (0, b), some (0, c)] [(0, 1)] _
  refine v_ret (hT _ zt_X11_tray rfl _ _ rfl) (Or.inl rfl) ?_
  exact k0 
theorem y_X12_tray {D : zD} {T : zT} (hT : hTab T) (hO : vOK T) {N : Nat} {h : zH} {Q : zR → Prop} (a b c : Int) (hv0 : zHv h)
    (k0 : (a < 0) → Q (zset (zset (zset h 121 1 (0, 0)) 121 0 (0, 0)) 121 0 (0, 1), some (0, 0)))
    (k1 : (0 ≤ a) → (a < 4) → (b < 0) → Q (zset (zset (zset h 121 1 (0, 0)) 121 0 (0, 0)) 121 0 (0, 1), some (0, 0)))
    (k2 : (0 ≤ a) → (a < 4) → (0 ≤ b) → (3 < b) → Q (zset (zset (zset h 121 1 (0, 0)) 121 0 (0, 0)) 121 0 (0, 1), some (0, 0)))
    (k3 : (0 ≤ a) → (a < 4) → (0 ≤ b) → (b ≤ 3) → (60 < c) → Q (zset (zset (zset h 121 1 (0, 0)) 121 0 (0, 0)) 121 0 (0, 5), some (0, 0)))
    (k4 : (0 ≤ a) → (a < 4) → (0 ≤ b) → (b ≤ 3) → (c ≤ 60) → (c < 0) → Q (zset (zset (zset h 121 1 (0, 0)) 121 0 (0, 0)) 121 0 (0, 6), some (0, 0)))
    (k5 : (0 ≤ a) → (a < 4) → (0 ≤ b) → (b ≤ 3) → (c ≤ 60) → (0 ≤ c) → vP D T N 329 74 (zset (zset (zset (zset h 121 1 (0, 0)) 121 0 (0, 0)) 122 a.toNat (0, b)) 123 a.toNat (0, c)) [some (2, 121), some (0, a), some (0, b), some (0, c), some (0, 0)] [] Q)
    (k6 : (0 ≤ a) → (4 ≤ a) → Q (zset (zset (zset h 121 1 (0, 0)) 121 0 (0, 0)) 121 0 (0, 1), some (0, 0))) :
    vP D T N 329 0 h [some (2, 121), some (0, a), some (0, b), some (0, c), none] [] Q := by
  refine v_load (v := (2, 121)) (hT _ zt_X12_tray rfl _ _ rfl) rfl rfl ?_
  refine v_push (0) (hT _ zt_X12_tray rfl _ _ rfl) rfl ?_
  refine v_putf (r := 121) hO (hT _ zt_X12_tray rfl _ _ rfl) rfl (fun hf1 => ?_)
  refine v_load (v := (2, 121)) (hT _ zt_X12_tray rfl _ _ rfl) rfl rfl ?_
  refine v_push (0) (hT _ zt_X12_tray rfl _ _ rfl) rfl ?_
  refine v_putf (r := 121) hO (hT _ zt_X12_tray rfl _ _ rfl) rfl (fun hf2 => ?_)
  refine v_load (v := (0, a)) (hT _ zt_X12_tray rfl _ _ rfl) rfl rfl ?_
  refine v_if (hT _ zt_X12_tray rfl _ _ rfl) (fun hc3 => ?_) (fun hc3 => ?_)
  · have hc3 : a < 0 := hc3
    refine v_load (v := (2, 121)) (hT _ zt_X12_tray rfl _ _ rfl) rfl rfl ?_
    refine v_push (1) (hT _ zt_X12_tray rfl _ _ rfl) rfl ?_
    refine v_call (w := 2) [some (2, 121), some (0, 1)] hO (hT _ zt_X12_tray rfl _ _ rfl) rfl rfl ?_
    refine v_load (v := (2, 121)) (hT _ zt_X12_no rfl _ _ rfl) rfl rfl ?_
    refine v_load (v := (0, 1)) (hT _ zt_X12_no rfl _ _ rfl) rfl rfl ?_
    refine v_putf (r := 121) hO (hT _ zt_X12_no rfl _ _ rfl) rfl (fun hf4 => ?_)
    refine v_push (0) (hT _ zt_X12_no rfl _ _ rfl) rfl ?_
    refine v_ret (hT _ zt_X12_no rfl _ _ rfl) (Or.inl rfl) ?_
    show vP D T N 329 33 (zset (zset (zset h 121 1 (0, 0)) 121 0 (0, 0)) 121 0 (0, 1)) [some (2, 121), some (0, a), some (0, b), some (0, c), none] [(0, 0)] _
    refine v_ret (hT _ zt_X12_tray rfl _ _ rfl) (Or.inl rfl) ?_
    exact k0 hc3
  · have hc3 : 0 ≤ a := Int.not_lt.mp hc3
    refine v_load (v := (0, a)) (hT _ zt_X12_tray rfl _ _ rfl) rfl rfl ?_
    refine v_push (4) (hT _ zt_X12_tray rfl _ _ rfl) rfl ?_
    refine v_ic (hT _ zt_X12_tray rfl _ _ rfl) (fun hc5 => ?_) (fun hc5 => ?_)
    · have hc5 : a < 4 := hc5
      refine v_load (v := (0, b)) (hT _ zt_X12_tray rfl _ _ rfl) rfl rfl ?_
      refine v_if (hT _ zt_X12_tray rfl _ _ rfl) (fun hc6 => ?_) (fun hc6 => ?_)
      · have hc6 : b < 0 := hc6
        refine v_load (v := (2, 121)) (hT _ zt_X12_tray rfl _ _ rfl) rfl rfl ?_
        refine v_push (1) (hT _ zt_X12_tray rfl _ _ rfl) rfl ?_
        refine v_call (w := 2) [some (2, 121), some (0, 1)] hO (hT _ zt_X12_tray rfl _ _ rfl) rfl rfl ?_
        refine v_load (v := (2, 121)) (hT _ zt_X12_no rfl _ _ rfl) rfl rfl ?_
        refine v_load (v := (0, 1)) (hT _ zt_X12_no rfl _ _ rfl) rfl rfl ?_
        refine v_putf (r := 121) hO (hT _ zt_X12_no rfl _ _ rfl) rfl (fun hf7 => ?_)
        refine v_push (0) (hT _ zt_X12_no rfl _ _ rfl) rfl ?_
        refine v_ret (hT _ zt_X12_no rfl _ _ rfl) (Or.inl rfl) ?_
        show vP D T N 329 33 (zset (zset (zset h 121 1 (0, 0)) 121 0 (0, 0)) 121 0 (0, 1)) [some (2, 121), some (0, a), some (0, b), some (0, c), none] [(0, 0)] _
        refine v_ret (hT _ zt_X12_tray rfl _ _ rfl) (Or.inl rfl) ?_
        exact k1 hc3 hc5 hc6
      · have hc6 : 0 ≤ b := Int.not_lt.mp hc6
        refine v_load (v := (0, b)) (hT _ zt_X12_tray rfl _ _ rfl) rfl rfl ?_
        refine v_push (3) (hT _ zt_X12_tray rfl _ _ rfl) rfl ?_
        refine v_ic (hT _ zt_X12_tray rfl _ _ rfl) (fun hc8 => ?_) (fun hc8 => ?_)
        · have hc8 : 3 < b := hc8
          refine v_load (v := (2, 121)) (hT _ zt_X12_tray rfl _ _ rfl) rfl rfl ?_
          refine v_push (1) (hT _ zt_X12_tray rfl _ _ rfl) rfl ?_
          refine v_call (w := 2) [some (2, 121), some (0, 1)] hO (hT _ zt_X12_tray rfl _ _ rfl) rfl rfl ?_
          refine v_load (v := (2, 121)) (hT _ zt_X12_no rfl _ _ rfl) rfl rfl ?_
          refine v_load (v := (0, 1)) (hT _ zt_X12_no rfl _ _ rfl) rfl rfl ?_
          refine v_putf (r := 121) hO (hT _ zt_X12_no rfl _ _ rfl) rfl (fun hf9 => ?_)
          refine v_push (0) (hT _ zt_X12_no rfl _ _ rfl) rfl ?_
          refine v_ret (hT _ zt_X12_no rfl _ _ rfl) (Or.inl rfl) ?_
          show vP D T N 329 33 (zset (zset (zset h 121 1 (0, 0)) 121 0 (0, 0)) 121 0 (0, 1)) [some (2, 121), some (0, a), some (0, b), some (0, c), none] [(0, 0)] _
          refine v_ret (hT _ zt_X12_tray rfl _ _ rfl) (Or.inl rfl) ?_
          exact k2 hc3 hc5 hc6 hc8
        · have hc8 : b ≤ 3 := Int.not_lt.mp hc8
          refine v_load (v := (0, c)) (hT _ zt_X12_tray rfl _ _ rfl) rfl rfl ?_
          refine v_push (60) (hT _ zt_X12_tray rfl _ _ rfl) rfl ?_
          refine v_ic (hT _ zt_X12_tray rfl _ _ rfl) (fun hc10 => ?_) (fun hc10 => ?_)
          · have hc10 : 60 < c := hc10
            refine v_load (v := (2, 121)) (hT _ zt_X12_tray rfl _ _ rfl) rfl rfl ?_
            refine v_push (5) (hT _ zt_X12_tray rfl _ _ rfl) rfl ?_
            refine v_call (w := 2) [some (2, 121), some (0, 5)] hO (hT _ zt_X12_tray rfl _ _ rfl) rfl rfl ?_
            refine v_load (v := (2, 121)) (hT _ zt_X12_no rfl _ _ rfl) rfl rfl ?_
            refine v_load (v := (0, 5)) (hT _ zt_X12_no rfl _ _ rfl) rfl rfl ?_
            refine v_putf (r := 121) hO (hT _ zt_X12_no rfl _ _ rfl) rfl (fun hf11 => ?_)
            refine v_push (0) (hT _ zt_X12_no rfl _ _ rfl) rfl ?_
            refine v_ret (hT _ zt_X12_no rfl _ _ rfl) (Or.inl rfl) ?_
            show vP D T N 329 45 (zset (zset (zset h 121 1 (0, 0)) 121 0 (0, 0)) 121 0 (0, 5)) [some (2, 121), some (0, a), some (0, b), some (0, c), none] [(0, 0)] _
            refine v_ret (hT _ zt_X12_tray rfl _ _ rfl) (Or.inl rfl) ?_
            exact k3 hc3 hc5 hc6 hc8 hc10
          · have hc10 : c ≤ 60 := Int.not_lt.mp hc10
            refine v_load (v := (0, c)) (hT _ zt_X12_tray rfl _ _ rfl) rfl rfl ?_
            refine v_if (hT _ zt_X12_tray rfl _ _ rfl) (fun hc12 => ?_) (fun hc12 => ?_)
            · have hc12 : c < 0 := hc12
              refine v_load (v := (2, 121)) (hT _ zt_X12_tray rfl _ _ rfl) rfl rfl ?_
              refine v_push (6) (hT _ zt_X12_tray rfl _ _ rfl) rfl ?_
              refine v_call (w := 2) [some (2, 121), some (0, 6)] hO (hT _ zt_X12_tray rfl _ _ rfl) rfl rfl ?_
              refine v_load (v := (2, 121)) (hT _ zt_X12_no rfl _ _ rfl) rfl rfl ?_
              refine v_load (v := (0, 6)) (hT _ zt_X12_no rfl _ _ rfl) rfl rfl ?_
              refine v_putf (r := 121) hO (hT _ zt_X12_no rfl _ _ rfl) rfl (fun hf13 => ?_)
              refine v_push (0) (hT _ zt_X12_no rfl _ _ rfl) rfl ?_
              refine v_ret (hT _ zt_X12_no rfl _ _ rfl) (Or.inl rfl) ?_
              show vP D T N 329 56 (zset (zset (zset h 121 1 (0, 0)) 121 0 (0, 0)) 121 0 (0, 6)) [some (2, 121), some (0, a), some (0, b), some (0, c), none] [(0, 0)] _
              refine v_ret (hT _ zt_X12_tray rfl _ _ rfl) (Or.inl rfl) ?_
              exact k4 hc3 hc5 hc6 hc8 hc10 hc12
            · have hc12 : 0 ≤ c := Int.not_lt.mp hc12
              refine v_load (v := (2, 121)) (hT _ zt_X12_tray rfl _ _ rfl) rfl rfl ?_
              refine v_getR (c := 122) (r := 121) (hT _ zt_X12_tray rfl _ _ rfl) rfl rfl rfl ?_
              refine v_load (v := (0, a)) (hT _ zt_X12_tray rfl _ _ rfl) rfl rfl ?_
              refine v_load (v := (0, b)) (hT _ zt_X12_tray rfl _ _ rfl) rfl rfl ?_
              refine v_ast (r := 122) (hT _ zt_X12_tray rfl _ _ rfl) rfl rfl (fun ha14 hb15 hf16 => ?_)
              refine v_load (v := (2, 121)) (hT _ zt_X12_tray rfl _ _ rfl) rfl rfl ?_
              refine v_getR (c := 123) (r := 121) (hT _ zt_X12_tray rfl _ _ rfl) rfl rfl rfl ?_
              refine v_load (v := (0, a)) (hT _ zt_X12_tray rfl _ _ rfl) rfl rfl ?_
              refine v_load (v := (0, c)) (hT _ zt_X12_tray rfl _ _ rfl) rfl rfl ?_
              refine v_ast (r := 123) (hT _ zt_X12_tray rfl _ _ rfl) rfl rfl (fun ha17 hb18 hf19 => ?_)
              refine v_push (0) (hT _ zt_X12_tray rfl _ _ rfl) rfl ?_
              refine v_store1 [some (2, 121), some (0, a), some (0, b), some (0, c), some (0, 0)] (hT _ zt_X12_tray rfl _ _ rfl) ⟨rfl, Nat.ne_of_beq_eq_false rfl⟩ (Nat.le_of_ble_eq_true rfl) rfl ?_
              exact k5 hc3 hc5 hc6 hc8 hc10 hc12
    · have hc5 : 4 ≤ a := Int.not_lt.mp hc5
      refine v_load (v := (2, 121)) (hT _ zt_X12_tray rfl _ _ rfl) rfl rfl ?_
      refine v_push (1) (hT _ zt_X12_tray rfl _ _ rfl) rfl ?_
      refine v_call (w := 2) [some (2, 121), some (0, 1)] hO (hT _ zt_X12_tray rfl _ _ rfl) rfl rfl ?_
      refine v_load (v := (2, 121)) (hT _ zt_X12_no rfl _ _ rfl) rfl rfl ?_
      refine v_load (v := (0, 1)) (hT _ zt_X12_no rfl _ _ rfl) rfl rfl ?_
      refine v_putf (r := 121) hO (hT _ zt_X12_no rfl _ _ rfl) rfl (fun hf20 => ?_)
      refine v_push (0) (hT _ zt_X12_no rfl _ _ rfl) rfl ?_
      refine v_ret (hT _ zt_X12_no rfl _ _ rfl) (Or.inl rfl) ?_
      show vP D T N 329 33 (zset (zset (zset h 121 1 (0, 0)) 121 0 (0, 0)) 121 0 (0, 1)) [some (2, 121), some (0, a), some (0, b), some (0, c), none] [(0, 0)] _
      refine v_ret (hT _ zt_X12_tray rfl _ _ rfl) (Or.inl rfl) ?_
      exact k6 hc3 hc5
theorem y_X12_tray1 {D : zD} {T : zT} (hT : hTab T) (hO : vOK T) {N : Nat} {h : zH} {Q : zR → Prop} (a b c k : Int) (hv0 : zHv h) (hk : 0 ≤ k ∧ k ≤ 60) (ha : 0 ≤ a ∧ a < 4) (hc : c ≤ 60)
    (k0 : (k < c) → (0 ≤ ((60 * a) + k)) → (((60 * a) + k) < 240) → vP D T N 329 74 (zset h 124 ((((60 * a) + k)).toNat) (1, 0)) [some (2, 121), some (0, a), some (0, b), some (0, c), some (0, (k + 1))] [] Q)
    (k1 : (c ≤ k) → Q (h, some (0, 1))) :
    vP D T (N + 1) 329 74 h [some (2, 121), some (0, a), some (0, b), some (0, c), some (0, k)] [] Q := by
  refine v_loadS (v := (0, k)) (hT _ zt_X12_tray rfl _ _ rfl) rfl rfl ?_
  refine v_load (v := (0, c)) (hT _ zt_X12_tray rfl _ _ rfl) rfl rfl ?_
  refine v_ic (hT _ zt_X12_tray rfl _ _ rfl) (fun hc1 => ?_) (fun hc1 => ?_)
  · have hc1 : k < c := hc1
    refine v_load (v := (2, 121)) (hT _ zt_X12_tray rfl _ _ rfl) rfl rfl ?_
    refine v_getR (c := 124) (r := 121) (hT _ zt_X12_tray rfl _ _ rfl) rfl rfl rfl ?_
    refine v_push (60) (hT _ zt_X12_tray rfl _ _ rfl) rfl ?_
    refine v_load (v := (0, a)) (hT _ zt_X12_tray rfl _ _ rfl) rfl rfl ?_
    refine v_bin (w := (60 * a)) (hT _ zt_X12_tray rfl _ _ rfl) (hq_mul (by omega) (by omega)) ?_
    refine v_load (v := (0, k)) (hT _ zt_X12_tray rfl _ _ rfl) rfl rfl ?_
    refine v_bin (w := ((60 * a) + k)) (hT _ zt_X12_tray rfl _ _ rfl) (hq_add (by omega) (by omega)) ?_
    refine v_push (0) (hT _ zt_X12_tray rfl _ _ rfl) rfl ?_
    refine v_ast (r := 124) (hT _ zt_X12_tray rfl _ _ rfl) rfl rfl (fun ha2 hb3 hf4 => ?_)
    refine v_iinc (x := k) (u := 1) (w := (k + 1)) [some (2, 121), some (0, a), some (0, b), some (0, c), some (0, (k + 1))] (hT _ zt_X12_tray rfl _ _ rfl) rfl rfl (Nat.le_of_ble_eq_true rfl) (vz_inc (by omega) (by omega)) rfl ?_
    refine v_goto (hT _ zt_X12_tray rfl _ _ rfl) ?_
    exact k0 hc1 ha2 hb3
  · have hc1 : c ≤ k := Int.not_lt.mp hc1
    refine v_push (1) (hT _ zt_X12_tray rfl _ _ rfl) rfl ?_
    refine v_ret (hT _ zt_X12_tray rfl _ _ rfl) (Or.inl rfl) ?_
    exact k1 hc1
theorem y_X11_write_0 {D : zD} {T : zT} (hT : hTab T) (hO : vOK T) {N : Nat} {h : zH} {Q : zR → Prop} (b v : Int) (hv0 : zHv h) (hb : 0 ≤ (h 2 2).2 ∧ (h 2 2).2 ≤ 60)
    (k0 : ((h 2 1).2 = -1) → Q (zset h 0 0 (0, 3), some (0, 0)))
    (k1 : ((h 2 1).2 ≠ -1) → (b < 0) → Q (zset h 0 0 (0, 4), some (0, 0)))
    (k2 : ((h 2 1).2 ≠ -1) → (0 ≤ b) → (((h 2 2).2 - 1) < b) → Q (zset h 0 0 (0, 4), some (0, 0)))
    (k3 : ((h 2 1).2 ≠ -1) → (0 ≤ b) → (b ≤ ((h 2 2).2 - 1)) → ((h 2 1).2 = 0) → (b < 60) → Q (zset (zset h 3 b.toNat (1, (vB ((vI v))))) 0 0 (0, 0), some (0, 1)))
    (k4 : ((h 2 1).2 ≠ -1) → (0 ≤ b) → (b ≤ ((h 2 2).2 - 1)) → ((h 2 1).2 ≠ 0) → ((h 2 1).2 = 1) → (b < 60) → Q (zset (zset h 3 b.toNat (1, (vC ((vI v))))) 0 0 (0, 0), some (0, 1)))
    (k5 : ((h 2 1).2 ≠ -1) → (0 ≤ b) → (b ≤ ((h 2 2).2 - 1)) → ((h 2 1).2 ≠ 0) → ((h 2 1).2 ≠ 1) → ((h 2 1).2 = 2) → (b < 60) → Q (zset (zset h 3 b.toNat (1, (vI v))) 0 0 (0, 0), some (0, 1)))
    (k6 : ((h 2 1).2 ≠ -1) → (0 ≤ b) → (b ≤ ((h 2 2).2 - 1)) → ((h 2 1).2 ≠ 0) → ((h 2 1).2 ≠ 1) → ((h 2 1).2 ≠ 2) → (b < 60) → Q (zset (zset h 3 b.toNat (1, v)) 0 0 (0, 0), some (0, 1))) :
    vP D T N 195 0 h [some (2, 0), some (0, 0), some (0, b), some (1, v), none, none, none] [] Q := by
  refine v_load (v := (2, 0)) (hT _ zt_X11_write rfl _ _ rfl) rfl rfl ?_
  refine v_load (v := (0, 0)) (hT _ zt_X11_write rfl _ _ rfl) rfl rfl ?_
  refine v_load (v := (0, b)) (hT _ zt_X11_write rfl _ _ rfl) rfl rfl ?_
  refine v_call (w := 3) [some (2, 0), some (0, 0), some (0, b)] hO (hT _ zt_X11_write rfl _ _ rfl) rfl rfl ?_
  refine v_load (v := (0, 0)) (hT _ zt_X11_placeStatus rfl _ _ rfl) rfl rfl ?_
  refine v_call (w := 1) [some (0, 0)] hO (hT _ zt_X11_placeStatus rfl _ _ rfl) rfl rfl ?_
  refine v_load (v := (0, 0)) (hT _ zt_X11_isTray rfl _ _ rfl) rfl rfl ?_
  refine v_if (hT _ zt_X11_isTray rfl _ _ rfl) (fun hc1 => absurd (show (0 : Int) < 0 from hc1) (by decide)) (fun _ => ?_)
  refine v_load (v := (0, 0)) (hT _ zt_X11_isTray rfl _ _ rfl) rfl rfl ?_
  refine v_push (4) (hT _ zt_X11_isTray rfl _ _ rfl) rfl ?_
  refine v_ic (hT _ zt_X11_isTray rfl _ _ rfl) (fun _ => ?_) (fun hc2 => absurd (show (0 : Int) < 4 from (by decide)) hc2)
  refine v_push (1) (hT _ zt_X11_isTray rfl _ _ rfl) rfl ?_
  refine v_goto (hT _ zt_X11_isTray rfl _ _ rfl) ?_
  refine v_ret (hT _ zt_X11_isTray rfl _ _ rfl) (Or.inl rfl) ?_
  show vP D T N 171 4 h [some (2, 0), some (0, 0), some (0, b)] [(0, 1)] _
  refine v_if (hT _ zt_X11_placeStatus rfl _ _ rfl) (fun hc3 => absurd (show (1 : Int) = 0 from hc3) (by decide)) (fun _ => ?_)
  refine v_load (v := (2, 0)) (hT _ zt_X11_placeStatus rfl _ _ rfl) rfl rfl ?_
  refine v_getR (c := 1) (r := 0) (hT _ zt_X11_placeStatus rfl _ _ rfl) rfl rfl rfl ?_
  refine v_load (v := (0, 0)) (hT _ zt_X11_placeStatus rfl _ _ rfl) rfl rfl ?_
  refine v_aldV (v := (2, 2)) (r := 1) (hT _ zt_X11_placeStatus rfl _ _ rfl) rfl rfl (fun hv _ _ => hv.ref rfl) (fun ha4 hb5 => ?_)
  refine v_call (w := 1) [some (2, 2)] hO (hT _ zt_X11_placeStatus rfl _ _ rfl) rfl rfl ?_
  refine v_load (v := (2, 2)) (hT _ zt_X9_isMissing rfl _ _ rfl) rfl rfl ?_
  refine v_getI (t := 0) (r := 2) (hT _ zt_X9_isMissing rfl _ _ rfl) rfl rfl rfl ?_
  refine v_push (-1) (hT _ zt_X9_isMissing rfl _ _ rfl) rfl ?_
  refine v_ic (hT _ zt_X9_isMissing rfl _ _ rfl) (fun hc6 => ?_) (fun hc6 => ?_)
  · have hc6 : (h 2 1).2 = -1 := hc6
    refine v_push (1) (hT _ zt_X9_isMissing rfl _ _ rfl) rfl ?_
    refine v_goto (hT _ zt_X9_isMissing rfl _ _ rfl) ?_
    refine v_ret (hT _ zt_X9_isMissing rfl _ _ rfl) (Or.inl rfl) ?_
    show vP D T N 171 18 h [some (2, 0), some (0, 0), some (0, b)] [(0, 1)] _
    refine v_if (hT _ zt_X11_placeStatus rfl _ _ rfl) (fun hc7 => absurd (show (1 : Int) = 0 from hc7) (by decide)) (fun _ => ?_)
    refine v_push (3) (hT _ zt_X11_placeStatus rfl _ _ rfl) rfl ?_
    refine v_ret (hT _ zt_X11_placeStatus rfl _ _ rfl) (Or.inl rfl) ?_
    show vP D T N 195 6 h [some (2, 0), some (0, 0), some (0, b), some (1, v), none, none, none] [(0, 3)] _
    refine v_store1 [some (2, 0), some (0, 0), some (0, b), some (1, v), none, some (0, 3), none] (hT _ zt_X11_write rfl _ _ rfl) ⟨rfl, Nat.ne_of_beq_eq_false rfl⟩ (Nat.le_of_ble_eq_true rfl) rfl ?_
    refine v_load (v := (0, 3)) (hT _ zt_X11_write rfl _ _ rfl) rfl rfl ?_
    refine v_if (hT _ zt_X11_write rfl _ _ rfl) (fun hc8 => absurd (show (3 : Int) = 0 from hc8) (by decide)) (fun _ => ?_)
    refine v_load (v := (2, 0)) (hT _ zt_X11_write rfl _ _ rfl) rfl rfl ?_
    refine v_load (v := (0, 3)) (hT _ zt_X11_write rfl _ _ rfl) rfl rfl ?_
    refine v_call (w := 2) [some (2, 0), some (0, 3)] hO (hT _ zt_X11_write rfl _ _ rfl) rfl rfl ?_
    refine v_load (v := (2, 0)) (hT _ zt_X11_refuse rfl _ _ rfl) rfl rfl ?_
    refine v_load (v := (0, 3)) (hT _ zt_X11_refuse rfl _ _ rfl) rfl rfl ?_
    refine v_putf (r := 0) hO (hT _ zt_X11_refuse rfl _ _ rfl) rfl (fun hf9 => ?_)
    refine v_push (0) (hT _ zt_X11_refuse rfl _ _ rfl) rfl ?_
    refine v_ret (hT _ zt_X11_refuse rfl _ _ rfl) (Or.inl rfl) ?_
    show vP D T N 195 19 (zset h 0 0 (0, 3)) [some (2, 0), some (0, 0), some (0, b), some (1, v), none, some (0, 3), none] [(0, 0)] _
    refine v_ret (hT _ zt_X11_write rfl _ _ rfl) (Or.inl rfl) ?_
    exact k0 hc6
  · have hc6 : (h 2 1).2 ≠ -1 := hc6
    refine v_push (0) (hT _ zt_X9_isMissing rfl _ _ rfl) rfl ?_
    refine v_ret (hT _ zt_X9_isMissing rfl _ _ rfl) (Or.inl rfl) ?_
    show vP D T N 171 18 h [some (2, 0), some (0, 0), some (0, b)] [(0, 0)] _
    refine v_if (hT _ zt_X11_placeStatus rfl _ _ rfl) (fun _ => ?_) (fun hc10 => absurd (show (0 : Int) = 0 from (by decide)) hc10)
    refine v_load (v := (2, 0)) (hT _ zt_X11_placeStatus rfl _ _ rfl) rfl rfl ?_
    refine v_getR (c := 1) (r := 0) (hT _ zt_X11_placeStatus rfl _ _ rfl) rfl rfl rfl ?_
    refine v_load (v := (0, 0)) (hT _ zt_X11_placeStatus rfl _ _ rfl) rfl rfl ?_
    refine v_aldV (v := (2, 2)) (r := 1) (hT _ zt_X11_placeStatus rfl _ _ rfl) rfl rfl (fun hv _ _ => hv.ref rfl) (fun ha11 hb12 => ?_)
    refine v_load (v := (0, b)) (hT _ zt_X11_placeStatus rfl _ _ rfl) rfl rfl ?_
    refine v_push (1) (hT _ zt_X11_placeStatus rfl _ _ rfl) rfl ?_
    refine v_call (w := 3) [some (2, 2), some (0, b), some (0, 1)] hO (hT _ zt_X11_placeStatus rfl _ _ rfl) rfl rfl ?_
    refine v_load (v := (0, b)) (hT _ zt_X9_hasPlaces rfl _ _ rfl) rfl rfl ?_
    refine v_if (hT _ zt_X9_hasPlaces rfl _ _ rfl) (fun hc13 => ?_) (fun hc13 => ?_)
    · have hc13 : b < 0 := hc13
      refine v_push (0) (hT _ zt_X9_hasPlaces rfl _ _ rfl) rfl ?_
      refine v_ret (hT _ zt_X9_hasPlaces rfl _ _ rfl) (Or.inl rfl) ?_
      show vP D T N 171 34 h [some (2, 0), some (0, 0), some (0, b)] [(0, 0)] _
      refine v_if (hT _ zt_X11_placeStatus rfl _ _ rfl) (fun _ => ?_) (fun hc14 => absurd (show (0 : Int) = 0 from (by decide)) hc14)
      refine v_push (4) (hT _ zt_X11_placeStatus rfl _ _ rfl) rfl ?_
      refine v_ret (hT _ zt_X11_placeStatus rfl _ _ rfl) (Or.inl rfl) ?_
      show vP D T N 195 6 h [some (2, 0), some (0, 0), some (0, b), some (1, v), none, none, none] [(0, 4)] _
      refine v_store1 [some (2, 0), some (0, 0), some (0, b), some (1, v), none, some (0, 4), none] (hT _ zt_X11_write rfl _ _ rfl) ⟨rfl, Nat.ne_of_beq_eq_false rfl⟩ (Nat.le_of_ble_eq_true rfl) rfl ?_
      refine v_load (v := (0, 4)) (hT _ zt_X11_write rfl _ _ rfl) rfl rfl ?_
      refine v_if (hT _ zt_X11_write rfl _ _ rfl) (fun hc15 => absurd (show (4 : Int) = 0 from hc15) (by decide)) (fun _ => ?_)
      refine v_load (v := (2, 0)) (hT _ zt_X11_write rfl _ _ rfl) rfl rfl ?_
      refine v_load (v := (0, 4)) (hT _ zt_X11_write rfl _ _ rfl) rfl rfl ?_
      refine v_call (w := 2) [some (2, 0), some (0, 4)] hO (hT _ zt_X11_write rfl _ _ rfl) rfl rfl ?_
      refine v_load (v := (2, 0)) (hT _ zt_X11_refuse rfl _ _ rfl) rfl rfl ?_
      refine v_load (v := (0, 4)) (hT _ zt_X11_refuse rfl _ _ rfl) rfl rfl ?_
      refine v_putf (r := 0) hO (hT _ zt_X11_refuse rfl _ _ rfl) rfl (fun hf16 => ?_)
      refine v_push (0) (hT _ zt_X11_refuse rfl _ _ rfl) rfl ?_
      refine v_ret (hT _ zt_X11_refuse rfl _ _ rfl) (Or.inl rfl) ?_
      show vP D T N 195 19 (zset h 0 0 (0, 4)) [some (2, 0), some (0, 0), some (0, b), some (1, v), none, some (0, 4), none] [(0, 0)] _
      refine v_ret (hT _ zt_X11_write rfl _ _ rfl) (Or.inl rfl) ?_
      exact k1 hc6 hc13
    · have hc13 : 0 ≤ b := Int.not_lt.mp hc13
      refine v_load (v := (0, b)) (hT _ zt_X9_hasPlaces rfl _ _ rfl) rfl rfl ?_
      refine v_load (v := (2, 2)) (hT _ zt_X9_hasPlaces rfl _ _ rfl) rfl rfl ?_
      refine v_getI (t := 0) (r := 2) (hT _ zt_X9_hasPlaces rfl _ _ rfl) rfl rfl rfl ?_
      refine v_load (v := (0, 1)) (hT _ zt_X9_hasPlaces rfl _ _ rfl) rfl rfl ?_
      refine v_bin (w := ((h 2 2).2 - 1)) (hT _ zt_X9_hasPlaces rfl _ _ rfl) (hq_sub (by omega) (by omega)) ?_
      refine v_ic (hT _ zt_X9_hasPlaces rfl _ _ rfl) (fun hc17 => ?_) (fun hc17 => ?_)
      · have hc17 : ((h 2 2).2 - 1) < b := hc17
        refine v_push (0) (hT _ zt_X9_hasPlaces rfl _ _ rfl) rfl ?_
        refine v_ret (hT _ zt_X9_hasPlaces rfl _ _ rfl) (Or.inl rfl) ?_
        show vP D T N 171 34 h [some (2, 0), some (0, 0), some (0, b)] [(0, 0)] _
        refine v_if (hT _ zt_X11_placeStatus rfl _ _ rfl) (fun _ => ?_) (fun hc18 => absurd (show (0 : Int) = 0 from (by decide)) hc18)
        refine v_push (4) (hT _ zt_X11_placeStatus rfl _ _ rfl) rfl ?_
        refine v_ret (hT _ zt_X11_placeStatus rfl _ _ rfl) (Or.inl rfl) ?_
        show vP D T N 195 6 h [some (2, 0), some (0, 0), some (0, b), some (1, v), none, none, none] [(0, 4)] _
        refine v_store1 [some (2, 0), some (0, 0), some (0, b), some (1, v), none, some (0, 4), none] (hT _ zt_X11_write rfl _ _ rfl) ⟨rfl, Nat.ne_of_beq_eq_false rfl⟩ (Nat.le_of_ble_eq_true rfl) rfl ?_
        refine v_load (v := (0, 4)) (hT _ zt_X11_write rfl _ _ rfl) rfl rfl ?_
        refine v_if (hT _ zt_X11_write rfl _ _ rfl) (fun hc19 => absurd (show (4 : Int) = 0 from hc19) (by decide)) (fun _ => ?_)
        refine v_load (v := (2, 0)) (hT _ zt_X11_write rfl _ _ rfl) rfl rfl ?_
        refine v_load (v := (0, 4)) (hT _ zt_X11_write rfl _ _ rfl) rfl rfl ?_
        refine v_call (w := 2) [some (2, 0), some (0, 4)] hO (hT _ zt_X11_write rfl _ _ rfl) rfl rfl ?_
        refine v_load (v := (2, 0)) (hT _ zt_X11_refuse rfl _ _ rfl) rfl rfl ?_
        refine v_load (v := (0, 4)) (hT _ zt_X11_refuse rfl _ _ rfl) rfl rfl ?_
        refine v_putf (r := 0) hO (hT _ zt_X11_refuse rfl _ _ rfl) rfl (fun hf20 => ?_)
        refine v_push (0) (hT _ zt_X11_refuse rfl _ _ rfl) rfl ?_
        refine v_ret (hT _ zt_X11_refuse rfl _ _ rfl) (Or.inl rfl) ?_
        show vP D T N 195 19 (zset h 0 0 (0, 4)) [some (2, 0), some (0, 0), some (0, b), some (1, v), none, some (0, 4), none] [(0, 0)] _
        refine v_ret (hT _ zt_X11_write rfl _ _ rfl) (Or.inl rfl) ?_
        exact k2 hc6 hc13 hc17
      · have hc17 : b ≤ ((h 2 2).2 - 1) := Int.not_lt.mp hc17
        refine v_push (1) (hT _ zt_X9_hasPlaces rfl _ _ rfl) rfl ?_
        refine v_goto (hT _ zt_X9_hasPlaces rfl _ _ rfl) ?_
        refine v_ret (hT _ zt_X9_hasPlaces rfl _ _ rfl) (Or.inl rfl) ?_
        show vP D T N 171 34 h [some (2, 0), some (0, 0), some (0, b)] [(0, 1)] _
        refine v_if (hT _ zt_X11_placeStatus rfl _ _ rfl) (fun hc21 => absurd (show (1 : Int) = 0 from hc21) (by decide)) (fun _ => ?_)
        refine v_push (0) (hT _ zt_X11_placeStatus rfl _ _ rfl) rfl ?_
        refine v_goto (hT _ zt_X11_placeStatus rfl _ _ rfl) ?_
        refine v_ret (hT _ zt_X11_placeStatus rfl _ _ rfl) (Or.inl rfl) ?_
        show vP D T N 195 6 h [some (2, 0), some (0, 0), some (0, b), some (1, v), none, none, none] [(0, 0)] _
        refine v_store1 [some (2, 0), some (0, 0), some (0, b), some (1, v), none, some (0, 0), none] (hT _ zt_X11_write rfl _ _ rfl) ⟨rfl, Nat.ne_of_beq_eq_false rfl⟩ (Nat.le_of_ble_eq_true rfl) rfl ?_
        refine v_load (v := (0, 0)) (hT _ zt_X11_write rfl _ _ rfl) rfl rfl ?_
        refine v_if (hT _ zt_X11_write rfl _ _ rfl) (fun _ => ?_) (fun hc22 => absurd (show (0 : Int) = 0 from (by decide)) hc22)
        refine v_load (v := (2, 0)) (hT _ zt_X11_write rfl _ _ rfl) rfl rfl ?_
        refine v_getR (c := 1) (r := 0) (hT _ zt_X11_write rfl _ _ rfl) rfl rfl rfl ?_
        refine v_load (v := (0, 0)) (hT _ zt_X11_write rfl _ _ rfl) rfl rfl ?_
        refine v_aldV (v := (2, 2)) (r := 1) (hT _ zt_X11_write rfl _ _ rfl) rfl rfl (fun hv _ _ => hv.ref rfl) (fun ha23 hb24 => ?_)
        refine v_store1 [some (2, 0), some (0, 0), some (0, b), some (1, v), none, some (0, 0), some (2, 2)] (hT _ zt_X11_write rfl _ _ rfl) ⟨rfl, Nat.ne_of_beq_eq_false rfl⟩ (Nat.le_of_ble_eq_true rfl) rfl ?_
        refine v_load (v := (2, 2)) (hT _ zt_X11_write rfl _ _ rfl) rfl rfl ?_
        refine v_getR (c := 3) (r := 2) (hT _ zt_X11_write rfl _ _ rfl) rfl rfl rfl ?_
        refine v_load (v := (0, b)) (hT _ zt_X11_write rfl _ _ rfl) rfl rfl ?_
        refine v_load (v := (2, 2)) (hT _ zt_X11_write rfl _ _ rfl) rfl rfl ?_
        refine v_load (v := (1, v)) (hT _ zt_X11_write rfl _ _ rfl) rfl rfl ?_
        refine v_call (w := 3) [some (2, 2), some (1, v), none] hO (hT _ zt_X11_write rfl _ _ rfl) rfl rfl ?_
        refine v_load (v := (2, 2)) (hT _ zt_X9_cutToSort rfl _ _ rfl) rfl rfl ?_
        refine v_getI (t := 0) (r := 2) (hT _ zt_X9_cutToSort rfl _ _ rfl) rfl rfl rfl ?_
        refine v_sw (hT _ zt_X9_cutToSort rfl _ _ rfl) ?_
        refine ⟨fun hc25 => ?_, fun hc25 => ?_⟩
        · have hc25 : (h 2 1).2 = 0 := hc25
          refine v_load (v := (1, v)) (hT _ zt_X9_cutToSort rfl _ _ rfl) rfl rfl ?_
          refine v_l2i (w := (vI v)) (hT _ zt_X9_cutToSort rfl _ _ rfl) rfl ?_
          refine v_un (w := (vB ((vI v)))) (hT _ zt_X9_cutToSort rfl _ _ rfl) rfl ?_
          refine v_i2l (hT _ zt_X9_cutToSort rfl _ _ rfl) ?_
          refine v_ret (hT _ zt_X9_cutToSort rfl _ _ rfl) (Or.inr rfl) ?_
          show vP D T N 195 40 h [some (2, 0), some (0, 0), some (0, b), some (1, v), none, some (0, 0), some (2, 2)] [(1, (vB ((vI v)))), (0, b), (2, 3)] _
          refine v_ast (r := 3) (hT _ zt_X11_write rfl _ _ rfl) rfl rfl (fun ha26 hb27 hf28 => ?_)
          refine v_load (v := (2, 0)) (hT _ zt_X11_write rfl _ _ rfl) rfl rfl ?_
          refine v_call (w := 1) [some (2, 0)] hO (hT _ zt_X11_write rfl _ _ rfl) rfl rfl ?_
          refine v_load (v := (2, 0)) (hT _ zt_X11_accept rfl _ _ rfl) rfl rfl ?_
          refine v_push (0) (hT _ zt_X11_accept rfl _ _ rfl) rfl ?_
          refine v_putf (r := 0) hO (hT _ zt_X11_accept rfl _ _ rfl) rfl (fun hf29 => ?_)
          refine v_push (1) (hT _ zt_X11_accept rfl _ _ rfl) rfl ?_
          refine v_ret (hT _ zt_X11_accept rfl _ _ rfl) (Or.inl rfl) ?_
          show vP D T N 195 45 (zset (zset h 3 b.toNat (1, (vB ((vI v))))) 0 0 (0, 0)) [some (2, 0), some (0, 0), some (0, b), some (1, v), none, some (0, 0), some (2, 2)] [(0, 1)] _
          refine v_ret (hT _ zt_X11_write rfl _ _ rfl) (Or.inl rfl) ?_
          exact k3 hc6 hc13 hc17 hc25 hb27
        refine ⟨fun hc30 => ?_, fun hc30 => ?_⟩
        · have hc30 : (h 2 1).2 = 1 := hc30
          refine v_load (v := (1, v)) (hT _ zt_X9_cutToSort rfl _ _ rfl) rfl rfl ?_
          refine v_l2i (w := (vI v)) (hT _ zt_X9_cutToSort rfl _ _ rfl) rfl ?_
          refine v_un (w := (vC ((vI v)))) (hT _ zt_X9_cutToSort rfl _ _ rfl) rfl ?_
          refine v_i2l (hT _ zt_X9_cutToSort rfl _ _ rfl) ?_
          refine v_ret (hT _ zt_X9_cutToSort rfl _ _ rfl) (Or.inr rfl) ?_
          show vP D T N 195 40 h [some (2, 0), some (0, 0), some (0, b), some (1, v), none, some (0, 0), some (2, 2)] [(1, (vC ((vI v)))), (0, b), (2, 3)] _
          refine v_ast (r := 3) (hT _ zt_X11_write rfl _ _ rfl) rfl rfl (fun ha31 hb32 hf33 => ?_)
          refine v_load (v := (2, 0)) (hT _ zt_X11_write rfl _ _ rfl) rfl rfl ?_
          refine v_call (w := 1) [some (2, 0)] hO (hT _ zt_X11_write rfl _ _ rfl) rfl rfl ?_
          refine v_load (v := (2, 0)) (hT _ zt_X11_accept rfl _ _ rfl) rfl rfl ?_
          refine v_push (0) (hT _ zt_X11_accept rfl _ _ rfl) rfl ?_
          refine v_putf (r := 0) hO (hT _ zt_X11_accept rfl _ _ rfl) rfl (fun hf34 => ?_)
          refine v_push (1) (hT _ zt_X11_accept rfl _ _ rfl) rfl ?_
          refine v_ret (hT _ zt_X11_accept rfl _ _ rfl) (Or.inl rfl) ?_
          show vP D T N 195 45 (zset (zset h 3 b.toNat (1, (vC ((vI v))))) 0 0 (0, 0)) [some (2, 0), some (0, 0), some (0, b), some (1, v), none, some (0, 0), some (2, 2)] [(0, 1)] _
          refine v_ret (hT _ zt_X11_write rfl _ _ rfl) (Or.inl rfl) ?_
          exact k4 hc6 hc13 hc17 hc25 hc30 hb32
        refine ⟨fun hc35 => ?_, fun hc35 => ?_⟩
        · have hc35 : (h 2 1).2 = 2 := hc35
          refine v_load (v := (1, v)) (hT _ zt_X9_cutToSort rfl _ _ rfl) rfl rfl ?_
          refine v_l2i (w := (vI v)) (hT _ zt_X9_cutToSort rfl _ _ rfl) rfl ?_
          refine v_i2l (hT _ zt_X9_cutToSort rfl _ _ rfl) ?_
          refine v_ret (hT _ zt_X9_cutToSort rfl _ _ rfl) (Or.inr rfl) ?_
          show vP D T N 195 40 h [some (2, 0), some (0, 0), some (0, b), some (1, v), none, some (0, 0), some (2, 2)] [(1, (vI v)), (0, b), (2, 3)] _
          refine v_ast (r := 3) (hT _ zt_X11_write rfl _ _ rfl) rfl rfl (fun ha36 hb37 hf38 => ?_)
          refine v_load (v := (2, 0)) (hT _ zt_X11_write rfl _ _ rfl) rfl rfl ?_
          refine v_call (w := 1) [some (2, 0)] hO (hT _ zt_X11_write rfl _ _ rfl) rfl rfl ?_
          refine v_load (v := (2, 0)) (hT _ zt_X11_accept rfl _ _ rfl) rfl rfl ?_
          refine v_push (0) (hT _ zt_X11_accept rfl _ _ rfl) rfl ?_
          refine v_putf (r := 0) hO (hT _ zt_X11_accept rfl _ _ rfl) rfl (fun hf39 => ?_)
          refine v_push (1) (hT _ zt_X11_accept rfl _ _ rfl) rfl ?_
          refine v_ret (hT _ zt_X11_accept rfl _ _ rfl) (Or.inl rfl) ?_
          show vP D T N 195 45 (zset (zset h 3 b.toNat (1, (vI v))) 0 0 (0, 0)) [some (2, 0), some (0, 0), some (0, b), some (1, v), none, some (0, 0), some (2, 2)] [(0, 1)] _
          refine v_ret (hT _ zt_X11_write rfl _ _ rfl) (Or.inl rfl) ?_
          exact k5 hc6 hc13 hc17 hc25 hc30 hc35 hb37
        show vP _ _ _ _ _ _ _ _ _
        refine v_load (v := (1, v)) (hT _ zt_X9_cutToSort rfl _ _ rfl) rfl rfl ?_
        refine v_ret (hT _ zt_X9_cutToSort rfl _ _ rfl) (Or.inr rfl) ?_
        show vP D T N 195 40 h [some (2, 0), some (0, 0), some (0, b), some (1, v), none, some (0, 0), some (2, 2)] [(1, v), (0, b), (2, 3)] _
        refine v_ast (r := 3) (hT _ zt_X11_write rfl _ _ rfl) rfl rfl (fun ha40 hb41 hf42 => ?_)
        refine v_load (v := (2, 0)) (hT _ zt_X11_write rfl _ _ rfl) rfl rfl ?_
        refine v_call (w := 1) [some (2, 0)] hO (hT _ zt_X11_write rfl _ _ rfl) rfl rfl ?_
        refine v_load (v := (2, 0)) (hT _ zt_X11_accept rfl _ _ rfl) rfl rfl ?_
        refine v_push (0) (hT _ zt_X11_accept rfl _ _ rfl) rfl ?_
        refine v_putf (r := 0) hO (hT _ zt_X11_accept rfl _ _ rfl) rfl (fun hf43 => ?_)
        refine v_push (1) (hT _ zt_X11_accept rfl _ _ rfl) rfl ?_
        refine v_ret (hT _ zt_X11_accept rfl _ _ rfl) (Or.inl rfl) ?_
        show vP D T N 195 45 (zset (zset h 3 b.toNat (1, v)) 0 0 (0, 0)) [some (2, 0), some (0, 0), some (0, b), some (1, v), none, some (0, 0), some (2, 2)] [(0, 1)] _
        refine v_ret (hT _ zt_X11_write rfl _ _ rfl) (Or.inl rfl) ?_
        exact k6 hc6 hc13 hc17 hc25 hc30 hc35 hb41
theorem y_X11_write_1 {D : zD} {T : zT} (hT : hTab T) (hO : vOK T) {N : Nat} {h : zH} {Q : zR → Prop} (b v : Int) (hv0 : zHv h) (hb : 0 ≤ (h 4 2).2 ∧ (h 4 2).2 ≤ 60)
    (k0 : ((h 4 1).2 = -1) → Q (zset h 0 0 (0, 3), some (0, 0)))
    (k1 : ((h 4 1).2 ≠ -1) → (b < 0) → Q (zset h 0 0 (0, 4), some (0, 0)))
    (k2 : ((h 4 1).2 ≠ -1) → (0 ≤ b) → (((h 4 2).2 - 1) < b) → Q (zset h 0 0 (0, 4), some (0, 0)))
    (k3 : ((h 4 1).2 ≠ -1) → (0 ≤ b) → (b ≤ ((h 4 2).2 - 1)) → ((h 4 1).2 = 0) → (b < 60) → Q (zset (zset h 5 b.toNat (1, (vB ((vI v))))) 0 0 (0, 0), some (0, 1)))
    (k4 : ((h 4 1).2 ≠ -1) → (0 ≤ b) → (b ≤ ((h 4 2).2 - 1)) → ((h 4 1).2 ≠ 0) → ((h 4 1).2 = 1) → (b < 60) → Q (zset (zset h 5 b.toNat (1, (vC ((vI v))))) 0 0 (0, 0), some (0, 1)))
    (k5 : ((h 4 1).2 ≠ -1) → (0 ≤ b) → (b ≤ ((h 4 2).2 - 1)) → ((h 4 1).2 ≠ 0) → ((h 4 1).2 ≠ 1) → ((h 4 1).2 = 2) → (b < 60) → Q (zset (zset h 5 b.toNat (1, (vI v))) 0 0 (0, 0), some (0, 1)))
    (k6 : ((h 4 1).2 ≠ -1) → (0 ≤ b) → (b ≤ ((h 4 2).2 - 1)) → ((h 4 1).2 ≠ 0) → ((h 4 1).2 ≠ 1) → ((h 4 1).2 ≠ 2) → (b < 60) → Q (zset (zset h 5 b.toNat (1, v)) 0 0 (0, 0), some (0, 1))) :
    vP D T N 195 0 h [some (2, 0), some (0, 1), some (0, b), some (1, v), none, none, none] [] Q := by
  refine v_load (v := (2, 0)) (hT _ zt_X11_write rfl _ _ rfl) rfl rfl ?_
  refine v_load (v := (0, 1)) (hT _ zt_X11_write rfl _ _ rfl) rfl rfl ?_
  refine v_load (v := (0, b)) (hT _ zt_X11_write rfl _ _ rfl) rfl rfl ?_
  refine v_call (w := 3) [some (2, 0), some (0, 1), some (0, b)] hO (hT _ zt_X11_write rfl _ _ rfl) rfl rfl ?_
  refine v_load (v := (0, 1)) (hT _ zt_X11_placeStatus rfl _ _ rfl) rfl rfl ?_
  refine v_call (w := 1) [some (0, 1)] hO (hT _ zt_X11_placeStatus rfl _ _ rfl) rfl rfl ?_
  refine v_load (v := (0, 1)) (hT _ zt_X11_isTray rfl _ _ rfl) rfl rfl ?_
  refine v_if (hT _ zt_X11_isTray rfl _ _ rfl) (fun hc1 => absurd (show (1 : Int) < 0 from hc1) (by decide)) (fun _ => ?_)
  refine v_load (v := (0, 1)) (hT _ zt_X11_isTray rfl _ _ rfl) rfl rfl ?_
  refine v_push (4) (hT _ zt_X11_isTray rfl _ _ rfl) rfl ?_
  refine v_ic (hT _ zt_X11_isTray rfl _ _ rfl) (fun _ => ?_) (fun hc2 => absurd (show (1 : Int) < 4 from (by decide)) hc2)
  refine v_push (1) (hT _ zt_X11_isTray rfl _ _ rfl) rfl ?_
  refine v_goto (hT _ zt_X11_isTray rfl _ _ rfl) ?_
  refine v_ret (hT _ zt_X11_isTray rfl _ _ rfl) (Or.inl rfl) ?_
  show vP D T N 171 4 h [some (2, 0), some (0, 1), some (0, b)] [(0, 1)] _
  refine v_if (hT _ zt_X11_placeStatus rfl _ _ rfl) (fun hc3 => absurd (show (1 : Int) = 0 from hc3) (by decide)) (fun _ => ?_)
  refine v_load (v := (2, 0)) (hT _ zt_X11_placeStatus rfl _ _ rfl) rfl rfl ?_
  refine v_getR (c := 1) (r := 0) (hT _ zt_X11_placeStatus rfl _ _ rfl) rfl rfl rfl ?_
  refine v_load (v := (0, 1)) (hT _ zt_X11_placeStatus rfl _ _ rfl) rfl rfl ?_
  refine v_aldV (v := (2, 4)) (r := 1) (hT _ zt_X11_placeStatus rfl _ _ rfl) rfl rfl (fun hv _ _ => hv.ref rfl) (fun ha4 hb5 => ?_)
  refine v_call (w := 1) [some (2, 4)] hO (hT _ zt_X11_placeStatus rfl _ _ rfl) rfl rfl ?_
  refine v_load (v := (2, 4)) (hT _ zt_X9_isMissing rfl _ _ rfl) rfl rfl ?_
  refine v_getI (t := 0) (r := 4) (hT _ zt_X9_isMissing rfl _ _ rfl) rfl rfl rfl ?_
  refine v_push (-1) (hT _ zt_X9_isMissing rfl _ _ rfl) rfl ?_
  refine v_ic (hT _ zt_X9_isMissing rfl _ _ rfl) (fun hc6 => ?_) (fun hc6 => ?_)
  · have hc6 : (h 4 1).2 = -1 := hc6
    refine v_push (1) (hT _ zt_X9_isMissing rfl _ _ rfl) rfl ?_
    refine v_goto (hT _ zt_X9_isMissing rfl _ _ rfl) ?_
    refine v_ret (hT _ zt_X9_isMissing rfl _ _ rfl) (Or.inl rfl) ?_
    show vP D T N 171 18 h [some (2, 0), some (0, 1), some (0, b)] [(0, 1)] _
    refine v_if (hT _ zt_X11_placeStatus rfl _ _ rfl) (fun hc7 => absurd (show (1 : Int) = 0 from hc7) (by decide)) (fun _ => ?_)
    refine v_push (3) (hT _ zt_X11_placeStatus rfl _ _ rfl) rfl ?_
    refine v_ret (hT _ zt_X11_placeStatus rfl _ _ rfl) (Or.inl rfl) ?_
    show vP D T N 195 6 h [some (2, 0), some (0, 1), some (0, b), some (1, v), none, none, none] [(0, 3)] _
    refine v_store1 [some (2, 0), some (0, 1), some (0, b), some (1, v), none, some (0, 3), none] (hT _ zt_X11_write rfl _ _ rfl) ⟨rfl, Nat.ne_of_beq_eq_false rfl⟩ (Nat.le_of_ble_eq_true rfl) rfl ?_
    refine v_load (v := (0, 3)) (hT _ zt_X11_write rfl _ _ rfl) rfl rfl ?_
    refine v_if (hT _ zt_X11_write rfl _ _ rfl) (fun hc8 => absurd (show (3 : Int) = 0 from hc8) (by decide)) (fun _ => ?_)
    refine v_load (v := (2, 0)) (hT _ zt_X11_write rfl _ _ rfl) rfl rfl ?_
    refine v_load (v := (0, 3)) (hT _ zt_X11_write rfl _ _ rfl) rfl rfl ?_
    refine v_call (w := 2) [some (2, 0), some (0, 3)] hO (hT _ zt_X11_write rfl _ _ rfl) rfl rfl ?_
    refine v_load (v := (2, 0)) (hT _ zt_X11_refuse rfl _ _ rfl) rfl rfl ?_
    refine v_load (v := (0, 3)) (hT _ zt_X11_refuse rfl _ _ rfl) rfl rfl ?_
    refine v_putf (r := 0) hO (hT _ zt_X11_refuse rfl _ _ rfl) rfl (fun hf9 => ?_)
    refine v_push (0) (hT _ zt_X11_refuse rfl _ _ rfl) rfl ?_
    refine v_ret (hT _ zt_X11_refuse rfl _ _ rfl) (Or.inl rfl) ?_
    show vP D T N 195 19 (zset h 0 0 (0, 3)) [some (2, 0), some (0, 1), some (0, b), some (1, v), none, some (0, 3), none] [(0, 0)] _
    refine v_ret (hT _ zt_X11_write rfl _ _ rfl) (Or.inl rfl) ?_
    exact k0 hc6
  · have hc6 : (h 4 1).2 ≠ -1 := hc6
    refine v_push (0) (hT _ zt_X9_isMissing rfl _ _ rfl) rfl ?_
    refine v_ret (hT _ zt_X9_isMissing rfl _ _ rfl) (Or.inl rfl) ?_
    show vP D T N 171 18 h [some (2, 0), some (0, 1), some (0, b)] [(0, 0)] _
    refine v_if (hT _ zt_X11_placeStatus rfl _ _ rfl) (fun _ => ?_) (fun hc10 => absurd (show (0 : Int) = 0 from (by decide)) hc10)
    refine v_load (v := (2, 0)) (hT _ zt_X11_placeStatus rfl _ _ rfl) rfl rfl ?_
    refine v_getR (c := 1) (r := 0) (hT _ zt_X11_placeStatus rfl _ _ rfl) rfl rfl rfl ?_
    refine v_load (v := (0, 1)) (hT _ zt_X11_placeStatus rfl _ _ rfl) rfl rfl ?_
    refine v_aldV (v := (2, 4)) (r := 1) (hT _ zt_X11_placeStatus rfl _ _ rfl) rfl rfl (fun hv _ _ => hv.ref rfl) (fun ha11 hb12 => ?_)
    refine v_load (v := (0, b)) (hT _ zt_X11_placeStatus rfl _ _ rfl) rfl rfl ?_
    refine v_push (1) (hT _ zt_X11_placeStatus rfl _ _ rfl) rfl ?_
    refine v_call (w := 3) [some (2, 4), some (0, b), some (0, 1)] hO (hT _ zt_X11_placeStatus rfl _ _ rfl) rfl rfl ?_
    refine v_load (v := (0, b)) (hT _ zt_X9_hasPlaces rfl _ _ rfl) rfl rfl ?_
    refine v_if (hT _ zt_X9_hasPlaces rfl _ _ rfl) (fun hc13 => ?_) (fun hc13 => ?_)
    · have hc13 : b < 0 := hc13
      refine v_push (0) (hT _ zt_X9_hasPlaces rfl _ _ rfl) rfl ?_
      refine v_ret (hT _ zt_X9_hasPlaces rfl _ _ rfl) (Or.inl rfl) ?_
      show vP D T N 171 34 h [some (2, 0), some (0, 1), some (0, b)] [(0, 0)] _
      refine v_if (hT _ zt_X11_placeStatus rfl _ _ rfl) (fun _ => ?_) (fun hc14 => absurd (show (0 : Int) = 0 from (by decide)) hc14)
      refine v_push (4) (hT _ zt_X11_placeStatus rfl _ _ rfl) rfl ?_
      refine v_ret (hT _ zt_X11_placeStatus rfl _ _ rfl) (Or.inl rfl) ?_
      show vP D T N 195 6 h [some (2, 0), some (0, 1), some (0, b), some (1, v), none, none, none] [(0, 4)] _
      refine v_store1 [some (2, 0), some (0, 1), some (0, b), some (1, v), none, some (0, 4), none] (hT _ zt_X11_write rfl _ _ rfl) ⟨rfl, Nat.ne_of_beq_eq_false rfl⟩ (Nat.le_of_ble_eq_true rfl) rfl ?_
      refine v_load (v := (0, 4)) (hT _ zt_X11_write rfl _ _ rfl) rfl rfl ?_
      refine v_if (hT _ zt_X11_write rfl _ _ rfl) (fun hc15 => absurd (show (4 : Int) = 0 from hc15) (by decide)) (fun _ => ?_)
      refine v_load (v := (2, 0)) (hT _ zt_X11_write rfl _ _ rfl) rfl rfl ?_
      refine v_load (v := (0, 4)) (hT _ zt_X11_write rfl _ _ rfl) rfl rfl ?_
      refine v_call (w := 2) [some (2, 0), some (0, 4)] hO (hT _ zt_X11_write rfl _ _ rfl) rfl rfl ?_
      refine v_load (v := (2, 0)) (hT _ zt_X11_refuse rfl _ _ rfl) rfl rfl ?_
      refine v_load (v := (0, 4)) (hT _ zt_X11_refuse rfl _ _ rfl) rfl rfl ?_
      refine v_putf (r := 0) hO (hT _ zt_X11_refuse rfl _ _ rfl) rfl (fun hf16 => ?_)
      refine v_push (0) (hT _ zt_X11_refuse rfl _ _ rfl) rfl ?_
      refine v_ret (hT _ zt_X11_refuse rfl _ _ rfl) (Or.inl rfl) ?_
      show vP D T N 195 19 (zset h 0 0 (0, 4)) [some (2, 0), some (0, 1), some (0, b), some (1, v), none, some (0, 4), none] [(0, 0)] _
      refine v_ret (hT _ zt_X11_write rfl _ _ rfl) (Or.inl rfl) ?_
      exact k1 hc6 hc13
    · have hc13 : 0 ≤ b := Int.not_lt.mp hc13
      refine v_load (v := (0, b)) (hT _ zt_X9_hasPlaces rfl _ _ rfl) rfl rfl ?_
      refine v_load (v := (2, 4)) (hT _ zt_X9_hasPlaces rfl _ _ rfl) rfl rfl ?_
      refine v_getI (t := 0) (r := 4) (hT _ zt_X9_hasPlaces rfl _ _ rfl) rfl rfl rfl ?_
      refine v_load (v := (0, 1)) (hT _ zt_X9_hasPlaces rfl _ _ rfl) rfl rfl ?_
      refine v_bin (w := ((h 4 2).2 - 1)) (hT _ zt_X9_hasPlaces rfl _ _ rfl) (hq_sub (by omega) (by omega)) ?_
      refine v_ic (hT _ zt_X9_hasPlaces rfl _ _ rfl) (fun hc17 => ?_) (fun hc17 => ?_)
      · have hc17 : ((h 4 2).2 - 1) < b := hc17
        refine v_push (0) (hT _ zt_X9_hasPlaces rfl _ _ rfl) rfl ?_
        refine v_ret (hT _ zt_X9_hasPlaces rfl _ _ rfl) (Or.inl rfl) ?_
        show vP D T N 171 34 h [some (2, 0), some (0, 1), some (0, b)] [(0, 0)] _
        refine v_if (hT _ zt_X11_placeStatus rfl _ _ rfl) (fun _ => ?_) (fun hc18 => absurd (show (0 : Int) = 0 from (by decide)) hc18)
        refine v_push (4) (hT _ zt_X11_placeStatus rfl _ _ rfl) rfl ?_
        refine v_ret (hT _ zt_X11_placeStatus rfl _ _ rfl) (Or.inl rfl) ?_
        show vP D T N 195 6 h [some (2, 0), some (0, 1), some (0, b), some (1, v), none, none, none] [(0, 4)] _
        refine v_store1 [some (2, 0), some (0, 1), some (0, b), some (1, v), none, some (0, 4), none] (hT _ zt_X11_write rfl _ _ rfl) ⟨rfl, Nat.ne_of_beq_eq_false rfl⟩ (Nat.le_of_ble_eq_true rfl) rfl ?_
        refine v_load (v := (0, 4)) (hT _ zt_X11_write rfl _ _ rfl) rfl rfl ?_
        refine v_if (hT _ zt_X11_write rfl _ _ rfl) (fun hc19 => absurd (show (4 : Int) = 0 from hc19) (by decide)) (fun _ => ?_)
        refine v_load (v := (2, 0)) (hT _ zt_X11_write rfl _ _ rfl) rfl rfl ?_
        refine v_load (v := (0, 4)) (hT _ zt_X11_write rfl _ _ rfl) rfl rfl ?_
        refine v_call (w := 2) [some (2, 0), some (0, 4)] hO (hT _ zt_X11_write rfl _ _ rfl) rfl rfl ?_
        refine v_load (v := (2, 0)) (hT _ zt_X11_refuse rfl _ _ rfl) rfl rfl ?_
        refine v_load (v := (0, 4)) (hT _ zt_X11_refuse rfl _ _ rfl) rfl rfl ?_
        refine v_putf (r := 0) hO (hT _ zt_X11_refuse rfl _ _ rfl) rfl (fun hf20 => ?_)
        refine v_push (0) (hT _ zt_X11_refuse rfl _ _ rfl) rfl ?_
        refine v_ret (hT _ zt_X11_refuse rfl _ _ rfl) (Or.inl rfl) ?_
        show vP D T N 195 19 (zset h 0 0 (0, 4)) [some (2, 0), some (0, 1), some (0, b), some (1, v), none, some (0, 4), none] [(0, 0)] _
        refine v_ret (hT _ zt_X11_write rfl _ _ rfl) (Or.inl rfl) ?_
        exact k2 hc6 hc13 hc17
      · have hc17 : b ≤ ((h 4 2).2 - 1) := Int.not_lt.mp hc17
        refine v_push (1) (hT _ zt_X9_hasPlaces rfl _ _ rfl) rfl ?_
        refine v_goto (hT _ zt_X9_hasPlaces rfl _ _ rfl) ?_
        refine v_ret (hT _ zt_X9_hasPlaces rfl _ _ rfl) (Or.inl rfl) ?_
        show vP D T N 171 34 h [some (2, 0), some (0, 1), some (0, b)] [(0, 1)] _
        refine v_if (hT _ zt_X11_placeStatus rfl _ _ rfl) (fun hc21 => absurd (show (1 : Int) = 0 from hc21) (by decide)) (fun _ => ?_)
        refine v_push (0) (hT _ zt_X11_placeStatus rfl _ _ rfl) rfl ?_
        refine v_goto (hT _ zt_X11_placeStatus rfl _ _ rfl) ?_
        refine v_ret (hT _ zt_X11_placeStatus rfl _ _ rfl) (Or.inl rfl) ?_
        show vP D T N 195 6 h [some (2, 0), some (0, 1), some (0, b), some (1, v), none, none, none] [(0, 0)] _
        refine v_store1 [some (2, 0), some (0, 1), some (0, b), some (1, v), none, some (0, 0), none] (hT _ zt_X11_write rfl _ _ rfl) ⟨rfl, Nat.ne_of_beq_eq_false rfl⟩ (Nat.le_of_ble_eq_true rfl) rfl ?_
        refine v_load (v := (0, 0)) (hT _ zt_X11_write rfl _ _ rfl) rfl rfl ?_
        refine v_if (hT _ zt_X11_write rfl _ _ rfl) (fun _ => ?_) (fun hc22 => absurd (show (0 : Int) = 0 from (by decide)) hc22)
        refine v_load (v := (2, 0)) (hT _ zt_X11_write rfl _ _ rfl) rfl rfl ?_
        refine v_getR (c := 1) (r := 0) (hT _ zt_X11_write rfl _ _ rfl) rfl rfl rfl ?_
        refine v_load (v := (0, 1)) (hT _ zt_X11_write rfl _ _ rfl) rfl rfl ?_
        refine v_aldV (v := (2, 4)) (r := 1) (hT _ zt_X11_write rfl _ _ rfl) rfl rfl (fun hv _ _ => hv.ref rfl) (fun ha23 hb24 => ?_)
        refine v_store1 [some (2, 0), some (0, 1), some (0, b), some (1, v), none, some (0, 0), some (2, 4)] (hT _ zt_X11_write rfl _ _ rfl) ⟨rfl, Nat.ne_of_beq_eq_false rfl⟩ (Nat.le_of_ble_eq_true rfl) rfl ?_
        refine v_load (v := (2, 4)) (hT _ zt_X11_write rfl _ _ rfl) rfl rfl ?_
        refine v_getR (c := 5) (r := 4) (hT _ zt_X11_write rfl _ _ rfl) rfl rfl rfl ?_
        refine v_load (v := (0, b)) (hT _ zt_X11_write rfl _ _ rfl) rfl rfl ?_
        refine v_load (v := (2, 4)) (hT _ zt_X11_write rfl _ _ rfl) rfl rfl ?_
        refine v_load (v := (1, v)) (hT _ zt_X11_write rfl _ _ rfl) rfl rfl ?_
        refine v_call (w := 3) [some (2, 4), some (1, v), none] hO (hT _ zt_X11_write rfl _ _ rfl) rfl rfl ?_
        refine v_load (v := (2, 4)) (hT _ zt_X9_cutToSort rfl _ _ rfl) rfl rfl ?_
        refine v_getI (t := 0) (r := 4) (hT _ zt_X9_cutToSort rfl _ _ rfl) rfl rfl rfl ?_
        refine v_sw (hT _ zt_X9_cutToSort rfl _ _ rfl) ?_
        refine ⟨fun hc25 => ?_, fun hc25 => ?_⟩
        · have hc25 : (h 4 1).2 = 0 := hc25
          refine v_load (v := (1, v)) (hT _ zt_X9_cutToSort rfl _ _ rfl) rfl rfl ?_
          refine v_l2i (w := (vI v)) (hT _ zt_X9_cutToSort rfl _ _ rfl) rfl ?_
          refine v_un (w := (vB ((vI v)))) (hT _ zt_X9_cutToSort rfl _ _ rfl) rfl ?_
          refine v_i2l (hT _ zt_X9_cutToSort rfl _ _ rfl) ?_
          refine v_ret (hT _ zt_X9_cutToSort rfl _ _ rfl) (Or.inr rfl) ?_
          show vP D T N 195 40 h [some (2, 0), some (0, 1), some (0, b), some (1, v), none, some (0, 0), some (2, 4)] [(1, (vB ((vI v)))), (0, b), (2, 5)] _
          refine v_ast (r := 5) (hT _ zt_X11_write rfl _ _ rfl) rfl rfl (fun ha26 hb27 hf28 => ?_)
          refine v_load (v := (2, 0)) (hT _ zt_X11_write rfl _ _ rfl) rfl rfl ?_
          refine v_call (w := 1) [some (2, 0)] hO (hT _ zt_X11_write rfl _ _ rfl) rfl rfl ?_
          refine v_load (v := (2, 0)) (hT _ zt_X11_accept rfl _ _ rfl) rfl rfl ?_
          refine v_push (0) (hT _ zt_X11_accept rfl _ _ rfl) rfl ?_
          refine v_putf (r := 0) hO (hT _ zt_X11_accept rfl _ _ rfl) rfl (fun hf29 => ?_)
          refine v_push (1) (hT _ zt_X11_accept rfl _ _ rfl) rfl ?_
          refine v_ret (hT _ zt_X11_accept rfl _ _ rfl) (Or.inl rfl) ?_
          show vP D T N 195 45 (zset (zset h 5 b.toNat (1, (vB ((vI v))))) 0 0 (0, 0)) [some (2, 0), some (0, 1), some (0, b), some (1, v), none, some (0, 0), some (2, 4)] [(0, 1)] _
          refine v_ret (hT _ zt_X11_write rfl _ _ rfl) (Or.inl rfl) ?_
          exact k3 hc6 hc13 hc17 hc25 hb27
        refine ⟨fun hc30 => ?_, fun hc30 => ?_⟩
        · have hc30 : (h 4 1).2 = 1 := hc30
          refine v_load (v := (1, v)) (hT _ zt_X9_cutToSort rfl _ _ rfl) rfl rfl ?_
          refine v_l2i (w := (vI v)) (hT _ zt_X9_cutToSort rfl _ _ rfl) rfl ?_
          refine v_un (w := (vC ((vI v)))) (hT _ zt_X9_cutToSort rfl _ _ rfl) rfl ?_
          refine v_i2l (hT _ zt_X9_cutToSort rfl _ _ rfl) ?_
          refine v_ret (hT _ zt_X9_cutToSort rfl _ _ rfl) (Or.inr rfl) ?_
          show vP D T N 195 40 h [some (2, 0), some (0, 1), some (0, b), some (1, v), none, some (0, 0), some (2, 4)] [(1, (vC ((vI v)))), (0, b), (2, 5)] _
          refine v_ast (r := 5) (hT _ zt_X11_write rfl _ _ rfl) rfl rfl (fun ha31 hb32 hf33 => ?_)
          refine v_load (v := (2, 0)) (hT _ zt_X11_write rfl _ _ rfl) rfl rfl ?_
          refine v_call (w := 1) [some (2, 0)] hO (hT _ zt_X11_write rfl _ _ rfl) rfl rfl ?_
          refine v_load (v := (2, 0)) (hT _ zt_X11_accept rfl _ _ rfl) rfl rfl ?_
          refine v_push (0) (hT _ zt_X11_accept rfl _ _ rfl) rfl ?_
          refine v_putf (r := 0) hO (hT _ zt_X11_accept rfl _ _ rfl) rfl (fun hf34 => ?_)
          refine v_push (1) (hT _ zt_X11_accept rfl _ _ rfl) rfl ?_
          refine v_ret (hT _ zt_X11_accept rfl _ _ rfl) (Or.inl rfl) ?_
          show vP D T N 195 45 (zset (zset h 5 b.toNat (1, (vC ((vI v))))) 0 0 (0, 0)) [some (2, 0), some (0, 1), some (0, b), some (1, v), none, some (0, 0), some (2, 4)] [(0, 1)] _
          refine v_ret (hT _ zt_X11_write rfl _ _ rfl) (Or.inl rfl) ?_
          exact k4 hc6 hc13 hc17 hc25 hc30 hb32
        refine ⟨fun hc35 => ?_, fun hc35 => ?_⟩
        · have hc35 : (h 4 1).2 = 2 := hc35
          refine v_load (v := (1, v)) (hT _ zt_X9_cutToSort rfl _ _ rfl) rfl rfl ?_
          refine v_l2i (w := (vI v)) (hT _ zt_X9_cutToSort rfl _ _ rfl) rfl ?_
          refine v_i2l (hT _ zt_X9_cutToSort rfl _ _ rfl) ?_
          refine v_ret (hT _ zt_X9_cutToSort rfl _ _ rfl) (Or.inr rfl) ?_
          show vP D T N 195 40 h [some (2, 0), some (0, 1), some (0, b), some (1, v), none, some (0, 0), some (2, 4)] [(1, (vI v)), (0, b), (2, 5)] _
          refine v_ast (r := 5) (hT _ zt_X11_write rfl _ _ rfl) rfl rfl (fun ha36 hb37 hf38 => ?_)
          refine v_load (v := (2, 0)) (hT _ zt_X11_write rfl _ _ rfl) rfl rfl ?_
          refine v_call (w := 1) [some (2, 0)] hO (hT _ zt_X11_write rfl _ _ rfl) rfl rfl ?_
          refine v_load (v := (2, 0)) (hT _ zt_X11_accept rfl _ _ rfl) rfl rfl ?_
          refine v_push (0) (hT _ zt_X11_accept rfl _ _ rfl) rfl ?_
          refine v_putf (r := 0) hO (hT _ zt_X11_accept rfl _ _ rfl) rfl (fun hf39 => ?_)
          refine v_push (1) (hT _ zt_X11_accept rfl _ _ rfl) rfl ?_
          refine v_ret (hT _ zt_X11_accept rfl _ _ rfl) (Or.inl rfl) ?_
          show vP D T N 195 45 (zset (zset h 5 b.toNat (1, (vI v))) 0 0 (0, 0)) [some (2, 0), some (0, 1), some (0, b), some (1, v), none, some (0, 0), some (2, 4)] [(0, 1)] _
          refine v_ret (hT _ zt_X11_write rfl _ _ rfl) (Or.inl rfl) ?_
          exact k5 hc6 hc13 hc17 hc25 hc30 hc35 hb37
        show vP _ _ _ _ _ _ _ _ _
        refine v_load (v := (1, v)) (hT _ zt_X9_cutToSort rfl _ _ rfl) rfl rfl ?_
        refine v_ret (hT _ zt_X9_cutToSort rfl _ _ rfl) (Or.inr rfl) ?_
        show vP D T N 195 40 h [some (2, 0), some (0, 1), some (0, b), some (1, v), none, some (0, 0), some (2, 4)] [(1, v), (0, b), (2, 5)] _
        refine v_ast (r := 5) (hT _ zt_X11_write rfl _ _ rfl) rfl rfl (fun ha40 hb41 hf42 => ?_)
        refine v_load (v := (2, 0)) (hT _ zt_X11_write rfl _ _ rfl) rfl rfl ?_
        refine v_call (w := 1) [some (2, 0)] hO (hT _ zt_X11_write rfl _ _ rfl) rfl rfl ?_
        refine v_load (v := (2, 0)) (hT _ zt_X11_accept rfl _ _ rfl) rfl rfl ?_
        refine v_push (0) (hT _ zt_X11_accept rfl _ _ rfl) rfl ?_
        refine v_putf (r := 0) hO (hT _ zt_X11_accept rfl _ _ rfl) rfl (fun hf43 => ?_)
        refine v_push (1) (hT _ zt_X11_accept rfl _ _ rfl) rfl ?_
        refine v_ret (hT _ zt_X11_accept rfl _ _ rfl) (Or.inl rfl) ?_
        show vP D T N 195 45 (zset (zset h 5 b.toNat (1, v)) 0 0 (0, 0)) [some (2, 0), some (0, 1), some (0, b), some (1, v), none, some (0, 0), some (2, 4)] [(0, 1)] _
        refine v_ret (hT _ zt_X11_write rfl _ _ rfl) (Or.inl rfl) ?_
        exact k6 hc6 hc13 hc17 hc25 hc30 hc35 hb41
theorem y_X11_write_2 {D : zD} {T : zT} (hT : hTab T) (hO : vOK T) {N : Nat} {h : zH} {Q : zR → Prop} (b v : Int) (hv0 : zHv h) (hb : 0 ≤ (h 6 2).2 ∧ (h 6 2).2 ≤ 60)
    (k0 : ((h 6 1).2 = -1) → Q (zset h 0 0 (0, 3), some (0, 0)))
    (k1 : ((h 6 1).2 ≠ -1) → (b < 0) → Q (zset h 0 0 (0, 4), some (0, 0)))
    (k2 : ((h 6 1).2 ≠ -1) → (0 ≤ b) → (((h 6 2).2 - 1) < b) → Q (zset h 0 0 (0, 4), some (0, 0)))
    (k3 : ((h 6 1).2 ≠ -1) → (0 ≤ b) → (b ≤ ((h 6 2).2 - 1)) → ((h 6 1).2 = 0) → (b < 60) → Q (zset (zset h 7 b.toNat (1, (vB ((vI v))))) 0 0 (0, 0), some (0, 1)))
    (k4 : ((h 6 1).2 ≠ -1) → (0 ≤ b) → (b ≤ ((h 6 2).2 - 1)) → ((h 6 1).2 ≠ 0) → ((h 6 1).2 = 1) → (b < 60) → Q (zset (zset h 7 b.toNat (1, (vC ((vI v))))) 0 0 (0, 0), some (0, 1)))
    (k5 : ((h 6 1).2 ≠ -1) → (0 ≤ b) → (b ≤ ((h 6 2).2 - 1)) → ((h 6 1).2 ≠ 0) → ((h 6 1).2 ≠ 1) → ((h 6 1).2 = 2) → (b < 60) → Q (zset (zset h 7 b.toNat (1, (vI v))) 0 0 (0, 0), some (0, 1)))
    (k6 : ((h 6 1).2 ≠ -1) → (0 ≤ b) → (b ≤ ((h 6 2).2 - 1)) → ((h 6 1).2 ≠ 0) → ((h 6 1).2 ≠ 1) → ((h 6 1).2 ≠ 2) → (b < 60) → Q (zset (zset h 7 b.toNat (1, v)) 0 0 (0, 0), some (0, 1))) :
    vP D T N 195 0 h [some (2, 0), some (0, 2), some (0, b), some (1, v), none, none, none] [] Q := by
  refine v_load (v := (2, 0)) (hT _ zt_X11_write rfl _ _ rfl) rfl rfl ?_
  refine v_load (v := (0, 2)) (hT _ zt_X11_write rfl _ _ rfl) rfl rfl ?_
  refine v_load (v := (0, b)) (hT _ zt_X11_write rfl _ _ rfl) rfl rfl ?_
  refine v_call (w := 3) [some (2, 0), some (0, 2), some (0, b)] hO (hT _ zt_X11_write rfl _ _ rfl) rfl rfl ?_
  refine v_load (v := (0, 2)) (hT _ zt_X11_placeStatus rfl _ _ rfl) rfl rfl ?_
  refine v_call (w := 1) [some (0, 2)] hO (hT _ zt_X11_placeStatus rfl _ _ rfl) rfl rfl ?_
  refine v_load (v := (0, 2)) (hT _ zt_X11_isTray rfl _ _ rfl) rfl rfl ?_
  refine v_if (hT _ zt_X11_isTray rfl _ _ rfl) (fun hc1 => absurd (show (2 : Int) < 0 from hc1) (by decide)) (fun _ => ?_)
  refine v_load (v := (0, 2)) (hT _ zt_X11_isTray rfl _ _ rfl) rfl rfl ?_
  refine v_push (4) (hT _ zt_X11_isTray rfl _ _ rfl) rfl ?_
  refine v_ic (hT _ zt_X11_isTray rfl _ _ rfl) (fun _ => ?_) (fun hc2 => absurd (show (2 : Int) < 4 from (by decide)) hc2)
  refine v_push (1) (hT _ zt_X11_isTray rfl _ _ rfl) rfl ?_
  refine v_goto (hT _ zt_X11_isTray rfl _ _ rfl) ?_
  refine v_ret (hT _ zt_X11_isTray rfl _ _ rfl) (Or.inl rfl) ?_
  show vP D T N 171 4 h [some (2, 0), some (0, 2), some (0, b)] [(0, 1)] _
  refine v_if (hT _ zt_X11_placeStatus rfl _ _ rfl) (fun hc3 => absurd (show (1 : Int) = 0 from hc3) (by decide)) (fun _ => ?_)
  refine v_load (v := (2, 0)) (hT _ zt_X11_placeStatus rfl _ _ rfl) rfl rfl ?_
  refine v_getR (c := 1) (r := 0) (hT _ zt_X11_placeStatus rfl _ _ rfl) rfl rfl rfl ?_
  refine v_load (v := (0, 2)) (hT _ zt_X11_placeStatus rfl _ _ rfl) rfl rfl ?_
  refine v_aldV (v := (2, 6)) (r := 1) (hT _ zt_X11_placeStatus rfl _ _ rfl) rfl rfl (fun hv _ _ => hv.ref rfl) (fun ha4 hb5 => ?_)
  refine v_call (w := 1) [some (2, 6)] hO (hT _ zt_X11_placeStatus rfl _ _ rfl) rfl rfl ?_
  refine v_load (v := (2, 6)) (hT _ zt_X9_isMissing rfl _ _ rfl) rfl rfl ?_
  refine v_getI (t := 0) (r := 6) (hT _ zt_X9_isMissing rfl _ _ rfl) rfl rfl rfl ?_
  refine v_push (-1) (hT _ zt_X9_isMissing rfl _ _ rfl) rfl ?_
  refine v_ic (hT _ zt_X9_isMissing rfl _ _ rfl) (fun hc6 => ?_) (fun hc6 => ?_)
  · have hc6 : (h 6 1).2 = -1 := hc6
    refine v_push (1) (hT _ zt_X9_isMissing rfl _ _ rfl) rfl ?_
    refine v_goto (hT _ zt_X9_isMissing rfl _ _ rfl) ?_
    refine v_ret (hT _ zt_X9_isMissing rfl _ _ rfl) (Or.inl rfl) ?_
    show vP D T N 171 18 h [some (2, 0), some (0, 2), some (0, b)] [(0, 1)] _
    refine v_if (hT _ zt_X11_placeStatus rfl _ _ rfl) (fun hc7 => absurd (show (1 : Int) = 0 from hc7) (by decide)) (fun _ => ?_)
    refine v_push (3) (hT _ zt_X11_placeStatus rfl _ _ rfl) rfl ?_
    refine v_ret (hT _ zt_X11_placeStatus rfl _ _ rfl) (Or.inl rfl) ?_
    show vP D T N 195 6 h [some (2, 0), some (0, 2), some (0, b), some (1, v), none, none, none] [(0, 3)] _
    refine v_store1 [some (2, 0), some (0, 2), some (0, b), some (1, v), none, some (0, 3), none] (hT _ zt_X11_write rfl _ _ rfl) ⟨rfl, Nat.ne_of_beq_eq_false rfl⟩ (Nat.le_of_ble_eq_true rfl) rfl ?_
    refine v_load (v := (0, 3)) (hT _ zt_X11_write rfl _ _ rfl) rfl rfl ?_
    refine v_if (hT _ zt_X11_write rfl _ _ rfl) (fun hc8 => absurd (show (3 : Int) = 0 from hc8) (by decide)) (fun _ => ?_)
    refine v_load (v := (2, 0)) (hT _ zt_X11_write rfl _ _ rfl) rfl rfl ?_
    refine v_load (v := (0, 3)) (hT _ zt_X11_write rfl _ _ rfl) rfl rfl ?_
    refine v_call (w := 2) [some (2, 0), some (0, 3)] hO (hT _ zt_X11_write rfl _ _ rfl) rfl rfl ?_
    refine v_load (v := (2, 0)) (hT _ zt_X11_refuse rfl _ _ rfl) rfl rfl ?_
    refine v_load (v := (0, 3)) (hT _ zt_X11_refuse rfl _ _ rfl) rfl rfl ?_
    refine v_putf (r := 0) hO (hT _ zt_X11_refuse rfl _ _ rfl) rfl (fun hf9 => ?_)
    refine v_push (0) (hT _ zt_X11_refuse rfl _ _ rfl) rfl ?_
    refine v_ret (hT _ zt_X11_refuse rfl _ _ rfl) (Or.inl rfl) ?_
    show vP D T N 195 19 (zset h 0 0 (0, 3)) [some (2, 0), some (0, 2), some (0, b), some (1, v), none, some (0, 3), none] [(0, 0)] _
    refine v_ret (hT _ zt_X11_write rfl _ _ rfl) (Or.inl rfl) ?_
    exact k0 hc6
  · have hc6 : (h 6 1).2 ≠ -1 := hc6
    refine v_push (0) (hT _ zt_X9_isMissing rfl _ _ rfl) rfl ?_
    refine v_ret (hT _ zt_X9_isMissing rfl _ _ rfl) (Or.inl rfl) ?_
    show vP D T N 171 18 h [some (2, 0), some (0, 2), some (0, b)] [(0, 0)] _
    refine v_if (hT _ zt_X11_placeStatus rfl _ _ rfl) (fun _ => ?_) (fun hc10 => absurd (show (0 : Int) = 0 from (by decide)) hc10)
    refine v_load (v := (2, 0)) (hT _ zt_X11_placeStatus rfl _ _ rfl) rfl rfl ?_
    refine v_getR (c := 1) (r := 0) (hT _ zt_X11_placeStatus rfl _ _ rfl) rfl rfl rfl ?_
    refine v_load (v := (0, 2)) (hT _ zt_X11_placeStatus rfl _ _ rfl) rfl rfl ?_
    refine v_aldV (v := (2, 6)) (r := 1) (hT _ zt_X11_placeStatus rfl _ _ rfl) rfl rfl (fun hv _ _ => hv.ref rfl) (fun ha11 hb12 => ?_)
    refine v_load (v := (0, b)) (hT _ zt_X11_placeStatus rfl _ _ rfl) rfl rfl ?_
    refine v_push (1) (hT _ zt_X11_placeStatus rfl _ _ rfl) rfl ?_
    refine v_call (w := 3) [some (2, 6), some (0, b), some (0, 1)] hO (hT _ zt_X11_placeStatus rfl _ _ rfl) rfl rfl ?_
    refine v_load (v := (0, b)) (hT _ zt_X9_hasPlaces rfl _ _ rfl) rfl rfl ?_
    refine v_if (hT _ zt_X9_hasPlaces rfl _ _ rfl) (fun hc13 => ?_) (fun hc13 => ?_)
    · have hc13 : b < 0 := hc13
      refine v_push (0) (hT _ zt_X9_hasPlaces rfl _ _ rfl) rfl ?_
      refine v_ret (hT _ zt_X9_hasPlaces rfl _ _ rfl) (Or.inl rfl) ?_
      show vP D T N 171 34 h [some (2, 0), some (0, 2), some (0, b)] [(0, 0)] _
      refine v_if (hT _ zt_X11_placeStatus rfl _ _ rfl) (fun _ => ?_) (fun hc14 => absurd (show (0 : Int) = 0 from (by decide)) hc14)
      refine v_push (4) (hT _ zt_X11_placeStatus rfl _ _ rfl) rfl ?_
      refine v_ret (hT _ zt_X11_placeStatus rfl _ _ rfl) (Or.inl rfl) ?_
      show vP D T N 195 6 h [some (2, 0), some (0, 2), some (0, b), some (1, v), none, none, none] [(0, 4)] _
      refine v_store1 [some (2, 0), some (0, 2), some (0, b), some (1, v), none, some (0, 4), none] (hT _ zt_X11_write rfl _ _ rfl) ⟨rfl, Nat.ne_of_beq_eq_false rfl⟩ (Nat.le_of_ble_eq_true rfl) rfl ?_
      refine v_load (v := (0, 4)) (hT _ zt_X11_write rfl _ _ rfl) rfl rfl ?_
      refine v_if (hT _ zt_X11_write rfl _ _ rfl) (fun hc15 => absurd (show (4 : Int) = 0 from hc15) (by decide)) (fun _ => ?_)
      refine v_load (v := (2, 0)) (hT _ zt_X11_write rfl _ _ rfl) rfl rfl ?_
      refine v_load (v := (0, 4)) (hT _ zt_X11_write rfl _ _ rfl) rfl rfl ?_
      refine v_call (w := 2) [some (2, 0), some (0, 4)] hO (hT _ zt_X11_write rfl _ _ rfl) rfl rfl ?_
      refine v_load (v := (2, 0)) (hT _ zt_X11_refuse rfl _ _ rfl) rfl rfl ?_
      refine v_load (v := (0, 4)) (hT _ zt_X11_refuse rfl _ _ rfl) rfl rfl ?_
      refine v_putf (r := 0) hO (hT _ zt_X11_refuse rfl _ _ rfl) rfl (fun hf16 => ?_)
      refine v_push (0) (hT _ zt_X11_refuse rfl _ _ rfl) rfl ?_
      refine v_ret (hT _ zt_X11_refuse rfl _ _ rfl) (Or.inl rfl) ?_
      show vP D T N 195 19 (zset h 0 0 (0, 4)) [some (2, 0), some (0, 2), some (0, b), some (1, v), none, some (0, 4), none] [(0, 0)] _
      refine v_ret (hT _ zt_X11_write rfl _ _ rfl) (Or.inl rfl) ?_
      exact k1 hc6 hc13
    · have hc13 : 0 ≤ b := Int.not_lt.mp hc13
      refine v_load (v := (0, b)) (hT _ zt_X9_hasPlaces rfl _ _ rfl) rfl rfl ?_
      refine v_load (v := (2, 6)) (hT _ zt_X9_hasPlaces rfl _ _ rfl) rfl rfl ?_
      refine v_getI (t := 0) (r := 6) (hT _ zt_X9_hasPlaces rfl _ _ rfl) rfl rfl rfl ?_
      refine v_load (v := (0, 1)) (hT _ zt_X9_hasPlaces rfl _ _ rfl) rfl rfl ?_
      refine v_bin (w := ((h 6 2).2 - 1)) (hT _ zt_X9_hasPlaces rfl _ _ rfl) (hq_sub (by omega) (by omega)) ?_
      refine v_ic (hT _ zt_X9_hasPlaces rfl _ _ rfl) (fun hc17 => ?_) (fun hc17 => ?_)
      · have hc17 : ((h 6 2).2 - 1) < b := hc17
        refine v_push (0) (hT _ zt_X9_hasPlaces rfl _ _ rfl) rfl ?_
        refine v_ret (hT _ zt_X9_hasPlaces rfl _ _ rfl) (Or.inl rfl) ?_
        show vP D T N 171 34 h [some (2, 0), some (0, 2), some (0, b)] [(0, 0)] _
        refine v_if (hT _ zt_X11_placeStatus rfl _ _ rfl) (fun _ => ?_) (fun hc18 => absurd (show (0 : Int) = 0 from (by decide)) hc18)
        refine v_push (4) (hT _ zt_X11_placeStatus rfl _ _ rfl) rfl ?_
        refine v_ret (hT _ zt_X11_placeStatus rfl _ _ rfl) (Or.inl rfl) ?_
        show vP D T N 195 6 h [some (2, 0), some (0, 2), some (0, b), some (1, v), none, none, none] [(0, 4)] _
        refine v_store1 [some (2, 0), some (0, 2), some (0, b), some (1, v), none, some (0, 4), none] (hT _ zt_X11_write rfl _ _ rfl) ⟨rfl, Nat.ne_of_beq_eq_false rfl⟩ (Nat.le_of_ble_eq_true rfl) rfl ?_
        refine v_load (v := (0, 4)) (hT _ zt_X11_write rfl _ _ rfl) rfl rfl ?_
        refine v_if (hT _ zt_X11_write rfl _ _ rfl) (fun hc19 => absurd (show (4 : Int) = 0 from hc19) (by decide)) (fun _ => ?_)
        refine v_load (v := (2, 0)) (hT _ zt_X11_write rfl _ _ rfl) rfl rfl ?_
        refine v_load (v := (0, 4)) (hT _ zt_X11_write rfl _ _ rfl) rfl rfl ?_
        refine v_call (w := 2) [some (2, 0), some (0, 4)] hO (hT _ zt_X11_write rfl _ _ rfl) rfl rfl ?_
        refine v_load (v := (2, 0)) (hT _ zt_X11_refuse rfl _ _ rfl) rfl rfl ?_
        refine v_load (v := (0, 4)) (hT _ zt_X11_refuse rfl _ _ rfl) rfl rfl ?_
        refine v_putf (r := 0) hO (hT _ zt_X11_refuse rfl _ _ rfl) rfl (fun hf20 => ?_)
        refine v_push (0) (hT _ zt_X11_refuse rfl _ _ rfl) rfl ?_
        refine v_ret (hT _ zt_X11_refuse rfl _ _ rfl) (Or.inl rfl) ?_
        show vP D T N 195 19 (zset h 0 0 (0, 4)) [some (2, 0), some (0, 2), some (0, b), some (1, v), none, some (0, 4), none] [(0, 0)] _
        refine v_ret (hT _ zt_X11_write rfl _ _ rfl) (Or.inl rfl) ?_
        exact k2 hc6 hc13 hc17
      · have hc17 : b ≤ ((h 6 2).2 - 1) := Int.not_lt.mp hc17
        refine v_push (1) (hT _ zt_X9_hasPlaces rfl _ _ rfl) rfl ?_
        refine v_goto (hT _ zt_X9_hasPlaces rfl _ _ rfl) ?_
        refine v_ret (hT _ zt_X9_hasPlaces rfl _ _ rfl) (Or.inl rfl) ?_
        show vP D T N 171 34 h [some (2, 0), some (0, 2), some (0, b)] [(0, 1)] _
        refine v_if (hT _ zt_X11_placeStatus rfl _ _ rfl) (fun hc21 => absurd (show (1 : Int) = 0 from hc21) (by decide)) (fun _ => ?_)
        refine v_push (0) (hT _ zt_X11_placeStatus rfl _ _ rfl) rfl ?_
        refine v_goto (hT _ zt_X11_placeStatus rfl _ _ rfl) ?_
        refine v_ret (hT _ zt_X11_placeStatus rfl _ _ rfl) (Or.inl rfl) ?_
        show vP D T N 195 6 h [some (2, 0), some (0, 2), some (0, b), some (1, v), none, none, none] [(0, 0)] _
        refine v_store1 [some (2, 0), some (0, 2), some (0, b), some (1, v), none, some (0, 0), none] (hT _ zt_X11_write rfl _ _ rfl) ⟨rfl, Nat.ne_of_beq_eq_false rfl⟩ (Nat.le_of_ble_eq_true rfl) rfl ?_
        refine v_load (v := (0, 0)) (hT _ zt_X11_write rfl _ _ rfl) rfl rfl ?_
        refine v_if (hT _ zt_X11_write rfl _ _ rfl) (fun _ => ?_) (fun hc22 => absurd (show (0 : Int) = 0 from (by decide)) hc22)
        refine v_load (v := (2, 0)) (hT _ zt_X11_write rfl _ _ rfl) rfl rfl ?_
        refine v_getR (c := 1) (r := 0) (hT _ zt_X11_write rfl _ _ rfl) rfl rfl rfl ?_
        refine v_load (v := (0, 2)) (hT _ zt_X11_write rfl _ _ rfl) rfl rfl ?_
        refine v_aldV (v := (2, 6)) (r := 1) (hT _ zt_X11_write rfl _ _ rfl) rfl rfl (fun hv _ _ => hv.ref rfl) (fun ha23 hb24 => ?_)
        refine v_store1 [some (2, 0), some (0, 2), some (0, b), some (1, v), none, some (0, 0), some (2, 6)] (hT _ zt_X11_write rfl _ _ rfl) ⟨rfl, Nat.ne_of_beq_eq_false rfl⟩ (Nat.le_of_ble_eq_true rfl) rfl ?_
        refine v_load (v := (2, 6)) (hT _ zt_X11_write rfl _ _ rfl) rfl rfl ?_
        refine v_getR (c := 7) (r := 6) (hT _ zt_X11_write rfl _ _ rfl) rfl rfl rfl ?_
        refine v_load (v := (0, b)) (hT _ zt_X11_write rfl _ _ rfl) rfl rfl ?_
        refine v_load (v := (2, 6)) (hT _ zt_X11_write rfl _ _ rfl) rfl rfl ?_
        refine v_load (v := (1, v)) (hT _ zt_X11_write rfl _ _ rfl) rfl rfl ?_
        refine v_call (w := 3) [some (2, 6), some (1, v), none] hO (hT _ zt_X11_write rfl _ _ rfl) rfl rfl ?_
        refine v_load (v := (2, 6)) (hT _ zt_X9_cutToSort rfl _ _ rfl) rfl rfl ?_
        refine v_getI (t := 0) (r := 6) (hT _ zt_X9_cutToSort rfl _ _ rfl) rfl rfl rfl ?_
        refine v_sw (hT _ zt_X9_cutToSort rfl _ _ rfl) ?_
        refine ⟨fun hc25 => ?_, fun hc25 => ?_⟩
        · have hc25 : (h 6 1).2 = 0 := hc25
          refine v_load (v := (1, v)) (hT _ zt_X9_cutToSort rfl _ _ rfl) rfl rfl ?_
          refine v_l2i (w := (vI v)) (hT _ zt_X9_cutToSort rfl _ _ rfl) rfl ?_
          refine v_un (w := (vB ((vI v)))) (hT _ zt_X9_cutToSort rfl _ _ rfl) rfl ?_
          refine v_i2l (hT _ zt_X9_cutToSort rfl _ _ rfl) ?_
          refine v_ret (hT _ zt_X9_cutToSort rfl _ _ rfl) (Or.inr rfl) ?_
          show vP D T N 195 40 h [some (2, 0), some (0, 2), some (0, b), some (1, v), none, some (0, 0), some (2, 6)] [(1, (vB ((vI v)))), (0, b), (2, 7)] _
          refine v_ast (r := 7) (hT _ zt_X11_write rfl _ _ rfl) rfl rfl (fun ha26 hb27 hf28 => ?_)
          refine v_load (v := (2, 0)) (hT _ zt_X11_write rfl _ _ rfl) rfl rfl ?_
          refine v_call (w := 1) [some (2, 0)] hO (hT _ zt_X11_write rfl _ _ rfl) rfl rfl ?_
          refine v_load (v := (2, 0)) (hT _ zt_X11_accept rfl _ _ rfl) rfl rfl ?_
          refine v_push (0) (hT _ zt_X11_accept rfl _ _ rfl) rfl ?_
          refine v_putf (r := 0) hO (hT _ zt_X11_accept rfl _ _ rfl) rfl (fun hf29 => ?_)
          refine v_push (1) (hT _ zt_X11_accept rfl _ _ rfl) rfl ?_
          refine v_ret (hT _ zt_X11_accept rfl _ _ rfl) (Or.inl rfl) ?_
          show vP D T N 195 45 (zset (zset h 7 b.toNat (1, (vB ((vI v))))) 0 0 (0, 0)) [some (2, 0), some (0, 2), some (0, b), some (1, v), none, some (0, 0), some (2, 6)] [(0, 1)] _
          refine v_ret (hT _ zt_X11_write rfl _ _ rfl) (Or.inl rfl) ?_
          exact k3 hc6 hc13 hc17 hc25 hb27
        refine ⟨fun hc30 => ?_, fun hc30 => ?_⟩
        · have hc30 : (h 6 1).2 = 1 := hc30
          refine v_load (v := (1, v)) (hT _ zt_X9_cutToSort rfl _ _ rfl) rfl rfl ?_
          refine v_l2i (w := (vI v)) (hT _ zt_X9_cutToSort rfl _ _ rfl) rfl ?_
          refine v_un (w := (vC ((vI v)))) (hT _ zt_X9_cutToSort rfl _ _ rfl) rfl ?_
          refine v_i2l (hT _ zt_X9_cutToSort rfl _ _ rfl) ?_
          refine v_ret (hT _ zt_X9_cutToSort rfl _ _ rfl) (Or.inr rfl) ?_
          show vP D T N 195 40 h [some (2, 0), some (0, 2), some (0, b), some (1, v), none, some (0, 0), some (2, 6)] [(1, (vC ((vI v)))), (0, b), (2, 7)] _
          refine v_ast (r := 7) (hT _ zt_X11_write rfl _ _ rfl) rfl rfl (fun ha31 hb32 hf33 => ?_)
          refine v_load (v := (2, 0)) (hT _ zt_X11_write rfl _ _ rfl) rfl rfl ?_
          refine v_call (w := 1) [some (2, 0)] hO (hT _ zt_X11_write rfl _ _ rfl) rfl rfl ?_
          refine v_load (v := (2, 0)) (hT _ zt_X11_accept rfl _ _ rfl) rfl rfl ?_
          refine v_push (0) (hT _ zt_X11_accept rfl _ _ rfl) rfl ?_
          refine v_putf (r := 0) hO (hT _ zt_X11_accept rfl _ _ rfl) rfl (fun hf34 => ?_)
          refine v_push (1) (hT _ zt_X11_accept rfl _ _ rfl) rfl ?_
          refine v_ret (hT _ zt_X11_accept rfl _ _ rfl) (Or.inl rfl) ?_
          show vP D T N 195 45 (zset (zset h 7 b.toNat (1, (vC ((vI v))))) 0 0 (0, 0)) [some (2, 0), some (0, 2), some (0, b), some (1, v), none, some (0, 0), some (2, 6)] [(0, 1)] _
          refine v_ret (hT _ zt_X11_write rfl _ _ rfl) (Or.inl rfl) ?_
          exact k4 hc6 hc13 hc17 hc25 hc30 hb32
        refine ⟨fun hc35 => ?_, fun hc35 => ?_⟩
        · have hc35 : (h 6 1).2 = 2 := hc35
          refine v_load (v := (1, v)) (hT _ zt_X9_cutToSort rfl _ _ rfl) rfl rfl ?_
          refine v_l2i (w := (vI v)) (hT _ zt_X9_cutToSort rfl _ _ rfl) rfl ?_
          refine v_i2l (hT _ zt_X9_cutToSort rfl _ _ rfl) ?_
          refine v_ret (hT _ zt_X9_cutToSort rfl _ _ rfl) (Or.inr rfl) ?_
          show vP D T N 195 40 h [some (2, 0), some (0, 2), some (0, b), some (1, v), none, some (0, 0), some (2, 6)] [(1, (vI v)), (0, b), (2, 7)] _
          refine v_ast (r := 7) (hT _ zt_X11_write rfl _ _ rfl) rfl rfl (fun ha36 hb37 hf38 => ?_)
          refine v_load (v := (2, 0)) (hT _ zt_X11_write rfl _ _ rfl) rfl rfl ?_
          refine v_call (w := 1) [some (2, 0)] hO (hT _ zt_X11_write rfl _ _ rfl) rfl rfl ?_
          refine v_load (v := (2, 0)) (hT _ zt_X11_accept rfl _ _ rfl) rfl rfl ?_
          refine v_push (0) (hT _ zt_X11_accept rfl _ _ rfl) rfl ?_
          refine v_putf (r := 0) hO (hT _ zt_X11_accept rfl _ _ rfl) rfl (fun hf39 => ?_)
          refine v_push (1) (hT _ zt_X11_accept rfl _ _ rfl) rfl ?_
          refine v_ret (hT _ zt_X11_accept rfl _ _ rfl) (Or.inl rfl) ?_
          show vP D T N 195 45 (zset (zset h 7 b.toNat (1, (vI v))) 0 0 (0, 0)) [some (2, 0), some (0, 2), some (0, b), some (1, v), none, some (0, 0), some (2, 6)] [(0, 1)] _
          refine v_ret (hT _ zt_X11_write rfl _ _ rfl) (Or.inl rfl) ?_
          exact k5 hc6 hc13 hc17 hc25 hc30 hc35 hb37
        show vP _ _ _ _ _ _ _ _ _
        refine v_load (v := (1, v)) (hT _ zt_X9_cutToSort rfl _ _ rfl) rfl rfl ?_
        refine v_ret (hT _ zt_X9_cutToSort rfl _ _ rfl) (Or.inr rfl) ?_
        show vP D T N 195 40 h [some (2, 0), some (0, 2), some (0, b), some (1, v), none, some (0, 0), some (2, 6)] [(1, v), (0, b), (2, 7)] _
        refine v_ast (r := 7) (hT _ zt_X11_write rfl _ _ rfl) rfl rfl (fun ha40 hb41 hf42 => ?_)
        refine v_load (v := (2, 0)) (hT _ zt_X11_write rfl _ _ rfl) rfl rfl ?_
        refine v_call (w := 1) [some (2, 0)] hO (hT _ zt_X11_write rfl _ _ rfl) rfl rfl ?_
        refine v_load (v := (2, 0)) (hT _ zt_X11_accept rfl _ _ rfl) rfl rfl ?_
        refine v_push (0) (hT _ zt_X11_accept rfl _ _ rfl) rfl ?_
        refine v_putf (r := 0) hO (hT _ zt_X11_accept rfl _ _ rfl) rfl (fun hf43 => ?_)
        refine v_push (1) (hT _ zt_X11_accept rfl _ _ rfl) rfl ?_
        refine v_ret (hT _ zt_X11_accept rfl _ _ rfl) (Or.inl rfl) ?_
        show vP D T N 195 45 (zset (zset h 7 b.toNat (1, v)) 0 0 (0, 0)) [some (2, 0), some (0, 2), some (0, b), some (1, v), none, some (0, 0), some (2, 6)] [(0, 1)] _
        refine v_ret (hT _ zt_X11_write rfl _ _ rfl) (Or.inl rfl) ?_
        exact k6 hc6 hc13 hc17 hc25 hc30 hc35 hb41
theorem y_X11_write_3 {D : zD} {T : zT} (hT : hTab T) (hO : vOK T) {N : Nat} {h : zH} {Q : zR → Prop} (b v : Int) (hv0 : zHv h) (hb : 0 ≤ (h 8 2).2 ∧ (h 8 2).2 ≤ 60)
    (k0 : ((h 8 1).2 = -1) → Q (zset h 0 0 (0, 3), some (0, 0)))
    (k1 : ((h 8 1).2 ≠ -1) → (b < 0) → Q (zset h 0 0 (0, 4), some (0, 0)))
    (k2 : ((h 8 1).2 ≠ -1) → (0 ≤ b) → (((h 8 2).2 - 1) < b) → Q (zset h 0 0 (0, 4), some (0, 0)))
    (k3 : ((h 8 1).2 ≠ -1) → (0 ≤ b) → (b ≤ ((h 8 2).2 - 1)) → ((h 8 1).2 = 0) → (b < 60) → Q (zset (zset h 9 b.toNat (1, (vB ((vI v))))) 0 0 (0, 0), some (0, 1)))
    (k4 : ((h 8 1).2 ≠ -1) → (0 ≤ b) → (b ≤ ((h 8 2).2 - 1)) → ((h 8 1).2 ≠ 0) → ((h 8 1).2 = 1) → (b < 60) → Q (zset (zset h 9 b.toNat (1, (vC ((vI v))))) 0 0 (0, 0), some (0, 1)))
    (k5 : ((h 8 1).2 ≠ -1) → (0 ≤ b) → (b ≤ ((h 8 2).2 - 1)) → ((h 8 1).2 ≠ 0) → ((h 8 1).2 ≠ 1) → ((h 8 1).2 = 2) → (b < 60) → Q (zset (zset h 9 b.toNat (1, (vI v))) 0 0 (0, 0), some (0, 1)))
    (k6 : ((h 8 1).2 ≠ -1) → (0 ≤ b) → (b ≤ ((h 8 2).2 - 1)) → ((h 8 1).2 ≠ 0) → ((h 8 1).2 ≠ 1) → ((h 8 1).2 ≠ 2) → (b < 60) → Q (zset (zset h 9 b.toNat (1, v)) 0 0 (0, 0), some (0, 1))) :
    vP D T N 195 0 h [some (2, 0), some (0, 3), some (0, b), some (1, v), none, none, none] [] Q := by
  refine v_load (v := (2, 0)) (hT _ zt_X11_write rfl _ _ rfl) rfl rfl ?_
  refine v_load (v := (0, 3)) (hT _ zt_X11_write rfl _ _ rfl) rfl rfl ?_
  refine v_load (v := (0, b)) (hT _ zt_X11_write rfl _ _ rfl) rfl rfl ?_
  refine v_call (w := 3) [some (2, 0), some (0, 3), some (0, b)] hO (hT _ zt_X11_write rfl _ _ rfl) rfl rfl ?_
  refine v_load (v := (0, 3)) (hT _ zt_X11_placeStatus rfl _ _ rfl) rfl rfl ?_
  refine v_call (w := 1) [some (0, 3)] hO (hT _ zt_X11_placeStatus rfl _ _ rfl) rfl rfl ?_
  refine v_load (v := (0, 3)) (hT _ zt_X11_isTray rfl _ _ rfl) rfl rfl ?_
  refine v_if (hT _ zt_X11_isTray rfl _ _ rfl) (fun hc1 => absurd (show (3 : Int) < 0 from hc1) (by decide)) (fun _ => ?_)
  refine v_load (v := (0, 3)) (hT _ zt_X11_isTray rfl _ _ rfl) rfl rfl ?_
  refine v_push (4) (hT _ zt_X11_isTray rfl _ _ rfl) rfl ?_
  refine v_ic (hT _ zt_X11_isTray rfl _ _ rfl) (fun _ => ?_) (fun hc2 => absurd (show (3 : Int) < 4 from (by decide)) hc2)
  refine v_push (1) (hT _ zt_X11_isTray rfl _ _ rfl) rfl ?_
  refine v_goto (hT _ zt_X11_isTray rfl _ _ rfl) ?_
  refine v_ret (hT _ zt_X11_isTray rfl _ _ rfl) (Or.inl rfl) ?_
  show vP D T N 171 4 h [some (2, 0), some (0, 3), some (0, b)] [(0, 1)] _
  refine v_if (hT _ zt_X11_placeStatus rfl _ _ rfl) (fun hc3 => absurd (show (1 : Int) = 0 from hc3) (by decide)) (fun _ => ?_)
  refine v_load (v := (2, 0)) (hT _ zt_X11_placeStatus rfl _ _ rfl) rfl rfl ?_
  refine v_getR (c := 1) (r := 0) (hT _ zt_X11_placeStatus rfl _ _ rfl) rfl rfl rfl ?_
  refine v_load (v := (0, 3)) (hT _ zt_X11_placeStatus rfl _ _ rfl) rfl rfl ?_
  refine v_aldV (v := (2, 8)) (r := 1) (hT _ zt_X11_placeStatus rfl _ _ rfl) rfl rfl (fun hv _ _ => hv.ref rfl) (fun ha4 hb5 => ?_)
  refine v_call (w := 1) [some (2, 8)] hO (hT _ zt_X11_placeStatus rfl _ _ rfl) rfl rfl ?_
  refine v_load (v := (2, 8)) (hT _ zt_X9_isMissing rfl _ _ rfl) rfl rfl ?_
  refine v_getI (t := 0) (r := 8) (hT _ zt_X9_isMissing rfl _ _ rfl) rfl rfl rfl ?_
  refine v_push (-1) (hT _ zt_X9_isMissing rfl _ _ rfl) rfl ?_
  refine v_ic (hT _ zt_X9_isMissing rfl _ _ rfl) (fun hc6 => ?_) (fun hc6 => ?_)
  · have hc6 : (h 8 1).2 = -1 := hc6
    refine v_push (1) (hT _ zt_X9_isMissing rfl _ _ rfl) rfl ?_
    refine v_goto (hT _ zt_X9_isMissing rfl _ _ rfl) ?_
    refine v_ret (hT _ zt_X9_isMissing rfl _ _ rfl) (Or.inl rfl) ?_
    show vP D T N 171 18 h [some (2, 0), some (0, 3), some (0, b)] [(0, 1)] _
    refine v_if (hT _ zt_X11_placeStatus rfl _ _ rfl) (fun hc7 => absurd (show (1 : Int) = 0 from hc7) (by decide)) (fun _ => ?_)
    refine v_push (3) (hT _ zt_X11_placeStatus rfl _ _ rfl) rfl ?_
    refine v_ret (hT _ zt_X11_placeStatus rfl _ _ rfl) (Or.inl rfl) ?_
    show vP D T N 195 6 h [some (2, 0), some (0, 3), some (0, b), some (1, v), none, none, none] [(0, 3)] _
    refine v_store1 [some (2, 0), some (0, 3), some (0, b), some (1, v), none, some (0, 3), none] (hT _ zt_X11_write rfl _ _ rfl) ⟨rfl, Nat.ne_of_beq_eq_false rfl⟩ (Nat.le_of_ble_eq_true rfl) rfl ?_
    refine v_load (v := (0, 3)) (hT _ zt_X11_write rfl _ _ rfl) rfl rfl ?_
    refine v_if (hT _ zt_X11_write rfl _ _ rfl) (fun hc8 => absurd (show (3 : Int) = 0 from hc8) (by decide)) (fun _ => ?_)
    refine v_load (v := (2, 0)) (hT _ zt_X11_write rfl _ _ rfl) rfl rfl ?_
    refine v_load (v := (0, 3)) (hT _ zt_X11_write rfl _ _ rfl) rfl rfl ?_
    refine v_call (w := 2) [some (2, 0), some (0, 3)] hO (hT _ zt_X11_write rfl _ _ rfl) rfl rfl ?_
    refine v_load (v := (2, 0)) (hT _ zt_X11_refuse rfl _ _ rfl) rfl rfl ?_
    refine v_load (v := (0, 3)) (hT _ zt_X11_refuse rfl _ _ rfl) rfl rfl ?_
    refine v_putf (r := 0) hO (hT _ zt_X11_refuse rfl _ _ rfl) rfl (fun hf9 => ?_)
    refine v_push (0) (hT _ zt_X11_refuse rfl _ _ rfl) rfl ?_
    refine v_ret (hT _ zt_X11_refuse rfl _ _ rfl) (Or.inl rfl) ?_
    show vP D T N 195 19 (zset h 0 0 (0, 3)) [some (2, 0), some (0, 3), some (0, b), some (1, v), none, some (0, 3), none] [(0, 0)] _
    refine v_ret (hT _ zt_X11_write rfl _ _ rfl) (Or.inl rfl) ?_
    exact k0 hc6
  · have hc6 : (h 8 1).2 ≠ -1 := hc6
    refine v_push (0) (hT _ zt_X9_isMissing rfl _ _ rfl) rfl ?_
    refine v_ret (hT _ zt_X9_isMissing rfl _ _ rfl) (Or.inl rfl) ?_
    show vP D T N 171 18 h [some (2, 0), some (0, 3), some (0, b)] [(0, 0)] _
    refine v_if (hT _ zt_X11_placeStatus rfl _ _ rfl) (fun _ => ?_) (fun hc10 => absurd (show (0 : Int) = 0 from (by decide)) hc10)
    refine v_load (v := (2, 0)) (hT _ zt_X11_placeStatus rfl _ _ rfl) rfl rfl ?_
    refine v_getR (c := 1) (r := 0) (hT _ zt_X11_placeStatus rfl _ _ rfl) rfl rfl rfl ?_
    refine v_load (v := (0, 3)) (hT _ zt_X11_placeStatus rfl _ _ rfl) rfl rfl ?_
    refine v_aldV (v := (2, 8)) (r := 1) (hT _ zt_X11_placeStatus rfl _ _ rfl) rfl rfl (fun hv _ _ => hv.ref rfl) (fun ha11 hb12 => ?_)
    refine v_load (v := (0, b)) (hT _ zt_X11_placeStatus rfl _ _ rfl) rfl rfl ?_
    refine v_push (1) (hT _ zt_X11_placeStatus rfl _ _ rfl) rfl ?_
    refine v_call (w := 3) [some (2, 8), some (0, b), some (0, 1)] hO (hT _ zt_X11_placeStatus rfl _ _ rfl) rfl rfl ?_
    refine v_load (v := (0, b)) (hT _ zt_X9_hasPlaces rfl _ _ rfl) rfl rfl ?_
    refine v_if (hT _ zt_X9_hasPlaces rfl _ _ rfl) (fun hc13 => ?_) (fun hc13 => ?_)
    · have hc13 : b < 0 := hc13
      refine v_push (0) (hT _ zt_X9_hasPlaces rfl _ _ rfl) rfl ?_
      refine v_ret (hT _ zt_X9_hasPlaces rfl _ _ rfl) (Or.inl rfl) ?_
      show vP D T N 171 34 h [some (2, 0), some (0, 3), some (0, b)] [(0, 0)] _
      refine v_if (hT _ zt_X11_placeStatus rfl _ _ rfl) (fun _ => ?_) (fun hc14 => absurd (show (0 : Int) = 0 from (by decide)) hc14)
      refine v_push (4) (hT _ zt_X11_placeStatus rfl _ _ rfl) rfl ?_
      refine v_ret (hT _ zt_X11_placeStatus rfl _ _ rfl) (Or.inl rfl) ?_
      show vP D T N 195 6 h [some (2, 0), some (0, 3), some (0, b), some (1, v), none, none, none] [(0, 4)] _
      refine v_store1 [some (2, 0), some (0, 3), some (0, b), some (1, v), none, some (0, 4), none] (hT _ zt_X11_write rfl _ _ rfl) ⟨rfl, Nat.ne_of_beq_eq_false rfl⟩ (Nat.le_of_ble_eq_true rfl) rfl ?_
      refine v_load (v := (0, 4)) (hT _ zt_X11_write rfl _ _ rfl) rfl rfl ?_
      refine v_if (hT _ zt_X11_write rfl _ _ rfl) (fun hc15 => absurd (show (4 : Int) = 0 from hc15) (by decide)) (fun _ => ?_)
      refine v_load (v := (2, 0)) (hT _ zt_X11_write rfl _ _ rfl) rfl rfl ?_
      refine v_load (v := (0, 4)) (hT _ zt_X11_write rfl _ _ rfl) rfl rfl ?_
      refine v_call (w := 2) [some (2, 0), some (0, 4)] hO (hT _ zt_X11_write rfl _ _ rfl) rfl rfl ?_
      refine v_load (v := (2, 0)) (hT _ zt_X11_refuse rfl _ _ rfl) rfl rfl ?_
      refine v_load (v := (0, 4)) (hT _ zt_X11_refuse rfl _ _ rfl) rfl rfl ?_
      refine v_putf (r := 0) hO (hT _ zt_X11_refuse rfl _ _ rfl) rfl (fun hf16 => ?_)
      refine v_push (0) (hT _ zt_X11_refuse rfl _ _ rfl) rfl ?_
      refine v_ret (hT _ zt_X11_refuse rfl _ _ rfl) (Or.inl rfl) ?_
      show vP D T N 195 19 (zset h 0 0 (0, 4)) [some (2, 0), some (0, 3), some (0, b), some (1, v), none, some (0, 4), none] [(0, 0)] _
      refine v_ret (hT _ zt_X11_write rfl _ _ rfl) (Or.inl rfl) ?_
      exact k1 hc6 hc13
    · have hc13 : 0 ≤ b := Int.not_lt.mp hc13
      refine v_load (v := (0, b)) (hT _ zt_X9_hasPlaces rfl _ _ rfl) rfl rfl ?_
      refine v_load (v := (2, 8)) (hT _ zt_X9_hasPlaces rfl _ _ rfl) rfl rfl ?_
      refine v_getI (t := 0) (r := 8) (hT _ zt_X9_hasPlaces rfl _ _ rfl) rfl rfl rfl ?_
      refine v_load (v := (0, 1)) (hT _ zt_X9_hasPlaces rfl _ _ rfl) rfl rfl ?_
      refine v_bin (w := ((h 8 2).2 - 1)) (hT _ zt_X9_hasPlaces rfl _ _ rfl) (hq_sub (by omega) (by omega)) ?_
      refine v_ic (hT _ zt_X9_hasPlaces rfl _ _ rfl) (fun hc17 => ?_) (fun hc17 => ?_)
      · have hc17 : ((h 8 2).2 - 1) < b := hc17
        refine v_push (0) (hT _ zt_X9_hasPlaces rfl _ _ rfl) rfl ?_
        refine v_ret (hT _ zt_X9_hasPlaces rfl _ _ rfl) (Or.inl rfl) ?_
        show vP D T N 171 34 h [some (2, 0), some (0, 3), some (0, b)] [(0, 0)] _
        refine v_if (hT _ zt_X11_placeStatus rfl _ _ rfl) (fun _ => ?_) (fun hc18 => absurd (show (0 : Int) = 0 from (by decide)) hc18)
        refine v_push (4) (hT _ zt_X11_placeStatus rfl _ _ rfl) rfl ?_
        refine v_ret (hT _ zt_X11_placeStatus rfl _ _ rfl) (Or.inl rfl) ?_
        show vP D T N 195 6 h [some (2, 0), some (0, 3), some (0, b), some (1, v), none, none, none] [(0, 4)] _
        refine v_store1 [some (2, 0), some (0, 3), some (0, b), some (1, v), none, some (0, 4), none] (hT _ zt_X11_write rfl _ _ rfl) ⟨rfl, Nat.ne_of_beq_eq_false rfl⟩ (Nat.le_of_ble_eq_true rfl) rfl ?_
        refine v_load (v := (0, 4)) (hT _ zt_X11_write rfl _ _ rfl) rfl rfl ?_
        refine v_if (hT _ zt_X11_write rfl _ _ rfl) (fun hc19 => absurd (show (4 : Int) = 0 from hc19) (by decide)) (fun _ => ?_)
        refine v_load (v := (2, 0)) (hT _ zt_X11_write rfl _ _ rfl) rfl rfl ?_
        refine v_load (v := (0, 4)) (hT _ zt_X11_write rfl _ _ rfl) rfl rfl ?_
        refine v_call (w := 2) [some (2, 0), some (0, 4)] hO (hT _ zt_X11_write rfl _ _ rfl) rfl rfl ?_
        refine v_load (v := (2, 0)) (hT _ zt_X11_refuse rfl _ _ rfl) rfl rfl ?_
        refine v_load (v := (0, 4)) (hT _ zt_X11_refuse rfl _ _ rfl) rfl rfl ?_
        refine v_putf (r := 0) hO (hT _ zt_X11_refuse rfl _ _ rfl) rfl (fun hf20 => ?_)
        refine v_push (0) (hT _ zt_X11_refuse rfl _ _ rfl) rfl ?_
        refine v_ret (hT _ zt_X11_refuse rfl _ _ rfl) (Or.inl rfl) ?_
        show vP D T N 195 19 (zset h 0 0 (0, 4)) [some (2, 0), some (0, 3), some (0, b), some (1, v), none, some (0, 4), none] [(0, 0)] _
        refine v_ret (hT _ zt_X11_write rfl _ _ rfl) (Or.inl rfl) ?_
        exact k2 hc6 hc13 hc17
      · have hc17 : b ≤ ((h 8 2).2 - 1) := Int.not_lt.mp hc17
        refine v_push (1) (hT _ zt_X9_hasPlaces rfl _ _ rfl) rfl ?_
        refine v_goto (hT _ zt_X9_hasPlaces rfl _ _ rfl) ?_
        refine v_ret (hT _ zt_X9_hasPlaces rfl _ _ rfl) (Or.inl rfl) ?_
        show vP D T N 171 34 h [some (2, 0), some (0, 3), some (0, b)] [(0, 1)] _
        refine v_if (hT _ zt_X11_placeStatus rfl _ _ rfl) (fun hc21 => absurd (show (1 : Int) = 0 from hc21) (by decide)) (fun _ => ?_)
        refine v_push (0) (hT _ zt_X11_placeStatus rfl _ _ rfl) rfl ?_
        refine v_goto (hT _ zt_X11_placeStatus rfl _ _ rfl) ?_
        refine v_ret (hT _ zt_X11_placeStatus rfl _ _ rfl) (Or.inl rfl) ?_
        show vP D T N 195 6 h [some (2, 0), some (0, 3), some (0, b), some (1, v), none, none, none] [(0, 0)] _
        refine v_store1 [some (2, 0), some (0, 3), some (0, b), some (1, v), none, some (0, 0), none] (hT _ zt_X11_write rfl _ _ rfl) ⟨rfl, Nat.ne_of_beq_eq_false rfl⟩ (Nat.le_of_ble_eq_true rfl) rfl ?_
        refine v_load (v := (0, 0)) (hT _ zt_X11_write rfl _ _ rfl) rfl rfl ?_
        refine v_if (hT _ zt_X11_write rfl _ _ rfl) (fun _ => ?_) (fun hc22 => absurd (show (0 : Int) = 0 from (by decide)) hc22)
        refine v_load (v := (2, 0)) (hT _ zt_X11_write rfl _ _ rfl) rfl rfl ?_
        refine v_getR (c := 1) (r := 0) (hT _ zt_X11_write rfl _ _ rfl) rfl rfl rfl ?_
        refine v_load (v := (0, 3)) (hT _ zt_X11_write rfl _ _ rfl) rfl rfl ?_
        refine v_aldV (v := (2, 8)) (r := 1) (hT _ zt_X11_write rfl _ _ rfl) rfl rfl (fun hv _ _ => hv.ref rfl) (fun ha23 hb24 => ?_)
        refine v_store1 [some (2, 0), some (0, 3), some (0, b), some (1, v), none, some (0, 0), some (2, 8)] (hT _ zt_X11_write rfl _ _ rfl) ⟨rfl, Nat.ne_of_beq_eq_false rfl⟩ (Nat.le_of_ble_eq_true rfl) rfl ?_
        refine v_load (v := (2, 8)) (hT _ zt_X11_write rfl _ _ rfl) rfl rfl ?_
        refine v_getR (c := 9) (r := 8) (hT _ zt_X11_write rfl _ _ rfl) rfl rfl rfl ?_
        refine v_load (v := (0, b)) (hT _ zt_X11_write rfl _ _ rfl) rfl rfl ?_
        refine v_load (v := (2, 8)) (hT _ zt_X11_write rfl _ _ rfl) rfl rfl ?_
        refine v_load (v := (1, v)) (hT _ zt_X11_write rfl _ _ rfl) rfl rfl ?_
        refine v_call (w := 3) [some (2, 8), some (1, v), none] hO (hT _ zt_X11_write rfl _ _ rfl) rfl rfl ?_
        refine v_load (v := (2, 8)) (hT _ zt_X9_cutToSort rfl _ _ rfl) rfl rfl ?_
        refine v_getI (t := 0) (r := 8) (hT _ zt_X9_cutToSort rfl _ _ rfl) rfl rfl rfl ?_
        refine v_sw (hT _ zt_X9_cutToSort rfl _ _ rfl) ?_
        refine ⟨fun hc25 => ?_, fun hc25 => ?_⟩
        · have hc25 : (h 8 1).2 = 0 := hc25
          refine v_load (v := (1, v)) (hT _ zt_X9_cutToSort rfl _ _ rfl) rfl rfl ?_
          refine v_l2i (w := (vI v)) (hT _ zt_X9_cutToSort rfl _ _ rfl) rfl ?_
          refine v_un (w := (vB ((vI v)))) (hT _ zt_X9_cutToSort rfl _ _ rfl) rfl ?_
          refine v_i2l (hT _ zt_X9_cutToSort rfl _ _ rfl) ?_
          refine v_ret (hT _ zt_X9_cutToSort rfl _ _ rfl) (Or.inr rfl) ?_
          show vP D T N 195 40 h [some (2, 0), some (0, 3), some (0, b), some (1, v), none, some (0, 0), some (2, 8)] [(1, (vB ((vI v)))), (0, b), (2, 9)] _
          refine v_ast (r := 9) (hT _ zt_X11_write rfl _ _ rfl) rfl rfl (fun ha26 hb27 hf28 => ?_)
          refine v_load (v := (2, 0)) (hT _ zt_X11_write rfl _ _ rfl) rfl rfl ?_
          refine v_call (w := 1) [some (2, 0)] hO (hT _ zt_X11_write rfl _ _ rfl) rfl rfl ?_
          refine v_load (v := (2, 0)) (hT _ zt_X11_accept rfl _ _ rfl) rfl rfl ?_
          refine v_push (0) (hT _ zt_X11_accept rfl _ _ rfl) rfl ?_
          refine v_putf (r := 0) hO (hT _ zt_X11_accept rfl _ _ rfl) rfl (fun hf29 => ?_)
          refine v_push (1) (hT _ zt_X11_accept rfl _ _ rfl) rfl ?_
          refine v_ret (hT _ zt_X11_accept rfl _ _ rfl) (Or.inl rfl) ?_
          show vP D T N 195 45 (zset (zset h 9 b.toNat (1, (vB ((vI v))))) 0 0 (0, 0)) [some (2, 0), some (0, 3), some (0, b), some (1, v), none, some (0, 0), some (2, 8)] [(0, 1)] _
          refine v_ret (hT _ zt_X11_write rfl _ _ rfl) (Or.inl rfl) ?_
          exact k3 hc6 hc13 hc17 hc25 hb27
        refine ⟨fun hc30 => ?_, fun hc30 => ?_⟩
        · have hc30 : (h 8 1).2 = 1 := hc30
          refine v_load (v := (1, v)) (hT _ zt_X9_cutToSort rfl _ _ rfl) rfl rfl ?_
          refine v_l2i (w := (vI v)) (hT _ zt_X9_cutToSort rfl _ _ rfl) rfl ?_
          refine v_un (w := (vC ((vI v)))) (hT _ zt_X9_cutToSort rfl _ _ rfl) rfl ?_
          refine v_i2l (hT _ zt_X9_cutToSort rfl _ _ rfl) ?_
          refine v_ret (hT _ zt_X9_cutToSort rfl _ _ rfl) (Or.inr rfl) ?_
          show vP D T N 195 40 h [some (2, 0), some (0, 3), some (0, b), some (1, v), none, some (0, 0), some (2, 8)] [(1, (vC ((vI v)))), (0, b), (2, 9)] _
          refine v_ast (r := 9) (hT _ zt_X11_write rfl _ _ rfl) rfl rfl (fun ha31 hb32 hf33 => ?_)
          refine v_load (v := (2, 0)) (hT _ zt_X11_write rfl _ _ rfl) rfl rfl ?_
          refine v_call (w := 1) [some (2, 0)] hO (hT _ zt_X11_write rfl _ _ rfl) rfl rfl ?_
          refine v_load (v := (2, 0)) (hT _ zt_X11_accept rfl _ _ rfl) rfl rfl ?_
          refine v_push (0) (hT _ zt_X11_accept rfl _ _ rfl) rfl ?_
          refine v_putf (r := 0) hO (hT _ zt_X11_accept rfl _ _ rfl) rfl (fun hf34 => ?_)
          refine v_push (1) (hT _ zt_X11_accept rfl _ _ rfl) rfl ?_
          refine v_ret (hT _ zt_X11_accept rfl _ _ rfl) (Or.inl rfl) ?_
          show vP D T N 195 45 (zset (zset h 9 b.toNat (1, (vC ((vI v))))) 0 0 (0, 0)) [some (2, 0), some (0, 3), some (0, b), some (1, v), none, some (0, 0), some (2, 8)] [(0, 1)] _
          refine v_ret (hT _ zt_X11_write rfl _ _ rfl) (Or.inl rfl) ?_
          exact k4 hc6 hc13 hc17 hc25 hc30 hb32
        refine ⟨fun hc35 => ?_, fun hc35 => ?_⟩
        · have hc35 : (h 8 1).2 = 2 := hc35
          refine v_load (v := (1, v)) (hT _ zt_X9_cutToSort rfl _ _ rfl) rfl rfl ?_
          refine v_l2i (w := (vI v)) (hT _ zt_X9_cutToSort rfl _ _ rfl) rfl ?_
          refine v_i2l (hT _ zt_X9_cutToSort rfl _ _ rfl) ?_
          refine v_ret (hT _ zt_X9_cutToSort rfl _ _ rfl) (Or.inr rfl) ?_
          show vP D T N 195 40 h [some (2, 0), some (0, 3), some (0, b), some (1, v), none, some (0, 0), some (2, 8)] [(1, (vI v)), (0, b), (2, 9)] _
          refine v_ast (r := 9) (hT _ zt_X11_write rfl _ _ rfl) rfl rfl (fun ha36 hb37 hf38 => ?_)
          refine v_load (v := (2, 0)) (hT _ zt_X11_write rfl _ _ rfl) rfl rfl ?_
          refine v_call (w := 1) [some (2, 0)] hO (hT _ zt_X11_write rfl _ _ rfl) rfl rfl ?_
          refine v_load (v := (2, 0)) (hT _ zt_X11_accept rfl _ _ rfl) rfl rfl ?_
          refine v_push (0) (hT _ zt_X11_accept rfl _ _ rfl) rfl ?_
          refine v_putf (r := 0) hO (hT _ zt_X11_accept rfl _ _ rfl) rfl (fun hf39 => ?_)
          refine v_push (1) (hT _ zt_X11_accept rfl _ _ rfl) rfl ?_
          refine v_ret (hT _ zt_X11_accept rfl _ _ rfl) (Or.inl rfl) ?_
          show vP D T N 195 45 (zset (zset h 9 b.toNat (1, (vI v))) 0 0 (0, 0)) [some (2, 0), some (0, 3), some (0, b), some (1, v), none, some (0, 0), some (2, 8)] [(0, 1)] _
          refine v_ret (hT _ zt_X11_write rfl _ _ rfl) (Or.inl rfl) ?_
          exact k5 hc6 hc13 hc17 hc25 hc30 hc35 hb37
        show vP _ _ _ _ _ _ _ _ _
        refine v_load (v := (1, v)) (hT _ zt_X9_cutToSort rfl _ _ rfl) rfl rfl ?_
        refine v_ret (hT _ zt_X9_cutToSort rfl _ _ rfl) (Or.inr rfl) ?_
        show vP D T N 195 40 h [some (2, 0), some (0, 3), some (0, b), some (1, v), none, some (0, 0), some (2, 8)] [(1, v), (0, b), (2, 9)] _
        refine v_ast (r := 9) (hT _ zt_X11_write rfl _ _ rfl) rfl rfl (fun ha40 hb41 hf42 => ?_)
        refine v_load (v := (2, 0)) (hT _ zt_X11_write rfl _ _ rfl) rfl rfl ?_
        refine v_call (w := 1) [some (2, 0)] hO (hT _ zt_X11_write rfl _ _ rfl) rfl rfl ?_
        refine v_load (v := (2, 0)) (hT _ zt_X11_accept rfl _ _ rfl) rfl rfl ?_
        refine v_push (0) (hT _ zt_X11_accept rfl _ _ rfl) rfl ?_
        refine v_putf (r := 0) hO (hT _ zt_X11_accept rfl _ _ rfl) rfl (fun hf43 => ?_)
        refine v_push (1) (hT _ zt_X11_accept rfl _ _ rfl) rfl ?_
        refine v_ret (hT _ zt_X11_accept rfl _ _ rfl) (Or.inl rfl) ?_
        show vP D T N 195 45 (zset (zset h 9 b.toNat (1, v)) 0 0 (0, 0)) [some (2, 0), some (0, 3), some (0, b), some (1, v), none, some (0, 0), some (2, 8)] [(0, 1)] _
        refine v_ret (hT _ zt_X11_write rfl _ _ rfl) (Or.inl rfl) ?_
        exact k6 hc6 hc13 hc17 hc25 hc30 hc35 hb41
theorem y_X11_write_lo {D : zD} {T : zT} (hT : hTab T) (hO : vOK T) {N : Nat} {h : zH} {Q : zR → Prop} (a b v : Int) (hv0 : zHv h) (ha : a < 0)
    (k0 : Q (zset h 0 0 (0, 1), some (0, 0))) :
    vP D T N 195 0 h [some (2, 0), some (0, a), some (0, b), some (1, v), none, none, none] [] Q := by
  refine v_load (v := (2, 0)) (hT _ zt_X11_write rfl _ _ rfl) rfl rfl ?_
  refine v_load (v := (0, a)) (hT _ zt_X11_write rfl _ _ rfl) rfl rfl ?_
  refine v_load (v := (0, b)) (hT _ zt_X11_write rfl _ _ rfl) rfl rfl ?_
  refine v_call (w := 3) [some (2, 0), some (0, a), some (0, b)] hO (hT _ zt_X11_write rfl _ _ rfl) rfl rfl ?_
  refine v_load (v := (0, a)) (hT _ zt_X11_placeStatus rfl _ _ rfl) rfl rfl ?_
  refine v_call (w := 1) [some (0, a)] hO (hT _ zt_X11_placeStatus rfl _ _ rfl) rfl rfl ?_
  refine v_load (v := (0, a)) (hT _ zt_X11_isTray rfl _ _ rfl) rfl rfl ?_
  refine v_if (hT _ zt_X11_isTray rfl _ _ rfl) (fun _ => ?_) (fun hc1 => absurd (show a < 0 from ha) hc1)
  refine v_push (0) (hT _ zt_X11_isTray rfl _ _ rfl) rfl ?_
  refine v_ret (hT _ zt_X11_isTray rfl _ _ rfl) (Or.inl rfl) ?_
  show vP D T N 171 4 h [some (2, 0), some (0, a), some (0, b)] [(0, 0)] _
  refine v_if (hT _ zt_X11_placeStatus rfl _ _ rfl) (fun _ => ?_) (fun hc2 => absurd (show (0 : Int) = 0 from (by decide)) hc2)
  refine v_push (1) (hT _ zt_X11_placeStatus rfl _ _ rfl) rfl ?_
  refine v_ret (hT _ zt_X11_placeStatus rfl _ _ rfl) (Or.inl rfl) ?_
  show vP D T N 195 6 h [some (2, 0), some (0, a), some (0, b), some (1, v), none, none, none] [(0, 1)] _
  refine v_store1 [some (2, 0), some (0, a), some (0, b), some (1, v), none, some (0, 1), none] (hT _ zt_X11_write rfl _ _ rfl) ⟨rfl, Nat.ne_of_beq_eq_false rfl⟩ (Nat.le_of_ble_eq_true rfl) rfl ?_
  refine v_load (v := (0, 1)) (hT _ zt_X11_write rfl _ _ rfl) rfl rfl ?_
  refine v_if (hT _ zt_X11_write rfl _ _ rfl) (fun hc3 => absurd (show (1 : Int) = 0 from hc3) (by decide)) (fun _ => ?_)
  refine v_load (v := (2, 0)) (hT _ zt_X11_write rfl _ _ rfl) rfl rfl ?_
  refine v_load (v := (0, 1)) (hT _ zt_X11_write rfl _ _ rfl) rfl rfl ?_
  refine v_call (w := 2) [some (2, 0), some (0, 1)] hO (hT _ zt_X11_write rfl _ _ rfl) rfl rfl ?_
  refine v_load (v := (2, 0)) (hT _ zt_X11_refuse rfl _ _ rfl) rfl rfl ?_
  refine v_load (v := (0, 1)) (hT _ zt_X11_refuse rfl _ _ rfl) rfl rfl ?_
  refine v_putf (r := 0) hO (hT _ zt_X11_refuse rfl _ _ rfl) rfl (fun hf4 => ?_)
  refine v_push (0) (hT _ zt_X11_refuse rfl _ _ rfl) rfl ?_
  refine v_ret (hT _ zt_X11_refuse rfl _ _ rfl) (Or.inl rfl) ?_
  show vP D T N 195 19 (zset h 0 0 (0, 1)) [some (2, 0), some (0, a), some (0, b), some (1, v), none, some (0, 1), none] [(0, 0)] _
  refine v_ret (hT _ zt_X11_write rfl _ _ rfl) (Or.inl rfl) ?_
  exact k0 
theorem y_X11_write_hi {D : zD} {T : zT} (hT : hTab T) (hO : vOK T) {N : Nat} {h : zH} {Q : zR → Prop} (a b v : Int) (hv0 : zHv h) (ha0 : 0 ≤ a) (ha : 4 ≤ a)
    (k0 : Q (zset h 0 0 (0, 1), some (0, 0))) :
    vP D T N 195 0 h [some (2, 0), some (0, a), some (0, b), some (1, v), none, none, none] [] Q := by
  refine v_load (v := (2, 0)) (hT _ zt_X11_write rfl _ _ rfl) rfl rfl ?_
  refine v_load (v := (0, a)) (hT _ zt_X11_write rfl _ _ rfl) rfl rfl ?_
  refine v_load (v := (0, b)) (hT _ zt_X11_write rfl _ _ rfl) rfl rfl ?_
  refine v_call (w := 3) [some (2, 0), some (0, a), some (0, b)] hO (hT _ zt_X11_write rfl _ _ rfl) rfl rfl ?_
  refine v_load (v := (0, a)) (hT _ zt_X11_placeStatus rfl _ _ rfl) rfl rfl ?_
  refine v_call (w := 1) [some (0, a)] hO (hT _ zt_X11_placeStatus rfl _ _ rfl) rfl rfl ?_
  refine v_load (v := (0, a)) (hT _ zt_X11_isTray rfl _ _ rfl) rfl rfl ?_
  refine v_if (hT _ zt_X11_isTray rfl _ _ rfl) (fun hc1 => absurd (show a < 0 from hc1) (by omega)) (fun _ => ?_)
  refine v_load (v := (0, a)) (hT _ zt_X11_isTray rfl _ _ rfl) rfl rfl ?_
  refine v_push (4) (hT _ zt_X11_isTray rfl _ _ rfl) rfl ?_
  refine v_ic (hT _ zt_X11_isTray rfl _ _ rfl) (fun hc2 => absurd (show a < 4 from hc2) (by omega)) (fun _ => ?_)
  refine v_push (0) (hT _ zt_X11_isTray rfl _ _ rfl) rfl ?_
  refine v_ret (hT _ zt_X11_isTray rfl _ _ rfl) (Or.inl rfl) ?_
  show vP D T N 171 4 h [some (2, 0), some (0, a), some (0, b)] [(0, 0)] _
  refine v_if (hT _ zt_X11_placeStatus rfl _ _ rfl) (fun _ => ?_) (fun hc3 => absurd (show (0 : Int) = 0 from (by decide)) hc3)
  refine v_push (1) (hT _ zt_X11_placeStatus rfl _ _ rfl) rfl ?_
  refine v_ret (hT _ zt_X11_placeStatus rfl _ _ rfl) (Or.inl rfl) ?_
  show vP D T N 195 6 h [some (2, 0), some (0, a), some (0, b), some (1, v), none, none, none] [(0, 1)] _
  refine v_store1 [some (2, 0), some (0, a), some (0, b), some (1, v), none, some (0, 1), none] (hT _ zt_X11_write rfl _ _ rfl) ⟨rfl, Nat.ne_of_beq_eq_false rfl⟩ (Nat.le_of_ble_eq_true rfl) rfl ?_
  refine v_load (v := (0, 1)) (hT _ zt_X11_write rfl _ _ rfl) rfl rfl ?_
  refine v_if (hT _ zt_X11_write rfl _ _ rfl) (fun hc4 => absurd (show (1 : Int) = 0 from hc4) (by decide)) (fun _ => ?_)
  refine v_load (v := (2, 0)) (hT _ zt_X11_write rfl _ _ rfl) rfl rfl ?_
  refine v_load (v := (0, 1)) (hT _ zt_X11_write rfl _ _ rfl) rfl rfl ?_
  refine v_call (w := 2) [some (2, 0), some (0, 1)] hO (hT _ zt_X11_write rfl _ _ rfl) rfl rfl ?_
  refine v_load (v := (2, 0)) (hT _ zt_X11_refuse rfl _ _ rfl) rfl rfl ?_
  refine v_load (v := (0, 1)) (hT _ zt_X11_refuse rfl _ _ rfl) rfl rfl ?_
  refine v_putf (r := 0) hO (hT _ zt_X11_refuse rfl _ _ rfl) rfl (fun hf5 => ?_)
  refine v_push (0) (hT _ zt_X11_refuse rfl _ _ rfl) rfl ?_
  refine v_ret (hT _ zt_X11_refuse rfl _ _ rfl) (Or.inl rfl) ?_
  show vP D T N 195 19 (zset h 0 0 (0, 1)) [some (2, 0), some (0, a), some (0, b), some (1, v), none, some (0, 1), none] [(0, 0)] _
  refine v_ret (hT _ zt_X11_write rfl _ _ rfl) (Or.inl rfl) ?_
  exact k0 
theorem y_X12_write_lo {D : zD} {T : zT} (hT : hTab T) (hO : vOK T) {N : Nat} {h : zH} {Q : zR → Prop} (a b v : Int) (hv0 : zHv h) (ha : a < 0)
    (k0 : Q (zset (zset h 121 1 (0, 0)) 121 0 (0, 1), some (0, 0))) :
    vP D T N 339 0 h [some (2, 121), some (0, a), some (0, b), some (1, v), none] [] Q := by
  refine v_load (v := (2, 121)) (hT _ zt_X12_write rfl _ _ rfl) rfl rfl ?_
  refine v_push (0) (hT _ zt_X12_write rfl _ _ rfl) rfl ?_
  refine v_putf (r := 121) hO (hT _ zt_X12_write rfl _ _ rfl) rfl (fun hf1 => ?_)
  refine v_load (v := (2, 121)) (hT _ zt_X12_write rfl _ _ rfl) rfl rfl ?_
  refine v_load (v := (2, 121)) (hT _ zt_X12_write rfl _ _ rfl) rfl rfl ?_
  refine v_load (v := (0, a)) (hT _ zt_X12_write rfl _ _ rfl) rfl rfl ?_
  refine v_load (v := (0, b)) (hT _ zt_X12_write rfl _ _ rfl) rfl rfl ?_
  refine v_call (w := 4) [some (2, 121), some (0, a), some (0, b), none] hO (hT _ zt_X12_write rfl _ _ rfl) rfl rfl ?_
  refine v_load (v := (2, 121)) (hT _ zt_X12_placed rfl _ _ rfl) rfl rfl ?_
  refine v_load (v := (0, a)) (hT _ zt_X12_placed rfl _ _ rfl) rfl rfl ?_
  refine v_call (w := 2) [some (2, 121), some (0, a)] hO (hT _ zt_X12_placed rfl _ _ rfl) rfl rfl ?_
  refine v_load (v := (0, a)) (hT _ zt_X12_trayed rfl _ _ rfl) rfl rfl ?_
  refine v_if (hT _ zt_X12_trayed rfl _ _ rfl) (fun _ => ?_) (fun hc2 => absurd (show a < 0 from ha) hc2)
  refine v_push (1) (hT _ zt_X12_trayed rfl _ _ rfl) rfl ?_
  refine v_goto (hT _ zt_X12_trayed rfl _ _ rfl) ?_
  refine v_ret (hT _ zt_X12_trayed rfl _ _ rfl) (Or.inl rfl) ?_
  show vP D T N 290 5 (zset h 121 1 (0, 0)) [some (2, 121), some (0, a), some (0, b), none] [(0, 1)] _
  refine v_store1 [some (2, 121), some (0, a), some (0, b), some (0, 1)] (hT _ zt_X12_placed rfl _ _ rfl) ⟨rfl, Nat.ne_of_beq_eq_false rfl⟩ (Nat.le_of_ble_eq_true rfl) rfl ?_
  refine v_load (v := (0, 1)) (hT _ zt_X12_placed rfl _ _ rfl) rfl rfl ?_
  refine v_if (hT _ zt_X12_placed rfl _ _ rfl) (fun _ => ?_) (fun hc3 => absurd (show 0 < (1 : Int) from (by decide)) hc3)
  refine v_load (v := (0, 1)) (hT _ zt_X12_placed rfl _ _ rfl) rfl rfl ?_
  refine v_goto (hT _ zt_X12_placed rfl _ _ rfl) ?_
  refine v_ret (hT _ zt_X12_placed rfl _ _ rfl) (Or.inl rfl) ?_
  show vP D T N 339 12 (zset h 121 1 (0, 0)) [some (2, 121), some (0, a), some (0, b), some (1, v), none] [(0, 1), (2, 121)] _
  refine v_putf (r := 121) hO (hT _ zt_X12_write rfl _ _ rfl) rfl (fun hf4 => ?_)
  refine v_load (v := (2, 121)) (hT _ zt_X12_write rfl _ _ rfl) rfl rfl ?_
  refine v_getf (v := (0, 1)) (r := 121) (hT _ zt_X12_write rfl _ _ rfl) rfl rfl (fun _ => zset_same) ?_
  refine v_if (hT _ zt_X12_write rfl _ _ rfl) (fun _ => ?_) (fun hc5 => absurd (show 0 < (1 : Int) from (by decide)) hc5)
  refine v_push (0) (hT _ zt_X12_write rfl _ _ rfl) rfl ?_
  refine v_ret (hT _ zt_X12_write rfl _ _ rfl) (Or.inl rfl) ?_
  exact k0 
theorem y_X12_write_hi {D : zD} {T : zT} (hT : hTab T) (hO : vOK T) {N : Nat} {h : zH} {Q : zR → Prop} (a b v : Int) (hv0 : zHv h) (ha0 : 0 ≤ a) (ha : 4 ≤ a)
    (k0 : Q (zset (zset h 121 1 (0, 0)) 121 0 (0, 1), some (0, 0))) :
    vP D T N 339 0 h [some (2, 121), some (0, a), some (0, b), some (1, v), none] [] Q := by
  refine v_load (v := (2, 121)) (hT _ zt_X12_write rfl _ _ rfl) rfl rfl ?_
  refine v_push (0) (hT _ zt_X12_write rfl _ _ rfl) rfl ?_
  refine v_putf (r := 121) hO (hT _ zt_X12_write rfl _ _ rfl) rfl (fun hf1 => ?_)
  refine v_load (v := (2, 121)) (hT _ zt_X12_write rfl _ _ rfl) rfl rfl ?_
  refine v_load (v := (2, 121)) (hT _ zt_X12_write rfl _ _ rfl) rfl rfl ?_
  refine v_load (v := (0, a)) (hT _ zt_X12_write rfl _ _ rfl) rfl rfl ?_
  refine v_load (v := (0, b)) (hT _ zt_X12_write rfl _ _ rfl) rfl rfl ?_
  refine v_call (w := 4) [some (2, 121), some (0, a), some (0, b), none] hO (hT _ zt_X12_write rfl _ _ rfl) rfl rfl ?_
  refine v_load (v := (2, 121)) (hT _ zt_X12_placed rfl _ _ rfl) rfl rfl ?_
  refine v_load (v := (0, a)) (hT _ zt_X12_placed rfl _ _ rfl) rfl rfl ?_
  refine v_call (w := 2) [some (2, 121), some (0, a)] hO (hT _ zt_X12_placed rfl _ _ rfl) rfl rfl ?_
  refine v_load (v := (0, a)) (hT _ zt_X12_trayed rfl _ _ rfl) rfl rfl ?_
  refine v_if (hT _ zt_X12_trayed rfl _ _ rfl) (fun hc2 => absurd (show a < 0 from hc2) (by omega)) (fun _ => ?_)
  refine v_load (v := (0, a)) (hT _ zt_X12_trayed rfl _ _ rfl) rfl rfl ?_
  refine v_push (4) (hT _ zt_X12_trayed rfl _ _ rfl) rfl ?_
  refine v_ic (hT _ zt_X12_trayed rfl _ _ rfl) (fun hc3 => absurd (show a < 4 from hc3) (by omega)) (fun _ => ?_)
  refine v_push (1) (hT _ zt_X12_trayed rfl _ _ rfl) rfl ?_
  refine v_goto (hT _ zt_X12_trayed rfl _ _ rfl) ?_
  refine v_ret (hT _ zt_X12_trayed rfl _ _ rfl) (Or.inl rfl) ?_
  show vP D T N 290 5 (zset h 121 1 (0, 0)) [some (2, 121), some (0, a), some (0, b), none] [(0, 1)] _
  refine v_store1 [some (2, 121), some (0, a), some (0, b), some (0, 1)] (hT _ zt_X12_placed rfl _ _ rfl) ⟨rfl, Nat.ne_of_beq_eq_false rfl⟩ (Nat.le_of_ble_eq_true rfl) rfl ?_
  refine v_load (v := (0, 1)) (hT _ zt_X12_placed rfl _ _ rfl) rfl rfl ?_
  refine v_if (hT _ zt_X12_placed rfl _ _ rfl) (fun _ => ?_) (fun hc4 => absurd (show 0 < (1 : Int) from (by decide)) hc4)
  refine v_load (v := (0, 1)) (hT _ zt_X12_placed rfl _ _ rfl) rfl rfl ?_
  refine v_goto (hT _ zt_X12_placed rfl _ _ rfl) ?_
  refine v_ret (hT _ zt_X12_placed rfl _ _ rfl) (Or.inl rfl) ?_
  show vP D T N 339 12 (zset h 121 1 (0, 0)) [some (2, 121), some (0, a), some (0, b), some (1, v), none] [(0, 1), (2, 121)] _
  refine v_putf (r := 121) hO (hT _ zt_X12_write rfl _ _ rfl) rfl (fun hf5 => ?_)
  refine v_load (v := (2, 121)) (hT _ zt_X12_write rfl _ _ rfl) rfl rfl ?_
  refine v_getf (v := (0, 1)) (r := 121) (hT _ zt_X12_write rfl _ _ rfl) rfl rfl (fun _ => zset_same) ?_
  refine v_if (hT _ zt_X12_write rfl _ _ rfl) (fun _ => ?_) (fun hc6 => absurd (show 0 < (1 : Int) from (by decide)) hc6)
  refine v_push (0) (hT _ zt_X12_write rfl _ _ rfl) rfl ?_
  refine v_ret (hT _ zt_X12_write rfl _ _ rfl) (Or.inl rfl) ?_
  exact k0 
theorem y_X12_write {D : zD} {T : zT} (hT : hTab T) (hO : vOK T) {N : Nat} {h : zH} {Q : zR → Prop} (a b v : Int) (hv0 : zHv h) (hm : (h 123 a.toNat).2 ≤ 60)
    (k0 : (a < 0) → Q (zset (zset h 121 1 (0, 0)) 121 0 (0, 1), some (0, 0)))
    (k1 : (0 ≤ a) → (a < 4) → ((h 123 a.toNat).2 < 0) → Q (zset (zset h 121 1 (0, 0)) 121 0 (0, 3), some (0, 0)))
    (k2 : (0 ≤ a) → (a < 4) → (0 ≤ (h 123 a.toNat).2) → (b < 0) → Q (zset (zset h 121 1 (0, 0)) 121 0 (0, 4), some (0, 0)))
    (k3 : (0 ≤ a) → (a < 4) → (0 ≤ (h 123 a.toNat).2) → (0 ≤ b) → (b < (h 123 a.toNat).2) → ((h 122 a.toNat).2 = 0) → (0 ≤ ((60 * a) + b)) → (((60 * a) + b) < 240) → Q (zset (zset (zset h 121 1 (0, 0)) 121 0 (0, 0)) 124 ((((60 * a) + b)).toNat) (1, (vB ((vI v)))), some (0, 1)))
    (k4 : (0 ≤ a) → (a < 4) → (0 ≤ (h 123 a.toNat).2) → (0 ≤ b) → (b < (h 123 a.toNat).2) → ((h 122 a.toNat).2 ≠ 0) → ((h 122 a.toNat).2 = 1) → (0 ≤ ((60 * a) + b)) → (((60 * a) + b) < 240) → Q (zset (zset (zset h 121 1 (0, 0)) 121 0 (0, 0)) 124 ((((60 * a) + b)).toNat) (1, (vC ((vI v)))), some (0, 1)))
    (k5 : (0 ≤ a) → (a < 4) → (0 ≤ (h 123 a.toNat).2) → (0 ≤ b) → (b < (h 123 a.toNat).2) → ((h 122 a.toNat).2 ≠ 0) → ((h 122 a.toNat).2 ≠ 1) → ((h 122 a.toNat).2 = 2) → (0 ≤ ((60 * a) + b)) → (((60 * a) + b) < 240) → Q (zset (zset (zset h 121 1 (0, 0)) 121 0 (0, 0)) 124 ((((60 * a) + b)).toNat) (1, (vI v)), some (0, 1)))
    (k6 : (0 ≤ a) → (a < 4) → (0 ≤ (h 123 a.toNat).2) → (0 ≤ b) → (b < (h 123 a.toNat).2) → ((h 122 a.toNat).2 ≠ 0) → ((h 122 a.toNat).2 ≠ 1) → ((h 122 a.toNat).2 ≠ 2) → (0 ≤ ((60 * a) + b)) → (((60 * a) + b) < 240) → Q (zset (zset (zset h 121 1 (0, 0)) 121 0 (0, 0)) 124 ((((60 * a) + b)).toNat) (1, v), some (0, 1)))
    (k7 : (0 ≤ a) → (a < 4) → (0 ≤ (h 123 a.toNat).2) → (0 ≤ b) → ((h 123 a.toNat).2 ≤ b) → Q (zset (zset h 121 1 (0, 0)) 121 0 (0, 4), some (0, 0)))
    (k8 : (0 ≤ a) → (4 ≤ a) → Q (zset (zset h 121 1 (0, 0)) 121 0 (0, 1), some (0, 0))) :
    vP D T N 339 0 h [some (2, 121), some (0, a), some (0, b), some (1, v), none] [] Q := by
  refine v_load (v := (2, 121)) (hT _ zt_X12_write rfl _ _ rfl) rfl rfl ?_
  refine v_push (0) (hT _ zt_X12_write rfl _ _ rfl) rfl ?_
  refine v_putf (r := 121) hO (hT _ zt_X12_write rfl _ _ rfl) rfl (fun hf1 => ?_)
  refine v_load (v := (2, 121)) (hT _ zt_X12_write rfl _ _ rfl) rfl rfl ?_
  refine v_load (v := (2, 121)) (hT _ zt_X12_write rfl _ _ rfl) rfl rfl ?_
  refine v_load (v := (0, a)) (hT _ zt_X12_write rfl _ _ rfl) rfl rfl ?_
  refine v_load (v := (0, b)) (hT _ zt_X12_write rfl _ _ rfl) rfl rfl ?_
  refine v_call (w := 4) [some (2, 121), some (0, a), some (0, b), none] hO (hT _ zt_X12_write rfl _ _ rfl) rfl rfl ?_
  refine v_load (v := (2, 121)) (hT _ zt_X12_placed rfl _ _ rfl) rfl rfl ?_
  refine v_load (v := (0, a)) (hT _ zt_X12_placed rfl _ _ rfl) rfl rfl ?_
  refine v_call (w := 2) [some (2, 121), some (0, a)] hO (hT _ zt_X12_placed rfl _ _ rfl) rfl rfl ?_
  refine v_load (v := (0, a)) (hT _ zt_X12_trayed rfl _ _ rfl) rfl rfl ?_
  refine v_if (hT _ zt_X12_trayed rfl _ _ rfl) (fun hc2 => ?_) (fun hc2 => ?_)
  · have hc2 : a < 0 := hc2
    refine v_push (1) (hT _ zt_X12_trayed rfl _ _ rfl) rfl ?_
    refine v_goto (hT _ zt_X12_trayed rfl _ _ rfl) ?_
    refine v_ret (hT _ zt_X12_trayed rfl _ _ rfl) (Or.inl rfl) ?_
    show vP D T N 290 5 (zset h 121 1 (0, 0)) [some (2, 121), some (0, a), some (0, b), none] [(0, 1)] _
    refine v_store1 [some (2, 121), some (0, a), some (0, b), some (0, 1)] (hT _ zt_X12_placed rfl _ _ rfl) ⟨rfl, Nat.ne_of_beq_eq_false rfl⟩ (Nat.le_of_ble_eq_true rfl) rfl ?_
    refine v_load (v := (0, 1)) (hT _ zt_X12_placed rfl _ _ rfl) rfl rfl ?_
    refine v_if (hT _ zt_X12_placed rfl _ _ rfl) (fun _ => ?_) (fun hc3 => absurd (show 0 < (1 : Int) from (by decide)) hc3)
    refine v_load (v := (0, 1)) (hT _ zt_X12_placed rfl _ _ rfl) rfl rfl ?_
    refine v_goto (hT _ zt_X12_placed rfl _ _ rfl) ?_
    refine v_ret (hT _ zt_X12_placed rfl _ _ rfl) (Or.inl rfl) ?_
    show vP D T N 339 12 (zset h 121 1 (0, 0)) [some (2, 121), some (0, a), some (0, b), some (1, v), none] [(0, 1), (2, 121)] _
    refine v_putf (r := 121) hO (hT _ zt_X12_write rfl _ _ rfl) rfl (fun hf4 => ?_)
    refine v_load (v := (2, 121)) (hT _ zt_X12_write rfl _ _ rfl) rfl rfl ?_
    refine v_getf (v := (0, 1)) (r := 121) (hT _ zt_X12_write rfl _ _ rfl) rfl rfl (fun _ => zset_same) ?_
    refine v_if (hT _ zt_X12_write rfl _ _ rfl) (fun _ => ?_) (fun hc5 => absurd (show 0 < (1 : Int) from (by decide)) hc5)
    refine v_push (0) (hT _ zt_X12_write rfl _ _ rfl) rfl ?_
    refine v_ret (hT _ zt_X12_write rfl _ _ rfl) (Or.inl rfl) ?_
    exact k0 hc2
  · have hc2 : 0 ≤ a := Int.not_lt.mp hc2
    refine v_load (v := (0, a)) (hT _ zt_X12_trayed rfl _ _ rfl) rfl rfl ?_
    refine v_push (4) (hT _ zt_X12_trayed rfl _ _ rfl) rfl ?_
    refine v_ic (hT _ zt_X12_trayed rfl _ _ rfl) (fun hc6 => ?_) (fun hc6 => ?_)
    · have hc6 : a < 4 := hc6
      refine v_load (v := (2, 121)) (hT _ zt_X12_trayed rfl _ _ rfl) rfl rfl ?_
      refine v_getR (c := 123) (r := 121) (hT _ zt_X12_trayed rfl _ _ rfl) rfl rfl rfl ?_
      refine v_load (v := (0, a)) (hT _ zt_X12_trayed rfl _ _ rfl) rfl rfl ?_
      refine v_aldE (t := 0) (r := 123) (w := (h 123 a.toNat).2) (hT _ zt_X12_trayed rfl _ _ rfl) rfl rfl rfl (congrArg Prod.snd (zset_ne (fun c => absurd c.1 (by decide)))) (fun ha7 hb8 => ?_)
      refine v_if (hT _ zt_X12_trayed rfl _ _ rfl) (fun hc9 => ?_) (fun hc9 => ?_)
      · have hc9 : (h 123 a.toNat).2 < 0 := hc9
        refine v_push (3) (hT _ zt_X12_trayed rfl _ _ rfl) rfl ?_
        refine v_goto (hT _ zt_X12_trayed rfl _ _ rfl) ?_
        refine v_ret (hT _ zt_X12_trayed rfl _ _ rfl) (Or.inl rfl) ?_
        show vP D T N 290 5 (zset h 121 1 (0, 0)) [some (2, 121), some (0, a), some (0, b), none] [(0, 3)] _
        refine v_store1 [some (2, 121), some (0, a), some (0, b), some (0, 3)] (hT _ zt_X12_placed rfl _ _ rfl) ⟨rfl, Nat.ne_of_beq_eq_false rfl⟩ (Nat.le_of_ble_eq_true rfl) rfl ?_
        refine v_load (v := (0, 3)) (hT _ zt_X12_placed rfl _ _ rfl) rfl rfl ?_
        refine v_if (hT _ zt_X12_placed rfl _ _ rfl) (fun _ => ?_) (fun hc10 => absurd (show 0 < (3 : Int) from (by decide)) hc10)
        refine v_load (v := (0, 3)) (hT _ zt_X12_placed rfl _ _ rfl) rfl rfl ?_
        refine v_goto (hT _ zt_X12_placed rfl _ _ rfl) ?_
        refine v_ret (hT _ zt_X12_placed rfl _ _ rfl) (Or.inl rfl) ?_
        show vP D T N 339 12 (zset h 121 1 (0, 0)) [some (2, 121), some (0, a), some (0, b), some (1, v), none] [(0, 3), (2, 121)] _
        refine v_putf (r := 121) hO (hT _ zt_X12_write rfl _ _ rfl) rfl (fun hf11 => ?_)
        refine v_load (v := (2, 121)) (hT _ zt_X12_write rfl _ _ rfl) rfl rfl ?_
        refine v_getf (v := (0, 3)) (r := 121) (hT _ zt_X12_write rfl _ _ rfl) rfl rfl (fun _ => zset_same) ?_
        refine v_if (hT _ zt_X12_write rfl _ _ rfl) (fun _ => ?_) (fun hc12 => absurd (show 0 < (3 : Int) from (by decide)) hc12)
        refine v_push (0) (hT _ zt_X12_write rfl _ _ rfl) rfl ?_
        refine v_ret (hT _ zt_X12_write rfl _ _ rfl) (Or.inl rfl) ?_
        exact k1 hc2 hc6 hc9
      · have hc9 : 0 ≤ (h 123 a.toNat).2 := Int.not_lt.mp hc9
        refine v_push (0) (hT _ zt_X12_trayed rfl _ _ rfl) rfl ?_
        refine v_ret (hT _ zt_X12_trayed rfl _ _ rfl) (Or.inl rfl) ?_
        show vP D T N 290 5 (zset h 121 1 (0, 0)) [some (2, 121), some (0, a), some (0, b), none] [(0, 0)] _
        refine v_store1 [some (2, 121), some (0, a), some (0, b), some (0, 0)] (hT _ zt_X12_placed rfl _ _ rfl) ⟨rfl, Nat.ne_of_beq_eq_false rfl⟩ (Nat.le_of_ble_eq_true rfl) rfl ?_
        refine v_load (v := (0, 0)) (hT _ zt_X12_placed rfl _ _ rfl) rfl rfl ?_
        refine v_if (hT _ zt_X12_placed rfl _ _ rfl) (fun hc13 => absurd (show 0 < (0 : Int) from hc13) (by decide)) (fun _ => ?_)
        refine v_load (v := (0, b)) (hT _ zt_X12_placed rfl _ _ rfl) rfl rfl ?_
        refine v_if (hT _ zt_X12_placed rfl _ _ rfl) (fun hc14 => ?_) (fun hc14 => ?_)
        · have hc14 : b < 0 := hc14
          refine v_push (4) (hT _ zt_X12_placed rfl _ _ rfl) rfl ?_
          refine v_goto (hT _ zt_X12_placed rfl _ _ rfl) ?_
          refine v_ret (hT _ zt_X12_placed rfl _ _ rfl) (Or.inl rfl) ?_
          show vP D T N 339 12 (zset h 121 1 (0, 0)) [some (2, 121), some (0, a), some (0, b), some (1, v), none] [(0, 4), (2, 121)] _
          refine v_putf (r := 121) hO (hT _ zt_X12_write rfl _ _ rfl) rfl (fun hf15 => ?_)
          refine v_load (v := (2, 121)) (hT _ zt_X12_write rfl _ _ rfl) rfl rfl ?_
          refine v_getf (v := (0, 4)) (r := 121) (hT _ zt_X12_write rfl _ _ rfl) rfl rfl (fun _ => zset_same) ?_
          refine v_if (hT _ zt_X12_write rfl _ _ rfl) (fun _ => ?_) (fun hc16 => absurd (show 0 < (4 : Int) from (by decide)) hc16)
          refine v_push (0) (hT _ zt_X12_write rfl _ _ rfl) rfl ?_
          refine v_ret (hT _ zt_X12_write rfl _ _ rfl) (Or.inl rfl) ?_
          exact k2 hc2 hc6 hc9 hc14
        · have hc14 : 0 ≤ b := Int.not_lt.mp hc14
          refine v_load (v := (0, b)) (hT _ zt_X12_placed rfl _ _ rfl) rfl rfl ?_
          refine v_load (v := (2, 121)) (hT _ zt_X12_placed rfl _ _ rfl) rfl rfl ?_
          refine v_getR (c := 123) (r := 121) (hT _ zt_X12_placed rfl _ _ rfl) rfl rfl rfl ?_
          refine v_load (v := (0, a)) (hT _ zt_X12_placed rfl _ _ rfl) rfl rfl ?_
          refine v_aldE (t := 0) (r := 123) (w := (h 123 a.toNat).2) (hT _ zt_X12_placed rfl _ _ rfl) rfl rfl rfl (congrArg Prod.snd (zset_ne (fun c => absurd c.1 (by decide)))) (fun ha17 hb18 => ?_)
          refine v_ic (hT _ zt_X12_placed rfl _ _ rfl) (fun hc19 => ?_) (fun hc19 => ?_)
          · have hc19 : b < (h 123 a.toNat).2 := hc19
            refine v_push (0) (hT _ zt_X12_placed rfl _ _ rfl) rfl ?_
            refine v_ret (hT _ zt_X12_placed rfl _ _ rfl) (Or.inl rfl) ?_
            show vP D T N 339 12 (zset h 121 1 (0, 0)) [some (2, 121), some (0, a), some (0, b), some (1, v), none] [(0, 0), (2, 121)] _
            refine v_putf (r := 121) hO (hT _ zt_X12_write rfl _ _ rfl) rfl (fun hf20 => ?_)
            refine v_load (v := (2, 121)) (hT _ zt_X12_write rfl _ _ rfl) rfl rfl ?_
            refine v_getf (v := (0, 0)) (r := 121) (hT _ zt_X12_write rfl _ _ rfl) rfl rfl (fun _ => zset_same) ?_
            refine v_if (hT _ zt_X12_write rfl _ _ rfl) (fun hc21 => absurd (show 0 < (0 : Int) from hc21) (by decide)) (fun _ => ?_)
            refine v_load (v := (2, 121)) (hT _ zt_X12_write rfl _ _ rfl) rfl rfl ?_
            refine v_getR (c := 124) (r := 121) (hT _ zt_X12_write rfl _ _ rfl) rfl rfl rfl ?_
            refine v_push (60) (hT _ zt_X12_write rfl _ _ rfl) rfl ?_
            refine v_load (v := (0, a)) (hT _ zt_X12_write rfl _ _ rfl) rfl rfl ?_
            refine v_bin (w := (60 * a)) (hT _ zt_X12_write rfl _ _ rfl) (hq_mul (by omega) (by omega)) ?_
            refine v_load (v := (0, b)) (hT _ zt_X12_write rfl _ _ rfl) rfl rfl ?_
            refine v_bin (w := ((60 * a) + b)) (hT _ zt_X12_write rfl _ _ rfl) (hq_add (by omega) (by omega)) ?_
            refine v_load (v := (2, 121)) (hT _ zt_X12_write rfl _ _ rfl) rfl rfl ?_
            refine v_getR (c := 122) (r := 121) (hT _ zt_X12_write rfl _ _ rfl) rfl rfl rfl ?_
            refine v_load (v := (0, a)) (hT _ zt_X12_write rfl _ _ rfl) rfl rfl ?_
            refine v_aldE (t := 0) (r := 122) (w := (h 122 a.toNat).2) (hT _ zt_X12_write rfl _ _ rfl) rfl rfl rfl (congrArg Prod.snd (Eq.trans (zset_ne (fun c => absurd c.1 (by decide))) (zset_ne (fun c => absurd c.1 (by decide))))) (fun ha22 hb23 => ?_)
            refine v_load (v := (1, v)) (hT _ zt_X12_write rfl _ _ rfl) rfl rfl ?_
            refine v_call (w := 3) [some (0, (h 122 a.toNat).2), some (1, v), none] hO (hT _ zt_X12_write rfl _ _ rfl) rfl rfl ?_
            refine v_load (v := (0, (h 122 a.toNat).2)) (hT _ zt_X12_cut rfl _ _ rfl) rfl rfl ?_
            refine v_if (hT _ zt_X12_cut rfl _ _ rfl) (fun hc24 => ?_) (fun hc24 => ?_)
            · have hc24 : (h 122 a.toNat).2 = 0 := hc24
              refine v_load (v := (1, v)) (hT _ zt_X12_cut rfl _ _ rfl) rfl rfl ?_
              refine v_l2i (w := (vI v)) (hT _ zt_X12_cut rfl _ _ rfl) rfl ?_
              refine v_un (w := (vB ((vI v)))) (hT _ zt_X12_cut rfl _ _ rfl) rfl ?_
              refine v_i2l (hT _ zt_X12_cut rfl _ _ rfl) ?_
              refine v_goto (hT _ zt_X12_cut rfl _ _ rfl) ?_
              refine v_ret (hT _ zt_X12_cut rfl _ _ rfl) (Or.inr rfl) ?_
              show vP D T N 339 44 (zset (zset h 121 1 (0, 0)) 121 0 (0, 0)) [some (2, 121), some (0, a), some (0, b), some (1, v), none] [(1, (vB ((vI v)))), (0, ((60 * a) + b)), (2, 124)] _
              refine v_ast (r := 124) (hT _ zt_X12_write rfl _ _ rfl) rfl rfl (fun ha25 hb26 hf27 => ?_)
              refine v_push (1) (hT _ zt_X12_write rfl _ _ rfl) rfl ?_
              refine v_ret (hT _ zt_X12_write rfl _ _ rfl) (Or.inl rfl) ?_
              exact k3 hc2 hc6 hc9 hc14 hc19 hc24 ha25 hb26
            · have hc24 : (h 122 a.toNat).2 ≠ 0 := hc24
              refine v_load (v := (0, (h 122 a.toNat).2)) (hT _ zt_X12_cut rfl _ _ rfl) rfl rfl ?_
              refine v_push (1) (hT _ zt_X12_cut rfl _ _ rfl) rfl ?_
              refine v_ic (hT _ zt_X12_cut rfl _ _ rfl) (fun hc28 => ?_) (fun hc28 => ?_)
              · have hc28 : (h 122 a.toNat).2 = 1 := hc28
                refine v_load (v := (1, v)) (hT _ zt_X12_cut rfl _ _ rfl) rfl rfl ?_
                refine v_l2i (w := (vI v)) (hT _ zt_X12_cut rfl _ _ rfl) rfl ?_
                refine v_un (w := (vC ((vI v)))) (hT _ zt_X12_cut rfl _ _ rfl) rfl ?_
                refine v_i2l (hT _ zt_X12_cut rfl _ _ rfl) ?_
                refine v_goto (hT _ zt_X12_cut rfl _ _ rfl) ?_
                refine v_ret (hT _ zt_X12_cut rfl _ _ rfl) (Or.inr rfl) ?_
                show vP D T N 339 44 (zset (zset h 121 1 (0, 0)) 121 0 (0, 0)) [some (2, 121), some (0, a), some (0, b), some (1, v), none] [(1, (vC ((vI v)))), (0, ((60 * a) + b)), (2, 124)] _
                refine v_ast (r := 124) (hT _ zt_X12_write rfl _ _ rfl) rfl rfl (fun ha29 hb30 hf31 => ?_)
                refine v_push (1) (hT _ zt_X12_write rfl _ _ rfl) rfl ?_
                refine v_ret (hT _ zt_X12_write rfl _ _ rfl) (Or.inl rfl) ?_
                exact k4 hc2 hc6 hc9 hc14 hc19 hc24 hc28 ha29 hb30
              · have hc28 : (h 122 a.toNat).2 ≠ 1 := hc28
                refine v_load (v := (0, (h 122 a.toNat).2)) (hT _ zt_X12_cut rfl _ _ rfl) rfl rfl ?_
                refine v_push (2) (hT _ zt_X12_cut rfl _ _ rfl) rfl ?_
                refine v_ic (hT _ zt_X12_cut rfl _ _ rfl) (fun hc32 => ?_) (fun hc32 => ?_)
                · have hc32 : (h 122 a.toNat).2 = 2 := hc32
                  refine v_load (v := (1, v)) (hT _ zt_X12_cut rfl _ _ rfl) rfl rfl ?_
                  refine v_l2i (w := (vI v)) (hT _ zt_X12_cut rfl _ _ rfl) rfl ?_
                  refine v_i2l (hT _ zt_X12_cut rfl _ _ rfl) ?_
                  refine v_goto (hT _ zt_X12_cut rfl _ _ rfl) ?_
                  refine v_ret (hT _ zt_X12_cut rfl _ _ rfl) (Or.inr rfl) ?_
                  show vP D T N 339 44 (zset (zset h 121 1 (0, 0)) 121 0 (0, 0)) [some (2, 121), some (0, a), some (0, b), some (1, v), none] [(1, (vI v)), (0, ((60 * a) + b)), (2, 124)] _
                  refine v_ast (r := 124) (hT _ zt_X12_write rfl _ _ rfl) rfl rfl (fun ha33 hb34 hf35 => ?_)
                  refine v_push (1) (hT _ zt_X12_write rfl _ _ rfl) rfl ?_
                  refine v_ret (hT _ zt_X12_write rfl _ _ rfl) (Or.inl rfl) ?_
                  exact k5 hc2 hc6 hc9 hc14 hc19 hc24 hc28 hc32 ha33 hb34
                · have hc32 : (h 122 a.toNat).2 ≠ 2 := hc32
                  refine v_load (v := (1, v)) (hT _ zt_X12_cut rfl _ _ rfl) rfl rfl ?_
                  refine v_ret (hT _ zt_X12_cut rfl _ _ rfl) (Or.inr rfl) ?_
                  show vP D T N 339 44 (zset (zset h 121 1 (0, 0)) 121 0 (0, 0)) [some (2, 121), some (0, a), some (0, b), some (1, v), none] [(1, v), (0, ((60 * a) + b)), (2, 124)] _
                  refine v_ast (r := 124) (hT _ zt_X12_write rfl _ _ rfl) rfl rfl (fun ha36 hb37 hf38 => ?_)
                  refine v_push (1) (hT _ zt_X12_write rfl _ _ rfl) rfl ?_
                  refine v_ret (hT _ zt_X12_write rfl _ _ rfl) (Or.inl rfl) ?_
                  exact k6 hc2 hc6 hc9 hc14 hc19 hc24 hc28 hc32 ha36 hb37
          · have hc19 : (h 123 a.toNat).2 ≤ b := Int.not_lt.mp hc19
            refine v_push (4) (hT _ zt_X12_placed rfl _ _ rfl) rfl ?_
            refine v_goto (hT _ zt_X12_placed rfl _ _ rfl) ?_
            refine v_ret (hT _ zt_X12_placed rfl _ _ rfl) (Or.inl rfl) ?_
            show vP D T N 339 12 (zset h 121 1 (0, 0)) [some (2, 121), some (0, a), some (0, b), some (1, v), none] [(0, 4), (2, 121)] _
            refine v_putf (r := 121) hO (hT _ zt_X12_write rfl _ _ rfl) rfl (fun hf39 => ?_)
            refine v_load (v := (2, 121)) (hT _ zt_X12_write rfl _ _ rfl) rfl rfl ?_
            refine v_getf (v := (0, 4)) (r := 121) (hT _ zt_X12_write rfl _ _ rfl) rfl rfl (fun _ => zset_same) ?_
            refine v_if (hT _ zt_X12_write rfl _ _ rfl) (fun _ => ?_) (fun hc40 => absurd (show 0 < (4 : Int) from (by decide)) hc40)
            refine v_push (0) (hT _ zt_X12_write rfl _ _ rfl) rfl ?_
            refine v_ret (hT _ zt_X12_write rfl _ _ rfl) (Or.inl rfl) ?_
            exact k7 hc2 hc6 hc9 hc14 hc19
    · have hc6 : 4 ≤ a := Int.not_lt.mp hc6
      refine v_push (1) (hT _ zt_X12_trayed rfl _ _ rfl) rfl ?_
      refine v_goto (hT _ zt_X12_trayed rfl _ _ rfl) ?_
      refine v_ret (hT _ zt_X12_trayed rfl _ _ rfl) (Or.inl rfl) ?_
      show vP D T N 290 5 (zset h 121 1 (0, 0)) [some (2, 121), some (0, a), some (0, b), none] [(0, 1)] _
      refine v_store1 [some (2, 121), some (0, a), some (0, b), some (0, 1)] (hT _ zt_X12_placed rfl _ _ rfl) ⟨rfl, Nat.ne_of_beq_eq_false rfl⟩ (Nat.le_of_ble_eq_true rfl) rfl ?_
      refine v_load (v := (0, 1)) (hT _ zt_X12_placed rfl _ _ rfl) rfl rfl ?_
      refine v_if (hT _ zt_X12_placed rfl _ _ rfl) (fun _ => ?_) (fun hc41 => absurd (show 0 < (1 : Int) from (by decide)) hc41)
      refine v_load (v := (0, 1)) (hT _ zt_X12_placed rfl _ _ rfl) rfl rfl ?_
      refine v_goto (hT _ zt_X12_placed rfl _ _ rfl) ?_
      refine v_ret (hT _ zt_X12_placed rfl _ _ rfl) (Or.inl rfl) ?_
      show vP D T N 339 12 (zset h 121 1 (0, 0)) [some (2, 121), some (0, a), some (0, b), some (1, v), none] [(0, 1), (2, 121)] _
      refine v_putf (r := 121) hO (hT _ zt_X12_write rfl _ _ rfl) rfl (fun hf42 => ?_)
      refine v_load (v := (2, 121)) (hT _ zt_X12_write rfl _ _ rfl) rfl rfl ?_
      refine v_getf (v := (0, 1)) (r := 121) (hT _ zt_X12_write rfl _ _ rfl) rfl rfl (fun _ => zset_same) ?_
      refine v_if (hT _ zt_X12_write rfl _ _ rfl) (fun _ => ?_) (fun hc43 => absurd (show 0 < (1 : Int) from (by decide)) hc43)
      refine v_push (0) (hT _ zt_X12_write rfl _ _ rfl) rfl ?_
      refine v_ret (hT _ zt_X12_write rfl _ _ rfl) (Or.inl rfl) ?_
      exact k8 hc2 hc6
theorem y_X11_read_0 {D : zD} {T : zT} (hT : hTab T) (hO : vOK T) {N : Nat} {h : zH} {Q : zR → Prop} (b : Int) (hv0 : zHv h) (hb : 0 ≤ (h 2 2).2 ∧ (h 2 2).2 ≤ 60)
    (k0 : ((h 2 1).2 = -1) → Q (zset h 0 0 (0, 3), some (1, -1)))
    (k1 : ((h 2 1).2 ≠ -1) → (b < 0) → Q (zset h 0 0 (0, 4), some (1, -1)))
    (k2 : ((h 2 1).2 ≠ -1) → (0 ≤ b) → (((h 2 2).2 - 1) < b) → Q (zset h 0 0 (0, 4), some (1, -1)))
    (k3 : ((h 2 1).2 ≠ -1) → (0 ≤ b) → (b ≤ ((h 2 2).2 - 1)) → (b < 60) → Q (zset h 0 0 (0, 0), some (1, (h 3 b.toNat).2))) :
    vP D T N 175 0 h [some (2, 0), some (0, 0), some (0, b), none] [] Q := by
  refine v_load (v := (2, 0)) (hT _ zt_X11_read rfl _ _ rfl) rfl rfl ?_
  refine v_load (v := (0, 0)) (hT _ zt_X11_read rfl _ _ rfl) rfl rfl ?_
  refine v_load (v := (0, b)) (hT _ zt_X11_read rfl _ _ rfl) rfl rfl ?_
  refine v_call (w := 3) [some (2, 0), some (0, 0), some (0, b)] hO (hT _ zt_X11_read rfl _ _ rfl) rfl rfl ?_
  refine v_load (v := (0, 0)) (hT _ zt_X11_placeStatus rfl _ _ rfl) rfl rfl ?_
  refine v_call (w := 1) [some (0, 0)] hO (hT _ zt_X11_placeStatus rfl _ _ rfl) rfl rfl ?_
  refine v_load (v := (0, 0)) (hT _ zt_X11_isTray rfl _ _ rfl) rfl rfl ?_
  refine v_if (hT _ zt_X11_isTray rfl _ _ rfl) (fun hc1 => absurd (show (0 : Int) < 0 from hc1) (by decide)) (fun _ => ?_)
  refine v_load (v := (0, 0)) (hT _ zt_X11_isTray rfl _ _ rfl) rfl rfl ?_
  refine v_push (4) (hT _ zt_X11_isTray rfl _ _ rfl) rfl ?_
  refine v_ic (hT _ zt_X11_isTray rfl _ _ rfl) (fun _ => ?_) (fun hc2 => absurd (show (0 : Int) < 4 from (by decide)) hc2)
  refine v_push (1) (hT _ zt_X11_isTray rfl _ _ rfl) rfl ?_
  refine v_goto (hT _ zt_X11_isTray rfl _ _ rfl) ?_
  refine v_ret (hT _ zt_X11_isTray rfl _ _ rfl) (Or.inl rfl) ?_
  show vP D T N 171 4 h [some (2, 0), some (0, 0), some (0, b)] [(0, 1)] _
  refine v_if (hT _ zt_X11_placeStatus rfl _ _ rfl) (fun hc3 => absurd (show (1 : Int) = 0 from hc3) (by decide)) (fun _ => ?_)
  refine v_load (v := (2, 0)) (hT _ zt_X11_placeStatus rfl _ _ rfl) rfl rfl ?_
  refine v_getR (c := 1) (r := 0) (hT _ zt_X11_placeStatus rfl _ _ rfl) rfl rfl rfl ?_
  refine v_load (v := (0, 0)) (hT _ zt_X11_placeStatus rfl _ _ rfl) rfl rfl ?_
  refine v_aldV (v := (2, 2)) (r := 1) (hT _ zt_X11_placeStatus rfl _ _ rfl) rfl rfl (fun hv _ _ => hv.ref rfl) (fun ha4 hb5 => ?_)
  refine v_call (w := 1) [some (2, 2)] hO (hT _ zt_X11_placeStatus rfl _ _ rfl) rfl rfl ?_
  refine v_load (v := (2, 2)) (hT _ zt_X9_isMissing rfl _ _ rfl) rfl rfl ?_
  refine v_getI (t := 0) (r := 2) (hT _ zt_X9_isMissing rfl _ _ rfl) rfl rfl rfl ?_
  refine v_push (-1) (hT _ zt_X9_isMissing rfl _ _ rfl) rfl ?_
  refine v_ic (hT _ zt_X9_isMissing rfl _ _ rfl) (fun hc6 => ?_) (fun hc6 => ?_)
  · have hc6 : (h 2 1).2 = -1 := hc6
    refine v_push (1) (hT _ zt_X9_isMissing rfl _ _ rfl) rfl ?_
    refine v_goto (hT _ zt_X9_isMissing rfl _ _ rfl) ?_
    refine v_ret (hT _ zt_X9_isMissing rfl _ _ rfl) (Or.inl rfl) ?_
    show vP D T N 171 18 h [some (2, 0), some (0, 0), some (0, b)] [(0, 1)] _
    refine v_if (hT _ zt_X11_placeStatus rfl _ _ rfl) (fun hc7 => absurd (show (1 : Int) = 0 from hc7) (by decide)) (fun _ => ?_)
    refine v_push (3) (hT _ zt_X11_placeStatus rfl _ _ rfl) rfl ?_
    refine v_ret (hT _ zt_X11_placeStatus rfl _ _ rfl) (Or.inl rfl) ?_
    show vP D T N 175 6 h [some (2, 0), some (0, 0), some (0, b), none] [(0, 3)] _
    refine v_store1 [some (2, 0), some (0, 0), some (0, b), some (0, 3)] (hT _ zt_X11_read rfl _ _ rfl) ⟨rfl, Nat.ne_of_beq_eq_false rfl⟩ (Nat.le_of_ble_eq_true rfl) rfl ?_
    refine v_load (v := (0, 3)) (hT _ zt_X11_read rfl _ _ rfl) rfl rfl ?_
    refine v_if (hT _ zt_X11_read rfl _ _ rfl) (fun hc8 => absurd (show (3 : Int) = 0 from hc8) (by decide)) (fun _ => ?_)
    refine v_load (v := (2, 0)) (hT _ zt_X11_read rfl _ _ rfl) rfl rfl ?_
    refine v_load (v := (0, 3)) (hT _ zt_X11_read rfl _ _ rfl) rfl rfl ?_
    refine v_call (w := 2) [some (2, 0), some (0, 3)] hO (hT _ zt_X11_read rfl _ _ rfl) rfl rfl ?_
    refine v_load (v := (2, 0)) (hT _ zt_X11_refused rfl _ _ rfl) rfl rfl ?_
    refine v_load (v := (0, 3)) (hT _ zt_X11_refused rfl _ _ rfl) rfl rfl ?_
    refine v_putf (r := 0) hO (hT _ zt_X11_refused rfl _ _ rfl) rfl (fun hf9 => ?_)
    refine v_push (-1) (hT _ zt_X11_refused rfl _ _ rfl) rfl ?_
    refine v_ret (hT _ zt_X11_refused rfl _ _ rfl) (Or.inl rfl) ?_
    show vP D T N 175 16 (zset h 0 0 (0, 3)) [some (2, 0), some (0, 0), some (0, b), some (0, 3)] [(0, -1)] _
    refine v_i2l (hT _ zt_X11_read rfl _ _ rfl) ?_
    refine v_ret (hT _ zt_X11_read rfl _ _ rfl) (Or.inr rfl) ?_
    exact k0 hc6
  · have hc6 : (h 2 1).2 ≠ -1 := hc6
    refine v_push (0) (hT _ zt_X9_isMissing rfl _ _ rfl) rfl ?_
    refine v_ret (hT _ zt_X9_isMissing rfl _ _ rfl) (Or.inl rfl) ?_
    show vP D T N 171 18 h [some (2, 0), some (0, 0), some (0, b)] [(0, 0)] _
    refine v_if (hT _ zt_X11_placeStatus rfl _ _ rfl) (fun _ => ?_) (fun hc10 => absurd (show (0 : Int) = 0 from (by decide)) hc10)
    refine v_load (v := (2, 0)) (hT _ zt_X11_placeStatus rfl _ _ rfl) rfl rfl ?_
    refine v_getR (c := 1) (r := 0) (hT _ zt_X11_placeStatus rfl _ _ rfl) rfl rfl rfl ?_
    refine v_load (v := (0, 0)) (hT _ zt_X11_placeStatus rfl _ _ rfl) rfl rfl ?_
    refine v_aldV (v := (2, 2)) (r := 1) (hT _ zt_X11_placeStatus rfl _ _ rfl) rfl rfl (fun hv _ _ => hv.ref rfl) (fun ha11 hb12 => ?_)
    refine v_load (v := (0, b)) (hT _ zt_X11_placeStatus rfl _ _ rfl) rfl rfl ?_
    refine v_push (1) (hT _ zt_X11_placeStatus rfl _ _ rfl) rfl ?_
    refine v_call (w := 3) [some (2, 2), some (0, b), some (0, 1)] hO (hT _ zt_X11_placeStatus rfl _ _ rfl) rfl rfl ?_
    refine v_load (v := (0, b)) (hT _ zt_X9_hasPlaces rfl _ _ rfl) rfl rfl ?_
    refine v_if (hT _ zt_X9_hasPlaces rfl _ _ rfl) (fun hc13 => ?_) (fun hc13 => ?_)
    · have hc13 : b < 0 := hc13
      refine v_push (0) (hT _ zt_X9_hasPlaces rfl _ _ rfl) rfl ?_
      refine v_ret (hT _ zt_X9_hasPlaces rfl _ _ rfl) (Or.inl rfl) ?_
      show vP D T N 171 34 h [some (2, 0), some (0, 0), some (0, b)] [(0, 0)] _
      refine v_if (hT _ zt_X11_placeStatus rfl _ _ rfl) (fun _ => ?_) (fun hc14 => absurd (show (0 : Int) = 0 from (by decide)) hc14)
      refine v_push (4) (hT _ zt_X11_placeStatus rfl _ _ rfl) rfl ?_
      refine v_ret (hT _ zt_X11_placeStatus rfl _ _ rfl) (Or.inl rfl) ?_
      show vP D T N 175 6 h [some (2, 0), some (0, 0), some (0, b), none] [(0, 4)] _
      refine v_store1 [some (2, 0), some (0, 0), some (0, b), some (0, 4)] (hT _ zt_X11_read rfl _ _ rfl) ⟨rfl, Nat.ne_of_beq_eq_false rfl⟩ (Nat.le_of_ble_eq_true rfl) rfl ?_
      refine v_load (v := (0, 4)) (hT _ zt_X11_read rfl _ _ rfl) rfl rfl ?_
      refine v_if (hT _ zt_X11_read rfl _ _ rfl) (fun hc15 => absurd (show (4 : Int) = 0 from hc15) (by decide)) (fun _ => ?_)
      refine v_load (v := (2, 0)) (hT _ zt_X11_read rfl _ _ rfl) rfl rfl ?_
      refine v_load (v := (0, 4)) (hT _ zt_X11_read rfl _ _ rfl) rfl rfl ?_
      refine v_call (w := 2) [some (2, 0), some (0, 4)] hO (hT _ zt_X11_read rfl _ _ rfl) rfl rfl ?_
      refine v_load (v := (2, 0)) (hT _ zt_X11_refused rfl _ _ rfl) rfl rfl ?_
      refine v_load (v := (0, 4)) (hT _ zt_X11_refused rfl _ _ rfl) rfl rfl ?_
      refine v_putf (r := 0) hO (hT _ zt_X11_refused rfl _ _ rfl) rfl (fun hf16 => ?_)
      refine v_push (-1) (hT _ zt_X11_refused rfl _ _ rfl) rfl ?_
      refine v_ret (hT _ zt_X11_refused rfl _ _ rfl) (Or.inl rfl) ?_
      show vP D T N 175 16 (zset h 0 0 (0, 4)) [some (2, 0), some (0, 0), some (0, b), some (0, 4)] [(0, -1)] _
      refine v_i2l (hT _ zt_X11_read rfl _ _ rfl) ?_
      refine v_ret (hT _ zt_X11_read rfl _ _ rfl) (Or.inr rfl) ?_
      exact k1 hc6 hc13
    · have hc13 : 0 ≤ b := Int.not_lt.mp hc13
      refine v_load (v := (0, b)) (hT _ zt_X9_hasPlaces rfl _ _ rfl) rfl rfl ?_
      refine v_load (v := (2, 2)) (hT _ zt_X9_hasPlaces rfl _ _ rfl) rfl rfl ?_
      refine v_getI (t := 0) (r := 2) (hT _ zt_X9_hasPlaces rfl _ _ rfl) rfl rfl rfl ?_
      refine v_load (v := (0, 1)) (hT _ zt_X9_hasPlaces rfl _ _ rfl) rfl rfl ?_
      refine v_bin (w := ((h 2 2).2 - 1)) (hT _ zt_X9_hasPlaces rfl _ _ rfl) (hq_sub (by omega) (by omega)) ?_
      refine v_ic (hT _ zt_X9_hasPlaces rfl _ _ rfl) (fun hc17 => ?_) (fun hc17 => ?_)
      · have hc17 : ((h 2 2).2 - 1) < b := hc17
        refine v_push (0) (hT _ zt_X9_hasPlaces rfl _ _ rfl) rfl ?_
        refine v_ret (hT _ zt_X9_hasPlaces rfl _ _ rfl) (Or.inl rfl) ?_
        show vP D T N 171 34 h [some (2, 0), some (0, 0), some (0, b)] [(0, 0)] _
        refine v_if (hT _ zt_X11_placeStatus rfl _ _ rfl) (fun _ => ?_) (fun hc18 => absurd (show (0 : Int) = 0 from (by decide)) hc18)
        refine v_push (4) (hT _ zt_X11_placeStatus rfl _ _ rfl) rfl ?_
        refine v_ret (hT _ zt_X11_placeStatus rfl _ _ rfl) (Or.inl rfl) ?_
        show vP D T N 175 6 h [some (2, 0), some (0, 0), some (0, b), none] [(0, 4)] _
        refine v_store1 [some (2, 0), some (0, 0), some (0, b), some (0, 4)] (hT _ zt_X11_read rfl _ _ rfl) ⟨rfl, Nat.ne_of_beq_eq_false rfl⟩ (Nat.le_of_ble_eq_true rfl) rfl ?_
        refine v_load (v := (0, 4)) (hT _ zt_X11_read rfl _ _ rfl) rfl rfl ?_
        refine v_if (hT _ zt_X11_read rfl _ _ rfl) (fun hc19 => absurd (show (4 : Int) = 0 from hc19) (by decide)) (fun _ => ?_)
        refine v_load (v := (2, 0)) (hT _ zt_X11_read rfl _ _ rfl) rfl rfl ?_
        refine v_load (v := (0, 4)) (hT _ zt_X11_read rfl _ _ rfl) rfl rfl ?_
        refine v_call (w := 2) [some (2, 0), some (0, 4)] hO (hT _ zt_X11_read rfl _ _ rfl) rfl rfl ?_
        refine v_load (v := (2, 0)) (hT _ zt_X11_refused rfl _ _ rfl) rfl rfl ?_
        refine v_load (v := (0, 4)) (hT _ zt_X11_refused rfl _ _ rfl) rfl rfl ?_
        refine v_putf (r := 0) hO (hT _ zt_X11_refused rfl _ _ rfl) rfl (fun hf20 => ?_)
        refine v_push (-1) (hT _ zt_X11_refused rfl _ _ rfl) rfl ?_
        refine v_ret (hT _ zt_X11_refused rfl _ _ rfl) (Or.inl rfl) ?_
        show vP D T N 175 16 (zset h 0 0 (0, 4)) [some (2, 0), some (0, 0), some (0, b), some (0, 4)] [(0, -1)] _
        refine v_i2l (hT _ zt_X11_read rfl _ _ rfl) ?_
        refine v_ret (hT _ zt_X11_read rfl _ _ rfl) (Or.inr rfl) ?_
        exact k2 hc6 hc13 hc17
      · have hc17 : b ≤ ((h 2 2).2 - 1) := Int.not_lt.mp hc17
        refine v_push (1) (hT _ zt_X9_hasPlaces rfl _ _ rfl) rfl ?_
        refine v_goto (hT _ zt_X9_hasPlaces rfl _ _ rfl) ?_
        refine v_ret (hT _ zt_X9_hasPlaces rfl _ _ rfl) (Or.inl rfl) ?_
        show vP D T N 171 34 h [some (2, 0), some (0, 0), some (0, b)] [(0, 1)] _
        refine v_if (hT _ zt_X11_placeStatus rfl _ _ rfl) (fun hc21 => absurd (show (1 : Int) = 0 from hc21) (by decide)) (fun _ => ?_)
        refine v_push (0) (hT _ zt_X11_placeStatus rfl _ _ rfl) rfl ?_
        refine v_goto (hT _ zt_X11_placeStatus rfl _ _ rfl) ?_
        refine v_ret (hT _ zt_X11_placeStatus rfl _ _ rfl) (Or.inl rfl) ?_
        show vP D T N 175 6 h [some (2, 0), some (0, 0), some (0, b), none] [(0, 0)] _
        refine v_store1 [some (2, 0), some (0, 0), some (0, b), some (0, 0)] (hT _ zt_X11_read rfl _ _ rfl) ⟨rfl, Nat.ne_of_beq_eq_false rfl⟩ (Nat.le_of_ble_eq_true rfl) rfl ?_
        refine v_load (v := (0, 0)) (hT _ zt_X11_read rfl _ _ rfl) rfl rfl ?_
        refine v_if (hT _ zt_X11_read rfl _ _ rfl) (fun _ => ?_) (fun hc22 => absurd (show (0 : Int) = 0 from (by decide)) hc22)
        refine v_load (v := (2, 0)) (hT _ zt_X11_read rfl _ _ rfl) rfl rfl ?_
        refine v_push (0) (hT _ zt_X11_read rfl _ _ rfl) rfl ?_
        refine v_putf (r := 0) hO (hT _ zt_X11_read rfl _ _ rfl) rfl (fun hf23 => ?_)
        refine v_load (v := (2, 0)) (hT _ zt_X11_read rfl _ _ rfl) rfl rfl ?_
        refine v_getR (c := 1) (r := 0) (hT _ zt_X11_read rfl _ _ rfl) rfl rfl rfl ?_
        refine v_load (v := (0, 0)) (hT _ zt_X11_read rfl _ _ rfl) rfl rfl ?_
        refine v_aldV (v := (2, 2)) (r := 1) (hT _ zt_X11_read rfl _ _ rfl) rfl rfl (fun hv _ _ => hv.ref rfl) (fun ha24 hb25 => ?_)
        refine v_getR (c := 3) (r := 2) (hT _ zt_X11_read rfl _ _ rfl) rfl rfl rfl ?_
        refine v_load (v := (0, b)) (hT _ zt_X11_read rfl _ _ rfl) rfl rfl ?_
        refine v_aldE (t := 1) (r := 3) (w := (h 3 b.toNat).2) (hT _ zt_X11_read rfl _ _ rfl) rfl rfl rfl (congrArg Prod.snd (zset_ne (fun c => absurd c.1 (by decide)))) (fun ha26 hb27 => ?_)
        refine v_ret (hT _ zt_X11_read rfl _ _ rfl) (Or.inr rfl) ?_
        exact k3 hc6 hc13 hc17 hb27
theorem y_X11_read_1 {D : zD} {T : zT} (hT : hTab T) (hO : vOK T) {N : Nat} {h : zH} {Q : zR → Prop} (b : Int) (hv0 : zHv h) (hb : 0 ≤ (h 4 2).2 ∧ (h 4 2).2 ≤ 60)
    (k0 : ((h 4 1).2 = -1) → Q (zset h 0 0 (0, 3), some (1, -1)))
    (k1 : ((h 4 1).2 ≠ -1) → (b < 0) → Q (zset h 0 0 (0, 4), some (1, -1)))
    (k2 : ((h 4 1).2 ≠ -1) → (0 ≤ b) → (((h 4 2).2 - 1) < b) → Q (zset h 0 0 (0, 4), some (1, -1)))
    (k3 : ((h 4 1).2 ≠ -1) → (0 ≤ b) → (b ≤ ((h 4 2).2 - 1)) → (b < 60) → Q (zset h 0 0 (0, 0), some (1, (h 5 b.toNat).2))) :
    vP D T N 175 0 h [some (2, 0), some (0, 1), some (0, b), none] [] Q := by
  refine v_load (v := (2, 0)) (hT _ zt_X11_read rfl _ _ rfl) rfl rfl ?_
  refine v_load (v := (0, 1)) (hT _ zt_X11_read rfl _ _ rfl) rfl rfl ?_
  refine v_load (v := (0, b)) (hT _ zt_X11_read rfl _ _ rfl) rfl rfl ?_
  refine v_call (w := 3) [some (2, 0), some (0, 1), some (0, b)] hO (hT _ zt_X11_read rfl _ _ rfl) rfl rfl ?_
  refine v_load (v := (0, 1)) (hT _ zt_X11_placeStatus rfl _ _ rfl) rfl rfl ?_
  refine v_call (w := 1) [some (0, 1)] hO (hT _ zt_X11_placeStatus rfl _ _ rfl) rfl rfl ?_
  refine v_load (v := (0, 1)) (hT _ zt_X11_isTray rfl _ _ rfl) rfl rfl ?_
  refine v_if (hT _ zt_X11_isTray rfl _ _ rfl) (fun hc1 => absurd (show (1 : Int) < 0 from hc1) (by decide)) (fun _ => ?_)
  refine v_load (v := (0, 1)) (hT _ zt_X11_isTray rfl _ _ rfl) rfl rfl ?_
  refine v_push (4) (hT _ zt_X11_isTray rfl _ _ rfl) rfl ?_
  refine v_ic (hT _ zt_X11_isTray rfl _ _ rfl) (fun _ => ?_) (fun hc2 => absurd (show (1 : Int) < 4 from (by decide)) hc2)
  refine v_push (1) (hT _ zt_X11_isTray rfl _ _ rfl) rfl ?_
  refine v_goto (hT _ zt_X11_isTray rfl _ _ rfl) ?_
  refine v_ret (hT _ zt_X11_isTray rfl _ _ rfl) (Or.inl rfl) ?_
  show vP D T N 171 4 h [some (2, 0), some (0, 1), some (0, b)] [(0, 1)] _
  refine v_if (hT _ zt_X11_placeStatus rfl _ _ rfl) (fun hc3 => absurd (show (1 : Int) = 0 from hc3) (by decide)) (fun _ => ?_)
  refine v_load (v := (2, 0)) (hT _ zt_X11_placeStatus rfl _ _ rfl) rfl rfl ?_
  refine v_getR (c := 1) (r := 0) (hT _ zt_X11_placeStatus rfl _ _ rfl) rfl rfl rfl ?_
  refine v_load (v := (0, 1)) (hT _ zt_X11_placeStatus rfl _ _ rfl) rfl rfl ?_
  refine v_aldV (v := (2, 4)) (r := 1) (hT _ zt_X11_placeStatus rfl _ _ rfl) rfl rfl (fun hv _ _ => hv.ref rfl) (fun ha4 hb5 => ?_)
  refine v_call (w := 1) [some (2, 4)] hO (hT _ zt_X11_placeStatus rfl _ _ rfl) rfl rfl ?_
  refine v_load (v := (2, 4)) (hT _ zt_X9_isMissing rfl _ _ rfl) rfl rfl ?_
  refine v_getI (t := 0) (r := 4) (hT _ zt_X9_isMissing rfl _ _ rfl) rfl rfl rfl ?_
  refine v_push (-1) (hT _ zt_X9_isMissing rfl _ _ rfl) rfl ?_
  refine v_ic (hT _ zt_X9_isMissing rfl _ _ rfl) (fun hc6 => ?_) (fun hc6 => ?_)
  · have hc6 : (h 4 1).2 = -1 := hc6
    refine v_push (1) (hT _ zt_X9_isMissing rfl _ _ rfl) rfl ?_
    refine v_goto (hT _ zt_X9_isMissing rfl _ _ rfl) ?_
    refine v_ret (hT _ zt_X9_isMissing rfl _ _ rfl) (Or.inl rfl) ?_
    show vP D T N 171 18 h [some (2, 0), some (0, 1), some (0, b)] [(0, 1)] _
    refine v_if (hT _ zt_X11_placeStatus rfl _ _ rfl) (fun hc7 => absurd (show (1 : Int) = 0 from hc7) (by decide)) (fun _ => ?_)
    refine v_push (3) (hT _ zt_X11_placeStatus rfl _ _ rfl) rfl ?_
    refine v_ret (hT _ zt_X11_placeStatus rfl _ _ rfl) (Or.inl rfl) ?_
    show vP D T N 175 6 h [some (2, 0), some (0, 1), some (0, b), none] [(0, 3)] _
    refine v_store1 [some (2, 0), some (0, 1), some (0, b), some (0, 3)] (hT _ zt_X11_read rfl _ _ rfl) ⟨rfl, Nat.ne_of_beq_eq_false rfl⟩ (Nat.le_of_ble_eq_true rfl) rfl ?_
    refine v_load (v := (0, 3)) (hT _ zt_X11_read rfl _ _ rfl) rfl rfl ?_
    refine v_if (hT _ zt_X11_read rfl _ _ rfl) (fun hc8 => absurd (show (3 : Int) = 0 from hc8) (by decide)) (fun _ => ?_)
    refine v_load (v := (2, 0)) (hT _ zt_X11_read rfl _ _ rfl) rfl rfl ?_
    refine v_load (v := (0, 3)) (hT _ zt_X11_read rfl _ _ rfl) rfl rfl ?_
    refine v_call (w := 2) [some (2, 0), some (0, 3)] hO (hT _ zt_X11_read rfl _ _ rfl) rfl rfl ?_
    refine v_load (v := (2, 0)) (hT _ zt_X11_refused rfl _ _ rfl) rfl rfl ?_
    refine v_load (v := (0, 3)) (hT _ zt_X11_refused rfl _ _ rfl) rfl rfl ?_
    refine v_putf (r := 0) hO (hT _ zt_X11_refused rfl _ _ rfl) rfl (fun hf9 => ?_)
    refine v_push (-1) (hT _ zt_X11_refused rfl _ _ rfl) rfl ?_
    refine v_ret (hT _ zt_X11_refused rfl _ _ rfl) (Or.inl rfl) ?_
    show vP D T N 175 16 (zset h 0 0 (0, 3)) [some (2, 0), some (0, 1), some (0, b), some (0, 3)] [(0, -1)] _
    refine v_i2l (hT _ zt_X11_read rfl _ _ rfl) ?_
    refine v_ret (hT _ zt_X11_read rfl _ _ rfl) (Or.inr rfl) ?_
    exact k0 hc6
  · have hc6 : (h 4 1).2 ≠ -1 := hc6
    refine v_push (0) (hT _ zt_X9_isMissing rfl _ _ rfl) rfl ?_
    refine v_ret (hT _ zt_X9_isMissing rfl _ _ rfl) (Or.inl rfl) ?_
    show vP D T N 171 18 h [some (2, 0), some (0, 1), some (0, b)] [(0, 0)] _
    refine v_if (hT _ zt_X11_placeStatus rfl _ _ rfl) (fun _ => ?_) (fun hc10 => absurd (show (0 : Int) = 0 from (by decide)) hc10)
    refine v_load (v := (2, 0)) (hT _ zt_X11_placeStatus rfl _ _ rfl) rfl rfl ?_
    refine v_getR (c := 1) (r := 0) (hT _ zt_X11_placeStatus rfl _ _ rfl) rfl rfl rfl ?_
    refine v_load (v := (0, 1)) (hT _ zt_X11_placeStatus rfl _ _ rfl) rfl rfl ?_
    refine v_aldV (v := (2, 4)) (r := 1) (hT _ zt_X11_placeStatus rfl _ _ rfl) rfl rfl (fun hv _ _ => hv.ref rfl) (fun ha11 hb12 => ?_)
    refine v_load (v := (0, b)) (hT _ zt_X11_placeStatus rfl _ _ rfl) rfl rfl ?_
    refine v_push (1) (hT _ zt_X11_placeStatus rfl _ _ rfl) rfl ?_
    refine v_call (w := 3) [some (2, 4), some (0, b), some (0, 1)] hO (hT _ zt_X11_placeStatus rfl _ _ rfl) rfl rfl ?_
    refine v_load (v := (0, b)) (hT _ zt_X9_hasPlaces rfl _ _ rfl) rfl rfl ?_
    refine v_if (hT _ zt_X9_hasPlaces rfl _ _ rfl) (fun hc13 => ?_) (fun hc13 => ?_)
    · have hc13 : b < 0 := hc13
      refine v_push (0) (hT _ zt_X9_hasPlaces rfl _ _ rfl) rfl ?_
      refine v_ret (hT _ zt_X9_hasPlaces rfl _ _ rfl) (Or.inl rfl) ?_
      show vP D T N 171 34 h [some (2, 0), some (0, 1), some (0, b)] [(0, 0)] _
      refine v_if (hT _ zt_X11_placeStatus rfl _ _ rfl) (fun _ => ?_) (fun hc14 => absurd (show (0 : Int) = 0 from (by decide)) hc14)
      refine v_push (4) (hT _ zt_X11_placeStatus rfl _ _ rfl) rfl ?_
      refine v_ret (hT _ zt_X11_placeStatus rfl _ _ rfl) (Or.inl rfl) ?_
      show vP D T N 175 6 h [some (2, 0), some (0, 1), some (0, b), none] [(0, 4)] _
      refine v_store1 [some (2, 0), some (0, 1), some (0, b), some (0, 4)] (hT _ zt_X11_read rfl _ _ rfl) ⟨rfl, Nat.ne_of_beq_eq_false rfl⟩ (Nat.le_of_ble_eq_true rfl) rfl ?_
      refine v_load (v := (0, 4)) (hT _ zt_X11_read rfl _ _ rfl) rfl rfl ?_
      refine v_if (hT _ zt_X11_read rfl _ _ rfl) (fun hc15 => absurd (show (4 : Int) = 0 from hc15) (by decide)) (fun _ => ?_)
      refine v_load (v := (2, 0)) (hT _ zt_X11_read rfl _ _ rfl) rfl rfl ?_
      refine v_load (v := (0, 4)) (hT _ zt_X11_read rfl _ _ rfl) rfl rfl ?_
      refine v_call (w := 2) [some (2, 0), some (0, 4)] hO (hT _ zt_X11_read rfl _ _ rfl) rfl rfl ?_
      refine v_load (v := (2, 0)) (hT _ zt_X11_refused rfl _ _ rfl) rfl rfl ?_
      refine v_load (v := (0, 4)) (hT _ zt_X11_refused rfl _ _ rfl) rfl rfl ?_
      refine v_putf (r := 0) hO (hT _ zt_X11_refused rfl _ _ rfl) rfl (fun hf16 => ?_)
      refine v_push (-1) (hT _ zt_X11_refused rfl _ _ rfl) rfl ?_
      refine v_ret (hT _ zt_X11_refused rfl _ _ rfl) (Or.inl rfl) ?_
      show vP D T N 175 16 (zset h 0 0 (0, 4)) [some (2, 0), some (0, 1), some (0, b), some (0, 4)] [(0, -1)] _
      refine v_i2l (hT _ zt_X11_read rfl _ _ rfl) ?_
      refine v_ret (hT _ zt_X11_read rfl _ _ rfl) (Or.inr rfl) ?_
      exact k1 hc6 hc13
    · have hc13 : 0 ≤ b := Int.not_lt.mp hc13
      refine v_load (v := (0, b)) (hT _ zt_X9_hasPlaces rfl _ _ rfl) rfl rfl ?_
      refine v_load (v := (2, 4)) (hT _ zt_X9_hasPlaces rfl _ _ rfl) rfl rfl ?_
      refine v_getI (t := 0) (r := 4) (hT _ zt_X9_hasPlaces rfl _ _ rfl) rfl rfl rfl ?_
      refine v_load (v := (0, 1)) (hT _ zt_X9_hasPlaces rfl _ _ rfl) rfl rfl ?_
      refine v_bin (w := ((h 4 2).2 - 1)) (hT _ zt_X9_hasPlaces rfl _ _ rfl) (hq_sub (by omega) (by omega)) ?_
      refine v_ic (hT _ zt_X9_hasPlaces rfl _ _ rfl) (fun hc17 => ?_) (fun hc17 => ?_)
      · have hc17 : ((h 4 2).2 - 1) < b := hc17
        refine v_push (0) (hT _ zt_X9_hasPlaces rfl _ _ rfl) rfl ?_
        refine v_ret (hT _ zt_X9_hasPlaces rfl _ _ rfl) (Or.inl rfl) ?_
        show vP D T N 171 34 h [some (2, 0), some (0, 1), some (0, b)] [(0, 0)] _
        refine v_if (hT _ zt_X11_placeStatus rfl _ _ rfl) (fun _ => ?_) (fun hc18 => absurd (show (0 : Int) = 0 from (by decide)) hc18)
        refine v_push (4) (hT _ zt_X11_placeStatus rfl _ _ rfl) rfl ?_
        refine v_ret (hT _ zt_X11_placeStatus rfl _ _ rfl) (Or.inl rfl) ?_
        show vP D T N 175 6 h [some (2, 0), some (0, 1), some (0, b), none] [(0, 4)] _
        refine v_store1 [some (2, 0), some (0, 1), some (0, b), some (0, 4)] (hT _ zt_X11_read rfl _ _ rfl) ⟨rfl, Nat.ne_of_beq_eq_false rfl⟩ (Nat.le_of_ble_eq_true rfl) rfl ?_
        refine v_load (v := (0, 4)) (hT _ zt_X11_read rfl _ _ rfl) rfl rfl ?_
        refine v_if (hT _ zt_X11_read rfl _ _ rfl) (fun hc19 => absurd (show (4 : Int) = 0 from hc19) (by decide)) (fun _ => ?_)
        refine v_load (v := (2, 0)) (hT _ zt_X11_read rfl _ _ rfl) rfl rfl ?_
        refine v_load (v := (0, 4)) (hT _ zt_X11_read rfl _ _ rfl) rfl rfl ?_
        refine v_call (w := 2) [some (2, 0), some (0, 4)] hO (hT _ zt_X11_read rfl _ _ rfl) rfl rfl ?_
        refine v_load (v := (2, 0)) (hT _ zt_X11_refused rfl _ _ rfl) rfl rfl ?_
        refine v_load (v := (0, 4)) (hT _ zt_X11_refused rfl _ _ rfl) rfl rfl ?_
        refine v_putf (r := 0) hO (hT _ zt_X11_refused rfl _ _ rfl) rfl (fun hf20 => ?_)
        refine v_push (-1) (hT _ zt_X11_refused rfl _ _ rfl) rfl ?_
        refine v_ret (hT _ zt_X11_refused rfl _ _ rfl) (Or.inl rfl) ?_
        show vP D T N 175 16 (zset h 0 0 (0, 4)) [some (2, 0), some (0, 1), some (0, b), some (0, 4)] [(0, -1)] _
        refine v_i2l (hT _ zt_X11_read rfl _ _ rfl) ?_
        refine v_ret (hT _ zt_X11_read rfl _ _ rfl) (Or.inr rfl) ?_
        exact k2 hc6 hc13 hc17
      · have hc17 : b ≤ ((h 4 2).2 - 1) := Int.not_lt.mp hc17
        refine v_push (1) (hT _ zt_X9_hasPlaces rfl _ _ rfl) rfl ?_
        refine v_goto (hT _ zt_X9_hasPlaces rfl _ _ rfl) ?_
        refine v_ret (hT _ zt_X9_hasPlaces rfl _ _ rfl) (Or.inl rfl) ?_
        show vP D T N 171 34 h [some (2, 0), some (0, 1), some (0, b)] [(0, 1)] _
        refine v_if (hT _ zt_X11_placeStatus rfl _ _ rfl) (fun hc21 => absurd (show (1 : Int) = 0 from hc21) (by decide)) (fun _ => ?_)
        refine v_push (0) (hT _ zt_X11_placeStatus rfl _ _ rfl) rfl ?_
        refine v_goto (hT _ zt_X11_placeStatus rfl _ _ rfl) ?_
        refine v_ret (hT _ zt_X11_placeStatus rfl _ _ rfl) (Or.inl rfl) ?_
        show vP D T N 175 6 h [some (2, 0), some (0, 1), some (0, b), none] [(0, 0)] _
        refine v_store1 [some (2, 0), some (0, 1), some (0, b), some (0, 0)] (hT _ zt_X11_read rfl _ _ rfl) ⟨rfl, Nat.ne_of_beq_eq_false rfl⟩ (Nat.le_of_ble_eq_true rfl) rfl ?_
        refine v_load (v := (0, 0)) (hT _ zt_X11_read rfl _ _ rfl) rfl rfl ?_
        refine v_if (hT _ zt_X11_read rfl _ _ rfl) (fun _ => ?_) (fun hc22 => absurd (show (0 : Int) = 0 from (by decide)) hc22)
        refine v_load (v := (2, 0)) (hT _ zt_X11_read rfl _ _ rfl) rfl rfl ?_
        refine v_push (0) (hT _ zt_X11_read rfl _ _ rfl) rfl ?_
        refine v_putf (r := 0) hO (hT _ zt_X11_read rfl _ _ rfl) rfl (fun hf23 => ?_)
        refine v_load (v := (2, 0)) (hT _ zt_X11_read rfl _ _ rfl) rfl rfl ?_
        refine v_getR (c := 1) (r := 0) (hT _ zt_X11_read rfl _ _ rfl) rfl rfl rfl ?_
        refine v_load (v := (0, 1)) (hT _ zt_X11_read rfl _ _ rfl) rfl rfl ?_
        refine v_aldV (v := (2, 4)) (r := 1) (hT _ zt_X11_read rfl _ _ rfl) rfl rfl (fun hv _ _ => hv.ref rfl) (fun ha24 hb25 => ?_)
        refine v_getR (c := 5) (r := 4) (hT _ zt_X11_read rfl _ _ rfl) rfl rfl rfl ?_
        refine v_load (v := (0, b)) (hT _ zt_X11_read rfl _ _ rfl) rfl rfl ?_
        refine v_aldE (t := 1) (r := 5) (w := (h 5 b.toNat).2) (hT _ zt_X11_read rfl _ _ rfl) rfl rfl rfl (congrArg Prod.snd (zset_ne (fun c => absurd c.1 (by decide)))) (fun ha26 hb27 => ?_)
        refine v_ret (hT _ zt_X11_read rfl _ _ rfl) (Or.inr rfl) ?_
        exact k3 hc6 hc13 hc17 hb27
theorem y_X11_read_2 {D : zD} {T : zT} (hT : hTab T) (hO : vOK T) {N : Nat} {h : zH} {Q : zR → Prop} (b : Int) (hv0 : zHv h) (hb : 0 ≤ (h 6 2).2 ∧ (h 6 2).2 ≤ 60)
    (k0 : ((h 6 1).2 = -1) → Q (zset h 0 0 (0, 3), some (1, -1)))
    (k1 : ((h 6 1).2 ≠ -1) → (b < 0) → Q (zset h 0 0 (0, 4), some (1, -1)))
    (k2 : ((h 6 1).2 ≠ -1) → (0 ≤ b) → (((h 6 2).2 - 1) < b) → Q (zset h 0 0 (0, 4), some (1, -1)))
    (k3 : ((h 6 1).2 ≠ -1) → (0 ≤ b) → (b ≤ ((h 6 2).2 - 1)) → (b < 60) → Q (zset h 0 0 (0, 0), some (1, (h 7 b.toNat).2))) :
    vP D T N 175 0 h [some (2, 0), some (0, 2), some (0, b), none] [] Q := by
  refine v_load (v := (2, 0)) (hT _ zt_X11_read rfl _ _ rfl) rfl rfl ?_
  refine v_load (v := (0, 2)) (hT _ zt_X11_read rfl _ _ rfl) rfl rfl ?_
  refine v_load (v := (0, b)) (hT _ zt_X11_read rfl _ _ rfl) rfl rfl ?_
  refine v_call (w := 3) [some (2, 0), some (0, 2), some (0, b)] hO (hT _ zt_X11_read rfl _ _ rfl) rfl rfl ?_
  refine v_load (v := (0, 2)) (hT _ zt_X11_placeStatus rfl _ _ rfl) rfl rfl ?_
  refine v_call (w := 1) [some (0, 2)] hO (hT _ zt_X11_placeStatus rfl _ _ rfl) rfl rfl ?_
  refine v_load (v := (0, 2)) (hT _ zt_X11_isTray rfl _ _ rfl) rfl rfl ?_
  refine v_if (hT _ zt_X11_isTray rfl _ _ rfl) (fun hc1 => absurd (show (2 : Int) < 0 from hc1) (by decide)) (fun _ => ?_)
  refine v_load (v := (0, 2)) (hT _ zt_X11_isTray rfl _ _ rfl) rfl rfl ?_
  refine v_push (4) (hT _ zt_X11_isTray rfl _ _ rfl) rfl ?_
  refine v_ic (hT _ zt_X11_isTray rfl _ _ rfl) (fun _ => ?_) (fun hc2 => absurd (show (2 : Int) < 4 from (by decide)) hc2)
  refine v_push (1) (hT _ zt_X11_isTray rfl _ _ rfl) rfl ?_
  refine v_goto (hT _ zt_X11_isTray rfl _ _ rfl) ?_
  refine v_ret (hT _ zt_X11_isTray rfl _ _ rfl) (Or.inl rfl) ?_
  show vP D T N 171 4 h [some (2, 0), some (0, 2), some (0, b)] [(0, 1)] _
  refine v_if (hT _ zt_X11_placeStatus rfl _ _ rfl) (fun hc3 => absurd (show (1 : Int) = 0 from hc3) (by decide)) (fun _ => ?_)
  refine v_load (v := (2, 0)) (hT _ zt_X11_placeStatus rfl _ _ rfl) rfl rfl ?_
  refine v_getR (c := 1) (r := 0) (hT _ zt_X11_placeStatus rfl _ _ rfl) rfl rfl rfl ?_
  refine v_load (v := (0, 2)) (hT _ zt_X11_placeStatus rfl _ _ rfl) rfl rfl ?_
  refine v_aldV (v := (2, 6)) (r := 1) (hT _ zt_X11_placeStatus rfl _ _ rfl) rfl rfl (fun hv _ _ => hv.ref rfl) (fun ha4 hb5 => ?_)
  refine v_call (w := 1) [some (2, 6)] hO (hT _ zt_X11_placeStatus rfl _ _ rfl) rfl rfl ?_
  refine v_load (v := (2, 6)) (hT _ zt_X9_isMissing rfl _ _ rfl) rfl rfl ?_
  refine v_getI (t := 0) (r := 6) (hT _ zt_X9_isMissing rfl _ _ rfl) rfl rfl rfl ?_
  refine v_push (-1) (hT _ zt_X9_isMissing rfl _ _ rfl) rfl ?_
  refine v_ic (hT _ zt_X9_isMissing rfl _ _ rfl) (fun hc6 => ?_) (fun hc6 => ?_)
  · have hc6 : (h 6 1).2 = -1 := hc6
    refine v_push (1) (hT _ zt_X9_isMissing rfl _ _ rfl) rfl ?_
    refine v_goto (hT _ zt_X9_isMissing rfl _ _ rfl) ?_
    refine v_ret (hT _ zt_X9_isMissing rfl _ _ rfl) (Or.inl rfl) ?_
    show vP D T N 171 18 h [some (2, 0), some (0, 2), some (0, b)] [(0, 1)] _
    refine v_if (hT _ zt_X11_placeStatus rfl _ _ rfl) (fun hc7 => absurd (show (1 : Int) = 0 from hc7) (by decide)) (fun _ => ?_)
    refine v_push (3) (hT _ zt_X11_placeStatus rfl _ _ rfl) rfl ?_
    refine v_ret (hT _ zt_X11_placeStatus rfl _ _ rfl) (Or.inl rfl) ?_
    show vP D T N 175 6 h [some (2, 0), some (0, 2), some (0, b), none] [(0, 3)] _
    refine v_store1 [some (2, 0), some (0, 2), some (0, b), some (0, 3)] (hT _ zt_X11_read rfl _ _ rfl) ⟨rfl, Nat.ne_of_beq_eq_false rfl⟩ (Nat.le_of_ble_eq_true rfl) rfl ?_
    refine v_load (v := (0, 3)) (hT _ zt_X11_read rfl _ _ rfl) rfl rfl ?_
    refine v_if (hT _ zt_X11_read rfl _ _ rfl) (fun hc8 => absurd (show (3 : Int) = 0 from hc8) (by decide)) (fun _ => ?_)
    refine v_load (v := (2, 0)) (hT _ zt_X11_read rfl _ _ rfl) rfl rfl ?_
    refine v_load (v := (0, 3)) (hT _ zt_X11_read rfl _ _ rfl) rfl rfl ?_
    refine v_call (w := 2) [some (2, 0), some (0, 3)] hO (hT _ zt_X11_read rfl _ _ rfl) rfl rfl ?_
    refine v_load (v := (2, 0)) (hT _ zt_X11_refused rfl _ _ rfl) rfl rfl ?_
    refine v_load (v := (0, 3)) (hT _ zt_X11_refused rfl _ _ rfl) rfl rfl ?_
    refine v_putf (r := 0) hO (hT _ zt_X11_refused rfl _ _ rfl) rfl (fun hf9 => ?_)
    refine v_push (-1) (hT _ zt_X11_refused rfl _ _ rfl) rfl ?_
    refine v_ret (hT _ zt_X11_refused rfl _ _ rfl) (Or.inl rfl) ?_
    show vP D T N 175 16 (zset h 0 0 (0, 3)) [some (2, 0), some (0, 2), some (0, b), some (0, 3)] [(0, -1)] _
    refine v_i2l (hT _ zt_X11_read rfl _ _ rfl) ?_
    refine v_ret (hT _ zt_X11_read rfl _ _ rfl) (Or.inr rfl) ?_
    exact k0 hc6
  · have hc6 : (h 6 1).2 ≠ -1 := hc6
    refine v_push (0) (hT _ zt_X9_isMissing rfl _ _ rfl) rfl ?_
    refine v_ret (hT _ zt_X9_isMissing rfl _ _ rfl) (Or.inl rfl) ?_
    show vP D T N 171 18 h [some (2, 0), some (0, 2), some (0, b)] [(0, 0)] _
    refine v_if (hT _ zt_X11_placeStatus rfl _ _ rfl) (fun _ => ?_) (fun hc10 => absurd (show (0 : Int) = 0 from (by decide)) hc10)
    refine v_load (v := (2, 0)) (hT _ zt_X11_placeStatus rfl _ _ rfl) rfl rfl ?_
    refine v_getR (c := 1) (r := 0) (hT _ zt_X11_placeStatus rfl _ _ rfl) rfl rfl rfl ?_
    refine v_load (v := (0, 2)) (hT _ zt_X11_placeStatus rfl _ _ rfl) rfl rfl ?_
    refine v_aldV (v := (2, 6)) (r := 1) (hT _ zt_X11_placeStatus rfl _ _ rfl) rfl rfl (fun hv _ _ => hv.ref rfl) (fun ha11 hb12 => ?_)
    refine v_load (v := (0, b)) (hT _ zt_X11_placeStatus rfl _ _ rfl) rfl rfl ?_
    refine v_push (1) (hT _ zt_X11_placeStatus rfl _ _ rfl) rfl ?_
    refine v_call (w := 3) [some (2, 6), some (0, b), some (0, 1)] hO (hT _ zt_X11_placeStatus rfl _ _ rfl) rfl rfl ?_
    refine v_load (v := (0, b)) (hT _ zt_X9_hasPlaces rfl _ _ rfl) rfl rfl ?_
    refine v_if (hT _ zt_X9_hasPlaces rfl _ _ rfl) (fun hc13 => ?_) (fun hc13 => ?_)
    · have hc13 : b < 0 := hc13
      refine v_push (0) (hT _ zt_X9_hasPlaces rfl _ _ rfl) rfl ?_
      refine v_ret (hT _ zt_X9_hasPlaces rfl _ _ rfl) (Or.inl rfl) ?_
      show vP D T N 171 34 h [some (2, 0), some (0, 2), some (0, b)] [(0, 0)] _
      refine v_if (hT _ zt_X11_placeStatus rfl _ _ rfl) (fun _ => ?_) (fun hc14 => absurd (show (0 : Int) = 0 from (by decide)) hc14)
      refine v_push (4) (hT _ zt_X11_placeStatus rfl _ _ rfl) rfl ?_
      refine v_ret (hT _ zt_X11_placeStatus rfl _ _ rfl) (Or.inl rfl) ?_
      show vP D T N 175 6 h [some (2, 0), some (0, 2), some (0, b), none] [(0, 4)] _
      refine v_store1 [some (2, 0), some (0, 2), some (0, b), some (0, 4)] (hT _ zt_X11_read rfl _ _ rfl) ⟨rfl, Nat.ne_of_beq_eq_false rfl⟩ (Nat.le_of_ble_eq_true rfl) rfl ?_
      refine v_load (v := (0, 4)) (hT _ zt_X11_read rfl _ _ rfl) rfl rfl ?_
      refine v_if (hT _ zt_X11_read rfl _ _ rfl) (fun hc15 => absurd (show (4 : Int) = 0 from hc15) (by decide)) (fun _ => ?_)
      refine v_load (v := (2, 0)) (hT _ zt_X11_read rfl _ _ rfl) rfl rfl ?_
      refine v_load (v := (0, 4)) (hT _ zt_X11_read rfl _ _ rfl) rfl rfl ?_
      refine v_call (w := 2) [some (2, 0), some (0, 4)] hO (hT _ zt_X11_read rfl _ _ rfl) rfl rfl ?_
      refine v_load (v := (2, 0)) (hT _ zt_X11_refused rfl _ _ rfl) rfl rfl ?_
      refine v_load (v := (0, 4)) (hT _ zt_X11_refused rfl _ _ rfl) rfl rfl ?_
      refine v_putf (r := 0) hO (hT _ zt_X11_refused rfl _ _ rfl) rfl (fun hf16 => ?_)
      refine v_push (-1) (hT _ zt_X11_refused rfl _ _ rfl) rfl ?_
      refine v_ret (hT _ zt_X11_refused rfl _ _ rfl) (Or.inl rfl) ?_
      show vP D T N 175 16 (zset h 0 0 (0, 4)) [some (2, 0), some (0, 2), some (0, b), some (0, 4)] [(0, -1)] _
      refine v_i2l (hT _ zt_X11_read rfl _ _ rfl) ?_
      refine v_ret (hT _ zt_X11_read rfl _ _ rfl) (Or.inr rfl) ?_
      exact k1 hc6 hc13
    · have hc13 : 0 ≤ b := Int.not_lt.mp hc13
      refine v_load (v := (0, b)) (hT _ zt_X9_hasPlaces rfl _ _ rfl) rfl rfl ?_
      refine v_load (v := (2, 6)) (hT _ zt_X9_hasPlaces rfl _ _ rfl) rfl rfl ?_
      refine v_getI (t := 0) (r := 6) (hT _ zt_X9_hasPlaces rfl _ _ rfl) rfl rfl rfl ?_
      refine v_load (v := (0, 1)) (hT _ zt_X9_hasPlaces rfl _ _ rfl) rfl rfl ?_
      refine v_bin (w := ((h 6 2).2 - 1)) (hT _ zt_X9_hasPlaces rfl _ _ rfl) (hq_sub (by omega) (by omega)) ?_
      refine v_ic (hT _ zt_X9_hasPlaces rfl _ _ rfl) (fun hc17 => ?_) (fun hc17 => ?_)
      · have hc17 : ((h 6 2).2 - 1) < b := hc17
        refine v_push (0) (hT _ zt_X9_hasPlaces rfl _ _ rfl) rfl ?_
        refine v_ret (hT _ zt_X9_hasPlaces rfl _ _ rfl) (Or.inl rfl) ?_
        show vP D T N 171 34 h [some (2, 0), some (0, 2), some (0, b)] [(0, 0)] _
        refine v_if (hT _ zt_X11_placeStatus rfl _ _ rfl) (fun _ => ?_) (fun hc18 => absurd (show (0 : Int) = 0 from (by decide)) hc18)
        refine v_push (4) (hT _ zt_X11_placeStatus rfl _ _ rfl) rfl ?_
        refine v_ret (hT _ zt_X11_placeStatus rfl _ _ rfl) (Or.inl rfl) ?_
        show vP D T N 175 6 h [some (2, 0), some (0, 2), some (0, b), none] [(0, 4)] _
        refine v_store1 [some (2, 0), some (0, 2), some (0, b), some (0, 4)] (hT _ zt_X11_read rfl _ _ rfl) ⟨rfl, Nat.ne_of_beq_eq_false rfl⟩ (Nat.le_of_ble_eq_true rfl) rfl ?_
        refine v_load (v := (0, 4)) (hT _ zt_X11_read rfl _ _ rfl) rfl rfl ?_
        refine v_if (hT _ zt_X11_read rfl _ _ rfl) (fun hc19 => absurd (show (4 : Int) = 0 from hc19) (by decide)) (fun _ => ?_)
        refine v_load (v := (2, 0)) (hT _ zt_X11_read rfl _ _ rfl) rfl rfl ?_
        refine v_load (v := (0, 4)) (hT _ zt_X11_read rfl _ _ rfl) rfl rfl ?_
        refine v_call (w := 2) [some (2, 0), some (0, 4)] hO (hT _ zt_X11_read rfl _ _ rfl) rfl rfl ?_
        refine v_load (v := (2, 0)) (hT _ zt_X11_refused rfl _ _ rfl) rfl rfl ?_
        refine v_load (v := (0, 4)) (hT _ zt_X11_refused rfl _ _ rfl) rfl rfl ?_
        refine v_putf (r := 0) hO (hT _ zt_X11_refused rfl _ _ rfl) rfl (fun hf20 => ?_)
        refine v_push (-1) (hT _ zt_X11_refused rfl _ _ rfl) rfl ?_
        refine v_ret (hT _ zt_X11_refused rfl _ _ rfl) (Or.inl rfl) ?_
        show vP D T N 175 16 (zset h 0 0 (0, 4)) [some (2, 0), some (0, 2), some (0, b), some (0, 4)] [(0, -1)] _
        refine v_i2l (hT _ zt_X11_read rfl _ _ rfl) ?_
        refine v_ret (hT _ zt_X11_read rfl _ _ rfl) (Or.inr rfl) ?_
        exact k2 hc6 hc13 hc17
      · have hc17 : b ≤ ((h 6 2).2 - 1) := Int.not_lt.mp hc17
        refine v_push (1) (hT _ zt_X9_hasPlaces rfl _ _ rfl) rfl ?_
        refine v_goto (hT _ zt_X9_hasPlaces rfl _ _ rfl) ?_
        refine v_ret (hT _ zt_X9_hasPlaces rfl _ _ rfl) (Or.inl rfl) ?_
        show vP D T N 171 34 h [some (2, 0), some (0, 2), some (0, b)] [(0, 1)] _
        refine v_if (hT _ zt_X11_placeStatus rfl _ _ rfl) (fun hc21 => absurd (show (1 : Int) = 0 from hc21) (by decide)) (fun _ => ?_)
        refine v_push (0) (hT _ zt_X11_placeStatus rfl _ _ rfl) rfl ?_
        refine v_goto (hT _ zt_X11_placeStatus rfl _ _ rfl) ?_
        refine v_ret (hT _ zt_X11_placeStatus rfl _ _ rfl) (Or.inl rfl) ?_
        show vP D T N 175 6 h [some (2, 0), some (0, 2), some (0, b), none] [(0, 0)] _
        refine v_store1 [some (2, 0), some (0, 2), some (0, b), some (0, 0)] (hT _ zt_X11_read rfl _ _ rfl) ⟨rfl, Nat.ne_of_beq_eq_false rfl⟩ (Nat.le_of_ble_eq_true rfl) rfl ?_
        refine v_load (v := (0, 0)) (hT _ zt_X11_read rfl _ _ rfl) rfl rfl ?_
        refine v_if (hT _ zt_X11_read rfl _ _ rfl) (fun _ => ?_) (fun hc22 => absurd (show (0 : Int) = 0 from (by decide)) hc22)
        refine v_load (v := (2, 0)) (hT _ zt_X11_read rfl _ _ rfl) rfl rfl ?_
        refine v_push (0) (hT _ zt_X11_read rfl _ _ rfl) rfl ?_
        refine v_putf (r := 0) hO (hT _ zt_X11_read rfl _ _ rfl) rfl (fun hf23 => ?_)
        refine v_load (v := (2, 0)) (hT _ zt_X11_read rfl _ _ rfl) rfl rfl ?_
        refine v_getR (c := 1) (r := 0) (hT _ zt_X11_read rfl _ _ rfl) rfl rfl rfl ?_
        refine v_load (v := (0, 2)) (hT _ zt_X11_read rfl _ _ rfl) rfl rfl ?_
        refine v_aldV (v := (2, 6)) (r := 1) (hT _ zt_X11_read rfl _ _ rfl) rfl rfl (fun hv _ _ => hv.ref rfl) (fun ha24 hb25 => ?_)
        refine v_getR (c := 7) (r := 6) (hT _ zt_X11_read rfl _ _ rfl) rfl rfl rfl ?_
        refine v_load (v := (0, b)) (hT _ zt_X11_read rfl _ _ rfl) rfl rfl ?_
        refine v_aldE (t := 1) (r := 7) (w := (h 7 b.toNat).2) (hT _ zt_X11_read rfl _ _ rfl) rfl rfl rfl (congrArg Prod.snd (zset_ne (fun c => absurd c.1 (by decide)))) (fun ha26 hb27 => ?_)
        refine v_ret (hT _ zt_X11_read rfl _ _ rfl) (Or.inr rfl) ?_
        exact k3 hc6 hc13 hc17 hb27
theorem y_X11_read_3 {D : zD} {T : zT} (hT : hTab T) (hO : vOK T) {N : Nat} {h : zH} {Q : zR → Prop} (b : Int) (hv0 : zHv h) (hb : 0 ≤ (h 8 2).2 ∧ (h 8 2).2 ≤ 60)
    (k0 : ((h 8 1).2 = -1) → Q (zset h 0 0 (0, 3), some (1, -1)))
    (k1 : ((h 8 1).2 ≠ -1) → (b < 0) → Q (zset h 0 0 (0, 4), some (1, -1)))
    (k2 : ((h 8 1).2 ≠ -1) → (0 ≤ b) → (((h 8 2).2 - 1) < b) → Q (zset h 0 0 (0, 4), some (1, -1)))
    (k3 : ((h 8 1).2 ≠ -1) → (0 ≤ b) → (b ≤ ((h 8 2).2 - 1)) → (b < 60) → Q (zset h 0 0 (0, 0), some (1, (h 9 b.toNat).2))) :
    vP D T N 175 0 h [some (2, 0), some (0, 3), some (0, b), none] [] Q := by
  refine v_load (v := (2, 0)) (hT _ zt_X11_read rfl _ _ rfl) rfl rfl ?_
  refine v_load (v := (0, 3)) (hT _ zt_X11_read rfl _ _ rfl) rfl rfl ?_
  refine v_load (v := (0, b)) (hT _ zt_X11_read rfl _ _ rfl) rfl rfl ?_
  refine v_call (w := 3) [some (2, 0), some (0, 3), some (0, b)] hO (hT _ zt_X11_read rfl _ _ rfl) rfl rfl ?_
  refine v_load (v := (0, 3)) (hT _ zt_X11_placeStatus rfl _ _ rfl) rfl rfl ?_
  refine v_call (w := 1) [some (0, 3)] hO (hT _ zt_X11_placeStatus rfl _ _ rfl) rfl rfl ?_
  refine v_load (v := (0, 3)) (hT _ zt_X11_isTray rfl _ _ rfl) rfl rfl ?_
  refine v_if (hT _ zt_X11_isTray rfl _ _ rfl) (fun hc1 => absurd (show (3 : Int) < 0 from hc1) (by decide)) (fun _ => ?_)
  refine v_load (v := (0, 3)) (hT _ zt_X11_isTray rfl _ _ rfl) rfl rfl ?_
  refine v_push (4) (hT _ zt_X11_isTray rfl _ _ rfl) rfl ?_
  refine v_ic (hT _ zt_X11_isTray rfl _ _ rfl) (fun _ => ?_) (fun hc2 => absurd (show (3 : Int) < 4 from (by decide)) hc2)
  refine v_push (1) (hT _ zt_X11_isTray rfl _ _ rfl) rfl ?_
  refine v_goto (hT _ zt_X11_isTray rfl _ _ rfl) ?_
  refine v_ret (hT _ zt_X11_isTray rfl _ _ rfl) (Or.inl rfl) ?_
  show vP D T N 171 4 h [some (2, 0), some (0, 3), some (0, b)] [(0, 1)] _
  refine v_if (hT _ zt_X11_placeStatus rfl _ _ rfl) (fun hc3 => absurd (show (1 : Int) = 0 from hc3) (by decide)) (fun _ => ?_)
  refine v_load (v := (2, 0)) (hT _ zt_X11_placeStatus rfl _ _ rfl) rfl rfl ?_
  refine v_getR (c := 1) (r := 0) (hT _ zt_X11_placeStatus rfl _ _ rfl) rfl rfl rfl ?_
  refine v_load (v := (0, 3)) (hT _ zt_X11_placeStatus rfl _ _ rfl) rfl rfl ?_
  refine v_aldV (v := (2, 8)) (r := 1) (hT _ zt_X11_placeStatus rfl _ _ rfl) rfl rfl (fun hv _ _ => hv.ref rfl) (fun ha4 hb5 => ?_)
  refine v_call (w := 1) [some (2, 8)] hO (hT _ zt_X11_placeStatus rfl _ _ rfl) rfl rfl ?_
  refine v_load (v := (2, 8)) (hT _ zt_X9_isMissing rfl _ _ rfl) rfl rfl ?_
  refine v_getI (t := 0) (r := 8) (hT _ zt_X9_isMissing rfl _ _ rfl) rfl rfl rfl ?_
  refine v_push (-1) (hT _ zt_X9_isMissing rfl _ _ rfl) rfl ?_
  refine v_ic (hT _ zt_X9_isMissing rfl _ _ rfl) (fun hc6 => ?_) (fun hc6 => ?_)
  · have hc6 : (h 8 1).2 = -1 := hc6
    refine v_push (1) (hT _ zt_X9_isMissing rfl _ _ rfl) rfl ?_
    refine v_goto (hT _ zt_X9_isMissing rfl _ _ rfl) ?_
    refine v_ret (hT _ zt_X9_isMissing rfl _ _ rfl) (Or.inl rfl) ?_
    show vP D T N 171 18 h [some (2, 0), some (0, 3), some (0, b)] [(0, 1)] _
    refine v_if (hT _ zt_X11_placeStatus rfl _ _ rfl) (fun hc7 => absurd (show (1 : Int) = 0 from hc7) (by decide)) (fun _ => ?_)
    refine v_push (3) (hT _ zt_X11_placeStatus rfl _ _ rfl) rfl ?_
    refine v_ret (hT _ zt_X11_placeStatus rfl _ _ rfl) (Or.inl rfl) ?_
    show vP D T N 175 6 h [some (2, 0), some (0, 3), some (0, b), none] [(0, 3)] _
    refine v_store1 [some (2, 0), some (0, 3), some (0, b), some (0, 3)] (hT _ zt_X11_read rfl _ _ rfl) ⟨rfl, Nat.ne_of_beq_eq_false rfl⟩ (Nat.le_of_ble_eq_true rfl) rfl ?_
    refine v_load (v := (0, 3)) (hT _ zt_X11_read rfl _ _ rfl) rfl rfl ?_
    refine v_if (hT _ zt_X11_read rfl _ _ rfl) (fun hc8 => absurd (show (3 : Int) = 0 from hc8) (by decide)) (fun _ => ?_)
    refine v_load (v := (2, 0)) (hT _ zt_X11_read rfl _ _ rfl) rfl rfl ?_
    refine v_load (v := (0, 3)) (hT _ zt_X11_read rfl _ _ rfl) rfl rfl ?_
    refine v_call (w := 2) [some (2, 0), some (0, 3)] hO (hT _ zt_X11_read rfl _ _ rfl) rfl rfl ?_
    refine v_load (v := (2, 0)) (hT _ zt_X11_refused rfl _ _ rfl) rfl rfl ?_
    refine v_load (v := (0, 3)) (hT _ zt_X11_refused rfl _ _ rfl) rfl rfl ?_
    refine v_putf (r := 0) hO (hT _ zt_X11_refused rfl _ _ rfl) rfl (fun hf9 => ?_)
    refine v_push (-1) (hT _ zt_X11_refused rfl _ _ rfl) rfl ?_
    refine v_ret (hT _ zt_X11_refused rfl _ _ rfl) (Or.inl rfl) ?_
    show vP D T N 175 16 (zset h 0 0 (0, 3)) [some (2, 0), some (0, 3), some (0, b), some (0, 3)] [(0, -1)] _
    refine v_i2l (hT _ zt_X11_read rfl _ _ rfl) ?_
    refine v_ret (hT _ zt_X11_read rfl _ _ rfl) (Or.inr rfl) ?_
    exact k0 hc6
  · have hc6 : (h 8 1).2 ≠ -1 := hc6
    refine v_push (0) (hT _ zt_X9_isMissing rfl _ _ rfl) rfl ?_
    refine v_ret (hT _ zt_X9_isMissing rfl _ _ rfl) (Or.inl rfl) ?_
    show vP D T N 171 18 h [some (2, 0), some (0, 3), some (0, b)] [(0, 0)] _
    refine v_if (hT _ zt_X11_placeStatus rfl _ _ rfl) (fun _ => ?_) (fun hc10 => absurd (show (0 : Int) = 0 from (by decide)) hc10)
    refine v_load (v := (2, 0)) (hT _ zt_X11_placeStatus rfl _ _ rfl) rfl rfl ?_
    refine v_getR (c := 1) (r := 0) (hT _ zt_X11_placeStatus rfl _ _ rfl) rfl rfl rfl ?_
    refine v_load (v := (0, 3)) (hT _ zt_X11_placeStatus rfl _ _ rfl) rfl rfl ?_
    refine v_aldV (v := (2, 8)) (r := 1) (hT _ zt_X11_placeStatus rfl _ _ rfl) rfl rfl (fun hv _ _ => hv.ref rfl) (fun ha11 hb12 => ?_)
    refine v_load (v := (0, b)) (hT _ zt_X11_placeStatus rfl _ _ rfl) rfl rfl ?_
    refine v_push (1) (hT _ zt_X11_placeStatus rfl _ _ rfl) rfl ?_
    refine v_call (w := 3) [some (2, 8), some (0, b), some (0, 1)] hO (hT _ zt_X11_placeStatus rfl _ _ rfl) rfl rfl ?_
    refine v_load (v := (0, b)) (hT _ zt_X9_hasPlaces rfl _ _ rfl) rfl rfl ?_
    refine v_if (hT _ zt_X9_hasPlaces rfl _ _ rfl) (fun hc13 => ?_) (fun hc13 => ?_)
    · have hc13 : b < 0 := hc13
      refine v_push (0) (hT _ zt_X9_hasPlaces rfl _ _ rfl) rfl ?_
      refine v_ret (hT _ zt_X9_hasPlaces rfl _ _ rfl) (Or.inl rfl) ?_
      show vP D T N 171 34 h [some (2, 0), some (0, 3), some (0, b)] [(0, 0)] _
      refine v_if (hT _ zt_X11_placeStatus rfl _ _ rfl) (fun _ => ?_) (fun hc14 => absurd (show (0 : Int) = 0 from (by decide)) hc14)
      refine v_push (4) (hT _ zt_X11_placeStatus rfl _ _ rfl) rfl ?_
      refine v_ret (hT _ zt_X11_placeStatus rfl _ _ rfl) (Or.inl rfl) ?_
      show vP D T N 175 6 h [some (2, 0), some (0, 3), some (0, b), none] [(0, 4)] _
      refine v_store1 [some (2, 0), some (0, 3), some (0, b), some (0, 4)] (hT _ zt_X11_read rfl _ _ rfl) ⟨rfl, Nat.ne_of_beq_eq_false rfl⟩ (Nat.le_of_ble_eq_true rfl) rfl ?_
      refine v_load (v := (0, 4)) (hT _ zt_X11_read rfl _ _ rfl) rfl rfl ?_
      refine v_if (hT _ zt_X11_read rfl _ _ rfl) (fun hc15 => absurd (show (4 : Int) = 0 from hc15) (by decide)) (fun _ => ?_)
      refine v_load (v := (2, 0)) (hT _ zt_X11_read rfl _ _ rfl) rfl rfl ?_
      refine v_load (v := (0, 4)) (hT _ zt_X11_read rfl _ _ rfl) rfl rfl ?_
      refine v_call (w := 2) [some (2, 0), some (0, 4)] hO (hT _ zt_X11_read rfl _ _ rfl) rfl rfl ?_
      refine v_load (v := (2, 0)) (hT _ zt_X11_refused rfl _ _ rfl) rfl rfl ?_
      refine v_load (v := (0, 4)) (hT _ zt_X11_refused rfl _ _ rfl) rfl rfl ?_
      refine v_putf (r := 0) hO (hT _ zt_X11_refused rfl _ _ rfl) rfl (fun hf16 => ?_)
      refine v_push (-1) (hT _ zt_X11_refused rfl _ _ rfl) rfl ?_
      refine v_ret (hT _ zt_X11_refused rfl _ _ rfl) (Or.inl rfl) ?_
      show vP D T N 175 16 (zset h 0 0 (0, 4)) [some (2, 0), some (0, 3), some (0, b), some (0, 4)] [(0, -1)] _
      refine v_i2l (hT _ zt_X11_read rfl _ _ rfl) ?_
      refine v_ret (hT _ zt_X11_read rfl _ _ rfl) (Or.inr rfl) ?_
      exact k1 hc6 hc13
    · have hc13 : 0 ≤ b := Int.not_lt.mp hc13
      refine v_load (v := (0, b)) (hT _ zt_X9_hasPlaces rfl _ _ rfl) rfl rfl ?_
      refine v_load (v := (2, 8)) (hT _ zt_X9_hasPlaces rfl _ _ rfl) rfl rfl ?_
      refine v_getI (t := 0) (r := 8) (hT _ zt_X9_hasPlaces rfl _ _ rfl) rfl rfl rfl ?_
      refine v_load (v := (0, 1)) (hT _ zt_X9_hasPlaces rfl _ _ rfl) rfl rfl ?_
      refine v_bin (w := ((h 8 2).2 - 1)) (hT _ zt_X9_hasPlaces rfl _ _ rfl) (hq_sub (by omega) (by omega)) ?_
      refine v_ic (hT _ zt_X9_hasPlaces rfl _ _ rfl) (fun hc17 => ?_) (fun hc17 => ?_)
      · have hc17 : ((h 8 2).2 - 1) < b := hc17
        refine v_push (0) (hT _ zt_X9_hasPlaces rfl _ _ rfl) rfl ?_
        refine v_ret (hT _ zt_X9_hasPlaces rfl _ _ rfl) (Or.inl rfl) ?_
        show vP D T N 171 34 h [some (2, 0), some (0, 3), some (0, b)] [(0, 0)] _
        refine v_if (hT _ zt_X11_placeStatus rfl _ _ rfl) (fun _ => ?_) (fun hc18 => absurd (show (0 : Int) = 0 from (by decide)) hc18)
        refine v_push (4) (hT _ zt_X11_placeStatus rfl _ _ rfl) rfl ?_
        refine v_ret (hT _ zt_X11_placeStatus rfl _ _ rfl) (Or.inl rfl) ?_
        show vP D T N 175 6 h [some (2, 0), some (0, 3), some (0, b), none] [(0, 4)] _
        refine v_store1 [some (2, 0), some (0, 3), some (0, b), some (0, 4)] (hT _ zt_X11_read rfl _ _ rfl) ⟨rfl, Nat.ne_of_beq_eq_false rfl⟩ (Nat.le_of_ble_eq_true rfl) rfl ?_
        refine v_load (v := (0, 4)) (hT _ zt_X11_read rfl _ _ rfl) rfl rfl ?_
        refine v_if (hT _ zt_X11_read rfl _ _ rfl) (fun hc19 => absurd (show (4 : Int) = 0 from hc19) (by decide)) (fun _ => ?_)
        refine v_load (v := (2, 0)) (hT _ zt_X11_read rfl _ _ rfl) rfl rfl ?_
        refine v_load (v := (0, 4)) (hT _ zt_X11_read rfl _ _ rfl) rfl rfl ?_
        refine v_call (w := 2) [some (2, 0), some (0, 4)] hO (hT _ zt_X11_read rfl _ _ rfl) rfl rfl ?_
        refine v_load (v := (2, 0)) (hT _ zt_X11_refused rfl _ _ rfl) rfl rfl ?_
        refine v_load (v := (0, 4)) (hT _ zt_X11_refused rfl _ _ rfl) rfl rfl ?_
        refine v_putf (r := 0) hO (hT _ zt_X11_refused rfl _ _ rfl) rfl (fun hf20 => ?_)
        refine v_push (-1) (hT _ zt_X11_refused rfl _ _ rfl) rfl ?_
        refine v_ret (hT _ zt_X11_refused rfl _ _ rfl) (Or.inl rfl) ?_
        show vP D T N 175 16 (zset h 0 0 (0, 4)) [some (2, 0), some (0, 3), some (0, b), some (0, 4)] [(0, -1)] _
        refine v_i2l (hT _ zt_X11_read rfl _ _ rfl) ?_
        refine v_ret (hT _ zt_X11_read rfl _ _ rfl) (Or.inr rfl) ?_
        exact k2 hc6 hc13 hc17
      · have hc17 : b ≤ ((h 8 2).2 - 1) := Int.not_lt.mp hc17
        refine v_push (1) (hT _ zt_X9_hasPlaces rfl _ _ rfl) rfl ?_
        refine v_goto (hT _ zt_X9_hasPlaces rfl _ _ rfl) ?_
        refine v_ret (hT _ zt_X9_hasPlaces rfl _ _ rfl) (Or.inl rfl) ?_
        show vP D T N 171 34 h [some (2, 0), some (0, 3), some (0, b)] [(0, 1)] _
        refine v_if (hT _ zt_X11_placeStatus rfl _ _ rfl) (fun hc21 => absurd (show (1 : Int) = 0 from hc21) (by decide)) (fun _ => ?_)
        refine v_push (0) (hT _ zt_X11_placeStatus rfl _ _ rfl) rfl ?_
        refine v_goto (hT _ zt_X11_placeStatus rfl _ _ rfl) ?_
        refine v_ret (hT _ zt_X11_placeStatus rfl _ _ rfl) (Or.inl rfl) ?_
        show vP D T N 175 6 h [some (2, 0), some (0, 3), some (0, b), none] [(0, 0)] _
        refine v_store1 [some (2, 0), some (0, 3), some (0, b), some (0, 0)] (hT _ zt_X11_read rfl _ _ rfl) ⟨rfl, Nat.ne_of_beq_eq_false rfl⟩ (Nat.le_of_ble_eq_true rfl) rfl ?_
        refine v_load (v := (0, 0)) (hT _ zt_X11_read rfl _ _ rfl) rfl rfl ?_
        refine v_if (hT _ zt_X11_read rfl _ _ rfl) (fun _ => ?_) (fun hc22 => absurd (show (0 : Int) = 0 from (by decide)) hc22)
        refine v_load (v := (2, 0)) (hT _ zt_X11_read rfl _ _ rfl) rfl rfl ?_
        refine v_push (0) (hT _ zt_X11_read rfl _ _ rfl) rfl ?_
        refine v_putf (r := 0) hO (hT _ zt_X11_read rfl _ _ rfl) rfl (fun hf23 => ?_)
        refine v_load (v := (2, 0)) (hT _ zt_X11_read rfl _ _ rfl) rfl rfl ?_
        refine v_getR (c := 1) (r := 0) (hT _ zt_X11_read rfl _ _ rfl) rfl rfl rfl ?_
        refine v_load (v := (0, 3)) (hT _ zt_X11_read rfl _ _ rfl) rfl rfl ?_
        refine v_aldV (v := (2, 8)) (r := 1) (hT _ zt_X11_read rfl _ _ rfl) rfl rfl (fun hv _ _ => hv.ref rfl) (fun ha24 hb25 => ?_)
        refine v_getR (c := 9) (r := 8) (hT _ zt_X11_read rfl _ _ rfl) rfl rfl rfl ?_
        refine v_load (v := (0, b)) (hT _ zt_X11_read rfl _ _ rfl) rfl rfl ?_
        refine v_aldE (t := 1) (r := 9) (w := (h 9 b.toNat).2) (hT _ zt_X11_read rfl _ _ rfl) rfl rfl rfl (congrArg Prod.snd (zset_ne (fun c => absurd c.1 (by decide)))) (fun ha26 hb27 => ?_)
        refine v_ret (hT _ zt_X11_read rfl _ _ rfl) (Or.inr rfl) ?_
        exact k3 hc6 hc13 hc17 hb27
theorem y_X11_read_lo {D : zD} {T : zT} (hT : hTab T) (hO : vOK T) {N : Nat} {h : zH} {Q : zR → Prop} (a b : Int) (hv0 : zHv h) (ha : a < 0)
    (k0 : Q (zset h 0 0 (0, 1), some (1, -1))) :
    vP D T N 175 0 h [some (2, 0), some (0, a), some (0, b), none] [] Q := by
  refine v_load (v := (2, 0)) (hT _ zt_X11_read rfl _ _ rfl) rfl rfl ?_
  refine v_load (v := (0, a)) (hT _ zt_X11_read rfl _ _ rfl) rfl rfl ?_
  refine v_load (v := (0, b)) (hT _ zt_X11_read rfl _ _ rfl) rfl rfl ?_
  refine v_call (w := 3) [some (2, 0), some (0, a), some (0, b)] hO (hT _ zt_X11_read rfl _ _ rfl) rfl rfl ?_
  refine v_load (v := (0, a)) (hT _ zt_X11_placeStatus rfl _ _ rfl) rfl rfl ?_
  refine v_call (w := 1) [some (0, a)] hO (hT _ zt_X11_placeStatus rfl _ _ rfl) rfl rfl ?_
  refine v_load (v := (0, a)) (hT _ zt_X11_isTray rfl _ _ rfl) rfl rfl ?_
  refine v_if (hT _ zt_X11_isTray rfl _ _ rfl) (fun _ => ?_) (fun hc1 => absurd (show a < 0 from ha) hc1)
  refine v_push (0) (hT _ zt_X11_isTray rfl _ _ rfl) rfl ?_
  refine v_ret (hT _ zt_X11_isTray rfl _ _ rfl) (Or.inl rfl) ?_
  show vP D T N 171 4 h [some (2, 0), some (0, a), some (0, b)] [(0, 0)] _
  refine v_if (hT _ zt_X11_placeStatus rfl _ _ rfl) (fun _ => ?_) (fun hc2 => absurd (show (0 : Int) = 0 from (by decide)) hc2)
  refine v_push (1) (hT _ zt_X11_placeStatus rfl _ _ rfl) rfl ?_
  refine v_ret (hT _ zt_X11_placeStatus rfl _ _ rfl) (Or.inl rfl) ?_
  show vP D T N 175 6 h [some (2, 0), some (0, a), some (0, b), none] [(0, 1)] _
  refine v_store1 [some (2, 0), some (0, a), some (0, b), some (0, 1)] (hT _ zt_X11_read rfl _ _ rfl) ⟨rfl, Nat.ne_of_beq_eq_false rfl⟩ (Nat.le_of_ble_eq_true rfl) rfl ?_
  refine v_load (v := (0, 1)) (hT _ zt_X11_read rfl _ _ rfl) rfl rfl ?_
  refine v_if (hT _ zt_X11_read rfl _ _ rfl) (fun hc3 => absurd (show (1 : Int) = 0 from hc3) (by decide)) (fun _ => ?_)
  refine v_load (v := (2, 0)) (hT _ zt_X11_read rfl _ _ rfl) rfl rfl ?_
  refine v_load (v := (0, 1)) (hT _ zt_X11_read rfl _ _ rfl) rfl rfl ?_
  refine v_call (w := 2) [some (2, 0), some (0, 1)] hO (hT _ zt_X11_read rfl _ _ rfl) rfl rfl ?_
  refine v_load (v := (2, 0)) (hT _ zt_X11_refused rfl _ _ rfl) rfl rfl ?_
  refine v_load (v := (0, 1)) (hT _ zt_X11_refused rfl _ _ rfl) rfl rfl ?_
  refine v_putf (r := 0) hO (hT _ zt_X11_refused rfl _ _ rfl) rfl (fun hf4 => ?_)
  refine v_push (-1) (hT _ zt_X11_refused rfl _ _ rfl) rfl ?_
  refine v_ret (hT _ zt_X11_refused rfl _ _ rfl) (Or.inl rfl) ?_
  show vP D T N 175 16 (zset h 0 0 (0, 1)) [some (2, 0), some (0, a), some (0, b), some (0, 1)] [(0, -1)] _
  refine v_i2l (hT _ zt_X11_read rfl _ _ rfl) ?_
  refine v_ret (hT _ zt_X11_read rfl _ _ rfl) (Or.inr rfl) ?_
  exact k0 
theorem y_X11_read_hi {D : zD} {T : zT} (hT : hTab T) (hO : vOK T) {N : Nat} {h : zH} {Q : zR → Prop} (a b : Int) (hv0 : zHv h) (ha0 : 0 ≤ a) (ha : 4 ≤ a)
    (k0 : Q (zset h 0 0 (0, 1), some (1, -1))) :
    vP D T N 175 0 h [some (2, 0), some (0, a), some (0, b), none] [] Q := by
  refine v_load (v := (2, 0)) (hT _ zt_X11_read rfl _ _ rfl) rfl rfl ?_
  refine v_load (v := (0, a)) (hT _ zt_X11_read rfl _ _ rfl) rfl rfl ?_
  refine v_load (v := (0, b)) (hT _ zt_X11_read rfl _ _ rfl) rfl rfl ?_
  refine v_call (w := 3) [some (2, 0), some (0, a), some (0, b)] hO (hT _ zt_X11_read rfl _ _ rfl) rfl rfl ?_
  refine v_load (v := (0, a)) (hT _ zt_X11_placeStatus rfl _ _ rfl) rfl rfl ?_
  refine v_call (w := 1) [some (0, a)] hO (hT _ zt_X11_placeStatus rfl _ _ rfl) rfl rfl ?_
  refine v_load (v := (0, a)) (hT _ zt_X11_isTray rfl _ _ rfl) rfl rfl ?_
  refine v_if (hT _ zt_X11_isTray rfl _ _ rfl) (fun hc1 => absurd (show a < 0 from hc1) (by omega)) (fun _ => ?_)
  refine v_load (v := (0, a)) (hT _ zt_X11_isTray rfl _ _ rfl) rfl rfl ?_
  refine v_push (4) (hT _ zt_X11_isTray rfl _ _ rfl) rfl ?_
  refine v_ic (hT _ zt_X11_isTray rfl _ _ rfl) (fun hc2 => absurd (show a < 4 from hc2) (by omega)) (fun _ => ?_)
  refine v_push (0) (hT _ zt_X11_isTray rfl _ _ rfl) rfl ?_
  refine v_ret (hT _ zt_X11_isTray rfl _ _ rfl) (Or.inl rfl) ?_
  show vP D T N 171 4 h [some (2, 0), some (0, a), some (0, b)] [(0, 0)] _
  refine v_if (hT _ zt_X11_placeStatus rfl _ _ rfl) (fun _ => ?_) (fun hc3 => absurd (show (0 : Int) = 0 from (by decide)) hc3)
  refine v_push (1) (hT _ zt_X11_placeStatus rfl _ _ rfl) rfl ?_
  refine v_ret (hT _ zt_X11_placeStatus rfl _ _ rfl) (Or.inl rfl) ?_
  show vP D T N 175 6 h [some (2, 0), some (0, a), some (0, b), none] [(0, 1)] _
  refine v_store1 [some (2, 0), some (0, a), some (0, b), some (0, 1)] (hT _ zt_X11_read rfl _ _ rfl) ⟨rfl, Nat.ne_of_beq_eq_false rfl⟩ (Nat.le_of_ble_eq_true rfl) rfl ?_
  refine v_load (v := (0, 1)) (hT _ zt_X11_read rfl _ _ rfl) rfl rfl ?_
  refine v_if (hT _ zt_X11_read rfl _ _ rfl) (fun hc4 => absurd (show (1 : Int) = 0 from hc4) (by decide)) (fun _ => ?_)
  refine v_load (v := (2, 0)) (hT _ zt_X11_read rfl _ _ rfl) rfl rfl ?_
  refine v_load (v := (0, 1)) (hT _ zt_X11_read rfl _ _ rfl) rfl rfl ?_
  refine v_call (w := 2) [some (2, 0), some (0, 1)] hO (hT _ zt_X11_read rfl _ _ rfl) rfl rfl ?_
  refine v_load (v := (2, 0)) (hT _ zt_X11_refused rfl _ _ rfl) rfl rfl ?_
  refine v_load (v := (0, 1)) (hT _ zt_X11_refused rfl _ _ rfl) rfl rfl ?_
  refine v_putf (r := 0) hO (hT _ zt_X11_refused rfl _ _ rfl) rfl (fun hf5 => ?_)
  refine v_push (-1) (hT _ zt_X11_refused rfl _ _ rfl) rfl ?_
  refine v_ret (hT _ zt_X11_refused rfl _ _ rfl) (Or.inl rfl) ?_
  show vP D T N 175 16 (zset h 0 0 (0, 1)) [some (2, 0), some (0, a), some (0, b), some (0, 1)] [(0, -1)] _
  refine v_i2l (hT _ zt_X11_read rfl _ _ rfl) ?_
  refine v_ret (hT _ zt_X11_read rfl _ _ rfl) (Or.inr rfl) ?_
  exact k0 
theorem y_X12_read_lo {D : zD} {T : zT} (hT : hTab T) (hO : vOK T) {N : Nat} {h : zH} {Q : zR → Prop} (a b : Int) (hv0 : zHv h) (ha : a < 0)
    (k0 : Q (zset (zset h 121 1 (0, 0)) 121 0 (0, 1), some (1, -1))) :
    vP D T N 294 0 h [some (2, 121), some (0, a), some (0, b)] [] Q := by
  refine v_load (v := (2, 121)) (hT _ zt_X12_read rfl _ _ rfl) rfl rfl ?_
  refine v_push (0) (hT _ zt_X12_read rfl _ _ rfl) rfl ?_
  refine v_putf (r := 121) hO (hT _ zt_X12_read rfl _ _ rfl) rfl (fun hf1 => ?_)
  refine v_load (v := (2, 121)) (hT _ zt_X12_read rfl _ _ rfl) rfl rfl ?_
  refine v_load (v := (2, 121)) (hT _ zt_X12_read rfl _ _ rfl) rfl rfl ?_
  refine v_load (v := (0, a)) (hT _ zt_X12_read rfl _ _ rfl) rfl rfl ?_
  refine v_load (v := (0, b)) (hT _ zt_X12_read rfl _ _ rfl) rfl rfl ?_
  refine v_call (w := 4) [some (2, 121), some (0, a), some (0, b), none] hO (hT _ zt_X12_read rfl _ _ rfl) rfl rfl ?_
  refine v_load (v := (2, 121)) (hT _ zt_X12_placed rfl _ _ rfl) rfl rfl ?_
  refine v_load (v := (0, a)) (hT _ zt_X12_placed rfl _ _ rfl) rfl rfl ?_
  refine v_call (w := 2) [some (2, 121), some (0, a)] hO (hT _ zt_X12_placed rfl _ _ rfl) rfl rfl ?_
  refine v_load (v := (0, a)) (hT _ zt_X12_trayed rfl _ _ rfl) rfl rfl ?_
  refine v_if (hT _ zt_X12_trayed rfl _ _ rfl) (fun _ => ?_) (fun hc2 => absurd (show a < 0 from ha) hc2)
  refine v_push (1) (hT _ zt_X12_trayed rfl _ _ rfl) rfl ?_
  refine v_goto (hT _ zt_X12_trayed rfl _ _ rfl) ?_
  refine v_ret (hT _ zt_X12_trayed rfl _ _ rfl) (Or.inl rfl) ?_
  show vP D T N 290 5 (zset h 121 1 (0, 0)) [some (2, 121), some (0, a), some (0, b), none] [(0, 1)] _
  refine v_store1 [some (2, 121), some (0, a), some (0, b), some (0, 1)] (hT _ zt_X12_placed rfl _ _ rfl) ⟨rfl, Nat.ne_of_beq_eq_false rfl⟩ (Nat.le_of_ble_eq_true rfl) rfl ?_
  refine v_load (v := (0, 1)) (hT _ zt_X12_placed rfl _ _ rfl) rfl rfl ?_
  refine v_if (hT _ zt_X12_placed rfl _ _ rfl) (fun _ => ?_) (fun hc3 => absurd (show 0 < (1 : Int) from (by decide)) hc3)
  refine v_load (v := (0, 1)) (hT _ zt_X12_placed rfl _ _ rfl) rfl rfl ?_
  refine v_goto (hT _ zt_X12_placed rfl _ _ rfl) ?_
  refine v_ret (hT _ zt_X12_placed rfl _ _ rfl) (Or.inl rfl) ?_
  show vP D T N 294 12 (zset h 121 1 (0, 0)) [some (2, 121), some (0, a), some (0, b)] [(0, 1), (2, 121)] _
  refine v_putf (r := 121) hO (hT _ zt_X12_read rfl _ _ rfl) rfl (fun hf4 => ?_)
  refine v_load (v := (2, 121)) (hT _ zt_X12_read rfl _ _ rfl) rfl rfl ?_
  refine v_getf (v := (0, 1)) (r := 121) (hT _ zt_X12_read rfl _ _ rfl) rfl rfl (fun _ => zset_same) ?_
  refine v_if (hT _ zt_X12_read rfl _ _ rfl) (fun _ => ?_) (fun hc5 => absurd (show 0 < (1 : Int) from (by decide)) hc5)
  refine v_push (-1) (hT _ zt_X12_read rfl _ _ rfl) rfl ?_
  refine v_goto (hT _ zt_X12_read rfl _ _ rfl) ?_
  refine v_ret (hT _ zt_X12_read rfl _ _ rfl) (Or.inr rfl) ?_
  exact k0 
theorem y_X12_read_hi {D : zD} {T : zT} (hT : hTab T) (hO : vOK T) {N : Nat} {h : zH} {Q : zR → Prop} (a b : Int) (hv0 : zHv h) (ha0 : 0 ≤ a) (ha : 4 ≤ a)
    (k0 : Q (zset (zset h 121 1 (0, 0)) 121 0 (0, 1), some (1, -1))) :
    vP D T N 294 0 h [some (2, 121), some (0, a), some (0, b)] [] Q := by
  refine v_load (v := (2, 121)) (hT _ zt_X12_read rfl _ _ rfl) rfl rfl ?_
  refine v_push (0) (hT _ zt_X12_read rfl _ _ rfl) rfl ?_
  refine v_putf (r := 121) hO (hT _ zt_X12_read rfl _ _ rfl) rfl (fun hf1 => ?_)
  refine v_load (v := (2, 121)) (hT _ zt_X12_read rfl _ _ rfl) rfl rfl ?_
  refine v_load (v := (2, 121)) (hT _ zt_X12_read rfl _ _ rfl) rfl rfl ?_
  refine v_load (v := (0, a)) (hT _ zt_X12_read rfl _ _ rfl) rfl rfl ?_
  refine v_load (v := (0, b)) (hT _ zt_X12_read rfl _ _ rfl) rfl rfl ?_
  refine v_call (w := 4) [some (2, 121), some (0, a), some (0, b), none] hO (hT _ zt_X12_read rfl _ _ rfl) rfl rfl ?_
  refine v_load (v := (2, 121)) (hT _ zt_X12_placed rfl _ _ rfl) rfl rfl ?_
  refine v_load (v := (0, a)) (hT _ zt_X12_placed rfl _ _ rfl) rfl rfl ?_
  refine v_call (w := 2) [some (2, 121), some (0, a)] hO (hT _ zt_X12_placed rfl _ _ rfl) rfl rfl ?_
  refine v_load (v := (0, a)) (hT _ zt_X12_trayed rfl _ _ rfl) rfl rfl ?_
  refine v_if (hT _ zt_X12_trayed rfl _ _ rfl) (fun hc2 => absurd (show a < 0 from hc2) (by omega)) (fun _ => ?_)
  refine v_load (v := (0, a)) (hT _ zt_X12_trayed rfl _ _ rfl) rfl rfl ?_
  refine v_push (4) (hT _ zt_X12_trayed rfl _ _ rfl) rfl ?_
  refine v_ic (hT _ zt_X12_trayed rfl _ _ rfl) (fun hc3 => absurd (show a < 4 from hc3) (by omega)) (fun _ => ?_)
  refine v_push (1) (hT _ zt_X12_trayed rfl _ _ rfl) rfl ?_
  refine v_goto (hT _ zt_X12_trayed rfl _ _ rfl) ?_
  refine v_ret (hT _ zt_X12_trayed rfl _ _ rfl) (Or.inl rfl) ?_
  show vP D T N 290 5 (zset h 121 1 (0, 0)) [some (2, 121), some (0, a), some (0, b), none] [(0, 1)] _
  refine v_store1 [some (2, 121), some (0, a), some (0, b), some (0, 1)] (hT _ zt_X12_placed rfl _ _ rfl) ⟨rfl, Nat.ne_of_beq_eq_false rfl⟩ (Nat.le_of_ble_eq_true rfl) rfl ?_
  refine v_load (v := (0, 1)) (hT _ zt_X12_placed rfl _ _ rfl) rfl rfl ?_
  refine v_if (hT _ zt_X12_placed rfl _ _ rfl) (fun _ => ?_) (fun hc4 => absurd (show 0 < (1 : Int) from (by decide)) hc4)
  refine v_load (v := (0, 1)) (hT _ zt_X12_placed rfl _ _ rfl) rfl rfl ?_
  refine v_goto (hT _ zt_X12_placed rfl _ _ rfl) ?_
  refine v_ret (hT _ zt_X12_placed rfl _ _ rfl) (Or.inl rfl) ?_
  show vP D T N 294 12 (zset h 121 1 (0, 0)) [some (2, 121), some (0, a), some (0, b)] [(0, 1), (2, 121)] _
  refine v_putf (r := 121) hO (hT _ zt_X12_read rfl _ _ rfl) rfl (fun hf5 => ?_)
  refine v_load (v := (2, 121)) (hT _ zt_X12_read rfl _ _ rfl) rfl rfl ?_
  refine v_getf (v := (0, 1)) (r := 121) (hT _ zt_X12_read rfl _ _ rfl) rfl rfl (fun _ => zset_same) ?_
  refine v_if (hT _ zt_X12_read rfl _ _ rfl) (fun _ => ?_) (fun hc6 => absurd (show 0 < (1 : Int) from (by decide)) hc6)
  refine v_push (-1) (hT _ zt_X12_read rfl _ _ rfl) rfl ?_
  refine v_goto (hT _ zt_X12_read rfl _ _ rfl) ?_
  refine v_ret (hT _ zt_X12_read rfl _ _ rfl) (Or.inr rfl) ?_
  exact k0 
theorem y_X12_read {D : zD} {T : zT} (hT : hTab T) (hO : vOK T) {N : Nat} {h : zH} {Q : zR → Prop} (a b : Int) (hv0 : zHv h) (hm : (h 123 a.toNat).2 ≤ 60)
    (k0 : (a < 0) → Q (zset (zset h 121 1 (0, 0)) 121 0 (0, 1), some (1, -1)))
    (k1 : (0 ≤ a) → (a < 4) → ((h 123 a.toNat).2 < 0) → Q (zset (zset h 121 1 (0, 0)) 121 0 (0, 3), some (1, -1)))
    (k2 : (0 ≤ a) → (a < 4) → (0 ≤ (h 123 a.toNat).2) → (b < 0) → Q (zset (zset h 121 1 (0, 0)) 121 0 (0, 4), some (1, -1)))
    (k3 : (0 ≤ a) → (a < 4) → (0 ≤ (h 123 a.toNat).2) → (0 ≤ b) → (b < (h 123 a.toNat).2) → (0 ≤ ((60 * a) + b)) → (((60 * a) + b) < 240) → Q (zset (zset h 121 1 (0, 0)) 121 0 (0, 0), some (1, (h 124 (((60 * a) + b)).toNat).2)))
    (k4 : (0 ≤ a) → (a < 4) → (0 ≤ (h 123 a.toNat).2) → (0 ≤ b) → ((h 123 a.toNat).2 ≤ b) → Q (zset (zset h 121 1 (0, 0)) 121 0 (0, 4), some (1, -1)))
    (k5 : (0 ≤ a) → (4 ≤ a) → Q (zset (zset h 121 1 (0, 0)) 121 0 (0, 1), some (1, -1))) :
    vP D T N 294 0 h [some (2, 121), some (0, a), some (0, b)] [] Q := by
  refine v_load (v := (2, 121)) (hT _ zt_X12_read rfl _ _ rfl) rfl rfl ?_
  refine v_push (0) (hT _ zt_X12_read rfl _ _ rfl) rfl ?_
  refine v_putf (r := 121) hO (hT _ zt_X12_read rfl _ _ rfl) rfl (fun hf1 => ?_)
  refine v_load (v := (2, 121)) (hT _ zt_X12_read rfl _ _ rfl) rfl rfl ?_
  refine v_load (v := (2, 121)) (hT _ zt_X12_read rfl _ _ rfl) rfl rfl ?_
  refine v_load (v := (0, a)) (hT _ zt_X12_read rfl _ _ rfl) rfl rfl ?_
  refine v_load (v := (0, b)) (hT _ zt_X12_read rfl _ _ rfl) rfl rfl ?_
  refine v_call (w := 4) [some (2, 121), some (0, a), some (0, b), none] hO (hT _ zt_X12_read rfl _ _ rfl) rfl rfl ?_
  refine v_load (v := (2, 121)) (hT _ zt_X12_placed rfl _ _ rfl) rfl rfl ?_
  refine v_load (v := (0, a)) (hT _ zt_X12_placed rfl _ _ rfl) rfl rfl ?_
  refine v_call (w := 2) [some (2, 121), some (0, a)] hO (hT _ zt_X12_placed rfl _ _ rfl) rfl rfl ?_
  refine v_load (v := (0, a)) (hT _ zt_X12_trayed rfl _ _ rfl) rfl rfl ?_
  refine v_if (hT _ zt_X12_trayed rfl _ _ rfl) (fun hc2 => ?_) (fun hc2 => ?_)
  · have hc2 : a < 0 := hc2
    refine v_push (1) (hT _ zt_X12_trayed rfl _ _ rfl) rfl ?_
    refine v_goto (hT _ zt_X12_trayed rfl _ _ rfl) ?_
    refine v_ret (hT _ zt_X12_trayed rfl _ _ rfl) (Or.inl rfl) ?_
    show vP D T N 290 5 (zset h 121 1 (0, 0)) [some (2, 121), some (0, a), some (0, b), none] [(0, 1)] _
    refine v_store1 [some (2, 121), some (0, a), some (0, b), some (0, 1)] (hT _ zt_X12_placed rfl _ _ rfl) ⟨rfl, Nat.ne_of_beq_eq_false rfl⟩ (Nat.le_of_ble_eq_true rfl) rfl ?_
    refine v_load (v := (0, 1)) (hT _ zt_X12_placed rfl _ _ rfl) rfl rfl ?_
    refine v_if (hT _ zt_X12_placed rfl _ _ rfl) (fun _ => ?_) (fun hc3 => absurd (show 0 < (1 : Int) from (by decide)) hc3)
    refine v_load (v := (0, 1)) (hT _ zt_X12_placed rfl _ _ rfl) rfl rfl ?_
    refine v_goto (hT _ zt_X12_placed rfl _ _ rfl) ?_
    refine v_ret (hT _ zt_X12_placed rfl _ _ rfl) (Or.inl rfl) ?_
    show vP D T N 294 12 (zset h 121 1 (0, 0)) [some (2, 121), some (0, a), some (0, b)] [(0, 1), (2, 121)] _
    refine v_putf (r := 121) hO (hT _ zt_X12_read rfl _ _ rfl) rfl (fun hf4 => ?_)
    refine v_load (v := (2, 121)) (hT _ zt_X12_read rfl _ _ rfl) rfl rfl ?_
    refine v_getf (v := (0, 1)) (r := 121) (hT _ zt_X12_read rfl _ _ rfl) rfl rfl (fun _ => zset_same) ?_
    refine v_if (hT _ zt_X12_read rfl _ _ rfl) (fun _ => ?_) (fun hc5 => absurd (show 0 < (1 : Int) from (by decide)) hc5)
    refine v_push (-1) (hT _ zt_X12_read rfl _ _ rfl) rfl ?_
    refine v_goto (hT _ zt_X12_read rfl _ _ rfl) ?_
    refine v_ret (hT _ zt_X12_read rfl _ _ rfl) (Or.inr rfl) ?_
    exact k0 hc2
  · have hc2 : 0 ≤ a := Int.not_lt.mp hc2
    refine v_load (v := (0, a)) (hT _ zt_X12_trayed rfl _ _ rfl) rfl rfl ?_
    refine v_push (4) (hT _ zt_X12_trayed rfl _ _ rfl) rfl ?_
    refine v_ic (hT _ zt_X12_trayed rfl _ _ rfl) (fun hc6 => ?_) (fun hc6 => ?_)
    · have hc6 : a < 4 := hc6
      refine v_load (v := (2, 121)) (hT _ zt_X12_trayed rfl _ _ rfl) rfl rfl ?_
      refine v_getR (c := 123) (r := 121) (hT _ zt_X12_trayed rfl _ _ rfl) rfl rfl rfl ?_
      refine v_load (v := (0, a)) (hT _ zt_X12_trayed rfl _ _ rfl) rfl rfl ?_
      refine v_aldE (t := 0) (r := 123) (w := (h 123 a.toNat).2) (hT _ zt_X12_trayed rfl _ _ rfl) rfl rfl rfl (congrArg Prod.snd (zset_ne (fun c => absurd c.1 (by decide)))) (fun ha7 hb8 => ?_)
      refine v_if (hT _ zt_X12_trayed rfl _ _ rfl) (fun hc9 => ?_) (fun hc9 => ?_)
      · have hc9 : (h 123 a.toNat).2 < 0 := hc9
        refine v_push (3) (hT _ zt_X12_trayed rfl _ _ rfl) rfl ?_
        refine v_goto (hT _ zt_X12_trayed rfl _ _ rfl) ?_
        refine v_ret (hT _ zt_X12_trayed rfl _ _ rfl) (Or.inl rfl) ?_
        show vP D T N 290 5 (zset h 121 1 (0, 0)) [some (2, 121), some (0, a), some (0, b), none] [(0, 3)] _
        refine v_store1 [some (2, 121), some (0, a), some (0, b), some (0, 3)] (hT _ zt_X12_placed rfl _ _ rfl) ⟨rfl, Nat.ne_of_beq_eq_false rfl⟩ (Nat.le_of_ble_eq_true rfl) rfl ?_
        refine v_load (v := (0, 3)) (hT _ zt_X12_placed rfl _ _ rfl) rfl rfl ?_
        refine v_if (hT _ zt_X12_placed rfl _ _ rfl) (fun _ => ?_) (fun hc10 => absurd (show 0 < (3 : Int) from (by decide)) hc10)
        refine v_load (v := (0, 3)) (hT _ zt_X12_placed rfl _ _ rfl) rfl rfl ?_
        refine v_goto (hT _ zt_X12_placed rfl _ _ rfl) ?_
        refine v_ret (hT _ zt_X12_placed rfl _ _ rfl) (Or.inl rfl) ?_
        show vP D T N 294 12 (zset h 121 1 (0, 0)) [some (2, 121), some (0, a), some (0, b)] [(0, 3), (2, 121)] _
        refine v_putf (r := 121) hO (hT _ zt_X12_read rfl _ _ rfl) rfl (fun hf11 => ?_)
        refine v_load (v := (2, 121)) (hT _ zt_X12_read rfl _ _ rfl) rfl rfl ?_
        refine v_getf (v := (0, 3)) (r := 121) (hT _ zt_X12_read rfl _ _ rfl) rfl rfl (fun _ => zset_same) ?_
        refine v_if (hT _ zt_X12_read rfl _ _ rfl) (fun _ => ?_) (fun hc12 => absurd (show 0 < (3 : Int) from (by decide)) hc12)
        refine v_push (-1) (hT _ zt_X12_read rfl _ _ rfl) rfl ?_
        refine v_goto (hT _ zt_X12_read rfl _ _ rfl) ?_
        refine v_ret (hT _ zt_X12_read rfl _ _ rfl) (Or.inr rfl) ?_
        exact k1 hc2 hc6 hc9
      · have hc9 : 0 ≤ (h 123 a.toNat).2 := Int.not_lt.mp hc9
        refine v_push (0) (hT _ zt_X12_trayed rfl _ _ rfl) rfl ?_
        refine v_ret (hT _ zt_X12_trayed rfl _ _ rfl) (Or.inl rfl) ?_
        show vP D T N 290 5 (zset h 121 1 (0, 0)) [some (2, 121), some (0, a), some (0, b), none] [(0, 0)] _
        refine v_store1 [some (2, 121), some (0, a), some (0, b), some (0, 0)] (hT _ zt_X12_placed rfl _ _ rfl) ⟨rfl, Nat.ne_of_beq_eq_false rfl⟩ (Nat.le_of_ble_eq_true rfl) rfl ?_
        refine v_load (v := (0, 0)) (hT _ zt_X12_placed rfl _ _ rfl) rfl rfl ?_
        refine v_if (hT _ zt_X12_placed rfl _ _ rfl) (fun hc13 => absurd (show 0 < (0 : Int) from hc13) (by decide)) (fun _ => ?_)
        refine v_load (v := (0, b)) (hT _ zt_X12_placed rfl _ _ rfl) rfl rfl ?_
        refine v_if (hT _ zt_X12_placed rfl _ _ rfl) (fun hc14 => ?_) (fun hc14 => ?_)
        · have hc14 : b < 0 := hc14
          refine v_push (4) (hT _ zt_X12_placed rfl _ _ rfl) rfl ?_
          refine v_goto (hT _ zt_X12_placed rfl _ _ rfl) ?_
          refine v_ret (hT _ zt_X12_placed rfl _ _ rfl) (Or.inl rfl) ?_
          show vP D T N 294 12 (zset h 121 1 (0, 0)) [some (2, 121), some (0, a), some (0, b)] [(0, 4), (2, 121)] _
          refine v_putf (r := 121) hO (hT _ zt_X12_read rfl _ _ rfl) rfl (fun hf15 => ?_)
          refine v_load (v := (2, 121)) (hT _ zt_X12_read rfl _ _ rfl) rfl rfl ?_
          refine v_getf (v := (0, 4)) (r := 121) (hT _ zt_X12_read rfl _ _ rfl) rfl rfl (fun _ => zset_same) ?_
          refine v_if (hT _ zt_X12_read rfl _ _ rfl) (fun _ => ?_) (fun hc16 => absurd (show 0 < (4 : Int) from (by decide)) hc16)
          refine v_push (-1) (hT _ zt_X12_read rfl _ _ rfl) rfl ?_
          refine v_goto (hT _ zt_X12_read rfl _ _ rfl) ?_
          refine v_ret (hT _ zt_X12_read rfl _ _ rfl) (Or.inr rfl) ?_
          exact k2 hc2 hc6 hc9 hc14
        · have hc14 : 0 ≤ b := Int.not_lt.mp hc14
          refine v_load (v := (0, b)) (hT _ zt_X12_placed rfl _ _ rfl) rfl rfl ?_
          refine v_load (v := (2, 121)) (hT _ zt_X12_placed rfl _ _ rfl) rfl rfl ?_
          refine v_getR (c := 123) (r := 121) (hT _ zt_X12_placed rfl _ _ rfl) rfl rfl rfl ?_
          refine v_load (v := (0, a)) (hT _ zt_X12_placed rfl _ _ rfl) rfl rfl ?_
          refine v_aldE (t := 0) (r := 123) (w := (h 123 a.toNat).2) (hT _ zt_X12_placed rfl _ _ rfl) rfl rfl rfl (congrArg Prod.snd (zset_ne (fun c => absurd c.1 (by decide)))) (fun ha17 hb18 => ?_)
          refine v_ic (hT _ zt_X12_placed rfl _ _ rfl) (fun hc19 => ?_) (fun hc19 => ?_)
          · have hc19 : b < (h 123 a.toNat).2 := hc19
            refine v_push (0) (hT _ zt_X12_placed rfl _ _ rfl) rfl ?_
            refine v_ret (hT _ zt_X12_placed rfl _ _ rfl) (Or.inl rfl) ?_
            show vP D T N 294 12 (zset h 121 1 (0, 0)) [some (2, 121), some (0, a), some (0, b)] [(0, 0), (2, 121)] _
            refine v_putf (r := 121) hO (hT _ zt_X12_read rfl _ _ rfl) rfl (fun hf20 => ?_)
            refine v_load (v := (2, 121)) (hT _ zt_X12_read rfl _ _ rfl) rfl rfl ?_
            refine v_getf (v := (0, 0)) (r := 121) (hT _ zt_X12_read rfl _ _ rfl) rfl rfl (fun _ => zset_same) ?_
            refine v_if (hT _ zt_X12_read rfl _ _ rfl) (fun hc21 => absurd (show 0 < (0 : Int) from hc21) (by decide)) (fun _ => ?_)
            refine v_load (v := (2, 121)) (hT _ zt_X12_read rfl _ _ rfl) rfl rfl ?_
            refine v_getR (c := 124) (r := 121) (hT _ zt_X12_read rfl _ _ rfl) rfl rfl rfl ?_
            refine v_push (60) (hT _ zt_X12_read rfl _ _ rfl) rfl ?_
            refine v_load (v := (0, a)) (hT _ zt_X12_read rfl _ _ rfl) rfl rfl ?_
            refine v_bin (w := (60 * a)) (hT _ zt_X12_read rfl _ _ rfl) (hq_mul (by omega) (by omega)) ?_
            refine v_load (v := (0, b)) (hT _ zt_X12_read rfl _ _ rfl) rfl rfl ?_
            refine v_bin (w := ((60 * a) + b)) (hT _ zt_X12_read rfl _ _ rfl) (hq_add (by omega) (by omega)) ?_
            refine v_aldE (t := 1) (r := 124) (w := (h 124 (((60 * a) + b)).toNat).2) (hT _ zt_X12_read rfl _ _ rfl) rfl rfl rfl (congrArg Prod.snd (Eq.trans (zset_ne (fun c => absurd c.1 (by decide))) (zset_ne (fun c => absurd c.1 (by decide))))) (fun ha22 hb23 => ?_)
            refine v_ret (hT _ zt_X12_read rfl _ _ rfl) (Or.inr rfl) ?_
            exact k3 hc2 hc6 hc9 hc14 hc19 ha22 hb23
          · have hc19 : (h 123 a.toNat).2 ≤ b := Int.not_lt.mp hc19
            refine v_push (4) (hT _ zt_X12_placed rfl _ _ rfl) rfl ?_
            refine v_goto (hT _ zt_X12_placed rfl _ _ rfl) ?_
            refine v_ret (hT _ zt_X12_placed rfl _ _ rfl) (Or.inl rfl) ?_
            show vP D T N 294 12 (zset h 121 1 (0, 0)) [some (2, 121), some (0, a), some (0, b)] [(0, 4), (2, 121)] _
            refine v_putf (r := 121) hO (hT _ zt_X12_read rfl _ _ rfl) rfl (fun hf24 => ?_)
            refine v_load (v := (2, 121)) (hT _ zt_X12_read rfl _ _ rfl) rfl rfl ?_
            refine v_getf (v := (0, 4)) (r := 121) (hT _ zt_X12_read rfl _ _ rfl) rfl rfl (fun _ => zset_same) ?_
            refine v_if (hT _ zt_X12_read rfl _ _ rfl) (fun _ => ?_) (fun hc25 => absurd (show 0 < (4 : Int) from (by decide)) hc25)
            refine v_push (-1) (hT _ zt_X12_read rfl _ _ rfl) rfl ?_
            refine v_goto (hT _ zt_X12_read rfl _ _ rfl) ?_
            refine v_ret (hT _ zt_X12_read rfl _ _ rfl) (Or.inr rfl) ?_
            exact k4 hc2 hc6 hc9 hc14 hc19
    · have hc6 : 4 ≤ a := Int.not_lt.mp hc6
      refine v_push (1) (hT _ zt_X12_trayed rfl _ _ rfl) rfl ?_
      refine v_goto (hT _ zt_X12_trayed rfl _ _ rfl) ?_
      refine v_ret (hT _ zt_X12_trayed rfl _ _ rfl) (Or.inl rfl) ?_
      show vP D T N 290 5 (zset h 121 1 (0, 0)) [some (2, 121), some (0, a), some (0, b), none] [(0, 1)] _
      refine v_store1 [some (2, 121), some (0, a), some (0, b), some (0, 1)] (hT _ zt_X12_placed rfl _ _ rfl) ⟨rfl, Nat.ne_of_beq_eq_false rfl⟩ (Nat.le_of_ble_eq_true rfl) rfl ?_
      refine v_load (v := (0, 1)) (hT _ zt_X12_placed rfl _ _ rfl) rfl rfl ?_
      refine v_if (hT _ zt_X12_placed rfl _ _ rfl) (fun _ => ?_) (fun hc26 => absurd (show 0 < (1 : Int) from (by decide)) hc26)
      refine v_load (v := (0, 1)) (hT _ zt_X12_placed rfl _ _ rfl) rfl rfl ?_
      refine v_goto (hT _ zt_X12_placed rfl _ _ rfl) ?_
      refine v_ret (hT _ zt_X12_placed rfl _ _ rfl) (Or.inl rfl) ?_
      show vP D T N 294 12 (zset h 121 1 (0, 0)) [some (2, 121), some (0, a), some (0, b)] [(0, 1), (2, 121)] _
      refine v_putf (r := 121) hO (hT _ zt_X12_read rfl _ _ rfl) rfl (fun hf27 => ?_)
      refine v_load (v := (2, 121)) (hT _ zt_X12_read rfl _ _ rfl) rfl rfl ?_
      refine v_getf (v := (0, 1)) (r := 121) (hT _ zt_X12_read rfl _ _ rfl) rfl rfl (fun _ => zset_same) ?_
      refine v_if (hT _ zt_X12_read rfl _ _ rfl) (fun _ => ?_) (fun hc28 => absurd (show 0 < (1 : Int) from (by decide)) hc28)
      refine v_push (-1) (hT _ zt_X12_read rfl _ _ rfl) rfl ?_
      refine v_goto (hT _ zt_X12_read rfl _ _ rfl) ?_
      refine v_ret (hT _ zt_X12_read rfl _ _ rfl) (Or.inr rfl) ?_
      exact k5 hc2 hc6
theorem y_X11_pour_0_0 {D : zD} {T : zT} (hT : hTab T) (hO : vOK T) {N : Nat} {h : zH} {Q : zR → Prop} (i j n : Int) (hv0 : zHv h) (hb : 0 ≤ (h 2 2).2 ∧ (h 2 2).2 ≤ 60) (hc : 0 ≤ (h 2 2).2 ∧ (h 2 2).2 ≤ 60) (hn : n ≤ 2147483647)
    (k0 : ((h 2 1).2 = -1) → Q (zset h 0 0 (0, 3), some (0, 0)))
    (k1 : ((h 2 1).2 ≠ -1) → ((h 2 1).2 = (h 2 1).2) → (n < 0) → Q (zset h 0 0 (0, 6), some (0, 0)))
    (k2 : ((h 2 1).2 ≠ -1) → ((h 2 1).2 = (h 2 1).2) → (0 ≤ n) → (i < 0) → Q (zset h 0 0 (0, 4), some (0, 0)))
    (k3 : ((h 2 1).2 ≠ -1) → ((h 2 1).2 = (h 2 1).2) → (0 ≤ n) → (0 ≤ i) → (((h 2 2).2 - n) < i) → Q (zset h 0 0 (0, 4), some (0, 0)))
    (k4 : ((h 2 1).2 ≠ -1) → ((h 2 1).2 = (h 2 1).2) → (0 ≤ n) → (0 ≤ i) → (i ≤ ((h 2 2).2 - n)) → (j < 0) → Q (zset h 0 0 (0, 4), some (0, 0)))
    (k5 : ((h 2 1).2 ≠ -1) → ((h 2 1).2 = (h 2 1).2) → (0 ≤ n) → (0 ≤ i) → (i ≤ ((h 2 2).2 - n)) → (0 ≤ j) → (((h 2 2).2 - n) < j) → Q (zset h 0 0 (0, 4), some (0, 0)))
    (k6 : ((h 2 1).2 ≠ -1) → ((h 2 1).2 = (h 2 1).2) → (0 ≤ n) → (0 ≤ i) → (i ≤ ((h 2 2).2 - n)) → (0 ≤ j) → (j ≤ ((h 2 2).2 - n)) → (0 ≤ n) → (0 ≤ i) → (0 ≤ j) → (i + n ≤ 60) → (j + n ≤ 60) → Q (zset (zcopy h 3 i.toNat 3 j.toNat n.toNat) 0 0 (0, 0), some (0, 1)))
    (k7 : ((h 2 1).2 ≠ -1) → ((h 2 1).2 ≠ (h 2 1).2) → Q (zset h 0 0 (0, 11), some (0, 0))) :
    vP D T N 172 0 h [some (2, 0), some (0, 0), some (0, i), some (0, 0), some (0, j), some (0, n), none, none] [] Q := by
  refine v_load (v := (0, 0)) (hT _ zt_X11_pour rfl _ _ rfl) rfl rfl ?_
  refine v_call (w := 1) [some (0, 0)] hO (hT _ zt_X11_pour rfl _ _ rfl) rfl rfl ?_
  refine v_load (v := (0, 0)) (hT _ zt_X11_isTray rfl _ _ rfl) rfl rfl ?_
  refine v_if (hT _ zt_X11_isTray rfl _ _ rfl) (fun hc1 => absurd (show (0 : Int) < 0 from hc1) (by decide)) (fun _ => ?_)
  refine v_load (v := (0, 0)) (hT _ zt_X11_isTray rfl _ _ rfl) rfl rfl ?_
  refine v_push (4) (hT _ zt_X11_isTray rfl _ _ rfl) rfl ?_
  refine v_ic (hT _ zt_X11_isTray rfl _ _ rfl) (fun _ => ?_) (fun hc2 => absurd (show (0 : Int) < 4 from (by decide)) hc2)
  refine v_push (1) (hT _ zt_X11_isTray rfl _ _ rfl) rfl ?_
  refine v_goto (hT _ zt_X11_isTray rfl _ _ rfl) ?_
  refine v_ret (hT _ zt_X11_isTray rfl _ _ rfl) (Or.inl rfl) ?_
  show vP D T N 172 4 h [some (2, 0), some (0, 0), some (0, i), some (0, 0), some (0, j), some (0, n), none, none] [(0, 1)] _
  refine v_if (hT _ zt_X11_pour rfl _ _ rfl) (fun hc3 => absurd (show (1 : Int) = 0 from hc3) (by decide)) (fun _ => ?_)
  refine v_load (v := (0, 0)) (hT _ zt_X11_pour rfl _ _ rfl) rfl rfl ?_
  refine v_call (w := 1) [some (0, 0)] hO (hT _ zt_X11_pour rfl _ _ rfl) rfl rfl ?_
  refine v_load (v := (0, 0)) (hT _ zt_X11_isTray rfl _ _ rfl) rfl rfl ?_
  refine v_if (hT _ zt_X11_isTray rfl _ _ rfl) (fun hc4 => absurd (show (0 : Int) < 0 from hc4) (by decide)) (fun _ => ?_)
  refine v_load (v := (0, 0)) (hT _ zt_X11_isTray rfl _ _ rfl) rfl rfl ?_
  refine v_push (4) (hT _ zt_X11_isTray rfl _ _ rfl) rfl ?_
  refine v_ic (hT _ zt_X11_isTray rfl _ _ rfl) (fun _ => ?_) (fun hc5 => absurd (show (0 : Int) < 4 from (by decide)) hc5)
  refine v_push (1) (hT _ zt_X11_isTray rfl _ _ rfl) rfl ?_
  refine v_goto (hT _ zt_X11_isTray rfl _ _ rfl) ?_
  refine v_ret (hT _ zt_X11_isTray rfl _ _ rfl) (Or.inl rfl) ?_
  show vP D T N 172 11 h [some (2, 0), some (0, 0), some (0, i), some (0, 0), some (0, j), some (0, n), none, none] [(0, 1)] _
  refine v_if (hT _ zt_X11_pour rfl _ _ rfl) (fun hc6 => absurd (show (1 : Int) = 0 from hc6) (by decide)) (fun _ => ?_)
  refine v_load (v := (2, 0)) (hT _ zt_X11_pour rfl _ _ rfl) rfl rfl ?_
  refine v_getR (c := 1) (r := 0) (hT _ zt_X11_pour rfl _ _ rfl) rfl rfl rfl ?_
  refine v_load (v := (0, 0)) (hT _ zt_X11_pour rfl _ _ rfl) rfl rfl ?_
  refine v_aldV (v := (2, 2)) (r := 1) (hT _ zt_X11_pour rfl _ _ rfl) rfl rfl (fun hv _ _ => hv.ref rfl) (fun ha7 hb8 => ?_)
  refine v_store1 [some (2, 0), some (0, 0), some (0, i), some (0, 0), some (0, j), some (0, n), some (2, 2), none] (hT _ zt_X11_pour rfl _ _ rfl) ⟨rfl, Nat.ne_of_beq_eq_false rfl⟩ (Nat.le_of_ble_eq_true rfl) rfl ?_
  refine v_load (v := (2, 0)) (hT _ zt_X11_pour rfl _ _ rfl) rfl rfl ?_
  refine v_getR (c := 1) (r := 0) (hT _ zt_X11_pour rfl _ _ rfl) rfl rfl rfl ?_
  refine v_load (v := (0, 0)) (hT _ zt_X11_pour rfl _ _ rfl) rfl rfl ?_
  refine v_aldV (v := (2, 2)) (r := 1) (hT _ zt_X11_pour rfl _ _ rfl) rfl rfl (fun hv _ _ => hv.ref rfl) (fun ha9 hb10 => ?_)
  refine v_store1 [some (2, 0), some (0, 0), some (0, i), some (0, 0), some (0, j), some (0, n), some (2, 2), some (2, 2)] (hT _ zt_X11_pour rfl _ _ rfl) ⟨rfl, Nat.ne_of_beq_eq_false rfl⟩ (Nat.le_of_ble_eq_true rfl) rfl ?_
  refine v_load (v := (2, 2)) (hT _ zt_X11_pour rfl _ _ rfl) rfl rfl ?_
  refine v_call (w := 1) [some (2, 2)] hO (hT _ zt_X11_pour rfl _ _ rfl) rfl rfl ?_
  refine v_load (v := (2, 2)) (hT _ zt_X9_isMissing rfl _ _ rfl) rfl rfl ?_
  refine v_getI (t := 0) (r := 2) (hT _ zt_X9_isMissing rfl _ _ rfl) rfl rfl rfl ?_
  refine v_push (-1) (hT _ zt_X9_isMissing rfl _ _ rfl) rfl ?_
  refine v_ic (hT _ zt_X9_isMissing rfl _ _ rfl) (fun hc11 => ?_) (fun hc11 => ?_)
  · have hc11 : (h 2 1).2 = -1 := hc11
    refine v_push (1) (hT _ zt_X9_isMissing rfl _ _ rfl) rfl ?_
    refine v_goto (hT _ zt_X9_isMissing rfl _ _ rfl) ?_
    refine v_ret (hT _ zt_X9_isMissing rfl _ _ rfl) (Or.inl rfl) ?_
    show vP D T N 172 41 h [some (2, 0), some (0, 0), some (0, i), some (0, 0), some (0, j), some (0, n), some (2, 2), some (2, 2)] [(0, 1)] _
    refine v_if (hT _ zt_X11_pour rfl _ _ rfl) (fun hc12 => absurd (show (1 : Int) = 0 from hc12) (by decide)) (fun _ => ?_)
    refine v_load (v := (2, 0)) (hT _ zt_X11_pour rfl _ _ rfl) rfl rfl ?_
    refine v_push (3) (hT _ zt_X11_pour rfl _ _ rfl) rfl ?_
    refine v_call (w := 2) [some (2, 0), some (0, 3)] hO (hT _ zt_X11_pour rfl _ _ rfl) rfl rfl ?_
    refine v_load (v := (2, 0)) (hT _ zt_X11_refuse rfl _ _ rfl) rfl rfl ?_
    refine v_load (v := (0, 3)) (hT _ zt_X11_refuse rfl _ _ rfl) rfl rfl ?_
    refine v_putf (r := 0) hO (hT _ zt_X11_refuse rfl _ _ rfl) rfl (fun hf13 => ?_)
    refine v_push (0) (hT _ zt_X11_refuse rfl _ _ rfl) rfl ?_
    refine v_ret (hT _ zt_X11_refuse rfl _ _ rfl) (Or.inl rfl) ?_
    show vP D T N 172 57 (zset h 0 0 (0, 3)) [some (2, 0), some (0, 0), some (0, i), some (0, 0), some (0, j), some (0, n), some (2, 2), some (2, 2)] [(0, 0)] _
    refine v_ret (hT _ zt_X11_pour rfl _ _ rfl) (Or.inl rfl) ?_
    exact k0 hc11
  · have hc11 : (h 2 1).2 ≠ -1 := hc11
    refine v_push (0) (hT _ zt_X9_isMissing rfl _ _ rfl) rfl ?_
    refine v_ret (hT _ zt_X9_isMissing rfl _ _ rfl) (Or.inl rfl) ?_
    show vP D T N 172 41 h [some (2, 0), some (0, 0), some (0, i), some (0, 0), some (0, j), some (0, n), some (2, 2), some (2, 2)] [(0, 0)] _
    refine v_if (hT _ zt_X11_pour rfl _ _ rfl) (fun _ => ?_) (fun hc14 => absurd (show (0 : Int) = 0 from (by decide)) hc14)
    refine v_load (v := (2, 2)) (hT _ zt_X11_pour rfl _ _ rfl) rfl rfl ?_
    refine v_call (w := 1) [some (2, 2)] hO (hT _ zt_X11_pour rfl _ _ rfl) rfl rfl ?_
    refine v_load (v := (2, 2)) (hT _ zt_X9_isMissing rfl _ _ rfl) rfl rfl ?_
    refine v_getI (t := 0) (r := 2) (hT _ zt_X9_isMissing rfl _ _ rfl) rfl rfl rfl ?_
    refine v_push (-1) (hT _ zt_X9_isMissing rfl _ _ rfl) rfl ?_
    refine v_ic (hT _ zt_X9_isMissing rfl _ _ rfl) (fun hc15 => absurd (show (h 2 1).2 = -1 from hc15) (by omega)) (fun _ => ?_)
    refine v_push (0) (hT _ zt_X9_isMissing rfl _ _ rfl) rfl ?_
    refine v_ret (hT _ zt_X9_isMissing rfl _ _ rfl) (Or.inl rfl) ?_
    show vP D T N 172 49 h [some (2, 0), some (0, 0), some (0, i), some (0, 0), some (0, j), some (0, n), some (2, 2), some (2, 2)] [(0, 0)] _
    refine v_if (hT _ zt_X11_pour rfl _ _ rfl) (fun _ => ?_) (fun hc16 => absurd (show (0 : Int) = 0 from (by decide)) hc16)
    refine v_load (v := (2, 2)) (hT _ zt_X11_pour rfl _ _ rfl) rfl rfl ?_
    refine v_getI (t := 0) (r := 2) (hT _ zt_X11_pour rfl _ _ rfl) rfl rfl rfl ?_
    refine v_load (v := (2, 2)) (hT _ zt_X11_pour rfl _ _ rfl) rfl rfl ?_
    refine v_getI (t := 0) (r := 2) (hT _ zt_X11_pour rfl _ _ rfl) rfl rfl rfl ?_
    refine v_ic (hT _ zt_X11_pour rfl _ _ rfl) (fun hc17 => ?_) (fun hc17 => ?_)
    · have hc17 : (h 2 1).2 = (h 2 1).2 := hc17
      refine v_load (v := (0, n)) (hT _ zt_X11_pour rfl _ _ rfl) rfl rfl ?_
      refine v_if (hT _ zt_X11_pour rfl _ _ rfl) (fun hc18 => ?_) (fun hc18 => ?_)
      · have hc18 : n < 0 := hc18
        refine v_load (v := (2, 0)) (hT _ zt_X11_pour rfl _ _ rfl) rfl rfl ?_
        refine v_push (6) (hT _ zt_X11_pour rfl _ _ rfl) rfl ?_
        refine v_call (w := 2) [some (2, 0), some (0, 6)] hO (hT _ zt_X11_pour rfl _ _ rfl) rfl rfl ?_
        refine v_load (v := (2, 0)) (hT _ zt_X11_refuse rfl _ _ rfl) rfl rfl ?_
        refine v_load (v := (0, 6)) (hT _ zt_X11_refuse rfl _ _ rfl) rfl rfl ?_
        refine v_putf (r := 0) hO (hT _ zt_X11_refuse rfl _ _ rfl) rfl (fun hf19 => ?_)
        refine v_push (0) (hT _ zt_X11_refuse rfl _ _ rfl) rfl ?_
        refine v_ret (hT _ zt_X11_refuse rfl _ _ rfl) (Or.inl rfl) ?_
        show vP D T N 172 89 (zset h 0 0 (0, 6)) [some (2, 0), some (0, 0), some (0, i), some (0, 0), some (0, j), some (0, n), some (2, 2), some (2, 2)] [(0, 0)] _
        refine v_ret (hT _ zt_X11_pour rfl _ _ rfl) (Or.inl rfl) ?_
        exact k1 hc11 hc17 hc18
      · have hc18 : 0 ≤ n := Int.not_lt.mp hc18
        refine v_load (v := (2, 2)) (hT _ zt_X11_pour rfl _ _ rfl) rfl rfl ?_
        refine v_load (v := (0, i)) (hT _ zt_X11_pour rfl _ _ rfl) rfl rfl ?_
        refine v_load (v := (0, n)) (hT _ zt_X11_pour rfl _ _ rfl) rfl rfl ?_
        refine v_call (w := 3) [some (2, 2), some (0, i), some (0, n)] hO (hT _ zt_X11_pour rfl _ _ rfl) rfl rfl ?_
        refine v_load (v := (0, i)) (hT _ zt_X9_hasPlaces rfl _ _ rfl) rfl rfl ?_
        refine v_if (hT _ zt_X9_hasPlaces rfl _ _ rfl) (fun hc20 => ?_) (fun hc20 => ?_)
        · have hc20 : i < 0 := hc20
          refine v_push (0) (hT _ zt_X9_hasPlaces rfl _ _ rfl) rfl ?_
          refine v_ret (hT _ zt_X9_hasPlaces rfl _ _ rfl) (Or.inl rfl) ?_
          show vP D T N 172 98 h [some (2, 0), some (0, 0), some (0, i), some (0, 0), some (0, j), some (0, n), some (2, 2), some (2, 2)] [(0, 0)] _
          refine v_if (hT _ zt_X11_pour rfl _ _ rfl) (fun _ => ?_) (fun hc21 => absurd (show (0 : Int) = 0 from (by decide)) hc21)
          refine v_load (v := (2, 0)) (hT _ zt_X11_pour rfl _ _ rfl) rfl rfl ?_
          refine v_push (4) (hT _ zt_X11_pour rfl _ _ rfl) rfl ?_
          refine v_call (w := 2) [some (2, 0), some (0, 4)] hO (hT _ zt_X11_pour rfl _ _ rfl) rfl rfl ?_
          refine v_load (v := (2, 0)) (hT _ zt_X11_refuse rfl _ _ rfl) rfl rfl ?_
          refine v_load (v := (0, 4)) (hT _ zt_X11_refuse rfl _ _ rfl) rfl rfl ?_
          refine v_putf (r := 0) hO (hT _ zt_X11_refuse rfl _ _ rfl) rfl (fun hf22 => ?_)
          refine v_push (0) (hT _ zt_X11_refuse rfl _ _ rfl) rfl ?_
          refine v_ret (hT _ zt_X11_refuse rfl _ _ rfl) (Or.inl rfl) ?_
          show vP D T N 172 118 (zset h 0 0 (0, 4)) [some (2, 0), some (0, 0), some (0, i), some (0, 0), some (0, j), some (0, n), some (2, 2), some (2, 2)] [(0, 0)] _
          refine v_ret (hT _ zt_X11_pour rfl _ _ rfl) (Or.inl rfl) ?_
          exact k2 hc11 hc17 hc18 hc20
        · have hc20 : 0 ≤ i := Int.not_lt.mp hc20
          refine v_load (v := (0, i)) (hT _ zt_X9_hasPlaces rfl _ _ rfl) rfl rfl ?_
          refine v_load (v := (2, 2)) (hT _ zt_X9_hasPlaces rfl _ _ rfl) rfl rfl ?_
          refine v_getI (t := 0) (r := 2) (hT _ zt_X9_hasPlaces rfl _ _ rfl) rfl rfl rfl ?_
          refine v_load (v := (0, n)) (hT _ zt_X9_hasPlaces rfl _ _ rfl) rfl rfl ?_
          refine v_bin (w := ((h 2 2).2 - n)) (hT _ zt_X9_hasPlaces rfl _ _ rfl) (hq_sub (by omega) (by omega)) ?_
          refine v_ic (hT _ zt_X9_hasPlaces rfl _ _ rfl) (fun hc23 => ?_) (fun hc23 => ?_)
          · have hc23 : ((h 2 2).2 - n) < i := hc23
            refine v_push (0) (hT _ zt_X9_hasPlaces rfl _ _ rfl) rfl ?_
            refine v_ret (hT _ zt_X9_hasPlaces rfl _ _ rfl) (Or.inl rfl) ?_
            show vP D T N 172 98 h [some (2, 0), some (0, 0), some (0, i), some (0, 0), some (0, j), some (0, n), some (2, 2), some (2, 2)] [(0, 0)] _
            refine v_if (hT _ zt_X11_pour rfl _ _ rfl) (fun _ => ?_) (fun hc24 => absurd (show (0 : Int) = 0 from (by decide)) hc24)
            refine v_load (v := (2, 0)) (hT _ zt_X11_pour rfl _ _ rfl) rfl rfl ?_
            refine v_push (4) (hT _ zt_X11_pour rfl _ _ rfl) rfl ?_
            refine v_call (w := 2) [some (2, 0), some (0, 4)] hO (hT _ zt_X11_pour rfl _ _ rfl) rfl rfl ?_
            refine v_load (v := (2, 0)) (hT _ zt_X11_refuse rfl _ _ rfl) rfl rfl ?_
            refine v_load (v := (0, 4)) (hT _ zt_X11_refuse rfl _ _ rfl) rfl rfl ?_
            refine v_putf (r := 0) hO (hT _ zt_X11_refuse rfl _ _ rfl) rfl (fun hf25 => ?_)
            refine v_push (0) (hT _ zt_X11_refuse rfl _ _ rfl) rfl ?_
            refine v_ret (hT _ zt_X11_refuse rfl _ _ rfl) (Or.inl rfl) ?_
            show vP D T N 172 118 (zset h 0 0 (0, 4)) [some (2, 0), some (0, 0), some (0, i), some (0, 0), some (0, j), some (0, n), some (2, 2), some (2, 2)] [(0, 0)] _
            refine v_ret (hT _ zt_X11_pour rfl _ _ rfl) (Or.inl rfl) ?_
            exact k3 hc11 hc17 hc18 hc20 hc23
          · have hc23 : i ≤ ((h 2 2).2 - n) := Int.not_lt.mp hc23
            refine v_push (1) (hT _ zt_X9_hasPlaces rfl _ _ rfl) rfl ?_
            refine v_goto (hT _ zt_X9_hasPlaces rfl _ _ rfl) ?_
            refine v_ret (hT _ zt_X9_hasPlaces rfl _ _ rfl) (Or.inl rfl) ?_
            show vP D T N 172 98 h [some (2, 0), some (0, 0), some (0, i), some (0, 0), some (0, j), some (0, n), some (2, 2), some (2, 2)] [(0, 1)] _
            refine v_if (hT _ zt_X11_pour rfl _ _ rfl) (fun hc26 => absurd (show (1 : Int) = 0 from hc26) (by decide)) (fun _ => ?_)
            refine v_load (v := (2, 2)) (hT _ zt_X11_pour rfl _ _ rfl) rfl rfl ?_
            refine v_load (v := (0, j)) (hT _ zt_X11_pour rfl _ _ rfl) rfl rfl ?_
            refine v_load (v := (0, n)) (hT _ zt_X11_pour rfl _ _ rfl) rfl rfl ?_
            refine v_call (w := 3) [some (2, 2), some (0, j), some (0, n)] hO (hT _ zt_X11_pour rfl _ _ rfl) rfl rfl ?_
            refine v_load (v := (0, j)) (hT _ zt_X9_hasPlaces rfl _ _ rfl) rfl rfl ?_
            refine v_if (hT _ zt_X9_hasPlaces rfl _ _ rfl) (fun hc27 => ?_) (fun hc27 => ?_)
            · have hc27 : j < 0 := hc27
              refine v_push (0) (hT _ zt_X9_hasPlaces rfl _ _ rfl) rfl ?_
              refine v_ret (hT _ zt_X9_hasPlaces rfl _ _ rfl) (Or.inl rfl) ?_
              show vP D T N 172 110 h [some (2, 0), some (0, 0), some (0, i), some (0, 0), some (0, j), some (0, n), some (2, 2), some (2, 2)] [(0, 0)] _
              refine v_if (hT _ zt_X11_pour rfl _ _ rfl) (fun _ => ?_) (fun hc28 => absurd (show (0 : Int) = 0 from (by decide)) hc28)
              refine v_load (v := (2, 0)) (hT _ zt_X11_pour rfl _ _ rfl) rfl rfl ?_
              refine v_push (4) (hT _ zt_X11_pour rfl _ _ rfl) rfl ?_
              refine v_call (w := 2) [some (2, 0), some (0, 4)] hO (hT _ zt_X11_pour rfl _ _ rfl) rfl rfl ?_
              refine v_load (v := (2, 0)) (hT _ zt_X11_refuse rfl _ _ rfl) rfl rfl ?_
              refine v_load (v := (0, 4)) (hT _ zt_X11_refuse rfl _ _ rfl) rfl rfl ?_
              refine v_putf (r := 0) hO (hT _ zt_X11_refuse rfl _ _ rfl) rfl (fun hf29 => ?_)
              refine v_push (0) (hT _ zt_X11_refuse rfl _ _ rfl) rfl ?_
              refine v_ret (hT _ zt_X11_refuse rfl _ _ rfl) (Or.inl rfl) ?_
              show vP D T N 172 118 (zset h 0 0 (0, 4)) [some (2, 0), some (0, 0), some (0, i), some (0, 0), some (0, j), some (0, n), some (2, 2), some (2, 2)] [(0, 0)] _
              refine v_ret (hT _ zt_X11_pour rfl _ _ rfl) (Or.inl rfl) ?_
              exact k4 hc11 hc17 hc18 hc20 hc23 hc27
            · have hc27 : 0 ≤ j := Int.not_lt.mp hc27
              refine v_load (v := (0, j)) (hT _ zt_X9_hasPlaces rfl _ _ rfl) rfl rfl ?_
              refine v_load (v := (2, 2)) (hT _ zt_X9_hasPlaces rfl _ _ rfl) rfl rfl ?_
              refine v_getI (t := 0) (r := 2) (hT _ zt_X9_hasPlaces rfl _ _ rfl) rfl rfl rfl ?_
              refine v_load (v := (0, n)) (hT _ zt_X9_hasPlaces rfl _ _ rfl) rfl rfl ?_
              refine v_bin (w := ((h 2 2).2 - n)) (hT _ zt_X9_hasPlaces rfl _ _ rfl) (hq_sub (by omega) (by omega)) ?_
              refine v_ic (hT _ zt_X9_hasPlaces rfl _ _ rfl) (fun hc30 => ?_) (fun hc30 => ?_)
              · have hc30 : ((h 2 2).2 - n) < j := hc30
                refine v_push (0) (hT _ zt_X9_hasPlaces rfl _ _ rfl) rfl ?_
                refine v_ret (hT _ zt_X9_hasPlaces rfl _ _ rfl) (Or.inl rfl) ?_
                show vP D T N 172 110 h [some (2, 0), some (0, 0), some (0, i), some (0, 0), some (0, j), some (0, n), some (2, 2), some (2, 2)] [(0, 0)] _
                refine v_if (hT _ zt_X11_pour rfl _ _ rfl) (fun _ => ?_) (fun hc31 => absurd (show (0 : Int) = 0 from (by decide)) hc31)
                refine v_load (v := (2, 0)) (hT _ zt_X11_pour rfl _ _ rfl) rfl rfl ?_
                refine v_push (4) (hT _ zt_X11_pour rfl _ _ rfl) rfl ?_
                refine v_call (w := 2) [some (2, 0), some (0, 4)] hO (hT _ zt_X11_pour rfl _ _ rfl) rfl rfl ?_
                refine v_load (v := (2, 0)) (hT _ zt_X11_refuse rfl _ _ rfl) rfl rfl ?_
                refine v_load (v := (0, 4)) (hT _ zt_X11_refuse rfl _ _ rfl) rfl rfl ?_
                refine v_putf (r := 0) hO (hT _ zt_X11_refuse rfl _ _ rfl) rfl (fun hf32 => ?_)
                refine v_push (0) (hT _ zt_X11_refuse rfl _ _ rfl) rfl ?_
                refine v_ret (hT _ zt_X11_refuse rfl _ _ rfl) (Or.inl rfl) ?_
                show vP D T N 172 118 (zset h 0 0 (0, 4)) [some (2, 0), some (0, 0), some (0, i), some (0, 0), some (0, j), some (0, n), some (2, 2), some (2, 2)] [(0, 0)] _
                refine v_ret (hT _ zt_X11_pour rfl _ _ rfl) (Or.inl rfl) ?_
                exact k5 hc11 hc17 hc18 hc20 hc23 hc27 hc30
              · have hc30 : j ≤ ((h 2 2).2 - n) := Int.not_lt.mp hc30
                refine v_push (1) (hT _ zt_X9_hasPlaces rfl _ _ rfl) rfl ?_
                refine v_goto (hT _ zt_X9_hasPlaces rfl _ _ rfl) ?_
                refine v_ret (hT _ zt_X9_hasPlaces rfl _ _ rfl) (Or.inl rfl) ?_
                show vP D T N 172 110 h [some (2, 0), some (0, 0), some (0, i), some (0, 0), some (0, j), some (0, n), some (2, 2), some (2, 2)] [(0, 1)] _
                refine v_if (hT _ zt_X11_pour rfl _ _ rfl) (fun hc33 => absurd (show (1 : Int) = 0 from hc33) (by decide)) (fun _ => ?_)
                refine v_load (v := (2, 2)) (hT _ zt_X11_pour rfl _ _ rfl) rfl rfl ?_
                refine v_getR (c := 3) (r := 2) (hT _ zt_X11_pour rfl _ _ rfl) rfl rfl rfl ?_
                refine v_load (v := (0, i)) (hT _ zt_X11_pour rfl _ _ rfl) rfl rfl ?_
                refine v_load (v := (2, 2)) (hT _ zt_X11_pour rfl _ _ rfl) rfl rfl ?_
                refine v_getR (c := 3) (r := 2) (hT _ zt_X11_pour rfl _ _ rfl) rfl rfl rfl ?_
                refine v_load (v := (0, j)) (hT _ zt_X11_pour rfl _ _ rfl) rfl rfl ?_
                refine v_load (v := (0, n)) (hT _ zt_X11_pour rfl _ _ rfl) rfl rfl ?_
                refine v_copy (r0 := 3) (r1 := 3) (hT _ zt_X11_pour rfl _ _ rfl) rfl rfl rfl rfl (fun hd34 hd35 hd36 hd37 hd38 => ?_)
                refine v_load (v := (2, 0)) (hT _ zt_X11_pour rfl _ _ rfl) rfl rfl ?_
                refine v_call (w := 1) [some (2, 0)] hO (hT _ zt_X11_pour rfl _ _ rfl) rfl rfl ?_
                refine v_load (v := (2, 0)) (hT _ zt_X11_accept rfl _ _ rfl) rfl rfl ?_
                refine v_push (0) (hT _ zt_X11_accept rfl _ _ rfl) rfl ?_
                refine v_putf (r := 0) hO (hT _ zt_X11_accept rfl _ _ rfl) rfl (fun hf39 => ?_)
                refine v_push (1) (hT _ zt_X11_accept rfl _ _ rfl) rfl ?_
                refine v_ret (hT _ zt_X11_accept rfl _ _ rfl) (Or.inl rfl) ?_
                show vP D T N 172 141 (zset (zcopy h 3 i.toNat 3 j.toNat n.toNat) 0 0 (0, 0)) [some (2, 0), some (0, 0), some (0, i), some (0, 0), some (0, j), some (0, n), some (2, 2), some (2, 2)] [(0, 1)] _
                refine v_ret (hT _ zt_X11_pour rfl _ _ rfl) (Or.inl rfl) ?_
                exact k6 hc11 hc17 hc18 hc20 hc23 hc27 hc30 hd34 hd35 hd36 hd37 hd38
    · have hc17 : (h 2 1).2 ≠ (h 2 1).2 := hc17
      refine v_load (v := (2, 0)) (hT _ zt_X11_pour rfl _ _ rfl) rfl rfl ?_
      refine v_push (11) (hT _ zt_X11_pour rfl _ _ rfl) rfl ?_
      refine v_call (w := 2) [some (2, 0), some (0, 11)] hO (hT _ zt_X11_pour rfl _ _ rfl) rfl rfl ?_
      refine v_load (v := (2, 0)) (hT _ zt_X11_refuse rfl _ _ rfl) rfl rfl ?_
      refine v_load (v := (0, 11)) (hT _ zt_X11_refuse rfl _ _ rfl) rfl rfl ?_
      refine v_putf (r := 0) hO (hT _ zt_X11_refuse rfl _ _ rfl) rfl (fun hf40 => ?_)
      refine v_push (0) (hT _ zt_X11_refuse rfl _ _ rfl) rfl ?_
      refine v_ret (hT _ zt_X11_refuse rfl _ _ rfl) (Or.inl rfl) ?_
      show vP D T N 172 77 (zset h 0 0 (0, 11)) [some (2, 0), some (0, 0), some (0, i), some (0, 0), some (0, j), some (0, n), some (2, 2), some (2, 2)] [(0, 0)] _
      refine v_ret (hT _ zt_X11_pour rfl _ _ rfl) (Or.inl rfl) ?_
      exact k7 hc11 hc17
theorem y_X11_pour_0_1 {D : zD} {T : zT} (hT : hTab T) (hO : vOK T) {N : Nat} {h : zH} {Q : zR → Prop} (i j n : Int) (hv0 : zHv h) (hb : 0 ≤ (h 2 2).2 ∧ (h 2 2).2 ≤ 60) (hc : 0 ≤ (h 4 2).2 ∧ (h 4 2).2 ≤ 60) (hn : n ≤ 2147483647)
    (k0 : ((h 2 1).2 = -1) → Q (zset h 0 0 (0, 3), some (0, 0)))
    (k1 : ((h 2 1).2 ≠ -1) → ((h 4 1).2 = -1) → Q (zset h 0 0 (0, 3), some (0, 0)))
    (k2 : ((h 2 1).2 ≠ -1) → ((h 4 1).2 ≠ -1) → ((h 2 1).2 = (h 4 1).2) → (n < 0) → Q (zset h 0 0 (0, 6), some (0, 0)))
    (k3 : ((h 2 1).2 ≠ -1) → ((h 4 1).2 ≠ -1) → ((h 2 1).2 = (h 4 1).2) → (0 ≤ n) → (i < 0) → Q (zset h 0 0 (0, 4), some (0, 0)))
    (k4 : ((h 2 1).2 ≠ -1) → ((h 4 1).2 ≠ -1) → ((h 2 1).2 = (h 4 1).2) → (0 ≤ n) → (0 ≤ i) → (((h 2 2).2 - n) < i) → Q (zset h 0 0 (0, 4), some (0, 0)))
    (k5 : ((h 2 1).2 ≠ -1) → ((h 4 1).2 ≠ -1) → ((h 2 1).2 = (h 4 1).2) → (0 ≤ n) → (0 ≤ i) → (i ≤ ((h 2 2).2 - n)) → (j < 0) → Q (zset h 0 0 (0, 4), some (0, 0)))
    (k6 : ((h 2 1).2 ≠ -1) → ((h 4 1).2 ≠ -1) → ((h 2 1).2 = (h 4 1).2) → (0 ≤ n) → (0 ≤ i) → (i ≤ ((h 2 2).2 - n)) → (0 ≤ j) → (((h 4 2).2 - n) < j) → Q (zset h 0 0 (0, 4), some (0, 0)))
    (k7 : ((h 2 1).2 ≠ -1) → ((h 4 1).2 ≠ -1) → ((h 2 1).2 = (h 4 1).2) → (0 ≤ n) → (0 ≤ i) → (i ≤ ((h 2 2).2 - n)) → (0 ≤ j) → (j ≤ ((h 4 2).2 - n)) → (0 ≤ n) → (0 ≤ i) → (0 ≤ j) → (i + n ≤ 60) → (j + n ≤ 60) → Q (zset (zcopy h 3 i.toNat 5 j.toNat n.toNat) 0 0 (0, 0), some (0, 1)))
    (k8 : ((h 2 1).2 ≠ -1) → ((h 4 1).2 ≠ -1) → ((h 2 1).2 ≠ (h 4 1).2) → Q (zset h 0 0 (0, 11), some (0, 0))) :
    vP D T N 172 0 h [some (2, 0), some (0, 0), some (0, i), some (0, 1), some (0, j), some (0, n), none, none] [] Q := by
  refine v_load (v := (0, 0)) (hT _ zt_X11_pour rfl _ _ rfl) rfl rfl ?_
  refine v_call (w := 1) [some (0, 0)] hO (hT _ zt_X11_pour rfl _ _ rfl) rfl rfl ?_
  refine v_load (v := (0, 0)) (hT _ zt_X11_isTray rfl _ _ rfl) rfl rfl ?_
  refine v_if (hT _ zt_X11_isTray rfl _ _ rfl) (fun hc1 => absurd (show (0 : Int) < 0 from hc1) (by decide)) (fun _ => ?_)
  refine v_load (v := (0, 0)) (hT _ zt_X11_isTray rfl _ _ rfl) rfl rfl ?_
  refine v_push (4) (hT _ zt_X11_isTray rfl _ _ rfl) rfl ?_
  refine v_ic (hT _ zt_X11_isTray rfl _ _ rfl) (fun _ => ?_) (fun hc2 => absurd (show (0 : Int) < 4 from (by decide)) hc2)
  refine v_push (1) (hT _ zt_X11_isTray rfl _ _ rfl) rfl ?_
  refine v_goto (hT _ zt_X11_isTray rfl _ _ rfl) ?_
  refine v_ret (hT _ zt_X11_isTray rfl _ _ rfl) (Or.inl rfl) ?_
  show vP D T N 172 4 h [some (2, 0), some (0, 0), some (0, i), some (0, 1), some (0, j), some (0, n), none, none] [(0, 1)] _
  refine v_if (hT _ zt_X11_pour rfl _ _ rfl) (fun hc3 => absurd (show (1 : Int) = 0 from hc3) (by decide)) (fun _ => ?_)
  refine v_load (v := (0, 1)) (hT _ zt_X11_pour rfl _ _ rfl) rfl rfl ?_
  refine v_call (w := 1) [some (0, 1)] hO (hT _ zt_X11_pour rfl _ _ rfl) rfl rfl ?_
  refine v_load (v := (0, 1)) (hT _ zt_X11_isTray rfl _ _ rfl) rfl rfl ?_
  refine v_if (hT _ zt_X11_isTray rfl _ _ rfl) (fun hc4 => absurd (show (1 : Int) < 0 from hc4) (by decide)) (fun _ => ?_)
  refine v_load (v := (0, 1)) (hT _ zt_X11_isTray rfl _ _ rfl) rfl rfl ?_
  refine v_push (4) (hT _ zt_X11_isTray rfl _ _ rfl) rfl ?_
  refine v_ic (hT _ zt_X11_isTray rfl _ _ rfl) (fun _ => ?_) (fun hc5 => absurd (show (1 : Int) < 4 from (by decide)) hc5)
  refine v_push (1) (hT _ zt_X11_isTray rfl _ _ rfl) rfl ?_
  refine v_goto (hT _ zt_X11_isTray rfl _ _ rfl) ?_
  refine v_ret (hT _ zt_X11_isTray rfl _ _ rfl) (Or.inl rfl) ?_
  show vP D T N 172 11 h [some (2, 0), some (0, 0), some (0, i), some (0, 1), some (0, j), some (0, n), none, none] [(0, 1)] _
  refine v_if (hT _ zt_X11_pour rfl _ _ rfl) (fun hc6 => absurd (show (1 : Int) = 0 from hc6) (by decide)) (fun _ => ?_)
  refine v_load (v := (2, 0)) (hT _ zt_X11_pour rfl _ _ rfl) rfl rfl ?_
  refine v_getR (c := 1) (r := 0) (hT _ zt_X11_pour rfl _ _ rfl) rfl rfl rfl ?_
  refine v_load (v := (0, 0)) (hT _ zt_X11_pour rfl _ _ rfl) rfl rfl ?_
  refine v_aldV (v := (2, 2)) (r := 1) (hT _ zt_X11_pour rfl _ _ rfl) rfl rfl (fun hv _ _ => hv.ref rfl) (fun ha7 hb8 => ?_)
  refine v_store1 [some (2, 0), some (0, 0), some (0, i), some (0, 1), some (0, j), some (0, n), some (2, 2), none] (hT _ zt_X11_pour rfl _ _ rfl) ⟨rfl, Nat.ne_of_beq_eq_false rfl⟩ (Nat.le_of_ble_eq_true rfl) rfl ?_
  refine v_load (v := (2, 0)) (hT _ zt_X11_pour rfl _ _ rfl) rfl rfl ?_
  refine v_getR (c := 1) (r := 0) (hT _ zt_X11_pour rfl _ _ rfl) rfl rfl rfl ?_
  refine v_load (v := (0, 1)) (hT _ zt_X11_pour rfl _ _ rfl) rfl rfl ?_
  refine v_aldV (v := (2, 4)) (r := 1) (hT _ zt_X11_pour rfl _ _ rfl) rfl rfl (fun hv _ _ => hv.ref rfl) (fun ha9 hb10 => ?_)
  refine v_store1 [some (2, 0), some (0, 0), some (0, i), some (0, 1), some (0, j), some (0, n), some (2, 2), some (2, 4)] (hT _ zt_X11_pour rfl _ _ rfl) ⟨rfl, Nat.ne_of_beq_eq_false rfl⟩ (Nat.le_of_ble_eq_true rfl) rfl ?_
  refine v_load (v := (2, 2)) (hT _ zt_X11_pour rfl _ _ rfl) rfl rfl ?_
  refine v_call (w := 1) [some (2, 2)] hO (hT _ zt_X11_pour rfl _ _ rfl) rfl rfl ?_
  refine v_load (v := (2, 2)) (hT _ zt_X9_isMissing rfl _ _ rfl) rfl rfl ?_
  refine v_getI (t := 0) (r := 2) (hT _ zt_X9_isMissing rfl _ _ rfl) rfl rfl rfl ?_
  refine v_push (-1) (hT _ zt_X9_isMissing rfl _ _ rfl) rfl ?_
  refine v_ic (hT _ zt_X9_isMissing rfl _ _ rfl) (fun hc11 => ?_) (fun hc11 => ?_)
  · have hc11 : (h 2 1).2 = -1 := hc11
    refine v_push (1) (hT _ zt_X9_isMissing rfl _ _ rfl) rfl ?_
    refine v_goto (hT _ zt_X9_isMissing rfl _ _ rfl) ?_
    refine v_ret (hT _ zt_X9_isMissing rfl _ _ rfl) (Or.inl rfl) ?_
    show vP D T N 172 41 h [some (2, 0), some (0, 0), some (0, i), some (0, 1), some (0, j), some (0, n), some (2, 2), some (2, 4)] [(0, 1)] _
    refine v_if (hT _ zt_X11_pour rfl _ _ rfl) (fun hc12 => absurd (show (1 : Int) = 0 from hc12) (by decide)) (fun _ => ?_)
    refine v_load (v := (2, 0)) (hT _ zt_X11_pour rfl _ _ rfl) rfl rfl ?_
    refine v_push (3) (hT _ zt_X11_pour rfl _ _ rfl) rfl ?_
    refine v_call (w := 2) [some (2, 0), some (0, 3)] hO (hT _ zt_X11_pour rfl _ _ rfl) rfl rfl ?_
    refine v_load (v := (2, 0)) (hT _ zt_X11_refuse rfl _ _ rfl) rfl rfl ?_
    refine v_load (v := (0, 3)) (hT _ zt_X11_refuse rfl _ _ rfl) rfl rfl ?_
    refine v_putf (r := 0) hO (hT _ zt_X11_refuse rfl _ _ rfl) rfl (fun hf13 => ?_)
    refine v_push (0) (hT _ zt_X11_refuse rfl _ _ rfl) rfl ?_
    refine v_ret (hT _ zt_X11_refuse rfl _ _ rfl) (Or.inl rfl) ?_
    show vP D T N 172 57 (zset h 0 0 (0, 3)) [some (2, 0), some (0, 0), some (0, i), some (0, 1), some (0, j), some (0, n), some (2, 2), some (2, 4)] [(0, 0)] _
    refine v_ret (hT _ zt_X11_pour rfl _ _ rfl) (Or.inl rfl) ?_
    exact k0 hc11
  · have hc11 : (h 2 1).2 ≠ -1 := hc11
    refine v_push (0) (hT _ zt_X9_isMissing rfl _ _ rfl) rfl ?_
    refine v_ret (hT _ zt_X9_isMissing rfl _ _ rfl) (Or.inl rfl) ?_
    show vP D T N 172 41 h [some (2, 0), some (0, 0), some (0, i), some (0, 1), some (0, j), some (0, n), some (2, 2), some (2, 4)] [(0, 0)] _
    refine v_if (hT _ zt_X11_pour rfl _ _ rfl) (fun _ => ?_) (fun hc14 => absurd (show (0 : Int) = 0 from (by decide)) hc14)
    refine v_load (v := (2, 4)) (hT _ zt_X11_pour rfl _ _ rfl) rfl rfl ?_
    refine v_call (w := 1) [some (2, 4)] hO (hT _ zt_X11_pour rfl _ _ rfl) rfl rfl ?_
    refine v_load (v := (2, 4)) (hT _ zt_X9_isMissing rfl _ _ rfl) rfl rfl ?_
    refine v_getI (t := 0) (r := 4) (hT _ zt_X9_isMissing rfl _ _ rfl) rfl rfl rfl ?_
    refine v_push (-1) (hT _ zt_X9_isMissing rfl _ _ rfl) rfl ?_
    refine v_ic (hT _ zt_X9_isMissing rfl _ _ rfl) (fun hc15 => ?_) (fun hc15 => ?_)
    · have hc15 : (h 4 1).2 = -1 := hc15
      refine v_push (1) (hT _ zt_X9_isMissing rfl _ _ rfl) rfl ?_
      refine v_goto (hT _ zt_X9_isMissing rfl _ _ rfl) ?_
      refine v_ret (hT _ zt_X9_isMissing rfl _ _ rfl) (Or.inl rfl) ?_
      show vP D T N 172 49 h [some (2, 0), some (0, 0), some (0, i), some (0, 1), some (0, j), some (0, n), some (2, 2), some (2, 4)] [(0, 1)] _
      refine v_if (hT _ zt_X11_pour rfl _ _ rfl) (fun hc16 => absurd (show (1 : Int) = 0 from hc16) (by decide)) (fun _ => ?_)
      refine v_load (v := (2, 0)) (hT _ zt_X11_pour rfl _ _ rfl) rfl rfl ?_
      refine v_push (3) (hT _ zt_X11_pour rfl _ _ rfl) rfl ?_
      refine v_call (w := 2) [some (2, 0), some (0, 3)] hO (hT _ zt_X11_pour rfl _ _ rfl) rfl rfl ?_
      refine v_load (v := (2, 0)) (hT _ zt_X11_refuse rfl _ _ rfl) rfl rfl ?_
      refine v_load (v := (0, 3)) (hT _ zt_X11_refuse rfl _ _ rfl) rfl rfl ?_
      refine v_putf (r := 0) hO (hT _ zt_X11_refuse rfl _ _ rfl) rfl (fun hf17 => ?_)
      refine v_push (0) (hT _ zt_X11_refuse rfl _ _ rfl) rfl ?_
      refine v_ret (hT _ zt_X11_refuse rfl _ _ rfl) (Or.inl rfl) ?_
      show vP D T N 172 57 (zset h 0 0 (0, 3)) [some (2, 0), some (0, 0), some (0, i), some (0, 1), some (0, j), some (0, n), some (2, 2), some (2, 4)] [(0, 0)] _
      refine v_ret (hT _ zt_X11_pour rfl _ _ rfl) (Or.inl rfl) ?_
      exact k1 hc11 hc15
    · have hc15 : (h 4 1).2 ≠ -1 := hc15
      refine v_push (0) (hT _ zt_X9_isMissing rfl _ _ rfl) rfl ?_
      refine v_ret (hT _ zt_X9_isMissing rfl _ _ rfl) (Or.inl rfl) ?_
      show vP D T N 172 49 h [some (2, 0), some (0, 0), some (0, i), some (0, 1), some (0, j), some (0, n), some (2, 2), some (2, 4)] [(0, 0)] _
      refine v_if (hT _ zt_X11_pour rfl _ _ rfl) (fun _ => ?_) (fun hc18 => absurd (show (0 : Int) = 0 from (by decide)) hc18)
      refine v_load (v := (2, 2)) (hT _ zt_X11_pour rfl _ _ rfl) rfl rfl ?_
      refine v_getI (t := 0) (r := 2) (hT _ zt_X11_pour rfl _ _ rfl) rfl rfl rfl ?_
      refine v_load (v := (2, 4)) (hT _ zt_X11_pour rfl _ _ rfl) rfl rfl ?_
      refine v_getI (t := 0) (r := 4) (hT _ zt_X11_pour rfl _ _ rfl) rfl rfl rfl ?_
      refine v_ic (hT _ zt_X11_pour rfl _ _ rfl) (fun hc19 => ?_) (fun hc19 => ?_)
      · have hc19 : (h 2 1).2 = (h 4 1).2 := hc19
        refine v_load (v := (0, n)) (hT _ zt_X11_pour rfl _ _ rfl) rfl rfl ?_
        refine v_if (hT _ zt_X11_pour rfl _ _ rfl) (fun hc20 => ?_) (fun hc20 => ?_)
        · have hc20 : n < 0 := hc20
          refine v_load (v := (2, 0)) (hT _ zt_X11_pour rfl _ _ rfl) rfl rfl ?_
          refine v_push (6) (hT _ zt_X11_pour rfl _ _ rfl) rfl ?_
          refine v_call (w := 2) [some (2, 0), some (0, 6)] hO (hT _ zt_X11_pour rfl _ _ rfl) rfl rfl ?_
          refine v_load (v := (2, 0)) (hT _ zt_X11_refuse rfl _ _ rfl) rfl rfl ?_
          refine v_load (v := (0, 6)) (hT _ zt_X11_refuse rfl _ _ rfl) rfl rfl ?_
          refine v_putf (r := 0) hO (hT _ zt_X11_refuse rfl _ _ rfl) rfl (fun hf21 => ?_)
          refine v_push (0) (hT _ zt_X11_refuse rfl _ _ rfl) rfl ?_
          refine v_ret (hT _ zt_X11_refuse rfl _ _ rfl) (Or.inl rfl) ?_
          show vP D T N 172 89 (zset h 0 0 (0, 6)) [some (2, 0), some (0, 0), some (0, i), some (0, 1), some (0, j), some (0, n), some (2, 2), some (2, 4)] [(0, 0)] _
          refine v_ret (hT _ zt_X11_pour rfl _ _ rfl) (Or.inl rfl) ?_
          exact k2 hc11 hc15 hc19 hc20
        · have hc20 : 0 ≤ n := Int.not_lt.mp hc20
          refine v_load (v := (2, 2)) (hT _ zt_X11_pour rfl _ _ rfl) rfl rfl ?_
          refine v_load (v := (0, i)) (hT _ zt_X11_pour rfl _ _ rfl) rfl rfl ?_
          refine v_load (v := (0, n)) (hT _ zt_X11_pour rfl _ _ rfl) rfl rfl ?_
          refine v_call (w := 3) [some (2, 2), some (0, i), some (0, n)] hO (hT _ zt_X11_pour rfl _ _ rfl) rfl rfl ?_
          refine v_load (v := (0, i)) (hT _ zt_X9_hasPlaces rfl _ _ rfl) rfl rfl ?_
          refine v_if (hT _ zt_X9_hasPlaces rfl _ _ rfl) (fun hc22 => ?_) (fun hc22 => ?_)
          · have hc22 : i < 0 := hc22
            refine v_push (0) (hT _ zt_X9_hasPlaces rfl _ _ rfl) rfl ?_
            refine v_ret (hT _ zt_X9_hasPlaces rfl _ _ rfl) (Or.inl rfl) ?_
            show vP D T N 172 98 h [some (2, 0), some (0, 0), some (0, i), some (0, 1), some (0, j), some (0, n), some (2, 2), some (2, 4)] [(0, 0)] _
            refine v_if (hT _ zt_X11_pour rfl _ _ rfl) (fun _ => ?_) (fun hc23 => absurd (show (0 : Int) = 0 from (by decide)) hc23)
            refine v_load (v := (2, 0)) (hT _ zt_X11_pour rfl _ _ rfl) rfl rfl ?_
            refine v_push (4) (hT _ zt_X11_pour rfl _ _ rfl) rfl ?_
            refine v_call (w := 2) [some (2, 0), some (0, 4)] hO (hT _ zt_X11_pour rfl _ _ rfl) rfl rfl ?_
            refine v_load (v := (2, 0)) (hT _ zt_X11_refuse rfl _ _ rfl) rfl rfl ?_
            refine v_load (v := (0, 4)) (hT _ zt_X11_refuse rfl _ _ rfl) rfl rfl ?_
            refine v_putf (r := 0) hO (hT _ zt_X11_refuse rfl _ _ rfl) rfl (fun hf24 => ?_)
            refine v_push (0) (hT _ zt_X11_refuse rfl _ _ rfl) rfl ?_
            refine v_ret (hT _ zt_X11_refuse rfl _ _ rfl) (Or.inl rfl) ?_
            show vP D T N 172 118 (zset h 0 0 (0, 4)) [some (2, 0), some (0, 0), some (0, i), some (0, 1), some (0, j), some (0, n), some (2, 2), some (2, 4)] [(0, 0)] _
            refine v_ret (hT _ zt_X11_pour rfl _ _ rfl) (Or.inl rfl) ?_
            exact k3 hc11 hc15 hc19 hc20 hc22
          · have hc22 : 0 ≤ i := Int.not_lt.mp hc22
            refine v_load (v := (0, i)) (hT _ zt_X9_hasPlaces rfl _ _ rfl) rfl rfl ?_
            refine v_load (v := (2, 2)) (hT _ zt_X9_hasPlaces rfl _ _ rfl) rfl rfl ?_
            refine v_getI (t := 0) (r := 2) (hT _ zt_X9_hasPlaces rfl _ _ rfl) rfl rfl rfl ?_
            refine v_load (v := (0, n)) (hT _ zt_X9_hasPlaces rfl _ _ rfl) rfl rfl ?_
            refine v_bin (w := ((h 2 2).2 - n)) (hT _ zt_X9_hasPlaces rfl _ _ rfl) (hq_sub (by omega) (by omega)) ?_
            refine v_ic (hT _ zt_X9_hasPlaces rfl _ _ rfl) (fun hc25 => ?_) (fun hc25 => ?_)
            · have hc25 : ((h 2 2).2 - n) < i := hc25
              refine v_push (0) (hT _ zt_X9_hasPlaces rfl _ _ rfl) rfl ?_
              refine v_ret (hT _ zt_X9_hasPlaces rfl _ _ rfl) (Or.inl rfl) ?_
              show vP D T N 172 98 h [some (2, 0), some (0, 0), some (0, i), some (0, 1), some (0, j), some (0, n), some (2, 2), some (2, 4)] [(0, 0)] _
              refine v_if (hT _ zt_X11_pour rfl _ _ rfl) (fun _ => ?_) (fun hc26 => absurd (show (0 : Int) = 0 from (by decide)) hc26)
              refine v_load (v := (2, 0)) (hT _ zt_X11_pour rfl _ _ rfl) rfl rfl ?_
              refine v_push (4) (hT _ zt_X11_pour rfl _ _ rfl) rfl ?_
              refine v_call (w := 2) [some (2, 0), some (0, 4)] hO (hT _ zt_X11_pour rfl _ _ rfl) rfl rfl ?_
              refine v_load (v := (2, 0)) (hT _ zt_X11_refuse rfl _ _ rfl) rfl rfl ?_
              refine v_load (v := (0, 4)) (hT _ zt_X11_refuse rfl _ _ rfl) rfl rfl ?_
              refine v_putf (r := 0) hO (hT _ zt_X11_refuse rfl _ _ rfl) rfl (fun hf27 => ?_)
              refine v_push (0) (hT _ zt_X11_refuse rfl _ _ rfl) rfl ?_
              refine v_ret (hT _ zt_X11_refuse rfl _ _ rfl) (Or.inl rfl) ?_
              show vP D T N 172 118 (zset h 0 0 (0, 4)) [some (2, 0), some (0, 0), some (0, i), some (0, 1), some (0, j), some (0, n), some (2, 2), some (2, 4)] [(0, 0)] _
              refine v_ret (hT _ zt_X11_pour rfl _ _ rfl) (Or.inl rfl) ?_
              exact k4 hc11 hc15 hc19 hc20 hc22 hc25
            · have hc25 : i ≤ ((h 2 2).2 - n) := Int.not_lt.mp hc25
              refine v_push (1) (hT _ zt_X9_hasPlaces rfl _ _ rfl) rfl ?_
              refine v_goto (hT _ zt_X9_hasPlaces rfl _ _ rfl) ?_
              refine v_ret (hT _ zt_X9_hasPlaces rfl _ _ rfl) (Or.inl rfl) ?_
              show vP D T N 172 98 h [some (2, 0), some (0, 0), some (0, i), some (0, 1), some (0, j), some (0, n), some (2, 2), some (2, 4)] [(0, 1)] _
              refine v_if (hT _ zt_X11_pour rfl _ _ rfl) (fun hc28 => absurd (show (1 : Int) = 0 from hc28) (by decide)) (fun _ => ?_)
              refine v_load (v := (2, 4)) (hT _ zt_X11_pour rfl _ _ rfl) rfl rfl ?_
              refine v_load (v := (0, j)) (hT _ zt_X11_pour rfl _ _ rfl) rfl rfl ?_
              refine v_load (v := (0, n)) (hT _ zt_X11_pour rfl _ _ rfl) rfl rfl ?_
              refine v_call (w := 3) [some (2, 4), some (0, j), some (0, n)] hO (hT _ zt_X11_pour rfl _ _ rfl) rfl rfl ?_
              refine v_load (v := (0, j)) (hT _ zt_X9_hasPlaces rfl _ _ rfl) rfl rfl ?_
              refine v_if (hT _ zt_X9_hasPlaces rfl _ _ rfl) (fun hc29 => ?_) (fun hc29 => ?_)
              · have hc29 : j < 0 := hc29
                refine v_push (0) (hT _ zt_X9_hasPlaces rfl _ _ rfl) rfl ?_
                refine v_ret (hT _ zt_X9_hasPlaces rfl _ _ rfl) (Or.inl rfl) ?_
                show vP D T N 172 110 h [some (2, 0), some (0, 0), some (0, i), some (0, 1), some (0, j), some (0, n), some (2, 2), some (2, 4)] [(0, 0)] _
                refine v_if (hT _ zt_X11_pour rfl _ _ rfl) (fun _ => ?_) (fun hc30 => absurd (show (0 : Int) = 0 from (by decide)) hc30)
                refine v_load (v := (2, 0)) (hT _ zt_X11_pour rfl _ _ rfl) rfl rfl ?_
                refine v_push (4) (hT _ zt_X11_pour rfl _ _ rfl) rfl ?_
                refine v_call (w := 2) [some (2, 0), some (0, 4)] hO (hT _ zt_X11_pour rfl _ _ rfl) rfl rfl ?_
                refine v_load (v := (2, 0)) (hT _ zt_X11_refuse rfl _ _ rfl) rfl rfl ?_
                refine v_load (v := (0, 4)) (hT _ zt_X11_refuse rfl _ _ rfl) rfl rfl ?_
                refine v_putf (r := 0) hO (hT _ zt_X11_refuse rfl _ _ rfl) rfl (fun hf31 => ?_)
                refine v_push (0) (hT _ zt_X11_refuse rfl _ _ rfl) rfl ?_
                refine v_ret (hT _ zt_X11_refuse rfl _ _ rfl) (Or.inl rfl) ?_
                show vP D T N 172 118 (zset h 0 0 (0, 4)) [some (2, 0), some (0, 0), some (0, i), some (0, 1), some (0, j), some (0, n), some (2, 2), some (2, 4)] [(0, 0)] _
                refine v_ret (hT _ zt_X11_pour rfl _ _ rfl) (Or.inl rfl) ?_
                exact k5 hc11 hc15 hc19 hc20 hc22 hc25 hc29
              · have hc29 : 0 ≤ j := Int.not_lt.mp hc29
                refine v_load (v := (0, j)) (hT _ zt_X9_hasPlaces rfl _ _ rfl) rfl rfl ?_
                refine v_load (v := (2, 4)) (hT _ zt_X9_hasPlaces rfl _ _ rfl) rfl rfl ?_
                refine v_getI (t := 0) (r := 4) (hT _ zt_X9_hasPlaces rfl _ _ rfl) rfl rfl rfl ?_
                refine v_load (v := (0, n)) (hT _ zt_X9_hasPlaces rfl _ _ rfl) rfl rfl ?_
                refine v_bin (w := ((h 4 2).2 - n)) (hT _ zt_X9_hasPlaces rfl _ _ rfl) (hq_sub (by omega) (by omega)) ?_
                refine v_ic (hT _ zt_X9_hasPlaces rfl _ _ rfl) (fun hc32 => ?_) (fun hc32 => ?_)
                · have hc32 : ((h 4 2).2 - n) < j := hc32
                  refine v_push (0) (hT _ zt_X9_hasPlaces rfl _ _ rfl) rfl ?_
                  refine v_ret (hT _ zt_X9_hasPlaces rfl _ _ rfl) (Or.inl rfl) ?_
                  show vP D T N 172 110 h [some (2, 0), some (0, 0), some (0, i), some (0, 1), some (0, j), some (0, n), some (2, 2), some (2, 4)] [(0, 0)] _
                  refine v_if (hT _ zt_X11_pour rfl _ _ rfl) (fun _ => ?_) (fun hc33 => absurd (show (0 : Int) = 0 from (by decide)) hc33)
                  refine v_load (v := (2, 0)) (hT _ zt_X11_pour rfl _ _ rfl) rfl rfl ?_
                  refine v_push (4) (hT _ zt_X11_pour rfl _ _ rfl) rfl ?_
                  refine v_call (w := 2) [some (2, 0), some (0, 4)] hO (hT _ zt_X11_pour rfl _ _ rfl) rfl rfl ?_
                  refine v_load (v := (2, 0)) (hT _ zt_X11_refuse rfl _ _ rfl) rfl rfl ?_
                  refine v_load (v := (0, 4)) (hT _ zt_X11_refuse rfl _ _ rfl) rfl rfl ?_
                  refine v_putf (r := 0) hO (hT _ zt_X11_refuse rfl _ _ rfl) rfl (fun hf34 => ?_)
                  refine v_push (0) (hT _ zt_X11_refuse rfl _ _ rfl) rfl ?_
                  refine v_ret (hT _ zt_X11_refuse rfl _ _ rfl) (Or.inl rfl) ?_
                  show vP D T N 172 118 (zset h 0 0 (0, 4)) [some (2, 0), some (0, 0), some (0, i), some (0, 1), some (0, j), some (0, n), some (2, 2), some (2, 4)] [(0, 0)] _
                  refine v_ret (hT _ zt_X11_pour rfl _ _ rfl) (Or.inl rfl) ?_
                  exact k6 hc11 hc15 hc19 hc20 hc22 hc25 hc29 hc32
                · have hc32 : j ≤ ((h 4 2).2 - n) := Int.not_lt.mp hc32
                  refine v_push (1) (hT _ zt_X9_hasPlaces rfl _ _ rfl) rfl ?_
                  refine v_goto (hT _ zt_X9_hasPlaces rfl _ _ rfl) ?_
                  refine v_ret (hT _ zt_X9_hasPlaces rfl _ _ rfl) (Or.inl rfl) ?_
                  show vP D T N 172 110 h [some (2, 0), some (0, 0), some (0, i), some (0, 1), some (0, j), some (0, n), some (2, 2), some (2, 4)] [(0, 1)] _
                  refine v_if (hT _ zt_X11_pour rfl _ _ rfl) (fun hc35 => absurd (show (1 : Int) = 0 from hc35) (by decide)) (fun _ => ?_)
                  refine v_load (v := (2, 2)) (hT _ zt_X11_pour rfl _ _ rfl) rfl rfl ?_
                  refine v_getR (c := 3) (r := 2) (hT _ zt_X11_pour rfl _ _ rfl) rfl rfl rfl ?_
                  refine v_load (v := (0, i)) (hT _ zt_X11_pour rfl _ _ rfl) rfl rfl ?_
                  refine v_load (v := (2, 4)) (hT _ zt_X11_pour rfl _ _ rfl) rfl rfl ?_
                  refine v_getR (c := 5) (r := 4) (hT _ zt_X11_pour rfl _ _ rfl) rfl rfl rfl ?_
                  refine v_load (v := (0, j)) (hT _ zt_X11_pour rfl _ _ rfl) rfl rfl ?_
                  refine v_load (v := (0, n)) (hT _ zt_X11_pour rfl _ _ rfl) rfl rfl ?_
                  refine v_copy (r0 := 3) (r1 := 5) (hT _ zt_X11_pour rfl _ _ rfl) rfl rfl rfl rfl (fun hd36 hd37 hd38 hd39 hd40 => ?_)
                  refine v_load (v := (2, 0)) (hT _ zt_X11_pour rfl _ _ rfl) rfl rfl ?_
                  refine v_call (w := 1) [some (2, 0)] hO (hT _ zt_X11_pour rfl _ _ rfl) rfl rfl ?_
                  refine v_load (v := (2, 0)) (hT _ zt_X11_accept rfl _ _ rfl) rfl rfl ?_
                  refine v_push (0) (hT _ zt_X11_accept rfl _ _ rfl) rfl ?_
                  refine v_putf (r := 0) hO (hT _ zt_X11_accept rfl _ _ rfl) rfl (fun hf41 => ?_)
                  refine v_push (1) (hT _ zt_X11_accept rfl _ _ rfl) rfl ?_
                  refine v_ret (hT _ zt_X11_accept rfl _ _ rfl) (Or.inl rfl) ?_
                  show vP D T N 172 141 (zset (zcopy h 3 i.toNat 5 j.toNat n.toNat) 0 0 (0, 0)) [some (2, 0), some (0, 0), some (0, i), some (0, 1), some (0, j), some (0, n), some (2, 2), some (2, 4)] [(0, 1)] _
                  refine v_ret (hT _ zt_X11_pour rfl _ _ rfl) (Or.inl rfl) ?_
                  exact k7 hc11 hc15 hc19 hc20 hc22 hc25 hc29 hc32 hd36 hd37 hd38 hd39 hd40
      · have hc19 : (h 2 1).2 ≠ (h 4 1).2 := hc19
        refine v_load (v := (2, 0)) (hT _ zt_X11_pour rfl _ _ rfl) rfl rfl ?_
        refine v_push (11) (hT _ zt_X11_pour rfl _ _ rfl) rfl ?_
        refine v_call (w := 2) [some (2, 0), some (0, 11)] hO (hT _ zt_X11_pour rfl _ _ rfl) rfl rfl ?_
        refine v_load (v := (2, 0)) (hT _ zt_X11_refuse rfl _ _ rfl) rfl rfl ?_
        refine v_load (v := (0, 11)) (hT _ zt_X11_refuse rfl _ _ rfl) rfl rfl ?_
        refine v_putf (r := 0) hO (hT _ zt_X11_refuse rfl _ _ rfl) rfl (fun hf42 => ?_)
        refine v_push (0) (hT _ zt_X11_refuse rfl _ _ rfl) rfl ?_
        refine v_ret (hT _ zt_X11_refuse rfl _ _ rfl) (Or.inl rfl) ?_
        show vP D T N 172 77 (zset h 0 0 (0, 11)) [some (2, 0), some (0, 0), some (0, i), some (0, 1), some (0, j), some (0, n), some (2, 2), some (2, 4)] [(0, 0)] _
        refine v_ret (hT _ zt_X11_pour rfl _ _ rfl) (Or.inl rfl) ?_
        exact k8 hc11 hc15 hc19
theorem y_X11_pour_0_2 {D : zD} {T : zT} (hT : hTab T) (hO : vOK T) {N : Nat} {h : zH} {Q : zR → Prop} (i j n : Int) (hv0 : zHv h) (hb : 0 ≤ (h 2 2).2 ∧ (h 2 2).2 ≤ 60) (hc : 0 ≤ (h 6 2).2 ∧ (h 6 2).2 ≤ 60) (hn : n ≤ 2147483647)
    (k0 : ((h 2 1).2 = -1) → Q (zset h 0 0 (0, 3), some (0, 0)))
    (k1 : ((h 2 1).2 ≠ -1) → ((h 6 1).2 = -1) → Q (zset h 0 0 (0, 3), some (0, 0)))
    (k2 : ((h 2 1).2 ≠ -1) → ((h 6 1).2 ≠ -1) → ((h 2 1).2 = (h 6 1).2) → (n < 0) → Q (zset h 0 0 (0, 6), some (0, 0)))
    (k3 : ((h 2 1).2 ≠ -1) → ((h 6 1).2 ≠ -1) → ((h 2 1).2 = (h 6 1).2) → (0 ≤ n) → (i < 0) → Q (zset h 0 0 (0, 4), some (0, 0)))
    (k4 : ((h 2 1).2 ≠ -1) → ((h 6 1).2 ≠ -1) → ((h 2 1).2 = (h 6 1).2) → (0 ≤ n) → (0 ≤ i) → (((h 2 2).2 - n) < i) → Q (zset h 0 0 (0, 4), some (0, 0)))
    (k5 : ((h 2 1).2 ≠ -1) → ((h 6 1).2 ≠ -1) → ((h 2 1).2 = (h 6 1).2) → (0 ≤ n) → (0 ≤ i) → (i ≤ ((h 2 2).2 - n)) → (j < 0) → Q (zset h 0 0 (0, 4), some (0, 0)))
    (k6 : ((h 2 1).2 ≠ -1) → ((h 6 1).2 ≠ -1) → ((h 2 1).2 = (h 6 1).2) → (0 ≤ n) → (0 ≤ i) → (i ≤ ((h 2 2).2 - n)) → (0 ≤ j) → (((h 6 2).2 - n) < j) → Q (zset h 0 0 (0, 4), some (0, 0)))
    (k7 : ((h 2 1).2 ≠ -1) → ((h 6 1).2 ≠ -1) → ((h 2 1).2 = (h 6 1).2) → (0 ≤ n) → (0 ≤ i) → (i ≤ ((h 2 2).2 - n)) → (0 ≤ j) → (j ≤ ((h 6 2).2 - n)) → (0 ≤ n) → (0 ≤ i) → (0 ≤ j) → (i + n ≤ 60) → (j + n ≤ 60) → Q (zset (zcopy h 3 i.toNat 7 j.toNat n.toNat) 0 0 (0, 0), some (0, 1)))
    (k8 : ((h 2 1).2 ≠ -1) → ((h 6 1).2 ≠ -1) → ((h 2 1).2 ≠ (h 6 1).2) → Q (zset h 0 0 (0, 11), some (0, 0))) :
    vP D T N 172 0 h [some (2, 0), some (0, 0), some (0, i), some (0, 2), some (0, j), some (0, n), none, none] [] Q := by
  refine v_load (v := (0, 0)) (hT _ zt_X11_pour rfl _ _ rfl) rfl rfl ?_
  refine v_call (w := 1) [some (0, 0)] hO (hT _ zt_X11_pour rfl _ _ rfl) rfl rfl ?_
  refine v_load (v := (0, 0)) (hT _ zt_X11_isTray rfl _ _ rfl) rfl rfl ?_
  refine v_if (hT _ zt_X11_isTray rfl _ _ rfl) (fun hc1 => absurd (show (0 : Int) < 0 from hc1) (by decide)) (fun _ => ?_)
  refine v_load (v := (0, 0)) (hT _ zt_X11_isTray rfl _ _ rfl) rfl rfl ?_
  refine v_push (4) (hT _ zt_X11_isTray rfl _ _ rfl) rfl ?_
  refine v_ic (hT _ zt_X11_isTray rfl _ _ rfl) (fun _ => ?_) (fun hc2 => absurd (show (0 : Int) < 4 from (by decide)) hc2)
  refine v_push (1) (hT _ zt_X11_isTray rfl _ _ rfl) rfl ?_
  refine v_goto (hT _ zt_X11_isTray rfl _ _ rfl) ?_
  refine v_ret (hT _ zt_X11_isTray rfl _ _ rfl) (Or.inl rfl) ?_
  show vP D T N 172 4 h [some (2, 0), some (0, 0), some (0, i), some (0, 2), some (0, j), some (0, n), none, none] [(0, 1)] _
  refine v_if (hT _ zt_X11_pour rfl _ _ rfl) (fun hc3 => absurd (show (1 : Int) = 0 from hc3) (by decide)) (fun _ => ?_)
  refine v_load (v := (0, 2)) (hT _ zt_X11_pour rfl _ _ rfl) rfl rfl ?_
  refine v_call (w := 1) [some (0, 2)] hO (hT _ zt_X11_pour rfl _ _ rfl) rfl rfl ?_
  refine v_load (v := (0, 2)) (hT _ zt_X11_isTray rfl _ _ rfl) rfl rfl ?_
  refine v_if (hT _ zt_X11_isTray rfl _ _ rfl) (fun hc4 => absurd (show (2 : Int) < 0 from hc4) (by decide)) (fun _ => ?_)
  refine v_load (v := (0, 2)) (hT _ zt_X11_isTray rfl _ _ rfl) rfl rfl ?_
  refine v_push (4) (hT _ zt_X11_isTray rfl _ _ rfl) rfl ?_
  refine v_ic (hT _ zt_X11_isTray rfl _ _ rfl) (fun _ => ?_) (fun hc5 => absurd (show (2 : Int) < 4 from (by decide)) hc5)
  refine v_push (1) (hT _ zt_X11_isTray rfl _ _ rfl) rfl ?_
  refine v_goto (hT _ zt_X11_isTray rfl _ _ rfl) ?_
  refine v_ret (hT _ zt_X11_isTray rfl _ _ rfl) (Or.inl rfl) ?_
  show vP D T N 172 11 h [some (2, 0), some (0, 0), some (0, i), some (0, 2), some (0, j), some (0, n), none, none] [(0, 1)] _
  refine v_if (hT _ zt_X11_pour rfl _ _ rfl) (fun hc6 => absurd (show (1 : Int) = 0 from hc6) (by decide)) (fun _ => ?_)
  refine v_load (v := (2, 0)) (hT _ zt_X11_pour rfl _ _ rfl) rfl rfl ?_
  refine v_getR (c := 1) (r := 0) (hT _ zt_X11_pour rfl _ _ rfl) rfl rfl rfl ?_
  refine v_load (v := (0, 0)) (hT _ zt_X11_pour rfl _ _ rfl) rfl rfl ?_
  refine v_aldV (v := (2, 2)) (r := 1) (hT _ zt_X11_pour rfl _ _ rfl) rfl rfl (fun hv _ _ => hv.ref rfl) (fun ha7 hb8 => ?_)
  refine v_store1 [some (2, 0), some (0, 0), some (0, i), some (0, 2), some (0, j), some (0, n), some (2, 2), none] (hT _ zt_X11_pour rfl _ _ rfl) ⟨rfl, Nat.ne_of_beq_eq_false rfl⟩ (Nat.le_of_ble_eq_true rfl) rfl ?_
  refine v_load (v := (2, 0)) (hT _ zt_X11_pour rfl _ _ rfl) rfl rfl ?_
  refine v_getR (c := 1) (r := 0) (hT _ zt_X11_pour rfl _ _ rfl) rfl rfl rfl ?_
  refine v_load (v := (0, 2)) (hT _ zt_X11_pour rfl _ _ rfl) rfl rfl ?_
  refine v_aldV (v := (2, 6)) (r := 1) (hT _ zt_X11_pour rfl _ _ rfl) rfl rfl (fun hv _ _ => hv.ref rfl) (fun ha9 hb10 => ?_)
  refine v_store1 [some (2, 0), some (0, 0), some (0, i), some (0, 2), some (0, j), some (0, n), some (2, 2), some (2, 6)] (hT _ zt_X11_pour rfl _ _ rfl) ⟨rfl, Nat.ne_of_beq_eq_false rfl⟩ (Nat.le_of_ble_eq_true rfl) rfl ?_
  refine v_load (v := (2, 2)) (hT _ zt_X11_pour rfl _ _ rfl) rfl rfl ?_
  refine v_call (w := 1) [some (2, 2)] hO (hT _ zt_X11_pour rfl _ _ rfl) rfl rfl ?_
  refine v_load (v := (2, 2)) (hT _ zt_X9_isMissing rfl _ _ rfl) rfl rfl ?_
  refine v_getI (t := 0) (r := 2) (hT _ zt_X9_isMissing rfl _ _ rfl) rfl rfl rfl ?_
  refine v_push (-1) (hT _ zt_X9_isMissing rfl _ _ rfl) rfl ?_
  refine v_ic (hT _ zt_X9_isMissing rfl _ _ rfl) (fun hc11 => ?_) (fun hc11 => ?_)
  · have hc11 : (h 2 1).2 = -1 := hc11
    refine v_push (1) (hT _ zt_X9_isMissing rfl _ _ rfl) rfl ?_
    refine v_goto (hT _ zt_X9_isMissing rfl _ _ rfl) ?_
    refine v_ret (hT _ zt_X9_isMissing rfl _ _ rfl) (Or.inl rfl) ?_
    show vP D T N 172 41 h [some (2, 0), some (0, 0), some (0, i), some (0, 2), some (0, j), some (0, n), some (2, 2), some (2, 6)] [(0, 1)] _
    refine v_if (hT _ zt_X11_pour rfl _ _ rfl) (fun hc12 => absurd (show (1 : Int) = 0 from hc12) (by decide)) (fun _ => ?_)
    refine v_load (v := (2, 0)) (hT _ zt_X11_pour rfl _ _ rfl) rfl rfl ?_
    refine v_push (3) (hT _ zt_X11_pour rfl _ _ rfl) rfl ?_
    refine v_call (w := 2) [some (2, 0), some (0, 3)] hO (hT _ zt_X11_pour rfl _ _ rfl) rfl rfl ?_
    refine v_load (v := (2, 0)) (hT _ zt_X11_refuse rfl _ _ rfl) rfl rfl ?_
    refine v_load (v := (0, 3)) (hT _ zt_X11_refuse rfl _ _ rfl) rfl rfl ?_
    refine v_putf (r := 0) hO (hT _ zt_X11_refuse rfl _ _ rfl) rfl (fun hf13 => ?_)
    refine v_push (0) (hT _ zt_X11_refuse rfl _ _ rfl) rfl ?_
    refine v_ret (hT _ zt_X11_refuse rfl _ _ rfl) (Or.inl rfl) ?_
    show vP D T N 172 57 (zset h 0 0 (0, 3)) [some (2, 0), some (0, 0), some (0, i), some (0, 2), some (0, j), some (0, n), some (2, 2), some (2, 6)] [(0, 0)] _
    refine v_ret (hT _ zt_X11_pour rfl _ _ rfl) (Or.inl rfl) ?_
    exact k0 hc11
  · have hc11 : (h 2 1).2 ≠ -1 := hc11
    refine v_push (0) (hT _ zt_X9_isMissing rfl _ _ rfl) rfl ?_
    refine v_ret (hT _ zt_X9_isMissing rfl _ _ rfl) (Or.inl rfl) ?_
    show vP D T N 172 41 h [some (2, 0), some (0, 0), some (0, i), some (0, 2), some (0, j), some (0, n), some (2, 2), some (2, 6)] [(0, 0)] _
    refine v_if (hT _ zt_X11_pour rfl _ _ rfl) (fun _ => ?_) (fun hc14 => absurd (show (0 : Int) = 0 from (by decide)) hc14)
    refine v_load (v := (2, 6)) (hT _ zt_X11_pour rfl _ _ rfl) rfl rfl ?_
    refine v_call (w := 1) [some (2, 6)] hO (hT _ zt_X11_pour rfl _ _ rfl) rfl rfl ?_
    refine v_load (v := (2, 6)) (hT _ zt_X9_isMissing rfl _ _ rfl) rfl rfl ?_
    refine v_getI (t := 0) (r := 6) (hT _ zt_X9_isMissing rfl _ _ rfl) rfl rfl rfl ?_
    refine v_push (-1) (hT _ zt_X9_isMissing rfl _ _ rfl) rfl ?_
    refine v_ic (hT _ zt_X9_isMissing rfl _ _ rfl) (fun hc15 => ?_) (fun hc15 => ?_)
    · have hc15 : (h 6 1).2 = -1 := hc15
      refine v_push (1) (hT _ zt_X9_isMissing rfl _ _ rfl) rfl ?_
      refine v_goto (hT _ zt_X9_isMissing rfl _ _ rfl) ?_
      refine v_ret (hT _ zt_X9_isMissing rfl _ _ rfl) (Or.inl rfl) ?_
      show vP D T N 172 49 h [some (2, 0), some (0, 0), some (0, i), some (0, 2), some (0, j), some (0, n), some (2, 2), some (2, 6)] [(0, 1)] _
      refine v_if (hT _ zt_X11_pour rfl _ _ rfl) (fun hc16 => absurd (show (1 : Int) = 0 from hc16) (by decide)) (fun _ => ?_)
      refine v_load (v := (2, 0)) (hT _ zt_X11_pour rfl _ _ rfl) rfl rfl ?_
      refine v_push (3) (hT _ zt_X11_pour rfl _ _ rfl) rfl ?_
      refine v_call (w := 2) [some (2, 0), some (0, 3)] hO (hT _ zt_X11_pour rfl _ _ rfl) rfl rfl ?_
      refine v_load (v := (2, 0)) (hT _ zt_X11_refuse rfl _ _ rfl) rfl rfl ?_
      refine v_load (v := (0, 3)) (hT _ zt_X11_refuse rfl _ _ rfl) rfl rfl ?_
      refine v_putf (r := 0) hO (hT _ zt_X11_refuse rfl _ _ rfl) rfl (fun hf17 => ?_)
      refine v_push (0) (hT _ zt_X11_refuse rfl _ _ rfl) rfl ?_
      refine v_ret (hT _ zt_X11_refuse rfl _ _ rfl) (Or.inl rfl) ?_
      show vP D T N 172 57 (zset h 0 0 (0, 3)) [some (2, 0), some (0, 0), some (0, i), some (0, 2), some (0, j), some (0, n), some (2, 2), some (2, 6)] [(0, 0)] _
      refine v_ret (hT _ zt_X11_pour rfl _ _ rfl) (Or.inl rfl) ?_
      exact k1 hc11 hc15
    · have hc15 : (h 6 1).2 ≠ -1 := hc15
      refine v_push (0) (hT _ zt_X9_isMissing rfl _ _ rfl) rfl ?_
      refine v_ret (hT _ zt_X9_isMissing rfl _ _ rfl) (Or.inl rfl) ?_
      show vP D T N 172 49 h [some (2, 0), some (0, 0), some (0, i), some (0, 2), some (0, j), some (0, n), some (2, 2), some (2, 6)] [(0, 0)] _
      refine v_if (hT _ zt_X11_pour rfl _ _ rfl) (fun _ => ?_) (fun hc18 => absurd (show (0 : Int) = 0 from (by decide)) hc18)
      refine v_load (v := (2, 2)) (hT _ zt_X11_pour rfl _ _ rfl) rfl rfl ?_
      refine v_getI (t := 0) (r := 2) (hT _ zt_X11_pour rfl _ _ rfl) rfl rfl rfl ?_
      refine v_load (v := (2, 6)) (hT _ zt_X11_pour rfl _ _ rfl) rfl rfl ?_
      refine v_getI (t := 0) (r := 6) (hT _ zt_X11_pour rfl _ _ rfl) rfl rfl rfl ?_
      refine v_ic (hT _ zt_X11_pour rfl _ _ rfl) (fun hc19 => ?_) (fun hc19 => ?_)
      · have hc19 : (h 2 1).2 = (h 6 1).2 := hc19
        refine v_load (v := (0, n)) (hT _ zt_X11_pour rfl _ _ rfl) rfl rfl ?_
        refine v_if (hT _ zt_X11_pour rfl _ _ rfl) (fun hc20 => ?_) (fun hc20 => ?_)
        · have hc20 : n < 0 := hc20
          refine v_load (v := (2, 0)) (hT _ zt_X11_pour rfl _ _ rfl) rfl rfl ?_
          refine v_push (6) (hT _ zt_X11_pour rfl _ _ rfl) rfl ?_
          refine v_call (w := 2) [some (2, 0), some (0, 6)] hO (hT _ zt_X11_pour rfl _ _ rfl) rfl rfl ?_
          refine v_load (v := (2, 0)) (hT _ zt_X11_refuse rfl _ _ rfl) rfl rfl ?_
          refine v_load (v := (0, 6)) (hT _ zt_X11_refuse rfl _ _ rfl) rfl rfl ?_
          refine v_putf (r := 0) hO (hT _ zt_X11_refuse rfl _ _ rfl) rfl (fun hf21 => ?_)
          refine v_push (0) (hT _ zt_X11_refuse rfl _ _ rfl) rfl ?_
          refine v_ret (hT _ zt_X11_refuse rfl _ _ rfl) (Or.inl rfl) ?_
          show vP D T N 172 89 (zset h 0 0 (0, 6)) [some (2, 0), some (0, 0), some (0, i), some (0, 2), some (0, j), some (0, n), some (2, 2), some (2, 6)] [(0, 0)] _
          refine v_ret (hT _ zt_X11_pour rfl _ _ rfl) (Or.inl rfl) ?_
          exact k2 hc11 hc15 hc19 hc20
        · have hc20 : 0 ≤ n := Int.not_lt.mp hc20
          refine v_load (v := (2, 2)) (hT _ zt_X11_pour rfl _ _ rfl) rfl rfl ?_
          refine v_load (v := (0, i)) (hT _ zt_X11_pour rfl _ _ rfl) rfl rfl ?_
          refine v_load (v := (0, n)) (hT _ zt_X11_pour rfl _ _ rfl) rfl rfl ?_
          refine v_call (w := 3) [some (2, 2), some (0, i), some (0, n)] hO (hT _ zt_X11_pour rfl _ _ rfl) rfl rfl ?_
          refine v_load (v := (0, i)) (hT _ zt_X9_hasPlaces rfl _ _ rfl) rfl rfl ?_
          refine v_if (hT _ zt_X9_hasPlaces rfl _ _ rfl) (fun hc22 => ?_) (fun hc22 => ?_)
          · have hc22 : i < 0 := hc22
            refine v_push (0) (hT _ zt_X9_hasPlaces rfl _ _ rfl) rfl ?_
            refine v_ret (hT _ zt_X9_hasPlaces rfl _ _ rfl) (Or.inl rfl) ?_
            show vP D T N 172 98 h [some (2, 0), some (0, 0), some (0, i), some (0, 2), some (0, j), some (0, n), some (2, 2), some (2, 6)] [(0, 0)] _
            refine v_if (hT _ zt_X11_pour rfl _ _ rfl) (fun _ => ?_) (fun hc23 => absurd (show (0 : Int) = 0 from (by decide)) hc23)
            refine v_load (v := (2, 0)) (hT _ zt_X11_pour rfl _ _ rfl) rfl rfl ?_
            refine v_push (4) (hT _ zt_X11_pour rfl _ _ rfl) rfl ?_
            refine v_call (w := 2) [some (2, 0), some (0, 4)] hO (hT _ zt_X11_pour rfl _ _ rfl) rfl rfl ?_
            refine v_load (v := (2, 0)) (hT _ zt_X11_refuse rfl _ _ rfl) rfl rfl ?_
            refine v_load (v := (0, 4)) (hT _ zt_X11_refuse rfl _ _ rfl) rfl rfl ?_
            refine v_putf (r := 0) hO (hT _ zt_X11_refuse rfl _ _ rfl) rfl (fun hf24 => ?_)
            refine v_push (0) (hT _ zt_X11_refuse rfl _ _ rfl) rfl ?_
            refine v_ret (hT _ zt_X11_refuse rfl _ _ rfl) (Or.inl rfl) ?_
            show vP D T N 172 118 (zset h 0 0 (0, 4)) [some (2, 0), some (0, 0), some (0, i), some (0, 2), some (0, j), some (0, n), some (2, 2), some (2, 6)] [(0, 0)] _
            refine v_ret (hT _ zt_X11_pour rfl _ _ rfl) (Or.inl rfl) ?_
            exact k3 hc11 hc15 hc19 hc20 hc22
          · have hc22 : 0 ≤ i := Int.not_lt.mp hc22
            refine v_load (v := (0, i)) (hT _ zt_X9_hasPlaces rfl _ _ rfl) rfl rfl ?_
            refine v_load (v := (2, 2)) (hT _ zt_X9_hasPlaces rfl _ _ rfl) rfl rfl ?_
            refine v_getI (t := 0) (r := 2) (hT _ zt_X9_hasPlaces rfl _ _ rfl) rfl rfl rfl ?_
            refine v_load (v := (0, n)) (hT _ zt_X9_hasPlaces rfl _ _ rfl) rfl rfl ?_
            refine v_bin (w := ((h 2 2).2 - n)) (hT _ zt_X9_hasPlaces rfl _ _ rfl) (hq_sub (by omega) (by omega)) ?_
            refine v_ic (hT _ zt_X9_hasPlaces rfl _ _ rfl) (fun hc25 => ?_) (fun hc25 => ?_)
            · have hc25 : ((h 2 2).2 - n) < i := hc25
              refine v_push (0) (hT _ zt_X9_hasPlaces rfl _ _ rfl) rfl ?_
              refine v_ret (hT _ zt_X9_hasPlaces rfl _ _ rfl) (Or.inl rfl) ?_
              show vP D T N 172 98 h [some (2, 0), some (0, 0), some (0, i), some (0, 2), some (0, j), some (0, n), some (2, 2), some (2, 6)] [(0, 0)] _
              refine v_if (hT _ zt_X11_pour rfl _ _ rfl) (fun _ => ?_) (fun hc26 => absurd (show (0 : Int) = 0 from (by decide)) hc26)
              refine v_load (v := (2, 0)) (hT _ zt_X11_pour rfl _ _ rfl) rfl rfl ?_
              refine v_push (4) (hT _ zt_X11_pour rfl _ _ rfl) rfl ?_
              refine v_call (w := 2) [some (2, 0), some (0, 4)] hO (hT _ zt_X11_pour rfl _ _ rfl) rfl rfl ?_
              refine v_load (v := (2, 0)) (hT _ zt_X11_refuse rfl _ _ rfl) rfl rfl ?_
              refine v_load (v := (0, 4)) (hT _ zt_X11_refuse rfl _ _ rfl) rfl rfl ?_
              refine v_putf (r := 0) hO (hT _ zt_X11_refuse rfl _ _ rfl) rfl (fun hf27 => ?_)
              refine v_push (0) (hT _ zt_X11_refuse rfl _ _ rfl) rfl ?_
              refine v_ret (hT _ zt_X11_refuse rfl _ _ rfl) (Or.inl rfl) ?_
              show vP D T N 172 118 (zset h 0 0 (0, 4)) [some (2, 0), some (0, 0), some (0, i), some (0, 2), some (0, j), some (0, n), some (2, 2), some (2, 6)] [(0, 0)] _
              refine v_ret (hT _ zt_X11_pour rfl _ _ rfl) (Or.inl rfl) ?_
              exact k4 hc11 hc15 hc19 hc20 hc22 hc25
            · have hc25 : i ≤ ((h 2 2).2 - n) := Int.not_lt.mp hc25
              refine v_push (1) (hT _ zt_X9_hasPlaces rfl _ _ rfl) rfl ?_
              refine v_goto (hT _ zt_X9_hasPlaces rfl _ _ rfl) ?_
              refine v_ret (hT _ zt_X9_hasPlaces rfl _ _ rfl) (Or.inl rfl) ?_
              show vP D T N 172 98 h [some (2, 0), some (0, 0), some (0, i), some (0, 2), some (0, j), some (0, n), some (2, 2), some (2, 6)] [(0, 1)] _
              refine v_if (hT _ zt_X11_pour rfl _ _ rfl) (fun hc28 => absurd (show (1 : Int) = 0 from hc28) (by decide)) (fun _ => ?_)
              refine v_load (v := (2, 6)) (hT _ zt_X11_pour rfl _ _ rfl) rfl rfl ?_
              refine v_load (v := (0, j)) (hT _ zt_X11_pour rfl _ _ rfl) rfl rfl ?_
              refine v_load (v := (0, n)) (hT _ zt_X11_pour rfl _ _ rfl) rfl rfl ?_
              refine v_call (w := 3) [some (2, 6), some (0, j), some (0, n)] hO (hT _ zt_X11_pour rfl _ _ rfl) rfl rfl ?_
              refine v_load (v := (0, j)) (hT _ zt_X9_hasPlaces rfl _ _ rfl) rfl rfl ?_
              refine v_if (hT _ zt_X9_hasPlaces rfl _ _ rfl) (fun hc29 => ?_) (fun hc29 => ?_)
              · have hc29 : j < 0 := hc29
                refine v_push (0) (hT _ zt_X9_hasPlaces rfl _ _ rfl) rfl ?_
                refine v_ret (hT _ zt_X9_hasPlaces rfl _ _ rfl) (Or.inl rfl) ?_
                show vP D T N 172 110 h [some (2, 0), some (0, 0), some (0, i), some (0, 2), some (0, j), some (0, n), some (2, 2), some (2, 6)] [(0, 0)] _
                refine v_if (hT _ zt_X11_pour rfl _ _ rfl) (fun _ => ?_) (fun hc30 => absurd (show (0 : Int) = 0 from (by decide)) hc30)
                refine v_load (v := (2, 0)) (hT _ zt_X11_pour rfl _ _ rfl) rfl rfl ?_
                refine v_push (4) (hT _ zt_X11_pour rfl _ _ rfl) rfl ?_
                refine v_call (w := 2) [some (2, 0), some (0, 4)] hO (hT _ zt_X11_pour rfl _ _ rfl) rfl rfl ?_
                refine v_load (v := (2, 0)) (hT _ zt_X11_refuse rfl _ _ rfl) rfl rfl ?_
                refine v_load (v := (0, 4)) (hT _ zt_X11_refuse rfl _ _ rfl) rfl rfl ?_
                refine v_putf (r := 0) hO (hT _ zt_X11_refuse rfl _ _ rfl) rfl (fun hf31 => ?_)
                refine v_push (0) (hT _ zt_X11_refuse rfl _ _ rfl) rfl ?_
                refine v_ret (hT _ zt_X11_refuse rfl _ _ rfl) (Or.inl rfl) ?_
                show vP D T N 172 118 (zset h 0 0 (0, 4)) [some (2, 0), some (0, 0), some (0, i), some (0, 2), some (0, j), some (0, n), some (2, 2), some (2, 6)] [(0, 0)] _
                refine v_ret (hT _ zt_X11_pour rfl _ _ rfl) (Or.inl rfl) ?_
                exact k5 hc11 hc15 hc19 hc20 hc22 hc25 hc29
              · have hc29 : 0 ≤ j := Int.not_lt.mp hc29
                refine v_load (v := (0, j)) (hT _ zt_X9_hasPlaces rfl _ _ rfl) rfl rfl ?_
                refine v_load (v := (2, 6)) (hT _ zt_X9_hasPlaces rfl _ _ rfl) rfl rfl ?_
                refine v_getI (t := 0) (r := 6) (hT _ zt_X9_hasPlaces rfl _ _ rfl) rfl rfl rfl ?_
                refine v_load (v := (0, n)) (hT _ zt_X9_hasPlaces rfl _ _ rfl) rfl rfl ?_
                refine v_bin (w := ((h 6 2).2 - n)) (hT _ zt_X9_hasPlaces rfl _ _ rfl) (hq_sub (by omega) (by omega)) ?_
                refine v_ic (hT _ zt_X9_hasPlaces rfl _ _ rfl) (fun hc32 => ?_) (fun hc32 => ?_)
                · have hc32 : ((h 6 2).2 - n) < j := hc32
                  refine v_push (0) (hT _ zt_X9_hasPlaces rfl _ _ rfl) rfl ?_
                  refine v_ret (hT _ zt_X9_hasPlaces rfl _ _ rfl) (Or.inl rfl) ?_
                  show vP D T N 172 110 h [some (2, 0), some (0, 0), some (0, i), some (0, 2), some (0, j), some (0, n), some (2, 2), some (2, 6)] [(0, 0)] _
                  refine v_if (hT _ zt_X11_pour rfl _ _ rfl) (fun _ => ?_) (fun hc33 => absurd (show (0 : Int) = 0 from (by decide)) hc33)
                  refine v_load (v := (2, 0)) (hT _ zt_X11_pour rfl _ _ rfl) rfl rfl ?_
                  refine v_push (4) (hT _ zt_X11_pour rfl _ _ rfl) rfl ?_
                  refine v_call (w := 2) [some (2, 0), some (0, 4)] hO (hT _ zt_X11_pour rfl _ _ rfl) rfl rfl ?_
                  refine v_load (v := (2, 0)) (hT _ zt_X11_refuse rfl _ _ rfl) rfl rfl ?_
                  refine v_load (v := (0, 4)) (hT _ zt_X11_refuse rfl _ _ rfl) rfl rfl ?_
                  refine v_putf (r := 0) hO (hT _ zt_X11_refuse rfl _ _ rfl) rfl (fun hf34 => ?_)
                  refine v_push (0) (hT _ zt_X11_refuse rfl _ _ rfl) rfl ?_
                  refine v_ret (hT _ zt_X11_refuse rfl _ _ rfl) (Or.inl rfl) ?_
                  show vP D T N 172 118 (zset h 0 0 (0, 4)) [some (2, 0), some (0, 0), some (0, i), some (0, 2), some (0, j), some (0, n), some (2, 2), some (2, 6)] [(0, 0)] _
                  refine v_ret (hT _ zt_X11_pour rfl _ _ rfl) (Or.inl rfl) ?_
                  exact k6 hc11 hc15 hc19 hc20 hc22 hc25 hc29 hc32
                · have hc32 : j ≤ ((h 6 2).2 - n) := Int.not_lt.mp hc32
                  refine v_push (1) (hT _ zt_X9_hasPlaces rfl _ _ rfl) rfl ?_
                  refine v_goto (hT _ zt_X9_hasPlaces rfl _ _ rfl) ?_
                  refine v_ret (hT _ zt_X9_hasPlaces rfl _ _ rfl) (Or.inl rfl) ?_
                  show vP D T N 172 110 h [some (2, 0), some (0, 0), some (0, i), some (0, 2), some (0, j), some (0, n), some (2, 2), some (2, 6)] [(0, 1)] _
                  refine v_if (hT _ zt_X11_pour rfl _ _ rfl) (fun hc35 => absurd (show (1 : Int) = 0 from hc35) (by decide)) (fun _ => ?_)
                  refine v_load (v := (2, 2)) (hT _ zt_X11_pour rfl _ _ rfl) rfl rfl ?_
                  refine v_getR (c := 3) (r := 2) (hT _ zt_X11_pour rfl _ _ rfl) rfl rfl rfl ?_
                  refine v_load (v := (0, i)) (hT _ zt_X11_pour rfl _ _ rfl) rfl rfl ?_
                  refine v_load (v := (2, 6)) (hT _ zt_X11_pour rfl _ _ rfl) rfl rfl ?_
                  refine v_getR (c := 7) (r := 6) (hT _ zt_X11_pour rfl _ _ rfl) rfl rfl rfl ?_
                  refine v_load (v := (0, j)) (hT _ zt_X11_pour rfl _ _ rfl) rfl rfl ?_
                  refine v_load (v := (0, n)) (hT _ zt_X11_pour rfl _ _ rfl) rfl rfl ?_
                  refine v_copy (r0 := 3) (r1 := 7) (hT _ zt_X11_pour rfl _ _ rfl) rfl rfl rfl rfl (fun hd36 hd37 hd38 hd39 hd40 => ?_)
                  refine v_load (v := (2, 0)) (hT _ zt_X11_pour rfl _ _ rfl) rfl rfl ?_
                  refine v_call (w := 1) [some (2, 0)] hO (hT _ zt_X11_pour rfl _ _ rfl) rfl rfl ?_
                  refine v_load (v := (2, 0)) (hT _ zt_X11_accept rfl _ _ rfl) rfl rfl ?_
                  refine v_push (0) (hT _ zt_X11_accept rfl _ _ rfl) rfl ?_
                  refine v_putf (r := 0) hO (hT _ zt_X11_accept rfl _ _ rfl) rfl (fun hf41 => ?_)
                  refine v_push (1) (hT _ zt_X11_accept rfl _ _ rfl) rfl ?_
                  refine v_ret (hT _ zt_X11_accept rfl _ _ rfl) (Or.inl rfl) ?_
                  show vP D T N 172 141 (zset (zcopy h 3 i.toNat 7 j.toNat n.toNat) 0 0 (0, 0)) [some (2, 0), some (0, 0), some (0, i), some (0, 2), some (0, j), some (0, n), some (2, 2), some (2, 6)] [(0, 1)] _
                  refine v_ret (hT _ zt_X11_pour rfl _ _ rfl) (Or.inl rfl) ?_
                  exact k7 hc11 hc15 hc19 hc20 hc22 hc25 hc29 hc32 hd36 hd37 hd38 hd39 hd40
      · have hc19 : (h 2 1).2 ≠ (h 6 1).2 := hc19
        refine v_load (v := (2, 0)) (hT _ zt_X11_pour rfl _ _ rfl) rfl rfl ?_
        refine v_push (11) (hT _ zt_X11_pour rfl _ _ rfl) rfl ?_
        refine v_call (w := 2) [some (2, 0), some (0, 11)] hO (hT _ zt_X11_pour rfl _ _ rfl) rfl rfl ?_
        refine v_load (v := (2, 0)) (hT _ zt_X11_refuse rfl _ _ rfl) rfl rfl ?_
        refine v_load (v := (0, 11)) (hT _ zt_X11_refuse rfl _ _ rfl) rfl rfl ?_
        refine v_putf (r := 0) hO (hT _ zt_X11_refuse rfl _ _ rfl) rfl (fun hf42 => ?_)
        refine v_push (0) (hT _ zt_X11_refuse rfl _ _ rfl) rfl ?_
        refine v_ret (hT _ zt_X11_refuse rfl _ _ rfl) (Or.inl rfl) ?_
        show vP D T N 172 77 (zset h 0 0 (0, 11)) [some (2, 0), some (0, 0), some (0, i), some (0, 2), some (0, j), some (0, n), some (2, 2), some (2, 6)] [(0, 0)] _
        refine v_ret (hT _ zt_X11_pour rfl _ _ rfl) (Or.inl rfl) ?_
        exact k8 hc11 hc15 hc19
theorem y_X11_pour_0_3 {D : zD} {T : zT} (hT : hTab T) (hO : vOK T) {N : Nat} {h : zH} {Q : zR → Prop} (i j n : Int) (hv0 : zHv h) (hb : 0 ≤ (h 2 2).2 ∧ (h 2 2).2 ≤ 60) (hc : 0 ≤ (h 8 2).2 ∧ (h 8 2).2 ≤ 60) (hn : n ≤ 2147483647)
    (k0 : ((h 2 1).2 = -1) → Q (zset h 0 0 (0, 3), some (0, 0)))
    (k1 : ((h 2 1).2 ≠ -1) → ((h 8 1).2 = -1) → Q (zset h 0 0 (0, 3), some (0, 0)))
    (k2 : ((h 2 1).2 ≠ -1) → ((h 8 1).2 ≠ -1) → ((h 2 1).2 = (h 8 1).2) → (n < 0) → Q (zset h 0 0 (0, 6), some (0, 0)))
    (k3 : ((h 2 1).2 ≠ -1) → ((h 8 1).2 ≠ -1) → ((h 2 1).2 = (h 8 1).2) → (0 ≤ n) → (i < 0) → Q (zset h 0 0 (0, 4), some (0, 0)))
    (k4 : ((h 2 1).2 ≠ -1) → ((h 8 1).2 ≠ -1) → ((h 2 1).2 = (h 8 1).2) → (0 ≤ n) → (0 ≤ i) → (((h 2 2).2 - n) < i) → Q (zset h 0 0 (0, 4), some (0, 0)))
    (k5 : ((h 2 1).2 ≠ -1) → ((h 8 1).2 ≠ -1) → ((h 2 1).2 = (h 8 1).2) → (0 ≤ n) → (0 ≤ i) → (i ≤ ((h 2 2).2 - n)) → (j < 0) → Q (zset h 0 0 (0, 4), some (0, 0)))
    (k6 : ((h 2 1).2 ≠ -1) → ((h 8 1).2 ≠ -1) → ((h 2 1).2 = (h 8 1).2) → (0 ≤ n) → (0 ≤ i) → (i ≤ ((h 2 2).2 - n)) → (0 ≤ j) → (((h 8 2).2 - n) < j) → Q (zset h 0 0 (0, 4), some (0, 0)))
    (k7 : ((h 2 1).2 ≠ -1) → ((h 8 1).2 ≠ -1) → ((h 2 1).2 = (h 8 1).2) → (0 ≤ n) → (0 ≤ i) → (i ≤ ((h 2 2).2 - n)) → (0 ≤ j) → (j ≤ ((h 8 2).2 - n)) → (0 ≤ n) → (0 ≤ i) → (0 ≤ j) → (i + n ≤ 60) → (j + n ≤ 60) → Q (zset (zcopy h 3 i.toNat 9 j.toNat n.toNat) 0 0 (0, 0), some (0, 1)))
    (k8 : ((h 2 1).2 ≠ -1) → ((h 8 1).2 ≠ -1) → ((h 2 1).2 ≠ (h 8 1).2) → Q (zset h 0 0 (0, 11), some (0, 0))) :
    vP D T N 172 0 h [some (2, 0), some (0, 0), some (0, i), some (0, 3), some (0, j), some (0, n), none, none] [] Q := by
  refine v_load (v := (0, 0)) (hT _ zt_X11_pour rfl _ _ rfl) rfl rfl ?_
  refine v_call (w := 1) [some (0, 0)] hO (hT _ zt_X11_pour rfl _ _ rfl) rfl rfl ?_
  refine v_load (v := (0, 0)) (hT _ zt_X11_isTray rfl _ _ rfl) rfl rfl ?_
  refine v_if (hT _ zt_X11_isTray rfl _ _ rfl) (fun hc1 => absurd (show (0 : Int) < 0 from hc1) (by decide)) (fun _ => ?_)
  refine v_load (v := (0, 0)) (hT _ zt_X11_isTray rfl _ _ rfl) rfl rfl ?_
  refine v_push (4) (hT _ zt_X11_isTray rfl _ _ rfl) rfl ?_
  refine v_ic (hT _ zt_X11_isTray rfl _ _ rfl) (fun _ => ?_) (fun hc2 => absurd (show (0 : Int) < 4 from (by decide)) hc2)
  refine v_push (1) (hT _ zt_X11_isTray rfl _ _ rfl) rfl ?_
  refine v_goto (hT _ zt_X11_isTray rfl _ _ rfl) ?_
  refine v_ret (hT _ zt_X11_isTray rfl _ _ rfl) (Or.inl rfl) ?_
  show vP D T N 172 4 h [some (2, 0), some (0, 0), some (0, i), some (0, 3), some (0, j), some (0, n), none, none] [(0, 1)] _
  refine v_if (hT _ zt_X11_pour rfl _ _ rfl) (fun hc3 => absurd (show (1 : Int) = 0 from hc3) (by decide)) (fun _ => ?_)
  refine v_load (v := (0, 3)) (hT _ zt_X11_pour rfl _ _ rfl) rfl rfl ?_
  refine v_call (w := 1) [some (0, 3)] hO (hT _ zt_X11_pour rfl _ _ rfl) rfl rfl ?_
  refine v_load (v := (0, 3)) (hT _ zt_X11_isTray rfl _ _ rfl) rfl rfl ?_
  refine v_if (hT _ zt_X11_isTray rfl _ _ rfl) (fun hc4 => absurd (show (3 : Int) < 0 from hc4) (by decide)) (fun _ => ?_)
  refine v_load (v := (0, 3)) (hT _ zt_X11_isTray rfl _ _ rfl) rfl rfl ?_
  refine v_push (4) (hT _ zt_X11_isTray rfl _ _ rfl) rfl ?_
  refine v_ic (hT _ zt_X11_isTray rfl _ _ rfl) (fun _ => ?_) (fun hc5 => absurd (show (3 : Int) < 4 from (by decide)) hc5)
  refine v_push (1) (hT _ zt_X11_isTray rfl _ _ rfl) rfl ?_
  refine v_goto (hT _ zt_X11_isTray rfl _ _ rfl) ?_
  refine v_ret (hT _ zt_X11_isTray rfl _ _ rfl) (Or.inl rfl) ?_
  show vP D T N 172 11 h [some (2, 0), some (0, 0), some (0, i), some (0, 3), some (0, j), some (0, n), none, none] [(0, 1)] _
  refine v_if (hT _ zt_X11_pour rfl _ _ rfl) (fun hc6 => absurd (show (1 : Int) = 0 from hc6) (by decide)) (fun _ => ?_)
  refine v_load (v := (2, 0)) (hT _ zt_X11_pour rfl _ _ rfl) rfl rfl ?_
  refine v_getR (c := 1) (r := 0) (hT _ zt_X11_pour rfl _ _ rfl) rfl rfl rfl ?_
  refine v_load (v := (0, 0)) (hT _ zt_X11_pour rfl _ _ rfl) rfl rfl ?_
  refine v_aldV (v := (2, 2)) (r := 1) (hT _ zt_X11_pour rfl _ _ rfl) rfl rfl (fun hv _ _ => hv.ref rfl) (fun ha7 hb8 => ?_)
  refine v_store1 [some (2, 0), some (0, 0), some (0, i), some (0, 3), some (0, j), some (0, n), some (2, 2), none] (hT _ zt_X11_pour rfl _ _ rfl) ⟨rfl, Nat.ne_of_beq_eq_false rfl⟩ (Nat.le_of_ble_eq_true rfl) rfl ?_
  refine v_load (v := (2, 0)) (hT _ zt_X11_pour rfl _ _ rfl) rfl rfl ?_
  refine v_getR (c := 1) (r := 0) (hT _ zt_X11_pour rfl _ _ rfl) rfl rfl rfl ?_
  refine v_load (v := (0, 3)) (hT _ zt_X11_pour rfl _ _ rfl) rfl rfl ?_
  refine v_aldV (v := (2, 8)) (r := 1) (hT _ zt_X11_pour rfl _ _ rfl) rfl rfl (fun hv _ _ => hv.ref rfl) (fun ha9 hb10 => ?_)
  refine v_store1 [some (2, 0), some (0, 0), some (0, i), some (0, 3), some (0, j), some (0, n), some (2, 2), some (2, 8)] (hT _ zt_X11_pour rfl _ _ rfl) ⟨rfl, Nat.ne_of_beq_eq_false rfl⟩ (Nat.le_of_ble_eq_true rfl) rfl ?_
  refine v_load (v := (2, 2)) (hT _ zt_X11_pour rfl _ _ rfl) rfl rfl ?_
  refine v_call (w := 1) [some (2, 2)] hO (hT _ zt_X11_pour rfl _ _ rfl) rfl rfl ?_
  refine v_load (v := (2, 2)) (hT _ zt_X9_isMissing rfl _ _ rfl) rfl rfl ?_
  refine v_getI (t := 0) (r := 2) (hT _ zt_X9_isMissing rfl _ _ rfl) rfl rfl rfl ?_
  refine v_push (-1) (hT _ zt_X9_isMissing rfl _ _ rfl) rfl ?_
  refine v_ic (hT _ zt_X9_isMissing rfl _ _ rfl) (fun hc11 => ?_) (fun hc11 => ?_)
  · have hc11 : (h 2 1).2 = -1 := hc11
    refine v_push (1) (hT _ zt_X9_isMissing rfl _ _ rfl) rfl ?_
    refine v_goto (hT _ zt_X9_isMissing rfl _ _ rfl) ?_
    refine v_ret (hT _ zt_X9_isMissing rfl _ _ rfl) (Or.inl rfl) ?_
    show vP D T N 172 41 h [some (2, 0), some (0, 0), some (0, i), some (0, 3), some (0, j), some (0, n), some (2, 2), some (2, 8)] [(0, 1)] _
    refine v_if (hT _ zt_X11_pour rfl _ _ rfl) (fun hc12 => absurd (show (1 : Int) = 0 from hc12) (by decide)) (fun _ => ?_)
    refine v_load (v := (2, 0)) (hT _ zt_X11_pour rfl _ _ rfl) rfl rfl ?_
    refine v_push (3) (hT _ zt_X11_pour rfl _ _ rfl) rfl ?_
    refine v_call (w := 2) [some (2, 0), some (0, 3)] hO (hT _ zt_X11_pour rfl _ _ rfl) rfl rfl ?_
    refine v_load (v := (2, 0)) (hT _ zt_X11_refuse rfl _ _ rfl) rfl rfl ?_
    refine v_load (v := (0, 3)) (hT _ zt_X11_refuse rfl _ _ rfl) rfl rfl ?_
    refine v_putf (r := 0) hO (hT _ zt_X11_refuse rfl _ _ rfl) rfl (fun hf13 => ?_)
    refine v_push (0) (hT _ zt_X11_refuse rfl _ _ rfl) rfl ?_
    refine v_ret (hT _ zt_X11_refuse rfl _ _ rfl) (Or.inl rfl) ?_
    show vP D T N 172 57 (zset h 0 0 (0, 3)) [some (2, 0), some (0, 0), some (0, i), some (0, 3), some (0, j), some (0, n), some (2, 2), some (2, 8)] [(0, 0)] _
    refine v_ret (hT _ zt_X11_pour rfl _ _ rfl) (Or.inl rfl) ?_
    exact k0 hc11
  · have hc11 : (h 2 1).2 ≠ -1 := hc11
    refine v_push (0) (hT _ zt_X9_isMissing rfl _ _ rfl) rfl ?_
    refine v_ret (hT _ zt_X9_isMissing rfl _ _ rfl) (Or.inl rfl) ?_
    show vP D T N 172 41 h [some (2, 0), some (0, 0), some (0, i), some (0, 3), some (0, j), some (0, n), some (2, 2), some (2, 8)] [(0, 0)] _
    refine v_if (hT _ zt_X11_pour rfl _ _ rfl) (fun _ => ?_) (fun hc14 => absurd (show (0 : Int) = 0 from (by decide)) hc14)
    refine v_load (v := (2, 8)) (hT _ zt_X11_pour rfl _ _ rfl) rfl rfl ?_
    refine v_call (w := 1) [some (2, 8)] hO (hT _ zt_X11_pour rfl _ _ rfl) rfl rfl ?_
    refine v_load (v := (2, 8)) (hT _ zt_X9_isMissing rfl _ _ rfl) rfl rfl ?_
    refine v_getI (t := 0) (r := 8) (hT _ zt_X9_isMissing rfl _ _ rfl) rfl rfl rfl ?_
    refine v_push (-1) (hT _ zt_X9_isMissing rfl _ _ rfl) rfl ?_
    refine v_ic (hT _ zt_X9_isMissing rfl _ _ rfl) (fun hc15 => ?_) (fun hc15 => ?_)
    · have hc15 : (h 8 1).2 = -1 := hc15
      refine v_push (1) (hT _ zt_X9_isMissing rfl _ _ rfl) rfl ?_
      refine v_goto (hT _ zt_X9_isMissing rfl _ _ rfl) ?_
      refine v_ret (hT _ zt_X9_isMissing rfl _ _ rfl) (Or.inl rfl) ?_
      show vP D T N 172 49 h [some (2, 0), some (0, 0), some (0, i), some (0, 3), some (0, j), some (0, n), some (2, 2), some (2, 8)] [(0, 1)] _
      refine v_if (hT _ zt_X11_pour rfl _ _ rfl) (fun hc16 => absurd (show (1 : Int) = 0 from hc16) (by decide)) (fun _ => ?_)
      refine v_load (v := (2, 0)) (hT _ zt_X11_pour rfl _ _ rfl) rfl rfl ?_
      refine v_push (3) (hT _ zt_X11_pour rfl _ _ rfl) rfl ?_
      refine v_call (w := 2) [some (2, 0), some (0, 3)] hO (hT _ zt_X11_pour rfl _ _ rfl) rfl rfl ?_
      refine v_load (v := (2, 0)) (hT _ zt_X11_refuse rfl _ _ rfl) rfl rfl ?_
      refine v_load (v := (0, 3)) (hT _ zt_X11_refuse rfl _ _ rfl) rfl rfl ?_
      refine v_putf (r := 0) hO (hT _ zt_X11_refuse rfl _ _ rfl) rfl (fun hf17 => ?_)
      refine v_push (0) (hT _ zt_X11_refuse rfl _ _ rfl) rfl ?_
      refine v_ret (hT _ zt_X11_refuse rfl _ _ rfl) (Or.inl rfl) ?_
      show vP D T N 172 57 (zset h 0 0 (0, 3)) [some (2, 0), some (0, 0), some (0, i), some (0, 3), some (0, j), some (0, n), some (2, 2), some (2, 8)] [(0, 0)] _
      refine v_ret (hT _ zt_X11_pour rfl _ _ rfl) (Or.inl rfl) ?_
      exact k1 hc11 hc15
    · have hc15 : (h 8 1).2 ≠ -1 := hc15
      refine v_push (0) (hT _ zt_X9_isMissing rfl _ _ rfl) rfl ?_
      refine v_ret (hT _ zt_X9_isMissing rfl _ _ rfl) (Or.inl rfl) ?_
      show vP D T N 172 49 h [some (2, 0), some (0, 0), some (0, i), some (0, 3), some (0, j), some (0, n), some (2, 2), some (2, 8)] [(0, 0)] _
      refine v_if (hT _ zt_X11_pour rfl _ _ rfl) (fun _ => ?_) (fun hc18 => absurd (show (0 : Int) = 0 from (by decide)) hc18)
      refine v_load (v := (2, 2)) (hT _ zt_X11_pour rfl _ _ rfl) rfl rfl ?_
      refine v_getI (t := 0) (r := 2) (hT _ zt_X11_pour rfl _ _ rfl) rfl rfl rfl ?_
      refine v_load (v := (2, 8)) (hT _ zt_X11_pour rfl _ _ rfl) rfl rfl ?_
      refine v_getI (t := 0) (r := 8) (hT _ zt_X11_pour rfl _ _ rfl) rfl rfl rfl ?_
      refine v_ic (hT _ zt_X11_pour rfl _ _ rfl) (fun hc19 => ?_) (fun hc19 => ?_)
      · have hc19 : (h 2 1).2 = (h 8 1).2 := hc19
        refine v_load (v := (0, n)) (hT _ zt_X11_pour rfl _ _ rfl) rfl rfl ?_
        refine v_if (hT _ zt_X11_pour rfl _ _ rfl) (fun hc20 => ?_) (fun hc20 => ?_)
        · have hc20 : n < 0 := hc20
          refine v_load (v := (2, 0)) (hT _ zt_X11_pour rfl _ _ rfl) rfl rfl ?_
          refine v_push (6) (hT _ zt_X11_pour rfl _ _ rfl) rfl ?_
          refine v_call (w := 2) [some (2, 0), some (0, 6)] hO (hT _ zt_X11_pour rfl _ _ rfl) rfl rfl ?_
          refine v_load (v := (2, 0)) (hT _ zt_X11_refuse rfl _ _ rfl) rfl rfl ?_
          refine v_load (v := (0, 6)) (hT _ zt_X11_refuse rfl _ _ rfl) rfl rfl ?_
          refine v_putf (r := 0) hO (hT _ zt_X11_refuse rfl _ _ rfl) rfl (fun hf21 => ?_)
          refine v_push (0) (hT _ zt_X11_refuse rfl _ _ rfl) rfl ?_
          refine v_ret (hT _ zt_X11_refuse rfl _ _ rfl) (Or.inl rfl) ?_
          show vP D T N 172 89 (zset h 0 0 (0, 6)) [some (2, 0), some (0, 0), some (0, i), some (0, 3), some (0, j), some (0, n), some (2, 2), some (2, 8)] [(0, 0)] _
          refine v_ret (hT _ zt_X11_pour rfl _ _ rfl) (Or.inl rfl) ?_
          exact k2 hc11 hc15 hc19 hc20
        · have hc20 : 0 ≤ n := Int.not_lt.mp hc20
          refine v_load (v := (2, 2)) (hT _ zt_X11_pour rfl _ _ rfl) rfl rfl ?_
          refine v_load (v := (0, i)) (hT _ zt_X11_pour rfl _ _ rfl) rfl rfl ?_
          refine v_load (v := (0, n)) (hT _ zt_X11_pour rfl _ _ rfl) rfl rfl ?_
          refine v_call (w := 3) [some (2, 2), some (0, i), some (0, n)] hO (hT _ zt_X11_pour rfl _ _ rfl) rfl rfl ?_
          refine v_load (v := (0, i)) (hT _ zt_X9_hasPlaces rfl _ _ rfl) rfl rfl ?_
          refine v_if (hT _ zt_X9_hasPlaces rfl _ _ rfl) (fun hc22 => ?_) (fun hc22 => ?_)
          · have hc22 : i < 0 := hc22
            refine v_push (0) (hT _ zt_X9_hasPlaces rfl _ _ rfl) rfl ?_
            refine v_ret (hT _ zt_X9_hasPlaces rfl _ _ rfl) (Or.inl rfl) ?_
            show vP D T N 172 98 h [some (2, 0), some (0, 0), some (0, i), some (0, 3), some (0, j), some (0, n), some (2, 2), some (2, 8)] [(0, 0)] _
            refine v_if (hT _ zt_X11_pour rfl _ _ rfl) (fun _ => ?_) (fun hc23 => absurd (show (0 : Int) = 0 from (by decide)) hc23)
            refine v_load (v := (2, 0)) (hT _ zt_X11_pour rfl _ _ rfl) rfl rfl ?_
            refine v_push (4) (hT _ zt_X11_pour rfl _ _ rfl) rfl ?_
            refine v_call (w := 2) [some (2, 0), some (0, 4)] hO (hT _ zt_X11_pour rfl _ _ rfl) rfl rfl ?_
            refine v_load (v := (2, 0)) (hT _ zt_X11_refuse rfl _ _ rfl) rfl rfl ?_
            refine v_load (v := (0, 4)) (hT _ zt_X11_refuse rfl _ _ rfl) rfl rfl ?_
            refine v_putf (r := 0) hO (hT _ zt_X11_refuse rfl _ _ rfl) rfl (fun hf24 => ?_)
            refine v_push (0) (hT _ zt_X11_refuse rfl _ _ rfl) rfl ?_
            refine v_ret (hT _ zt_X11_refuse rfl _ _ rfl) (Or.inl rfl) ?_
            show vP D T N 172 118 (zset h 0 0 (0, 4)) [some (2, 0), some (0, 0), some (0, i), some (0, 3), some (0, j), some (0, n), some (2, 2), some (2, 8)] [(0, 0)] _
            refine v_ret (hT _ zt_X11_pour rfl _ _ rfl) (Or.inl rfl) ?_
            exact k3 hc11 hc15 hc19 hc20 hc22
          · have hc22 : 0 ≤ i := Int.not_lt.mp hc22
            refine v_load (v := (0, i)) (hT _ zt_X9_hasPlaces rfl _ _ rfl) rfl rfl ?_
            refine v_load (v := (2, 2)) (hT _ zt_X9_hasPlaces rfl _ _ rfl) rfl rfl ?_
            refine v_getI (t := 0) (r := 2) (hT _ zt_X9_hasPlaces rfl _ _ rfl) rfl rfl rfl ?_
            refine v_load (v := (0, n)) (hT _ zt_X9_hasPlaces rfl _ _ rfl) rfl rfl ?_
            refine v_bin (w := ((h 2 2).2 - n)) (hT _ zt_X9_hasPlaces rfl _ _ rfl) (hq_sub (by omega) (by omega)) ?_
            refine v_ic (hT _ zt_X9_hasPlaces rfl _ _ rfl) (fun hc25 => ?_) (fun hc25 => ?_)
            · have hc25 : ((h 2 2).2 - n) < i := hc25
              refine v_push (0) (hT _ zt_X9_hasPlaces rfl _ _ rfl) rfl ?_
              refine v_ret (hT _ zt_X9_hasPlaces rfl _ _ rfl) (Or.inl rfl) ?_
              show vP D T N 172 98 h [some (2, 0), some (0, 0), some (0, i), some (0, 3), some (0, j), some (0, n), some (2, 2), some (2, 8)] [(0, 0)] _
              refine v_if (hT _ zt_X11_pour rfl _ _ rfl) (fun _ => ?_) (fun hc26 => absurd (show (0 : Int) = 0 from (by decide)) hc26)
              refine v_load (v := (2, 0)) (hT _ zt_X11_pour rfl _ _ rfl) rfl rfl ?_
              refine v_push (4) (hT _ zt_X11_pour rfl _ _ rfl) rfl ?_
              refine v_call (w := 2) [some (2, 0), some (0, 4)] hO (hT _ zt_X11_pour rfl _ _ rfl) rfl rfl ?_
              refine v_load (v := (2, 0)) (hT _ zt_X11_refuse rfl _ _ rfl) rfl rfl ?_
              refine v_load (v := (0, 4)) (hT _ zt_X11_refuse rfl _ _ rfl) rfl rfl ?_
              refine v_putf (r := 0) hO (hT _ zt_X11_refuse rfl _ _ rfl) rfl (fun hf27 => ?_)
              refine v_push (0) (hT _ zt_X11_refuse rfl _ _ rfl) rfl ?_
              refine v_ret (hT _ zt_X11_refuse rfl _ _ rfl) (Or.inl rfl) ?_
              show vP D T N 172 118 (zset h 0 0 (0, 4)) [some (2, 0), some (0, 0), some (0, i), some (0, 3), some (0, j), some (0, n), some (2, 2), some (2, 8)] [(0, 0)] _
              refine v_ret (hT _ zt_X11_pour rfl _ _ rfl) (Or.inl rfl) ?_
              exact k4 hc11 hc15 hc19 hc20 hc22 hc25
            · have hc25 : i ≤ ((h 2 2).2 - n) := Int.not_lt.mp hc25
              refine v_push (1) (hT _ zt_X9_hasPlaces rfl _ _ rfl) rfl ?_
              refine v_goto (hT _ zt_X9_hasPlaces rfl _ _ rfl) ?_
              refine v_ret (hT _ zt_X9_hasPlaces rfl _ _ rfl) (Or.inl rfl) ?_
              show vP D T N 172 98 h [some (2, 0), some (0, 0), some (0, i), some (0, 3), some (0, j), some (0, n), some (2, 2), some (2, 8)] [(0, 1)] _
              refine v_if (hT _ zt_X11_pour rfl _ _ rfl) (fun hc28 => absurd (show (1 : Int) = 0 from hc28) (by decide)) (fun _ => ?_)
              refine v_load (v := (2, 8)) (hT _ zt_X11_pour rfl _ _ rfl) rfl rfl ?_
              refine v_load (v := (0, j)) (hT _ zt_X11_pour rfl _ _ rfl) rfl rfl ?_
              refine v_load (v := (0, n)) (hT _ zt_X11_pour rfl _ _ rfl) rfl rfl ?_
              refine v_call (w := 3) [some (2, 8), some (0, j), some (0, n)] hO (hT _ zt_X11_pour rfl _ _ rfl) rfl rfl ?_
              refine v_load (v := (0, j)) (hT _ zt_X9_hasPlaces rfl _ _ rfl) rfl rfl ?_
              refine v_if (hT _ zt_X9_hasPlaces rfl _ _ rfl) (fun hc29 => ?_) (fun hc29 => ?_)
              · have hc29 : j < 0 := hc29
                refine v_push (0) (hT _ zt_X9_hasPlaces rfl _ _ rfl) rfl ?_
                refine v_ret (hT _ zt_X9_hasPlaces rfl _ _ rfl) (Or.inl rfl) ?_
                show vP D T N 172 110 h [some (2, 0), some (0, 0), some (0, i), some (0, 3), some (0, j), some (0, n), some (2, 2), some (2, 8)] [(0, 0)] _
                refine v_if (hT _ zt_X11_pour rfl _ _ rfl) (fun _ => ?_) (fun hc30 => absurd (show (0 : Int) = 0 from (by decide)) hc30)
                refine v_load (v := (2, 0)) (hT _ zt_X11_pour rfl _ _ rfl) rfl rfl ?_
                refine v_push (4) (hT _ zt_X11_pour rfl _ _ rfl) rfl ?_
                refine v_call (w := 2) [some (2, 0), some (0, 4)] hO (hT _ zt_X11_pour rfl _ _ rfl) rfl rfl ?_
                refine v_load (v := (2, 0)) (hT _ zt_X11_refuse rfl _ _ rfl) rfl rfl ?_
                refine v_load (v := (0, 4)) (hT _ zt_X11_refuse rfl _ _ rfl) rfl rfl ?_
                refine v_putf (r := 0) hO (hT _ zt_X11_refuse rfl _ _ rfl) rfl (fun hf31 => ?_)
                refine v_push (0) (hT _ zt_X11_refuse rfl _ _ rfl) rfl ?_
                refine v_ret (hT _ zt_X11_refuse rfl _ _ rfl) (Or.inl rfl) ?_
                show vP D T N 172 118 (zset h 0 0 (0, 4)) [some (2, 0), some (0, 0), some (0, i), some (0, 3), some (0, j), some (0, n), some (2, 2), some (2, 8)] [(0, 0)] _
                refine v_ret (hT _ zt_X11_pour rfl _ _ rfl) (Or.inl rfl) ?_
                exact k5 hc11 hc15 hc19 hc20 hc22 hc25 hc29
              · have hc29 : 0 ≤ j := Int.not_lt.mp hc29
                refine v_load (v := (0, j)) (hT _ zt_X9_hasPlaces rfl _ _ rfl) rfl rfl ?_
                refine v_load (v := (2, 8)) (hT _ zt_X9_hasPlaces rfl _ _ rfl) rfl rfl ?_
                refine v_getI (t := 0) (r := 8) (hT _ zt_X9_hasPlaces rfl _ _ rfl) rfl rfl rfl ?_
                refine v_load (v := (0, n)) (hT _ zt_X9_hasPlaces rfl _ _ rfl) rfl rfl ?_
                refine v_bin (w := ((h 8 2).2 - n)) (hT _ zt_X9_hasPlaces rfl _ _ rfl) (hq_sub (by omega) (by omega)) ?_
                refine v_ic (hT _ zt_X9_hasPlaces rfl _ _ rfl) (fun hc32 => ?_) (fun hc32 => ?_)
                · have hc32 : ((h 8 2).2 - n) < j := hc32
                  refine v_push (0) (hT _ zt_X9_hasPlaces rfl _ _ rfl) rfl ?_
                  refine v_ret (hT _ zt_X9_hasPlaces rfl _ _ rfl) (Or.inl rfl) ?_
                  show vP D T N 172 110 h [some (2, 0), some (0, 0), some (0, i), some (0, 3), some (0, j), some (0, n), some (2, 2), some (2, 8)] [(0, 0)] _
                  refine v_if (hT _ zt_X11_pour rfl _ _ rfl) (fun _ => ?_) (fun hc33 => absurd (show (0 : Int) = 0 from (by decide)) hc33)
                  refine v_load (v := (2, 0)) (hT _ zt_X11_pour rfl _ _ rfl) rfl rfl ?_
                  refine v_push (4) (hT _ zt_X11_pour rfl _ _ rfl) rfl ?_
                  refine v_call (w := 2) [some (2, 0), some (0, 4)] hO (hT _ zt_X11_pour rfl _ _ rfl) rfl rfl ?_
                  refine v_load (v := (2, 0)) (hT _ zt_X11_refuse rfl _ _ rfl) rfl rfl ?_
                  refine v_load (v := (0, 4)) (hT _ zt_X11_refuse rfl _ _ rfl) rfl rfl ?_
                  refine v_putf (r := 0) hO (hT _ zt_X11_refuse rfl _ _ rfl) rfl (fun hf34 => ?_)
                  refine v_push (0) (hT _ zt_X11_refuse rfl _ _ rfl) rfl ?_
                  refine v_ret (hT _ zt_X11_refuse rfl _ _ rfl) (Or.inl rfl) ?_
                  show vP D T N 172 118 (zset h 0 0 (0, 4)) [some (2, 0), some (0, 0), some (0, i), some (0, 3), some (0, j), some (0, n), some (2, 2), some (2, 8)] [(0, 0)] _
                  refine v_ret (hT _ zt_X11_pour rfl _ _ rfl) (Or.inl rfl) ?_
                  exact k6 hc11 hc15 hc19 hc20 hc22 hc25 hc29 hc32
                · have hc32 : j ≤ ((h 8 2).2 - n) := Int.not_lt.mp hc32
                  refine v_push (1) (hT _ zt_X9_hasPlaces rfl _ _ rfl) rfl ?_
                  refine v_goto (hT _ zt_X9_hasPlaces rfl _ _ rfl) ?_
                  refine v_ret (hT _ zt_X9_hasPlaces rfl _ _ rfl) (Or.inl rfl) ?_
                  show vP D T N 172 110 h [some (2, 0), some (0, 0), some (0, i), some (0, 3), some (0, j), some (0, n), some (2, 2), some (2, 8)] [(0, 1)] _
                  refine v_if (hT _ zt_X11_pour rfl _ _ rfl) (fun hc35 => absurd (show (1 : Int) = 0 from hc35) (by decide)) (fun _ => ?_)
                  refine v_load (v := (2, 2)) (hT _ zt_X11_pour rfl _ _ rfl) rfl rfl ?_
                  refine v_getR (c := 3) (r := 2) (hT _ zt_X11_pour rfl _ _ rfl) rfl rfl rfl ?_
                  refine v_load (v := (0, i)) (hT _ zt_X11_pour rfl _ _ rfl) rfl rfl ?_
                  refine v_load (v := (2, 8)) (hT _ zt_X11_pour rfl _ _ rfl) rfl rfl ?_
                  refine v_getR (c := 9) (r := 8) (hT _ zt_X11_pour rfl _ _ rfl) rfl rfl rfl ?_
                  refine v_load (v := (0, j)) (hT _ zt_X11_pour rfl _ _ rfl) rfl rfl ?_
                  refine v_load (v := (0, n)) (hT _ zt_X11_pour rfl _ _ rfl) rfl rfl ?_
                  refine v_copy (r0 := 3) (r1 := 9) (hT _ zt_X11_pour rfl _ _ rfl) rfl rfl rfl rfl (fun hd36 hd37 hd38 hd39 hd40 => ?_)
                  refine v_load (v := (2, 0)) (hT _ zt_X11_pour rfl _ _ rfl) rfl rfl ?_
                  refine v_call (w := 1) [some (2, 0)] hO (hT _ zt_X11_pour rfl _ _ rfl) rfl rfl ?_
                  refine v_load (v := (2, 0)) (hT _ zt_X11_accept rfl _ _ rfl) rfl rfl ?_
                  refine v_push (0) (hT _ zt_X11_accept rfl _ _ rfl) rfl ?_
                  refine v_putf (r := 0) hO (hT _ zt_X11_accept rfl _ _ rfl) rfl (fun hf41 => ?_)
                  refine v_push (1) (hT _ zt_X11_accept rfl _ _ rfl) rfl ?_
                  refine v_ret (hT _ zt_X11_accept rfl _ _ rfl) (Or.inl rfl) ?_
                  show vP D T N 172 141 (zset (zcopy h 3 i.toNat 9 j.toNat n.toNat) 0 0 (0, 0)) [some (2, 0), some (0, 0), some (0, i), some (0, 3), some (0, j), some (0, n), some (2, 2), some (2, 8)] [(0, 1)] _
                  refine v_ret (hT _ zt_X11_pour rfl _ _ rfl) (Or.inl rfl) ?_
                  exact k7 hc11 hc15 hc19 hc20 hc22 hc25 hc29 hc32 hd36 hd37 hd38 hd39 hd40
      · have hc19 : (h 2 1).2 ≠ (h 8 1).2 := hc19
        refine v_load (v := (2, 0)) (hT _ zt_X11_pour rfl _ _ rfl) rfl rfl ?_
        refine v_push (11) (hT _ zt_X11_pour rfl _ _ rfl) rfl ?_
        refine v_call (w := 2) [some (2, 0), some (0, 11)] hO (hT _ zt_X11_pour rfl _ _ rfl) rfl rfl ?_
        refine v_load (v := (2, 0)) (hT _ zt_X11_refuse rfl _ _ rfl) rfl rfl ?_
        refine v_load (v := (0, 11)) (hT _ zt_X11_refuse rfl _ _ rfl) rfl rfl ?_
        refine v_putf (r := 0) hO (hT _ zt_X11_refuse rfl _ _ rfl) rfl (fun hf42 => ?_)
        refine v_push (0) (hT _ zt_X11_refuse rfl _ _ rfl) rfl ?_
        refine v_ret (hT _ zt_X11_refuse rfl _ _ rfl) (Or.inl rfl) ?_
        show vP D T N 172 77 (zset h 0 0 (0, 11)) [some (2, 0), some (0, 0), some (0, i), some (0, 3), some (0, j), some (0, n), some (2, 2), some (2, 8)] [(0, 0)] _
        refine v_ret (hT _ zt_X11_pour rfl _ _ rfl) (Or.inl rfl) ?_
        exact k8 hc11 hc15 hc19
theorem y_X11_pour_1_0 {D : zD} {T : zT} (hT : hTab T) (hO : vOK T) {N : Nat} {h : zH} {Q : zR → Prop} (i j n : Int) (hv0 : zHv h) (hb : 0 ≤ (h 4 2).2 ∧ (h 4 2).2 ≤ 60) (hc : 0 ≤ (h 2 2).2 ∧ (h 2 2).2 ≤ 60) (hn : n ≤ 2147483647)
    (k0 : ((h 4 1).2 = -1) → Q (zset h 0 0 (0, 3), some (0, 0)))
    (k1 : ((h 4 1).2 ≠ -1) → ((h 2 1).2 = -1) → Q (zset h 0 0 (0, 3), some (0, 0)))
    (k2 : ((h 4 1).2 ≠ -1) → ((h 2 1).2 ≠ -1) → ((h 4 1).2 = (h 2 1).2) → (n < 0) → Q (zset h 0 0 (0, 6), some (0, 0)))
    (k3 : ((h 4 1).2 ≠ -1) → ((h 2 1).2 ≠ -1) → ((h 4 1).2 = (h 2 1).2) → (0 ≤ n) → (i < 0) → Q (zset h 0 0 (0, 4), some (0, 0)))
    (k4 : ((h 4 1).2 ≠ -1) → ((h 2 1).2 ≠ -1) → ((h 4 1).2 = (h 2 1).2) → (0 ≤ n) → (0 ≤ i) → (((h 4 2).2 - n) < i) → Q (zset h 0 0 (0, 4), some (0, 0)))
    (k5 : ((h 4 1).2 ≠ -1) → ((h 2 1).2 ≠ -1) → ((h 4 1).2 = (h 2 1).2) → (0 ≤ n) → (0 ≤ i) → (i ≤ ((h 4 2).2 - n)) → (j < 0) → Q (zset h 0 0 (0, 4), some (0, 0)))
    (k6 : ((h 4 1).2 ≠ -1) → ((h 2 1).2 ≠ -1) → ((h 4 1).2 = (h 2 1).2) → (0 ≤ n) → (0 ≤ i) → (i ≤ ((h 4 2).2 - n)) → (0 ≤ j) → (((h 2 2).2 - n) < j) → Q (zset h 0 0 (0, 4), some (0, 0)))
    (k7 : ((h 4 1).2 ≠ -1) → ((h 2 1).2 ≠ -1) → ((h 4 1).2 = (h 2 1).2) → (0 ≤ n) → (0 ≤ i) → (i ≤ ((h 4 2).2 - n)) → (0 ≤ j) → (j ≤ ((h 2 2).2 - n)) → (0 ≤ n) → (0 ≤ i) → (0 ≤ j) → (i + n ≤ 60) → (j + n ≤ 60) → Q (zset (zcopy h 5 i.toNat 3 j.toNat n.toNat) 0 0 (0, 0), some (0, 1)))
    (k8 : ((h 4 1).2 ≠ -1) → ((h 2 1).2 ≠ -1) → ((h 4 1).2 ≠ (h 2 1).2) → Q (zset h 0 0 (0, 11), some (0, 0))) :
    vP D T N 172 0 h [some (2, 0), some (0, 1), some (0, i), some (0, 0), some (0, j), some (0, n), none, none] [] Q := by
  refine v_load (v := (0, 1)) (hT _ zt_X11_pour rfl _ _ rfl) rfl rfl ?_
  refine v_call (w := 1) [some (0, 1)] hO (hT _ zt_X11_pour rfl _ _ rfl) rfl rfl ?_
  refine v_load (v := (0, 1)) (hT _ zt_X11_isTray rfl _ _ rfl) rfl rfl ?_
  refine v_if (hT _ zt_X11_isTray rfl _ _ rfl) (fun hc1 => absurd (show (1 : Int) < 0 from hc1) (by decide)) (fun _ => ?_)
  refine v_load (v := (0, 1)) (hT _ zt_X11_isTray rfl _ _ rfl) rfl rfl ?_
  refine v_push (4) (hT _ zt_X11_isTray rfl _ _ rfl) rfl ?_
  refine v_ic (hT _ zt_X11_isTray rfl _ _ rfl) (fun _ => ?_) (fun hc2 => absurd (show (1 : Int) < 4 from (by decide)) hc2)
  refine v_push (1) (hT _ zt_X11_isTray rfl _ _ rfl) rfl ?_
  refine v_goto (hT _ zt_X11_isTray rfl _ _ rfl) ?_
  refine v_ret (hT _ zt_X11_isTray rfl _ _ rfl) (Or.inl rfl) ?_
  show vP D T N 172 4 h [some (2, 0), some (0, 1), some (0, i), some (0, 0), some (0, j), some (0, n), none, none] [(0, 1)] _
  refine v_if (hT _ zt_X11_pour rfl _ _ rfl) (fun hc3 => absurd (show (1 : Int) = 0 from hc3) (by decide)) (fun _ => ?_)
  refine v_load (v := (0, 0)) (hT _ zt_X11_pour rfl _ _ rfl) rfl rfl ?_
  refine v_call (w := 1) [some (0, 0)] hO (hT _ zt_X11_pour rfl _ _ rfl) rfl rfl ?_
  refine v_load (v := (0, 0)) (hT _ zt_X11_isTray rfl _ _ rfl) rfl rfl ?_
  refine v_if (hT _ zt_X11_isTray rfl _ _ rfl) (fun hc4 => absurd (show (0 : Int) < 0 from hc4) (by decide)) (fun _ => ?_)
  refine v_load (v := (0, 0)) (hT _ zt_X11_isTray rfl _ _ rfl) rfl rfl ?_
  refine v_push (4) (hT _ zt_X11_isTray rfl _ _ rfl) rfl ?_
  refine v_ic (hT _ zt_X11_isTray rfl _ _ rfl) (fun _ => ?_) (fun hc5 => absurd (show (0 : Int) < 4 from (by decide)) hc5)
  refine v_push (1) (hT _ zt_X11_isTray rfl _ _ rfl) rfl ?_
  refine v_goto (hT _ zt_X11_isTray rfl _ _ rfl) ?_
  refine v_ret (hT _ zt_X11_isTray rfl _ _ rfl) (Or.inl rfl) ?_
  show vP D T N 172 11 h [some (2, 0), some (0, 1), some (0, i), some (0, 0), some (0, j), some (0, n), none, none] [(0, 1)] _
  refine v_if (hT _ zt_X11_pour rfl _ _ rfl) (fun hc6 => absurd (show (1 : Int) = 0 from hc6) (by decide)) (fun _ => ?_)
  refine v_load (v := (2, 0)) (hT _ zt_X11_pour rfl _ _ rfl) rfl rfl ?_
  refine v_getR (c := 1) (r := 0) (hT _ zt_X11_pour rfl _ _ rfl) rfl rfl rfl ?_
  refine v_load (v := (0, 1)) (hT _ zt_X11_pour rfl _ _ rfl) rfl rfl ?_
  refine v_aldV (v := (2, 4)) (r := 1) (hT _ zt_X11_pour rfl _ _ rfl) rfl rfl (fun hv _ _ => hv.ref rfl) (fun ha7 hb8 => ?_)
  refine v_store1 [some (2, 0), some (0, 1), some (0, i), some (0, 0), some (0, j), some (0, n), some (2, 4), none] (hT _ zt_X11_pour rfl _ _ rfl) ⟨rfl, Nat.ne_of_beq_eq_false rfl⟩ (Nat.le_of_ble_eq_true rfl) rfl ?_
  refine v_load (v := (2, 0)) (hT _ zt_X11_pour rfl _ _ rfl) rfl rfl ?_
  refine v_getR (c := 1) (r := 0) (hT _ zt_X11_pour rfl _ _ rfl) rfl rfl rfl ?_
  refine v_load (v := (0, 0)) (hT _ zt_X11_pour rfl _ _ rfl) rfl rfl ?_
  refine v_aldV (v := (2, 2)) (r := 1) (hT _ zt_X11_pour rfl _ _ rfl) rfl rfl (fun hv _ _ => hv.ref rfl) (fun ha9 hb10 => ?_)
  refine v_store1 [some (2, 0), some (0, 1), some (0, i), some (0, 0), some (0, j), some (0, n), some (2, 4), some (2, 2)] (hT _ zt_X11_pour rfl _ _ rfl) ⟨rfl, Nat.ne_of_beq_eq_false rfl⟩ (Nat.le_of_ble_eq_true rfl) rfl ?_
  refine v_load (v := (2, 4)) (hT _ zt_X11_pour rfl _ _ rfl) rfl rfl ?_
  refine v_call (w := 1) [some (2, 4)] hO (hT _ zt_X11_pour rfl _ _ rfl) rfl rfl ?_
  refine v_load (v := (2, 4)) (hT _ zt_X9_isMissing rfl _ _ rfl) rfl rfl ?_
  refine v_getI (t := 0) (r := 4) (hT _ zt_X9_isMissing rfl _ _ rfl) rfl rfl rfl ?_
  refine v_push (-1) (hT _ zt_X9_isMissing rfl _ _ rfl) rfl ?_
  refine v_ic (hT _ zt_X9_isMissing rfl _ _ rfl) (fun hc11 => ?_) (fun hc11 => ?_)
  · have hc11 : (h 4 1).2 = -1 := hc11
    refine v_push (1) (hT _ zt_X9_isMissing rfl _ _ rfl) rfl ?_
    refine v_goto (hT _ zt_X9_isMissing rfl _ _ rfl) ?_
    refine v_ret (hT _ zt_X9_isMissing rfl _ _ rfl) (Or.inl rfl) ?_
    show vP D T N 172 41 h [some (2, 0), some (0, 1), some (0, i), some (0, 0), some (0, j), some (0, n), some (2, 4), some (2, 2)] [(0, 1)] _
    refine v_if (hT _ zt_X11_pour rfl _ _ rfl) (fun hc12 => absurd (show (1 : Int) = 0 from hc12) (by decide)) (fun _ => ?_)
    refine v_load (v := (2, 0)) (hT _ zt_X11_pour rfl _ _ rfl) rfl rfl ?_
    refine v_push (3) (hT _ zt_X11_pour rfl _ _ rfl) rfl ?_
    refine v_call (w := 2) [some (2, 0), some (0, 3)] hO (hT _ zt_X11_pour rfl _ _ rfl) rfl rfl ?_
    refine v_load (v := (2, 0)) (hT _ zt_X11_refuse rfl _ _ rfl) rfl rfl ?_
    refine v_load (v := (0, 3)) (hT _ zt_X11_refuse rfl _ _ rfl) rfl rfl ?_
    refine v_putf (r := 0) hO (hT _ zt_X11_refuse rfl _ _ rfl) rfl (fun hf13 => ?_)
    refine v_push (0) (hT _ zt_X11_refuse rfl _ _ rfl) rfl ?_
    refine v_ret (hT _ zt_X11_refuse rfl _ _ rfl) (Or.inl rfl) ?_
    show vP D T N 172 57 (zset h 0 0 (0, 3)) [some (2, 0), some (0, 1), some (0, i), some (0, 0), some (0, j), some (0, n), some (2, 4), some (2, 2)] [(0, 0)] _
    refine v_ret (hT _ zt_X11_pour rfl _ _ rfl) (Or.inl rfl) ?_
    exact k0 hc11
  · have hc11 : (h 4 1).2 ≠ -1 := hc11
    refine v_push (0) (hT _ zt_X9_isMissing rfl _ _ rfl) rfl ?_
    refine v_ret (hT _ zt_X9_isMissing rfl _ _ rfl) (Or.inl rfl) ?_
    show vP D T N 172 41 h [some (2, 0), some (0, 1), some (0, i), some (0, 0), some (0, j), some (0, n), some (2, 4), some (2, 2)] [(0, 0)] _
    refine v_if (hT _ zt_X11_pour rfl _ _ rfl) (fun _ => ?_) (fun hc14 => absurd (show (0 : Int) = 0 from (by decide)) hc14)
    refine v_load (v := (2, 2)) (hT _ zt_X11_pour rfl _ _ rfl) rfl rfl ?_
    refine v_call (w := 1) [some (2, 2)] hO (hT _ zt_X11_pour rfl _ _ rfl) rfl rfl ?_
    refine v_load (v := (2, 2)) (hT _ zt_X9_isMissing rfl _ _ rfl) rfl rfl ?_
    refine v_getI (t := 0) (r := 2) (hT _ zt_X9_isMissing rfl _ _ rfl) rfl rfl rfl ?_
    refine v_push (-1) (hT _ zt_X9_isMissing rfl _ _ rfl) rfl ?_
    refine v_ic (hT _ zt_X9_isMissing rfl _ _ rfl) (fun hc15 => ?_) (fun hc15 => ?_)
    · have hc15 : (h 2 1).2 = -1 := hc15
      refine v_push (1) (hT _ zt_X9_isMissing rfl _ _ rfl) rfl ?_
      refine v_goto (hT _ zt_X9_isMissing rfl _ _ rfl) ?_
      refine v_ret (hT _ zt_X9_isMissing rfl _ _ rfl) (Or.inl rfl) ?_
      show vP D T N 172 49 h [some (2, 0), some (0, 1), some (0, i), some (0, 0), some (0, j), some (0, n), some (2, 4), some (2, 2)] [(0, 1)] _
      refine v_if (hT _ zt_X11_pour rfl _ _ rfl) (fun hc16 => absurd (show (1 : Int) = 0 from hc16) (by decide)) (fun _ => ?_)
      refine v_load (v := (2, 0)) (hT _ zt_X11_pour rfl _ _ rfl) rfl rfl ?_
      refine v_push (3) (hT _ zt_X11_pour rfl _ _ rfl) rfl ?_
      refine v_call (w := 2) [some (2, 0), some (0, 3)] hO (hT _ zt_X11_pour rfl _ _ rfl) rfl rfl ?_
      refine v_load (v := (2, 0)) (hT _ zt_X11_refuse rfl _ _ rfl) rfl rfl ?_
      refine v_load (v := (0, 3)) (hT _ zt_X11_refuse rfl _ _ rfl) rfl rfl ?_
      refine v_putf (r := 0) hO (hT _ zt_X11_refuse rfl _ _ rfl) rfl (fun hf17 => ?_)
      refine v_push (0) (hT _ zt_X11_refuse rfl _ _ rfl) rfl ?_
      refine v_ret (hT _ zt_X11_refuse rfl _ _ rfl) (Or.inl rfl) ?_
      show vP D T N 172 57 (zset h 0 0 (0, 3)) [some (2, 0), some (0, 1), some (0, i), some (0, 0), some (0, j), some (0, n), some (2, 4), some (2, 2)] [(0, 0)] _
      refine v_ret (hT _ zt_X11_pour rfl _ _ rfl) (Or.inl rfl) ?_
      exact k1 hc11 hc15
    · have hc15 : (h 2 1).2 ≠ -1 := hc15
      refine v_push (0) (hT _ zt_X9_isMissing rfl _ _ rfl) rfl ?_
      refine v_ret (hT _ zt_X9_isMissing rfl _ _ rfl) (Or.inl rfl) ?_
      show vP D T N 172 49 h [some (2, 0), some (0, 1), some (0, i), some (0, 0), some (0, j), some (0, n), some (2, 4), some (2, 2)] [(0, 0)] _
      refine v_if (hT _ zt_X11_pour rfl _ _ rfl) (fun _ => ?_) (fun hc18 => absurd (show (0 : Int) = 0 from (by decide)) hc18)
      refine v_load (v := (2, 4)) (hT _ zt_X11_pour rfl _ _ rfl) rfl rfl ?_
      refine v_getI (t := 0) (r := 4) (hT _ zt_X11_pour rfl _ _ rfl) rfl rfl rfl ?_
      refine v_load (v := (2, 2)) (hT _ zt_X11_pour rfl _ _ rfl) rfl rfl ?_
      refine v_getI (t := 0) (r := 2) (hT _ zt_X11_pour rfl _ _ rfl) rfl rfl rfl ?_
      refine v_ic (hT _ zt_X11_pour rfl _ _ rfl) (fun hc19 => ?_) (fun hc19 => ?_)
      · have hc19 : (h 4 1).2 = (h 2 1).2 := hc19
        refine v_load (v := (0, n)) (hT _ zt_X11_pour rfl _ _ rfl) rfl rfl ?_
        refine v_if (hT _ zt_X11_pour rfl _ _ rfl) (fun hc20 => ?_) (fun hc20 => ?_)
        · have hc20 : n < 0 := hc20
          refine v_load (v := (2, 0)) (hT _ zt_X11_pour rfl _ _ rfl) rfl rfl ?_
          refine v_push (6) (hT _ zt_X11_pour rfl _ _ rfl) rfl ?_
          refine v_call (w := 2) [some (2, 0), some (0, 6)] hO (hT _ zt_X11_pour rfl _ _ rfl) rfl rfl ?_
          refine v_load (v := (2, 0)) (hT _ zt_X11_refuse rfl _ _ rfl) rfl rfl ?_
          refine v_load (v := (0, 6)) (hT _ zt_X11_refuse rfl _ _ rfl) rfl rfl ?_
          refine v_putf (r := 0) hO (hT _ zt_X11_refuse rfl _ _ rfl) rfl (fun hf21 => ?_)
          refine v_push (0) (hT _ zt_X11_refuse rfl _ _ rfl) rfl ?_
          refine v_ret (hT _ zt_X11_refuse rfl _ _ rfl) (Or.inl rfl) ?_
          show vP D T N 172 89 (zset h 0 0 (0, 6)) [some (2, 0), some (0, 1), some (0, i), some (0, 0), some (0, j), some (0, n), some (2, 4), some (2, 2)] [(0, 0)] _
          refine v_ret (hT _ zt_X11_pour rfl _ _ rfl) (Or.inl rfl) ?_
          exact k2 hc11 hc15 hc19 hc20
        · have hc20 : 0 ≤ n := Int.not_lt.mp hc20
          refine v_load (v := (2, 4)) (hT _ zt_X11_pour rfl _ _ rfl) rfl rfl ?_
          refine v_load (v := (0, i)) (hT _ zt_X11_pour rfl _ _ rfl) rfl rfl ?_
          refine v_load (v := (0, n)) (hT _ zt_X11_pour rfl _ _ rfl) rfl rfl ?_
          refine v_call (w := 3) [some (2, 4), some (0, i), some (0, n)] hO (hT _ zt_X11_pour rfl _ _ rfl) rfl rfl ?_
          refine v_load (v := (0, i)) (hT _ zt_X9_hasPlaces rfl _ _ rfl) rfl rfl ?_
          refine v_if (hT _ zt_X9_hasPlaces rfl _ _ rfl) (fun hc22 => ?_) (fun hc22 => ?_)
          · have hc22 : i < 0 := hc22
            refine v_push (0) (hT _ zt_X9_hasPlaces rfl _ _ rfl) rfl ?_
            refine v_ret (hT _ zt_X9_hasPlaces rfl _ _ rfl) (Or.inl rfl) ?_
            show vP D T N 172 98 h [some (2, 0), some (0, 1), some (0, i), some (0, 0), some (0, j), some (0, n), some (2, 4), some (2, 2)] [(0, 0)] _
            refine v_if (hT _ zt_X11_pour rfl _ _ rfl) (fun _ => ?_) (fun hc23 => absurd (show (0 : Int) = 0 from (by decide)) hc23)
            refine v_load (v := (2, 0)) (hT _ zt_X11_pour rfl _ _ rfl) rfl rfl ?_
            refine v_push (4) (hT _ zt_X11_pour rfl _ _ rfl) rfl ?_
            refine v_call (w := 2) [some (2, 0), some (0, 4)] hO (hT _ zt_X11_pour rfl _ _ rfl) rfl rfl ?_
            refine v_load (v := (2, 0)) (hT _ zt_X11_refuse rfl _ _ rfl) rfl rfl ?_
            refine v_load (v := (0, 4)) (hT _ zt_X11_refuse rfl _ _ rfl) rfl rfl ?_
            refine v_putf (r := 0) hO (hT _ zt_X11_refuse rfl _ _ rfl) rfl (fun hf24 => ?_)
            refine v_push (0) (hT _ zt_X11_refuse rfl _ _ rfl) rfl ?_
            refine v_ret (hT _ zt_X11_refuse rfl _ _ rfl) (Or.inl rfl) ?_
            show vP D T N 172 118 (zset h 0 0 (0, 4)) [some (2, 0), some (0, 1), some (0, i), some (0, 0), some (0, j), some (0, n), some (2, 4), some (2, 2)] [(0, 0)] _
            refine v_ret (hT _ zt_X11_pour rfl _ _ rfl) (Or.inl rfl) ?_
            exact k3 hc11 hc15 hc19 hc20 hc22
          · have hc22 : 0 ≤ i := Int.not_lt.mp hc22
            refine v_load (v := (0, i)) (hT _ zt_X9_hasPlaces rfl _ _ rfl) rfl rfl ?_
            refine v_load (v := (2, 4)) (hT _ zt_X9_hasPlaces rfl _ _ rfl) rfl rfl ?_
            refine v_getI (t := 0) (r := 4) (hT _ zt_X9_hasPlaces rfl _ _ rfl) rfl rfl rfl ?_
            refine v_load (v := (0, n)) (hT _ zt_X9_hasPlaces rfl _ _ rfl) rfl rfl ?_
            refine v_bin (w := ((h 4 2).2 - n)) (hT _ zt_X9_hasPlaces rfl _ _ rfl) (hq_sub (by omega) (by omega)) ?_
            refine v_ic (hT _ zt_X9_hasPlaces rfl _ _ rfl) (fun hc25 => ?_) (fun hc25 => ?_)
            · have hc25 : ((h 4 2).2 - n) < i := hc25
              refine v_push (0) (hT _ zt_X9_hasPlaces rfl _ _ rfl) rfl ?_
              refine v_ret (hT _ zt_X9_hasPlaces rfl _ _ rfl) (Or.inl rfl) ?_
              show vP D T N 172 98 h [some (2, 0), some (0, 1), some (0, i), some (0, 0), some (0, j), some (0, n), some (2, 4), some (2, 2)] [(0, 0)] _
              refine v_if (hT _ zt_X11_pour rfl _ _ rfl) (fun _ => ?_) (fun hc26 => absurd (show (0 : Int) = 0 from (by decide)) hc26)
              refine v_load (v := (2, 0)) (hT _ zt_X11_pour rfl _ _ rfl) rfl rfl ?_
              refine v_push (4) (hT _ zt_X11_pour rfl _ _ rfl) rfl ?_
              refine v_call (w := 2) [some (2, 0), some (0, 4)] hO (hT _ zt_X11_pour rfl _ _ rfl) rfl rfl ?_
              refine v_load (v := (2, 0)) (hT _ zt_X11_refuse rfl _ _ rfl) rfl rfl ?_
              refine v_load (v := (0, 4)) (hT _ zt_X11_refuse rfl _ _ rfl) rfl rfl ?_
              refine v_putf (r := 0) hO (hT _ zt_X11_refuse rfl _ _ rfl) rfl (fun hf27 => ?_)
              refine v_push (0) (hT _ zt_X11_refuse rfl _ _ rfl) rfl ?_
              refine v_ret (hT _ zt_X11_refuse rfl _ _ rfl) (Or.inl rfl) ?_
              show vP D T N 172 118 (zset h 0 0 (0, 4)) [some (2, 0), some (0, 1), some (0, i), some (0, 0), some (0, j), some (0, n), some (2, 4), some (2, 2)] [(0, 0)] _
              refine v_ret (hT _ zt_X11_pour rfl _ _ rfl) (Or.inl rfl) ?_
              exact k4 hc11 hc15 hc19 hc20 hc22 hc25
            · have hc25 : i ≤ ((h 4 2).2 - n) := Int.not_lt.mp hc25
              refine v_push (1) (hT _ zt_X9_hasPlaces rfl _ _ rfl) rfl ?_
              refine v_goto (hT _ zt_X9_hasPlaces rfl _ _ rfl) ?_
              refine v_ret (hT _ zt_X9_hasPlaces rfl _ _ rfl) (Or.inl rfl) ?_
              show vP D T N 172 98 h [some (2, 0), some (0, 1), some (0, i), some (0, 0), some (0, j), some (0, n), some (2, 4), some (2, 2)] [(0, 1)] _
              refine v_if (hT _ zt_X11_pour rfl _ _ rfl) (fun hc28 => absurd (show (1 : Int) = 0 from hc28) (by decide)) (fun _ => ?_)
              refine v_load (v := (2, 2)) (hT _ zt_X11_pour rfl _ _ rfl) rfl rfl ?_
              refine v_load (v := (0, j)) (hT _ zt_X11_pour rfl _ _ rfl) rfl rfl ?_
              refine v_load (v := (0, n)) (hT _ zt_X11_pour rfl _ _ rfl) rfl rfl ?_
              refine v_call (w := 3) [some (2, 2), some (0, j), some (0, n)] hO (hT _ zt_X11_pour rfl _ _ rfl) rfl rfl ?_
              refine v_load (v := (0, j)) (hT _ zt_X9_hasPlaces rfl _ _ rfl) rfl rfl ?_
              refine v_if (hT _ zt_X9_hasPlaces rfl _ _ rfl) (fun hc29 => ?_) (fun hc29 => ?_)
              · have hc29 : j < 0 := hc29
                refine v_push (0) (hT _ zt_X9_hasPlaces rfl _ _ rfl) rfl ?_
                refine v_ret (hT _ zt_X9_hasPlaces rfl _ _ rfl) (Or.inl rfl) ?_
                show vP D T N 172 110 h [some (2, 0), some (0, 1), some (0, i), some (0, 0), some (0, j), some (0, n), some (2, 4), some (2, 2)] [(0, 0)] _
                refine v_if (hT _ zt_X11_pour rfl _ _ rfl) (fun _ => ?_) (fun hc30 => absurd (show (0 : Int) = 0 from (by decide)) hc30)
                refine v_load (v := (2, 0)) (hT _ zt_X11_pour rfl _ _ rfl) rfl rfl ?_
                refine v_push (4) (hT _ zt_X11_pour rfl _ _ rfl) rfl ?_
                refine v_call (w := 2) [some (2, 0), some (0, 4)] hO (hT _ zt_X11_pour rfl _ _ rfl) rfl rfl ?_
                refine v_load (v := (2, 0)) (hT _ zt_X11_refuse rfl _ _ rfl) rfl rfl ?_
                refine v_load (v := (0, 4)) (hT _ zt_X11_refuse rfl _ _ rfl) rfl rfl ?_
                refine v_putf (r := 0) hO (hT _ zt_X11_refuse rfl _ _ rfl) rfl (fun hf31 => ?_)
                refine v_push (0) (hT _ zt_X11_refuse rfl _ _ rfl) rfl ?_
                refine v_ret (hT _ zt_X11_refuse rfl _ _ rfl) (Or.inl rfl) ?_
                show vP D T N 172 118 (zset h 0 0 (0, 4)) [some (2, 0), some (0, 1), some (0, i), some (0, 0), some (0, j), some (0, n), some (2, 4), some (2, 2)] [(0, 0)] _
                refine v_ret (hT _ zt_X11_pour rfl _ _ rfl) (Or.inl rfl) ?_
                exact k5 hc11 hc15 hc19 hc20 hc22 hc25 hc29
              · have hc29 : 0 ≤ j := Int.not_lt.mp hc29
                refine v_load (v := (0, j)) (hT _ zt_X9_hasPlaces rfl _ _ rfl) rfl rfl ?_
                refine v_load (v := (2, 2)) (hT _ zt_X9_hasPlaces rfl _ _ rfl) rfl rfl ?_
                refine v_getI (t := 0) (r := 2) (hT _ zt_X9_hasPlaces rfl _ _ rfl) rfl rfl rfl ?_
                refine v_load (v := (0, n)) (hT _ zt_X9_hasPlaces rfl _ _ rfl) rfl rfl ?_
                refine v_bin (w := ((h 2 2).2 - n)) (hT _ zt_X9_hasPlaces rfl _ _ rfl) (hq_sub (by omega) (by omega)) ?_
                refine v_ic (hT _ zt_X9_hasPlaces rfl _ _ rfl) (fun hc32 => ?_) (fun hc32 => ?_)
                · have hc32 : ((h 2 2).2 - n) < j := hc32
                  refine v_push (0) (hT _ zt_X9_hasPlaces rfl _ _ rfl) rfl ?_
                  refine v_ret (hT _ zt_X9_hasPlaces rfl _ _ rfl) (Or.inl rfl) ?_
                  show vP D T N 172 110 h [some (2, 0), some (0, 1), some (0, i), some (0, 0), some (0, j), some (0, n), some (2, 4), some (2, 2)] [(0, 0)] _
                  refine v_if (hT _ zt_X11_pour rfl _ _ rfl) (fun _ => ?_) (fun hc33 => absurd (show (0 : Int) = 0 from (by decide)) hc33)
                  refine v_load (v := (2, 0)) (hT _ zt_X11_pour rfl _ _ rfl) rfl rfl ?_
                  refine v_push (4) (hT _ zt_X11_pour rfl _ _ rfl) rfl ?_
                  refine v_call (w := 2) [some (2, 0), some (0, 4)] hO (hT _ zt_X11_pour rfl _ _ rfl) rfl rfl ?_
                  refine v_load (v := (2, 0)) (hT _ zt_X11_refuse rfl _ _ rfl) rfl rfl ?_
                  refine v_load (v := (0, 4)) (hT _ zt_X11_refuse rfl _ _ rfl) rfl rfl ?_
                  refine v_putf (r := 0) hO (hT _ zt_X11_refuse rfl _ _ rfl) rfl (fun hf34 => ?_)
                  refine v_push (0) (hT _ zt_X11_refuse rfl _ _ rfl) rfl ?_
                  refine v_ret (hT _ zt_X11_refuse rfl _ _ rfl) (Or.inl rfl) ?_
                  show vP D T N 172 118 (zset h 0 0 (0, 4)) [some (2, 0), some (0, 1), some (0, i), some (0, 0), some (0, j), some (0, n), some (2, 4), some (2, 2)] [(0, 0)] _
                  refine v_ret (hT _ zt_X11_pour rfl _ _ rfl) (Or.inl rfl) ?_
                  exact k6 hc11 hc15 hc19 hc20 hc22 hc25 hc29 hc32
                · have hc32 : j ≤ ((h 2 2).2 - n) := Int.not_lt.mp hc32
                  refine v_push (1) (hT _ zt_X9_hasPlaces rfl _ _ rfl) rfl ?_
                  refine v_goto (hT _ zt_X9_hasPlaces rfl _ _ rfl) ?_
                  refine v_ret (hT _ zt_X9_hasPlaces rfl _ _ rfl) (Or.inl rfl) ?_
                  show vP D T N 172 110 h [some (2, 0), some (0, 1), some (0, i), some (0, 0), some (0, j), some (0, n), some (2, 4), some (2, 2)] [(0, 1)] _
                  refine v_if (hT _ zt_X11_pour rfl _ _ rfl) (fun hc35 => absurd (show (1 : Int) = 0 from hc35) (by decide)) (fun _ => ?_)
                  refine v_load (v := (2, 4)) (hT _ zt_X11_pour rfl _ _ rfl) rfl rfl ?_
                  refine v_getR (c := 5) (r := 4) (hT _ zt_X11_pour rfl _ _ rfl) rfl rfl rfl ?_
                  refine v_load (v := (0, i)) (hT _ zt_X11_pour rfl _ _ rfl) rfl rfl ?_
                  refine v_load (v := (2, 2)) (hT _ zt_X11_pour rfl _ _ rfl) rfl rfl ?_
                  refine v_getR (c := 3) (r := 2) (hT _ zt_X11_pour rfl _ _ rfl) rfl rfl rfl ?_
                  refine v_load (v := (0, j)) (hT _ zt_X11_pour rfl _ _ rfl) rfl rfl ?_
                  refine v_load (v := (0, n)) (hT _ zt_X11_pour rfl _ _ rfl) rfl rfl ?_
                  refine v_copy (r0 := 5) (r1 := 3) (hT _ zt_X11_pour rfl _ _ rfl) rfl rfl rfl rfl (fun hd36 hd37 hd38 hd39 hd40 => ?_)
                  refine v_load (v := (2, 0)) (hT _ zt_X11_pour rfl _ _ rfl) rfl rfl ?_
                  refine v_call (w := 1) [some (2, 0)] hO (hT _ zt_X11_pour rfl _ _ rfl) rfl rfl ?_
                  refine v_load (v := (2, 0)) (hT _ zt_X11_accept rfl _ _ rfl) rfl rfl ?_
                  refine v_push (0) (hT _ zt_X11_accept rfl _ _ rfl) rfl ?_
                  refine v_putf (r := 0) hO (hT _ zt_X11_accept rfl _ _ rfl) rfl (fun hf41 => ?_)
                  refine v_push (1) (hT _ zt_X11_accept rfl _ _ rfl) rfl ?_
                  refine v_ret (hT _ zt_X11_accept rfl _ _ rfl) (Or.inl rfl) ?_
                  show vP D T N 172 141 (zset (zcopy h 5 i.toNat 3 j.toNat n.toNat) 0 0 (0, 0)) [some (2, 0), some (0, 1), some (0, i), some (0, 0), some (0, j), some (0, n), some (2, 4), some (2, 2)] [(0, 1)] _
                  refine v_ret (hT _ zt_X11_pour rfl _ _ rfl) (Or.inl rfl) ?_
                  exact k7 hc11 hc15 hc19 hc20 hc22 hc25 hc29 hc32 hd36 hd37 hd38 hd39 hd40
      · have hc19 : (h 4 1).2 ≠ (h 2 1).2 := hc19
        refine v_load (v := (2, 0)) (hT _ zt_X11_pour rfl _ _ rfl) rfl rfl ?_
        refine v_push (11) (hT _ zt_X11_pour rfl _ _ rfl) rfl ?_
        refine v_call (w := 2) [some (2, 0), some (0, 11)] hO (hT _ zt_X11_pour rfl _ _ rfl) rfl rfl ?_
        refine v_load (v := (2, 0)) (hT _ zt_X11_refuse rfl _ _ rfl) rfl rfl ?_
        refine v_load (v := (0, 11)) (hT _ zt_X11_refuse rfl _ _ rfl) rfl rfl ?_
        refine v_putf (r := 0) hO (hT _ zt_X11_refuse rfl _ _ rfl) rfl (fun hf42 => ?_)
        refine v_push (0) (hT _ zt_X11_refuse rfl _ _ rfl) rfl ?_
        refine v_ret (hT _ zt_X11_refuse rfl _ _ rfl) (Or.inl rfl) ?_
        show vP D T N 172 77 (zset h 0 0 (0, 11)) [some (2, 0), some (0, 1), some (0, i), some (0, 0), some (0, j), some (0, n), some (2, 4), some (2, 2)] [(0, 0)] _
        refine v_ret (hT _ zt_X11_pour rfl _ _ rfl) (Or.inl rfl) ?_
        exact k8 hc11 hc15 hc19
theorem y_X11_pour_1_1 {D : zD} {T : zT} (hT : hTab T) (hO : vOK T) {N : Nat} {h : zH} {Q : zR → Prop} (i j n : Int) (hv0 : zHv h) (hb : 0 ≤ (h 4 2).2 ∧ (h 4 2).2 ≤ 60) (hc : 0 ≤ (h 4 2).2 ∧ (h 4 2).2 ≤ 60) (hn : n ≤ 2147483647)
    (k0 : ((h 4 1).2 = -1) → Q (zset h 0 0 (0, 3), some (0, 0)))
    (k1 : ((h 4 1).2 ≠ -1) → ((h 4 1).2 = (h 4 1).2) → (n < 0) → Q (zset h 0 0 (0, 6), some (0, 0)))
    (k2 : ((h 4 1).2 ≠ -1) → ((h 4 1).2 = (h 4 1).2) → (0 ≤ n) → (i < 0) → Q (zset h 0 0 (0, 4), some (0, 0)))
    (k3 : ((h 4 1).2 ≠ -1) → ((h 4 1).2 = (h 4 1).2) → (0 ≤ n) → (0 ≤ i) → (((h 4 2).2 - n) < i) → Q (zset h 0 0 (0, 4), some (0, 0)))
    (k4 : ((h 4 1).2 ≠ -1) → ((h 4 1).2 = (h 4 1).2) → (0 ≤ n) → (0 ≤ i) → (i ≤ ((h 4 2).2 - n)) → (j < 0) → Q (zset h 0 0 (0, 4), some (0, 0)))
    (k5 : ((h 4 1).2 ≠ -1) → ((h 4 1).2 = (h 4 1).2) → (0 ≤ n) → (0 ≤ i) → (i ≤ ((h 4 2).2 - n)) → (0 ≤ j) → (((h 4 2).2 - n) < j) → Q (zset h 0 0 (0, 4), some (0, 0)))
    (k6 : ((h 4 1).2 ≠ -1) → ((h 4 1).2 = (h 4 1).2) → (0 ≤ n) → (0 ≤ i) → (i ≤ ((h 4 2).2 - n)) → (0 ≤ j) → (j ≤ ((h 4 2).2 - n)) → (0 ≤ n) → (0 ≤ i) → (0 ≤ j) → (i + n ≤ 60) → (j + n ≤ 60) → Q (zset (zcopy h 5 i.toNat 5 j.toNat n.toNat) 0 0 (0, 0), some (0, 1)))
    (k7 : ((h 4 1).2 ≠ -1) → ((h 4 1).2 ≠ (h 4 1).2) → Q (zset h 0 0 (0, 11), some (0, 0))) :
    vP D T N 172 0 h [some (2, 0), some (0, 1), some (0, i), some (0, 1), some (0, j), some (0, n), none, none] [] Q := by
  refine v_load (v := (0, 1)) (hT _ zt_X11_pour rfl _ _ rfl) rfl rfl ?_
  refine v_call (w := 1) [some (0, 1)] hO (hT _ zt_X11_pour rfl _ _ rfl) rfl rfl ?_
  refine v_load (v := (0, 1)) (hT _ zt_X11_isTray rfl _ _ rfl) rfl rfl ?_
  refine v_if (hT _ zt_X11_isTray rfl _ _ rfl) (fun hc1 => absurd (show (1 : Int) < 0 from hc1) (by decide)) (fun _ => ?_)
  refine v_load (v := (0, 1)) (hT _ zt_X11_isTray rfl _ _ rfl) rfl rfl ?_
  refine v_push (4) (hT _ zt_X11_isTray rfl _ _ rfl) rfl ?_
  refine v_ic (hT _ zt_X11_isTray rfl _ _ rfl) (fun _ => ?_) (fun hc2 => absurd (show (1 : Int) < 4 from (by decide)) hc2)
  refine v_push (1) (hT _ zt_X11_isTray rfl _ _ rfl) rfl ?_
  refine v_goto (hT _ zt_X11_isTray rfl _ _ rfl) ?_
  refine v_ret (hT _ zt_X11_isTray rfl _ _ rfl) (Or.inl rfl) ?_
  show vP D T N 172 4 h [some (2, 0), some (0, 1), some (0, i), some (0, 1), some (0, j), some (0, n), none, none] [(0, 1)] _
  refine v_if (hT _ zt_X11_pour rfl _ _ rfl) (fun hc3 => absurd (show (1 : Int) = 0 from hc3) (by decide)) (fun _ => ?_)
  refine v_load (v := (0, 1)) (hT _ zt_X11_pour rfl _ _ rfl) rfl rfl ?_
  refine v_call (w := 1) [some (0, 1)] hO (hT _ zt_X11_pour rfl _ _ rfl) rfl rfl ?_
  refine v_load (v := (0, 1)) (hT _ zt_X11_isTray rfl _ _ rfl) rfl rfl ?_
  refine v_if (hT _ zt_X11_isTray rfl _ _ rfl) (fun hc4 => absurd (show (1 : Int) < 0 from hc4) (by decide)) (fun _ => ?_)
  refine v_load (v := (0, 1)) (hT _ zt_X11_isTray rfl _ _ rfl) rfl rfl ?_
  refine v_push (4) (hT _ zt_X11_isTray rfl _ _ rfl) rfl ?_
  refine v_ic (hT _ zt_X11_isTray rfl _ _ rfl) (fun _ => ?_) (fun hc5 => absurd (show (1 : Int) < 4 from (by decide)) hc5)
  refine v_push (1) (hT _ zt_X11_isTray rfl _ _ rfl) rfl ?_
  refine v_goto (hT _ zt_X11_isTray rfl _ _ rfl) ?_
  refine v_ret (hT _ zt_X11_isTray rfl _ _ rfl) (Or.inl rfl) ?_
  show vP D T N 172 11 h [some (2, 0), some (0, 1), some (0, i), some (0, 1), some (0, j), some (0, n), none, none] [(0, 1)] _
  refine v_if (hT _ zt_X11_pour rfl _ _ rfl) (fun hc6 => absurd (show (1 : Int) = 0 from hc6) (by decide)) (fun _ => ?_)
  refine v_load (v := (2, 0)) (hT _ zt_X11_pour rfl _ _ rfl) rfl rfl ?_
  refine v_getR (c := 1) (r := 0) (hT _ zt_X11_pour rfl _ _ rfl) rfl rfl rfl ?_
  refine v_load (v := (0, 1)) (hT _ zt_X11_pour rfl _ _ rfl) rfl rfl ?_
  refine v_aldV (v := (2, 4)) (r := 1) (hT _ zt_X11_pour rfl _ _ rfl) rfl rfl (fun hv _ _ => hv.ref rfl) (fun ha7 hb8 => ?_)
  refine v_store1 [some (2, 0), some (0, 1), some (0, i), some (0, 1), some (0, j), some (0, n), some (2, 4), none] (hT _ zt_X11_pour rfl _ _ rfl) ⟨rfl, Nat.ne_of_beq_eq_false rfl⟩ (Nat.le_of_ble_eq_true rfl) rfl ?_
  refine v_load (v := (2, 0)) (hT _ zt_X11_pour rfl _ _ rfl) rfl rfl ?_
  refine v_getR (c := 1) (r := 0) (hT _ zt_X11_pour rfl _ _ rfl) rfl rfl rfl ?_
  refine v_load (v := (0, 1)) (hT _ zt_X11_pour rfl _ _ rfl) rfl rfl ?_
  refine v_aldV (v := (2, 4)) (r := 1) (hT _ zt_X11_pour rfl _ _ rfl) rfl rfl (fun hv _ _ => hv.ref rfl) (fun ha9 hb10 => ?_)
  refine v_store1 [some (2, 0), some (0, 1), some (0, i), some (0, 1), some (0, j), some (0, n), some (2, 4), some (2, 4)] (hT _ zt_X11_pour rfl _ _ rfl) ⟨rfl, Nat.ne_of_beq_eq_false rfl⟩ (Nat.le_of_ble_eq_true rfl) rfl ?_
  refine v_load (v := (2, 4)) (hT _ zt_X11_pour rfl _ _ rfl) rfl rfl ?_
  refine v_call (w := 1) [some (2, 4)] hO (hT _ zt_X11_pour rfl _ _ rfl) rfl rfl ?_
  refine v_load (v := (2, 4)) (hT _ zt_X9_isMissing rfl _ _ rfl) rfl rfl ?_
  refine v_getI (t := 0) (r := 4) (hT _ zt_X9_isMissing rfl _ _ rfl) rfl rfl rfl ?_
  refine v_push (-1) (hT _ zt_X9_isMissing rfl _ _ rfl) rfl ?_
  refine v_ic (hT _ zt_X9_isMissing rfl _ _ rfl) (fun hc11 => ?_) (fun hc11 => ?_)
  · have hc11 : (h 4 1).2 = -1 := hc11
    refine v_push (1) (hT _ zt_X9_isMissing rfl _ _ rfl) rfl ?_
    refine v_goto (hT _ zt_X9_isMissing rfl _ _ rfl) ?_
    refine v_ret (hT _ zt_X9_isMissing rfl _ _ rfl) (Or.inl rfl) ?_
    show vP D T N 172 41 h [some (2, 0), some (0, 1), some (0, i), some (0, 1), some (0, j), some (0, n), some (2, 4), some (2, 4)] [(0, 1)] _
    refine v_if (hT _ zt_X11_pour rfl _ _ rfl) (fun hc12 => absurd (show (1 : Int) = 0 from hc12) (by decide)) (fun _ => ?_)
    refine v_load (v := (2, 0)) (hT _ zt_X11_pour rfl _ _ rfl) rfl rfl ?_
    refine v_push (3) (hT _ zt_X11_pour rfl _ _ rfl) rfl ?_
    refine v_call (w := 2) [some (2, 0), some (0, 3)] hO (hT _ zt_X11_pour rfl _ _ rfl) rfl rfl ?_
    refine v_load (v := (2, 0)) (hT _ zt_X11_refuse rfl _ _ rfl) rfl rfl ?_
    refine v_load (v := (0, 3)) (hT _ zt_X11_refuse rfl _ _ rfl) rfl rfl ?_
    refine v_putf (r := 0) hO (hT _ zt_X11_refuse rfl _ _ rfl) rfl (fun hf13 => ?_)
    refine v_push (0) (hT _ zt_X11_refuse rfl _ _ rfl) rfl ?_
    refine v_ret (hT _ zt_X11_refuse rfl _ _ rfl) (Or.inl rfl) ?_
    show vP D T N 172 57 (zset h 0 0 (0, 3)) [some (2, 0), some (0, 1), some (0, i), some (0, 1), some (0, j), some (0, n), some (2, 4), some (2, 4)] [(0, 0)] _
    refine v_ret (hT _ zt_X11_pour rfl _ _ rfl) (Or.inl rfl) ?_
    exact k0 hc11
  · have hc11 : (h 4 1).2 ≠ -1 := hc11
    refine v_push (0) (hT _ zt_X9_isMissing rfl _ _ rfl) rfl ?_
    refine v_ret (hT _ zt_X9_isMissing rfl _ _ rfl) (Or.inl rfl) ?_
    show vP D T N 172 41 h [some (2, 0), some (0, 1), some (0, i), some (0, 1), some (0, j), some (0, n), some (2, 4), some (2, 4)] [(0, 0)] _
    refine v_if (hT _ zt_X11_pour rfl _ _ rfl) (fun _ => ?_) (fun hc14 => absurd (show (0 : Int) = 0 from (by decide)) hc14)
    refine v_load (v := (2, 4)) (hT _ zt_X11_pour rfl _ _ rfl) rfl rfl ?_
    refine v_call (w := 1) [some (2, 4)] hO (hT _ zt_X11_pour rfl _ _ rfl) rfl rfl ?_
    refine v_load (v := (2, 4)) (hT _ zt_X9_isMissing rfl _ _ rfl) rfl rfl ?_
    refine v_getI (t := 0) (r := 4) (hT _ zt_X9_isMissing rfl _ _ rfl) rfl rfl rfl ?_
    refine v_push (-1) (hT _ zt_X9_isMissing rfl _ _ rfl) rfl ?_
    refine v_ic (hT _ zt_X9_isMissing rfl _ _ rfl) (fun hc15 => absurd (show (h 4 1).2 = -1 from hc15) (by omega)) (fun _ => ?_)
    refine v_push (0) (hT _ zt_X9_isMissing rfl _ _ rfl) rfl ?_
    refine v_ret (hT _ zt_X9_isMissing rfl _ _ rfl) (Or.inl rfl) ?_
    show vP D T N 172 49 h [some (2, 0), some (0, 1), some (0, i), some (0, 1), some (0, j), some (0, n), some (2, 4), some (2, 4)] [(0, 0)] _
    refine v_if (hT _ zt_X11_pour rfl _ _ rfl) (fun _ => ?_) (fun hc16 => absurd (show (0 : Int) = 0 from (by decide)) hc16)
    refine v_load (v := (2, 4)) (hT _ zt_X11_pour rfl _ _ rfl) rfl rfl ?_
    refine v_getI (t := 0) (r := 4) (hT _ zt_X11_pour rfl _ _ rfl) rfl rfl rfl ?_
    refine v_load (v := (2, 4)) (hT _ zt_X11_pour rfl _ _ rfl) rfl rfl ?_
    refine v_getI (t := 0) (r := 4) (hT _ zt_X11_pour rfl _ _ rfl) rfl rfl rfl ?_
    refine v_ic (hT _ zt_X11_pour rfl _ _ rfl) (fun hc17 => ?_) (fun hc17 => ?_)
    · have hc17 : (h 4 1).2 = (h 4 1).2 := hc17
      refine v_load (v := (0, n)) (hT _ zt_X11_pour rfl _ _ rfl) rfl rfl ?_
      refine v_if (hT _ zt_X11_pour rfl _ _ rfl) (fun hc18 => ?_) (fun hc18 => ?_)
      · have hc18 : n < 0 := hc18
        refine v_load (v := (2, 0)) (hT _ zt_X11_pour rfl _ _ rfl) rfl rfl ?_
        refine v_push (6) (hT _ zt_X11_pour rfl _ _ rfl) rfl ?_
        refine v_call (w := 2) [some (2, 0), some (0, 6)] hO (hT _ zt_X11_pour rfl _ _ rfl) rfl rfl ?_
        refine v_load (v := (2, 0)) (hT _ zt_X11_refuse rfl _ _ rfl) rfl rfl ?_
        refine v_load (v := (0, 6)) (hT _ zt_X11_refuse rfl _ _ rfl) rfl rfl ?_
        refine v_putf (r := 0) hO (hT _ zt_X11_refuse rfl _ _ rfl) rfl (fun hf19 => ?_)
        refine v_push (0) (hT _ zt_X11_refuse rfl _ _ rfl) rfl ?_
        refine v_ret (hT _ zt_X11_refuse rfl _ _ rfl) (Or.inl rfl) ?_
        show vP D T N 172 89 (zset h 0 0 (0, 6)) [some (2, 0), some (0, 1), some (0, i), some (0, 1), some (0, j), some (0, n), some (2, 4), some (2, 4)] [(0, 0)] _
        refine v_ret (hT _ zt_X11_pour rfl _ _ rfl) (Or.inl rfl) ?_
        exact k1 hc11 hc17 hc18
      · have hc18 : 0 ≤ n := Int.not_lt.mp hc18
        refine v_load (v := (2, 4)) (hT _ zt_X11_pour rfl _ _ rfl) rfl rfl ?_
        refine v_load (v := (0, i)) (hT _ zt_X11_pour rfl _ _ rfl) rfl rfl ?_
        refine v_load (v := (0, n)) (hT _ zt_X11_pour rfl _ _ rfl) rfl rfl ?_
        refine v_call (w := 3) [some (2, 4), some (0, i), some (0, n)] hO (hT _ zt_X11_pour rfl _ _ rfl) rfl rfl ?_
        refine v_load (v := (0, i)) (hT _ zt_X9_hasPlaces rfl _ _ rfl) rfl rfl ?_
        refine v_if (hT _ zt_X9_hasPlaces rfl _ _ rfl) (fun hc20 => ?_) (fun hc20 => ?_)
        · have hc20 : i < 0 := hc20
          refine v_push (0) (hT _ zt_X9_hasPlaces rfl _ _ rfl) rfl ?_
          refine v_ret (hT _ zt_X9_hasPlaces rfl _ _ rfl) (Or.inl rfl) ?_
          show vP D T N 172 98 h [some (2, 0), some (0, 1), some (0, i), some (0, 1), some (0, j), some (0, n), some (2, 4), some (2, 4)] [(0, 0)] _
          refine v_if (hT _ zt_X11_pour rfl _ _ rfl) (fun _ => ?_) (fun hc21 => absurd (show (0 : Int) = 0 from (by decide)) hc21)
          refine v_load (v := (2, 0)) (hT _ zt_X11_pour rfl _ _ rfl) rfl rfl ?_
          refine v_push (4) (hT _ zt_X11_pour rfl _ _ rfl) rfl ?_
          refine v_call (w := 2) [some (2, 0), some (0, 4)] hO (hT _ zt_X11_pour rfl _ _ rfl) rfl rfl ?_
          refine v_load (v := (2, 0)) (hT _ zt_X11_refuse rfl _ _ rfl) rfl rfl ?_
          refine v_load (v := (0, 4)) (hT _ zt_X11_refuse rfl _ _ rfl) rfl rfl ?_
          refine v_putf (r := 0) hO (hT _ zt_X11_refuse rfl _ _ rfl) rfl (fun hf22 => ?_)
          refine v_push (0) (hT _ zt_X11_refuse rfl _ _ rfl) rfl ?_
          refine v_ret (hT _ zt_X11_refuse rfl _ _ rfl) (Or.inl rfl) ?_
          show vP D T N 172 118 (zset h 0 0 (0, 4)) [some (2, 0), some (0, 1), some (0, i), some (0, 1), some (0, j), some (0, n), some (2, 4), some (2, 4)] [(0, 0)] _
          refine v_ret (hT _ zt_X11_pour rfl _ _ rfl) (Or.inl rfl) ?_
          exact k2 hc11 hc17 hc18 hc20
        · have hc20 : 0 ≤ i := Int.not_lt.mp hc20
          refine v_load (v := (0, i)) (hT _ zt_X9_hasPlaces rfl _ _ rfl) rfl rfl ?_
          refine v_load (v := (2, 4)) (hT _ zt_X9_hasPlaces rfl _ _ rfl) rfl rfl ?_
          refine v_getI (t := 0) (r := 4) (hT _ zt_X9_hasPlaces rfl _ _ rfl) rfl rfl rfl ?_
          refine v_load (v := (0, n)) (hT _ zt_X9_hasPlaces rfl _ _ rfl) rfl rfl ?_
          refine v_bin (w := ((h 4 2).2 - n)) (hT _ zt_X9_hasPlaces rfl _ _ rfl) (hq_sub (by omega) (by omega)) ?_
          refine v_ic (hT _ zt_X9_hasPlaces rfl _ _ rfl) (fun hc23 => ?_) (fun hc23 => ?_)
          · have hc23 : ((h 4 2).2 - n) < i := hc23
            refine v_push (0) (hT _ zt_X9_hasPlaces rfl _ _ rfl) rfl ?_
            refine v_ret (hT _ zt_X9_hasPlaces rfl _ _ rfl) (Or.inl rfl) ?_
            show vP D T N 172 98 h [some (2, 0), some (0, 1), some (0, i), some (0, 1), some (0, j), some (0, n), some (2, 4), some (2, 4)] [(0, 0)] _
            refine v_if (hT _ zt_X11_pour rfl _ _ rfl) (fun _ => ?_) (fun hc24 => absurd (show (0 : Int) = 0 from (by decide)) hc24)
            refine v_load (v := (2, 0)) (hT _ zt_X11_pour rfl _ _ rfl) rfl rfl ?_
            refine v_push (4) (hT _ zt_X11_pour rfl _ _ rfl) rfl ?_
            refine v_call (w := 2) [some (2, 0), some (0, 4)] hO (hT _ zt_X11_pour rfl _ _ rfl) rfl rfl ?_
            refine v_load (v := (2, 0)) (hT _ zt_X11_refuse rfl _ _ rfl) rfl rfl ?_
            refine v_load (v := (0, 4)) (hT _ zt_X11_refuse rfl _ _ rfl) rfl rfl ?_
            refine v_putf (r := 0) hO (hT _ zt_X11_refuse rfl _ _ rfl) rfl (fun hf25 => ?_)
            refine v_push (0) (hT _ zt_X11_refuse rfl _ _ rfl) rfl ?_
            refine v_ret (hT _ zt_X11_refuse rfl _ _ rfl) (Or.inl rfl) ?_
            show vP D T N 172 118 (zset h 0 0 (0, 4)) [some (2, 0), some (0, 1), some (0, i), some (0, 1), some (0, j), some (0, n), some (2, 4), some (2, 4)] [(0, 0)] _
            refine v_ret (hT _ zt_X11_pour rfl _ _ rfl) (Or.inl rfl) ?_
            exact k3 hc11 hc17 hc18 hc20 hc23
          · have hc23 : i ≤ ((h 4 2).2 - n) := Int.not_lt.mp hc23
            refine v_push (1) (hT _ zt_X9_hasPlaces rfl _ _ rfl) rfl ?_
            refine v_goto (hT _ zt_X9_hasPlaces rfl _ _ rfl) ?_
            refine v_ret (hT _ zt_X9_hasPlaces rfl _ _ rfl) (Or.inl rfl) ?_
            show vP D T N 172 98 h [some (2, 0), some (0, 1), some (0, i), some (0, 1), some (0, j), some (0, n), some (2, 4), some (2, 4)] [(0, 1)] _
            refine v_if (hT _ zt_X11_pour rfl _ _ rfl) (fun hc26 => absurd (show (1 : Int) = 0 from hc26) (by decide)) (fun _ => ?_)
            refine v_load (v := (2, 4)) (hT _ zt_X11_pour rfl _ _ rfl) rfl rfl ?_
            refine v_load (v := (0, j)) (hT _ zt_X11_pour rfl _ _ rfl) rfl rfl ?_
            refine v_load (v := (0, n)) (hT _ zt_X11_pour rfl _ _ rfl) rfl rfl ?_
            refine v_call (w := 3) [some (2, 4), some (0, j), some (0, n)] hO (hT _ zt_X11_pour rfl _ _ rfl) rfl rfl ?_
            refine v_load (v := (0, j)) (hT _ zt_X9_hasPlaces rfl _ _ rfl) rfl rfl ?_
            refine v_if (hT _ zt_X9_hasPlaces rfl _ _ rfl) (fun hc27 => ?_) (fun hc27 => ?_)
            · have hc27 : j < 0 := hc27
              refine v_push (0) (hT _ zt_X9_hasPlaces rfl _ _ rfl) rfl ?_
              refine v_ret (hT _ zt_X9_hasPlaces rfl _ _ rfl) (Or.inl rfl) ?_
              show vP D T N 172 110 h [some (2, 0), some (0, 1), some (0, i), some (0, 1), some (0, j), some (0, n), some (2, 4), some (2, 4)] [(0, 0)] _
              refine v_if (hT _ zt_X11_pour rfl _ _ rfl) (fun _ => ?_) (fun hc28 => absurd (show (0 : Int) = 0 from (by decide)) hc28)
              refine v_load (v := (2, 0)) (hT _ zt_X11_pour rfl _ _ rfl) rfl rfl ?_
              refine v_push (4) (hT _ zt_X11_pour rfl _ _ rfl) rfl ?_
              refine v_call (w := 2) [some (2, 0), some (0, 4)] hO (hT _ zt_X11_pour rfl _ _ rfl) rfl rfl ?_
              refine v_load (v := (2, 0)) (hT _ zt_X11_refuse rfl _ _ rfl) rfl rfl ?_
              refine v_load (v := (0, 4)) (hT _ zt_X11_refuse rfl _ _ rfl) rfl rfl ?_
              refine v_putf (r := 0) hO (hT _ zt_X11_refuse rfl _ _ rfl) rfl (fun hf29 => ?_)
              refine v_push (0) (hT _ zt_X11_refuse rfl _ _ rfl) rfl ?_
              refine v_ret (hT _ zt_X11_refuse rfl _ _ rfl) (Or.inl rfl) ?_
              show vP D T N 172 118 (zset h 0 0 (0, 4)) [some (2, 0), some (0, 1), some (0, i), some (0, 1), some (0, j), some (0, n), some (2, 4), some (2, 4)] [(0, 0)] _
              refine v_ret (hT _ zt_X11_pour rfl _ _ rfl) (Or.inl rfl) ?_
              exact k4 hc11 hc17 hc18 hc20 hc23 hc27
            · have hc27 : 0 ≤ j := Int.not_lt.mp hc27
              refine v_load (v := (0, j)) (hT _ zt_X9_hasPlaces rfl _ _ rfl) rfl rfl ?_
              refine v_load (v := (2, 4)) (hT _ zt_X9_hasPlaces rfl _ _ rfl) rfl rfl ?_
              refine v_getI (t := 0) (r := 4) (hT _ zt_X9_hasPlaces rfl _ _ rfl) rfl rfl rfl ?_
              refine v_load (v := (0, n)) (hT _ zt_X9_hasPlaces rfl _ _ rfl) rfl rfl ?_
              refine v_bin (w := ((h 4 2).2 - n)) (hT _ zt_X9_hasPlaces rfl _ _ rfl) (hq_sub (by omega) (by omega)) ?_
              refine v_ic (hT _ zt_X9_hasPlaces rfl _ _ rfl) (fun hc30 => ?_) (fun hc30 => ?_)
              · have hc30 : ((h 4 2).2 - n) < j := hc30
                refine v_push (0) (hT _ zt_X9_hasPlaces rfl _ _ rfl) rfl ?_
                refine v_ret (hT _ zt_X9_hasPlaces rfl _ _ rfl) (Or.inl rfl) ?_
                show vP D T N 172 110 h [some (2, 0), some (0, 1), some (0, i), some (0, 1), some (0, j), some (0, n), some (2, 4), some (2, 4)] [(0, 0)] _
                refine v_if (hT _ zt_X11_pour rfl _ _ rfl) (fun _ => ?_) (fun hc31 => absurd (show (0 : Int) = 0 from (by decide)) hc31)
                refine v_load (v := (2, 0)) (hT _ zt_X11_pour rfl _ _ rfl) rfl rfl ?_
                refine v_push (4) (hT _ zt_X11_pour rfl _ _ rfl) rfl ?_
                refine v_call (w := 2) [some (2, 0), some (0, 4)] hO (hT _ zt_X11_pour rfl _ _ rfl) rfl rfl ?_
                refine v_load (v := (2, 0)) (hT _ zt_X11_refuse rfl _ _ rfl) rfl rfl ?_
                refine v_load (v := (0, 4)) (hT _ zt_X11_refuse rfl _ _ rfl) rfl rfl ?_
                refine v_putf (r := 0) hO (hT _ zt_X11_refuse rfl _ _ rfl) rfl (fun hf32 => ?_)
                refine v_push (0) (hT _ zt_X11_refuse rfl _ _ rfl) rfl ?_
                refine v_ret (hT _ zt_X11_refuse rfl _ _ rfl) (Or.inl rfl) ?_
                show vP D T N 172 118 (zset h 0 0 (0, 4)) [some (2, 0), some (0, 1), some (0, i), some (0, 1), some (0, j), some (0, n), some (2, 4), some (2, 4)] [(0, 0)] _
                refine v_ret (hT _ zt_X11_pour rfl _ _ rfl) (Or.inl rfl) ?_
                exact k5 hc11 hc17 hc18 hc20 hc23 hc27 hc30
              · have hc30 : j ≤ ((h 4 2).2 - n) := Int.not_lt.mp hc30
                refine v_push (1) (hT _ zt_X9_hasPlaces rfl _ _ rfl) rfl ?_
                refine v_goto (hT _ zt_X9_hasPlaces rfl _ _ rfl) ?_
                refine v_ret (hT _ zt_X9_hasPlaces rfl _ _ rfl) (Or.inl rfl) ?_
                show vP D T N 172 110 h [some (2, 0), some (0, 1), some (0, i), some (0, 1), some (0, j), some (0, n), some (2, 4), some (2, 4)] [(0, 1)] _
                refine v_if (hT _ zt_X11_pour rfl _ _ rfl) (fun hc33 => absurd (show (1 : Int) = 0 from hc33) (by decide)) (fun _ => ?_)
                refine v_load (v := (2, 4)) (hT _ zt_X11_pour rfl _ _ rfl) rfl rfl ?_
                refine v_getR (c := 5) (r := 4) (hT _ zt_X11_pour rfl _ _ rfl) rfl rfl rfl ?_
                refine v_load (v := (0, i)) (hT _ zt_X11_pour rfl _ _ rfl) rfl rfl ?_
                refine v_load (v := (2, 4)) (hT _ zt_X11_pour rfl _ _ rfl) rfl rfl ?_
                refine v_getR (c := 5) (r := 4) (hT _ zt_X11_pour rfl _ _ rfl) rfl rfl rfl ?_
                refine v_load (v := (0, j)) (hT _ zt_X11_pour rfl _ _ rfl) rfl rfl ?_
                refine v_load (v := (0, n)) (hT _ zt_X11_pour rfl _ _ rfl) rfl rfl ?_
                refine v_copy (r0 := 5) (r1 := 5) (hT _ zt_X11_pour rfl _ _ rfl) rfl rfl rfl rfl (fun hd34 hd35 hd36 hd37 hd38 => ?_)
                refine v_load (v := (2, 0)) (hT _ zt_X11_pour rfl _ _ rfl) rfl rfl ?_
                refine v_call (w := 1) [some (2, 0)] hO (hT _ zt_X11_pour rfl _ _ rfl) rfl rfl ?_
                refine v_load (v := (2, 0)) (hT _ zt_X11_accept rfl _ _ rfl) rfl rfl ?_
                refine v_push (0) (hT _ zt_X11_accept rfl _ _ rfl) rfl ?_
                refine v_putf (r := 0) hO (hT _ zt_X11_accept rfl _ _ rfl) rfl (fun hf39 => ?_)
                refine v_push (1) (hT _ zt_X11_accept rfl _ _ rfl) rfl ?_
                refine v_ret (hT _ zt_X11_accept rfl _ _ rfl) (Or.inl rfl) ?_
                show vP D T N 172 141 (zset (zcopy h 5 i.toNat 5 j.toNat n.toNat) 0 0 (0, 0)) [some (2, 0), some (0, 1), some (0, i), some (0, 1), some (0, j), some (0, n), some (2, 4), some (2, 4)] [(0, 1)] _
                refine v_ret (hT _ zt_X11_pour rfl _ _ rfl) (Or.inl rfl) ?_
                exact k6 hc11 hc17 hc18 hc20 hc23 hc27 hc30 hd34 hd35 hd36 hd37 hd38
    · have hc17 : (h 4 1).2 ≠ (h 4 1).2 := hc17
      refine v_load (v := (2, 0)) (hT _ zt_X11_pour rfl _ _ rfl) rfl rfl ?_
      refine v_push (11) (hT _ zt_X11_pour rfl _ _ rfl) rfl ?_
      refine v_call (w := 2) [some (2, 0), some (0, 11)] hO (hT _ zt_X11_pour rfl _ _ rfl) rfl rfl ?_
      refine v_load (v := (2, 0)) (hT _ zt_X11_refuse rfl _ _ rfl) rfl rfl ?_
      refine v_load (v := (0, 11)) (hT _ zt_X11_refuse rfl _ _ rfl) rfl rfl ?_
      refine v_putf (r := 0) hO (hT _ zt_X11_refuse rfl _ _ rfl) rfl (fun hf40 => ?_)
      refine v_push (0) (hT _ zt_X11_refuse rfl _ _ rfl) rfl ?_
      refine v_ret (hT _ zt_X11_refuse rfl _ _ rfl) (Or.inl rfl) ?_
      show vP D T N 172 77 (zset h 0 0 (0, 11)) [some (2, 0), some (0, 1), some (0, i), some (0, 1), some (0, j), some (0, n), some (2, 4), some (2, 4)] [(0, 0)] _
      refine v_ret (hT _ zt_X11_pour rfl _ _ rfl) (Or.inl rfl) ?_
      exact k7 hc11 hc17
theorem y_X11_pour_1_2 {D : zD} {T : zT} (hT : hTab T) (hO : vOK T) {N : Nat} {h : zH} {Q : zR → Prop} (i j n : Int) (hv0 : zHv h) (hb : 0 ≤ (h 4 2).2 ∧ (h 4 2).2 ≤ 60) (hc : 0 ≤ (h 6 2).2 ∧ (h 6 2).2 ≤ 60) (hn : n ≤ 2147483647)
    (k0 : ((h 4 1).2 = -1) → Q (zset h 0 0 (0, 3), some (0, 0)))
    (k1 : ((h 4 1).2 ≠ -1) → ((h 6 1).2 = -1) → Q (zset h 0 0 (0, 3), some (0, 0)))
    (k2 : ((h 4 1).2 ≠ -1) → ((h 6 1).2 ≠ -1) → ((h 4 1).2 = (h 6 1).2) → (n < 0) → Q (zset h 0 0 (0, 6), some (0, 0)))
    (k3 : ((h 4 1).2 ≠ -1) → ((h 6 1).2 ≠ -1) → ((h 4 1).2 = (h 6 1).2) → (0 ≤ n) → (i < 0) → Q (zset h 0 0 (0, 4), some (0, 0)))
    (k4 : ((h 4 1).2 ≠ -1) → ((h 6 1).2 ≠ -1) → ((h 4 1).2 = (h 6 1).2) → (0 ≤ n) → (0 ≤ i) → (((h 4 2).2 - n) < i) → Q (zset h 0 0 (0, 4), some (0, 0)))
    (k5 : ((h 4 1).2 ≠ -1) → ((h 6 1).2 ≠ -1) → ((h 4 1).2 = (h 6 1).2) → (0 ≤ n) → (0 ≤ i) → (i ≤ ((h 4 2).2 - n)) → (j < 0) → Q (zset h 0 0 (0, 4), some (0, 0)))
    (k6 : ((h 4 1).2 ≠ -1) → ((h 6 1).2 ≠ -1) → ((h 4 1).2 = (h 6 1).2) → (0 ≤ n) → (0 ≤ i) → (i ≤ ((h 4 2).2 - n)) → (0 ≤ j) → (((h 6 2).2 - n) < j) → Q (zset h 0 0 (0, 4), some (0, 0)))
    (k7 : ((h 4 1).2 ≠ -1) → ((h 6 1).2 ≠ -1) → ((h 4 1).2 = (h 6 1).2) → (0 ≤ n) → (0 ≤ i) → (i ≤ ((h 4 2).2 - n)) → (0 ≤ j) → (j ≤ ((h 6 2).2 - n)) → (0 ≤ n) → (0 ≤ i) → (0 ≤ j) → (i + n ≤ 60) → (j + n ≤ 60) → Q (zset (zcopy h 5 i.toNat 7 j.toNat n.toNat) 0 0 (0, 0), some (0, 1)))
    (k8 : ((h 4 1).2 ≠ -1) → ((h 6 1).2 ≠ -1) → ((h 4 1).2 ≠ (h 6 1).2) → Q (zset h 0 0 (0, 11), some (0, 0))) :
    vP D T N 172 0 h [some (2, 0), some (0, 1), some (0, i), some (0, 2), some (0, j), some (0, n), none, none] [] Q := by
  refine v_load (v := (0, 1)) (hT _ zt_X11_pour rfl _ _ rfl) rfl rfl ?_
  refine v_call (w := 1) [some (0, 1)] hO (hT _ zt_X11_pour rfl _ _ rfl) rfl rfl ?_
  refine v_load (v := (0, 1)) (hT _ zt_X11_isTray rfl _ _ rfl) rfl rfl ?_
  refine v_if (hT _ zt_X11_isTray rfl _ _ rfl) (fun hc1 => absurd (show (1 : Int) < 0 from hc1) (by decide)) (fun _ => ?_)
  refine v_load (v := (0, 1)) (hT _ zt_X11_isTray rfl _ _ rfl) rfl rfl ?_
  refine v_push (4) (hT _ zt_X11_isTray rfl _ _ rfl) rfl ?_
  refine v_ic (hT _ zt_X11_isTray rfl _ _ rfl) (fun _ => ?_) (fun hc2 => absurd (show (1 : Int) < 4 from (by decide)) hc2)
  refine v_push (1) (hT _ zt_X11_isTray rfl _ _ rfl) rfl ?_
  refine v_goto (hT _ zt_X11_isTray rfl _ _ rfl) ?_
  refine v_ret (hT _ zt_X11_isTray rfl _ _ rfl) (Or.inl rfl) ?_
  show vP D T N 172 4 h [some (2, 0), some (0, 1), some (0, i), some (0, 2), some (0, j), some (0, n), none, none] [(0, 1)] _
  refine v_if (hT _ zt_X11_pour rfl _ _ rfl) (fun hc3 => absurd (show (1 : Int) = 0 from hc3) (by decide)) (fun _ => ?_)
  refine v_load (v := (0, 2)) (hT _ zt_X11_pour rfl _ _ rfl) rfl rfl ?_
  refine v_call (w := 1) [some (0, 2)] hO (hT _ zt_X11_pour rfl _ _ rfl) rfl rfl ?_
  refine v_load (v := (0, 2)) (hT _ zt_X11_isTray rfl _ _ rfl) rfl rfl ?_
  refine v_if (hT _ zt_X11_isTray rfl _ _ rfl) (fun hc4 => absurd (show (2 : Int) < 0 from hc4) (by decide)) (fun _ => ?_)
  refine v_load (v := (0, 2)) (hT _ zt_X11_isTray rfl _ _ rfl) rfl rfl ?_
  refine v_push (4) (hT _ zt_X11_isTray rfl _ _ rfl) rfl ?_
  refine v_ic (hT _ zt_X11_isTray rfl _ _ rfl) (fun _ => ?_) (fun hc5 => absurd (show (2 : Int) < 4 from (by decide)) hc5)
  refine v_push (1) (hT _ zt_X11_isTray rfl _ _ rfl) rfl ?_
  refine v_goto (hT _ zt_X11_isTray rfl _ _ rfl) ?_
  refine v_ret (hT _ zt_X11_isTray rfl _ _ rfl) (Or.inl rfl) ?_
  show vP D T N 172 11 h [some (2, 0), some (0, 1), some (0, i), some (0, 2), some (0, j), some (0, n), none, none] [(0, 1)] _
  refine v_if (hT _ zt_X11_pour rfl _ _ rfl) (fun hc6 => absurd (show (1 : Int) = 0 from hc6) (by decide)) (fun _ => ?_)
  refine v_load (v := (2, 0)) (hT _ zt_X11_pour rfl _ _ rfl) rfl rfl ?_
  refine v_getR (c := 1) (r := 0) (hT _ zt_X11_pour rfl _ _ rfl) rfl rfl rfl ?_
  refine v_load (v := (0, 1)) (hT _ zt_X11_pour rfl _ _ rfl) rfl rfl ?_
  refine v_aldV (v := (2, 4)) (r := 1) (hT _ zt_X11_pour rfl _ _ rfl) rfl rfl (fun hv _ _ => hv.ref rfl) (fun ha7 hb8 => ?_)
  refine v_store1 [some (2, 0), some (0, 1), some (0, i), some (0, 2), some (0, j), some (0, n), some (2, 4), none] (hT _ zt_X11_pour rfl _ _ rfl) ⟨rfl, Nat.ne_of_beq_eq_false rfl⟩ (Nat.le_of_ble_eq_true rfl) rfl ?_
  refine v_load (v := (2, 0)) (hT _ zt_X11_pour rfl _ _ rfl) rfl rfl ?_
  refine v_getR (c := 1) (r := 0) (hT _ zt_X11_pour rfl _ _ rfl) rfl rfl rfl ?_
  refine v_load (v := (0, 2)) (hT _ zt_X11_pour rfl _ _ rfl) rfl rfl ?_
  refine v_aldV (v := (2, 6)) (r := 1) (hT _ zt_X11_pour rfl _ _ rfl) rfl rfl (fun hv _ _ => hv.ref rfl) (fun ha9 hb10 => ?_)
  refine v_store1 [some (2, 0), some (0, 1), some (0, i), some (0, 2), some (0, j), some (0, n), some (2, 4), some (2, 6)] (hT _ zt_X11_pour rfl _ _ rfl) ⟨rfl, Nat.ne_of_beq_eq_false rfl⟩ (Nat.le_of_ble_eq_true rfl) rfl ?_
  refine v_load (v := (2, 4)) (hT _ zt_X11_pour rfl _ _ rfl) rfl rfl ?_
  refine v_call (w := 1) [some (2, 4)] hO (hT _ zt_X11_pour rfl _ _ rfl) rfl rfl ?_
  refine v_load (v := (2, 4)) (hT _ zt_X9_isMissing rfl _ _ rfl) rfl rfl ?_
  refine v_getI (t := 0) (r := 4) (hT _ zt_X9_isMissing rfl _ _ rfl) rfl rfl rfl ?_
  refine v_push (-1) (hT _ zt_X9_isMissing rfl _ _ rfl) rfl ?_
  refine v_ic (hT _ zt_X9_isMissing rfl _ _ rfl) (fun hc11 => ?_) (fun hc11 => ?_)
  · have hc11 : (h 4 1).2 = -1 := hc11
    refine v_push (1) (hT _ zt_X9_isMissing rfl _ _ rfl) rfl ?_
    refine v_goto (hT _ zt_X9_isMissing rfl _ _ rfl) ?_
    refine v_ret (hT _ zt_X9_isMissing rfl _ _ rfl) (Or.inl rfl) ?_
    show vP D T N 172 41 h [some (2, 0), some (0, 1), some (0, i), some (0, 2), some (0, j), some (0, n), some (2, 4), some (2, 6)] [(0, 1)] _
    refine v_if (hT _ zt_X11_pour rfl _ _ rfl) (fun hc12 => absurd (show (1 : Int) = 0 from hc12) (by decide)) (fun _ => ?_)
    refine v_load (v := (2, 0)) (hT _ zt_X11_pour rfl _ _ rfl) rfl rfl ?_
    refine v_push (3) (hT _ zt_X11_pour rfl _ _ rfl) rfl ?_
    refine v_call (w := 2) [some (2, 0), some (0, 3)] hO (hT _ zt_X11_pour rfl _ _ rfl) rfl rfl ?_
    refine v_load (v := (2, 0)) (hT _ zt_X11_refuse rfl _ _ rfl) rfl rfl ?_
    refine v_load (v := (0, 3)) (hT _ zt_X11_refuse rfl _ _ rfl) rfl rfl ?_
    refine v_putf (r := 0) hO (hT _ zt_X11_refuse rfl _ _ rfl) rfl (fun hf13 => ?_)
    refine v_push (0) (hT _ zt_X11_refuse rfl _ _ rfl) rfl ?_
    refine v_ret (hT _ zt_X11_refuse rfl _ _ rfl) (Or.inl rfl) ?_
    show vP D T N 172 57 (zset h 0 0 (0, 3)) [some (2, 0), some (0, 1), some (0, i), some (0, 2), some (0, j), some (0, n), some (2, 4), some (2, 6)] [(0, 0)] _
    refine v_ret (hT _ zt_X11_pour rfl _ _ rfl) (Or.inl rfl) ?_
    exact k0 hc11
  · have hc11 : (h 4 1).2 ≠ -1 := hc11
    refine v_push (0) (hT _ zt_X9_isMissing rfl _ _ rfl) rfl ?_
    refine v_ret (hT _ zt_X9_isMissing rfl _ _ rfl) (Or.inl rfl) ?_
    show vP D T N 172 41 h [some (2, 0), some (0, 1), some (0, i), some (0, 2), some (0, j), some (0, n), some (2, 4), some (2, 6)] [(0, 0)] _
    refine v_if (hT _ zt_X11_pour rfl _ _ rfl) (fun _ => ?_) (fun hc14 => absurd (show (0 : Int) = 0 from (by decide)) hc14)
    refine v_load (v := (2, 6)) (hT _ zt_X11_pour rfl _ _ rfl) rfl rfl ?_
    refine v_call (w := 1) [some (2, 6)] hO (hT _ zt_X11_pour rfl _ _ rfl) rfl rfl ?_
    refine v_load (v := (2, 6)) (hT _ zt_X9_isMissing rfl _ _ rfl) rfl rfl ?_
    refine v_getI (t := 0) (r := 6) (hT _ zt_X9_isMissing rfl _ _ rfl) rfl rfl rfl ?_
    refine v_push (-1) (hT _ zt_X9_isMissing rfl _ _ rfl) rfl ?_
    refine v_ic (hT _ zt_X9_isMissing rfl _ _ rfl) (fun hc15 => ?_) (fun hc15 => ?_)
    · have hc15 : (h 6 1).2 = -1 := hc15
      refine v_push (1) (hT _ zt_X9_isMissing rfl _ _ rfl) rfl ?_
      refine v_goto (hT _ zt_X9_isMissing rfl _ _ rfl) ?_
      refine v_ret (hT _ zt_X9_isMissing rfl _ _ rfl) (Or.inl rfl) ?_
      show vP D T N 172 49 h [some (2, 0), some (0, 1), some (0, i), some (0, 2), some (0, j), some (0, n), some (2, 4), some (2, 6)] [(0, 1)] _
      refine v_if (hT _ zt_X11_pour rfl _ _ rfl) (fun hc16 => absurd (show (1 : Int) = 0 from hc16) (by decide)) (fun _ => ?_)
      refine v_load (v := (2, 0)) (hT _ zt_X11_pour rfl _ _ rfl) rfl rfl ?_
      refine v_push (3) (hT _ zt_X11_pour rfl _ _ rfl) rfl ?_
      refine v_call (w := 2) [some (2, 0), some (0, 3)] hO (hT _ zt_X11_pour rfl _ _ rfl) rfl rfl ?_
      refine v_load (v := (2, 0)) (hT _ zt_X11_refuse rfl _ _ rfl) rfl rfl ?_
      refine v_load (v := (0, 3)) (hT _ zt_X11_refuse rfl _ _ rfl) rfl rfl ?_
      refine v_putf (r := 0) hO (hT _ zt_X11_refuse rfl _ _ rfl) rfl (fun hf17 => ?_)
      refine v_push (0) (hT _ zt_X11_refuse rfl _ _ rfl) rfl ?_
      refine v_ret (hT _ zt_X11_refuse rfl _ _ rfl) (Or.inl rfl) ?_
      show vP D T N 172 57 (zset h 0 0 (0, 3)) [some (2, 0), some (0, 1), some (0, i), some (0, 2), some (0, j), some (0, n), some (2, 4), some (2, 6)] [(0, 0)] _
      refine v_ret (hT _ zt_X11_pour rfl _ _ rfl) (Or.inl rfl) ?_
      exact k1 hc11 hc15
    · have hc15 : (h 6 1).2 ≠ -1 := hc15
      refine v_push (0) (hT _ zt_X9_isMissing rfl _ _ rfl) rfl ?_
      refine v_ret (hT _ zt_X9_isMissing rfl _ _ rfl) (Or.inl rfl) ?_
      show vP D T N 172 49 h [some (2, 0), some (0, 1), some (0, i), some (0, 2), some (0, j), some (0, n), some (2, 4), some (2, 6)] [(0, 0)] _
      refine v_if (hT _ zt_X11_pour rfl _ _ rfl) (fun _ => ?_) (fun hc18 => absurd (show (0 : Int) = 0 from (by decide)) hc18)
      refine v_load (v := (2, 4)) (hT _ zt_X11_pour rfl _ _ rfl) rfl rfl ?_
      refine v_getI (t := 0) (r := 4) (hT _ zt_X11_pour rfl _ _ rfl) rfl rfl rfl ?_
      refine v_load (v := (2, 6)) (hT _ zt_X11_pour rfl _ _ rfl) rfl rfl ?_
      refine v_getI (t := 0) (r := 6) (hT _ zt_X11_pour rfl _ _ rfl) rfl rfl rfl ?_
      refine v_ic (hT _ zt_X11_pour rfl _ _ rfl) (fun hc19 => ?_) (fun hc19 => ?_)
      · have hc19 : (h 4 1).2 = (h 6 1).2 := hc19
        refine v_load (v := (0, n)) (hT _ zt_X11_pour rfl _ _ rfl) rfl rfl ?_
        refine v_if (hT _ zt_X11_pour rfl _ _ rfl) (fun hc20 => ?_) (fun hc20 => ?_)
        · have hc20 : n < 0 := hc20
          refine v_load (v := (2, 0)) (hT _ zt_X11_pour rfl _ _ rfl) rfl rfl ?_
          refine v_push (6) (hT _ zt_X11_pour rfl _ _ rfl) rfl ?_
          refine v_call (w := 2) [some (2, 0), some (0, 6)] hO (hT _ zt_X11_pour rfl _ _ rfl) rfl rfl ?_
          refine v_load (v := (2, 0)) (hT _ zt_X11_refuse rfl _ _ rfl) rfl rfl ?_
          refine v_load (v := (0, 6)) (hT _ zt_X11_refuse rfl _ _ rfl) rfl rfl ?_
          refine v_putf (r := 0) hO (hT _ zt_X11_refuse rfl _ _ rfl) rfl (fun hf21 => ?_)
          refine v_push (0) (hT _ zt_X11_refuse rfl _ _ rfl) rfl ?_
          refine v_ret (hT _ zt_X11_refuse rfl _ _ rfl) (Or.inl rfl) ?_
          show vP D T N 172 89 (zset h 0 0 (0, 6)) [some (2, 0), some (0, 1), some (0, i), some (0, 2), some (0, j), some (0, n), some (2, 4), some (2, 6)] [(0, 0)] _
          refine v_ret (hT _ zt_X11_pour rfl _ _ rfl) (Or.inl rfl) ?_
          exact k2 hc11 hc15 hc19 hc20
        · have hc20 : 0 ≤ n := Int.not_lt.mp hc20
          refine v_load (v := (2, 4)) (hT _ zt_X11_pour rfl _ _ rfl) rfl rfl ?_
          refine v_load (v := (0, i)) (hT _ zt_X11_pour rfl _ _ rfl) rfl rfl ?_
          refine v_load (v := (0, n)) (hT _ zt_X11_pour rfl _ _ rfl) rfl rfl ?_
          refine v_call (w := 3) [some (2, 4), some (0, i), some (0, n)] hO (hT _ zt_X11_pour rfl _ _ rfl) rfl rfl ?_
          refine v_load (v := (0, i)) (hT _ zt_X9_hasPlaces rfl _ _ rfl) rfl rfl ?_
          refine v_if (hT _ zt_X9_hasPlaces rfl _ _ rfl) (fun hc22 => ?_) (fun hc22 => ?_)
          · have hc22 : i < 0 := hc22
            refine v_push (0) (hT _ zt_X9_hasPlaces rfl _ _ rfl) rfl ?_
            refine v_ret (hT _ zt_X9_hasPlaces rfl _ _ rfl) (Or.inl rfl) ?_
            show vP D T N 172 98 h [some (2, 0), some (0, 1), some (0, i), some (0, 2), some (0, j), some (0, n), some (2, 4), some (2, 6)] [(0, 0)] _
            refine v_if (hT _ zt_X11_pour rfl _ _ rfl) (fun _ => ?_) (fun hc23 => absurd (show (0 : Int) = 0 from (by decide)) hc23)
            refine v_load (v := (2, 0)) (hT _ zt_X11_pour rfl _ _ rfl) rfl rfl ?_
            refine v_push (4) (hT _ zt_X11_pour rfl _ _ rfl) rfl ?_
            refine v_call (w := 2) [some (2, 0), some (0, 4)] hO (hT _ zt_X11_pour rfl _ _ rfl) rfl rfl ?_
            refine v_load (v := (2, 0)) (hT _ zt_X11_refuse rfl _ _ rfl) rfl rfl ?_
            refine v_load (v := (0, 4)) (hT _ zt_X11_refuse rfl _ _ rfl) rfl rfl ?_
            refine v_putf (r := 0) hO (hT _ zt_X11_refuse rfl _ _ rfl) rfl (fun hf24 => ?_)
            refine v_push (0) (hT _ zt_X11_refuse rfl _ _ rfl) rfl ?_
            refine v_ret (hT _ zt_X11_refuse rfl _ _ rfl) (Or.inl rfl) ?_
            show vP D T N 172 118 (zset h 0 0 (0, 4)) [some (2, 0), some (0, 1), some (0, i), some (0, 2), some (0, j), some (0, n), some (2, 4), some (2, 6)] [(0, 0)] _
            refine v_ret (hT _ zt_X11_pour rfl _ _ rfl) (Or.inl rfl) ?_
            exact k3 hc11 hc15 hc19 hc20 hc22
          · have hc22 : 0 ≤ i := Int.not_lt.mp hc22
            refine v_load (v := (0, i)) (hT _ zt_X9_hasPlaces rfl _ _ rfl) rfl rfl ?_
            refine v_load (v := (2, 4)) (hT _ zt_X9_hasPlaces rfl _ _ rfl) rfl rfl ?_
            refine v_getI (t := 0) (r := 4) (hT _ zt_X9_hasPlaces rfl _ _ rfl) rfl rfl rfl ?_
            refine v_load (v := (0, n)) (hT _ zt_X9_hasPlaces rfl _ _ rfl) rfl rfl ?_
            refine v_bin (w := ((h 4 2).2 - n)) (hT _ zt_X9_hasPlaces rfl _ _ rfl) (hq_sub (by omega) (by omega)) ?_
            refine v_ic (hT _ zt_X9_hasPlaces rfl _ _ rfl) (fun hc25 => ?_) (fun hc25 => ?_)
            · have hc25 : ((h 4 2).2 - n) < i := hc25
              refine v_push (0) (hT _ zt_X9_hasPlaces rfl _ _ rfl) rfl ?_
              refine v_ret (hT _ zt_X9_hasPlaces rfl _ _ rfl) (Or.inl rfl) ?_
              show vP D T N 172 98 h [some (2, 0), some (0, 1), some (0, i), some (0, 2), some (0, j), some (0, n), some (2, 4), some (2, 6)] [(0, 0)] _
              refine v_if (hT _ zt_X11_pour rfl _ _ rfl) (fun _ => ?_) (fun hc26 => absurd (show (0 : Int) = 0 from (by decide)) hc26)
              refine v_load (v := (2, 0)) (hT _ zt_X11_pour rfl _ _ rfl) rfl rfl ?_
              refine v_push (4) (hT _ zt_X11_pour rfl _ _ rfl) rfl ?_
              refine v_call (w := 2) [some (2, 0), some (0, 4)] hO (hT _ zt_X11_pour rfl _ _ rfl) rfl rfl ?_
              refine v_load (v := (2, 0)) (hT _ zt_X11_refuse rfl _ _ rfl) rfl rfl ?_
              refine v_load (v := (0, 4)) (hT _ zt_X11_refuse rfl _ _ rfl) rfl rfl ?_
              refine v_putf (r := 0) hO (hT _ zt_X11_refuse rfl _ _ rfl) rfl (fun hf27 => ?_)
              refine v_push (0) (hT _ zt_X11_refuse rfl _ _ rfl) rfl ?_
              refine v_ret (hT _ zt_X11_refuse rfl _ _ rfl) (Or.inl rfl) ?_
              show vP D T N 172 118 (zset h 0 0 (0, 4)) [some (2, 0), some (0, 1), some (0, i), some (0, 2), some (0, j), some (0, n), some (2, 4), some (2, 6)] [(0, 0)] _
              refine v_ret (hT _ zt_X11_pour rfl _ _ rfl) (Or.inl rfl) ?_
              exact k4 hc11 hc15 hc19 hc20 hc22 hc25
            · have hc25 : i ≤ ((h 4 2).2 - n) := Int.not_lt.mp hc25
              refine v_push (1) (hT _ zt_X9_hasPlaces rfl _ _ rfl) rfl ?_
              refine v_goto (hT _ zt_X9_hasPlaces rfl _ _ rfl) ?_
              refine v_ret (hT _ zt_X9_hasPlaces rfl _ _ rfl) (Or.inl rfl) ?_
              show vP D T N 172 98 h [some (2, 0), some (0, 1), some (0, i), some (0, 2), some (0, j), some (0, n), some (2, 4), some (2, 6)] [(0, 1)] _
              refine v_if (hT _ zt_X11_pour rfl _ _ rfl) (fun hc28 => absurd (show (1 : Int) = 0 from hc28) (by decide)) (fun _ => ?_)
              refine v_load (v := (2, 6)) (hT _ zt_X11_pour rfl _ _ rfl) rfl rfl ?_
              refine v_load (v := (0, j)) (hT _ zt_X11_pour rfl _ _ rfl) rfl rfl ?_
              refine v_load (v := (0, n)) (hT _ zt_X11_pour rfl _ _ rfl) rfl rfl ?_
              refine v_call (w := 3) [some (2, 6), some (0, j), some (0, n)] hO (hT _ zt_X11_pour rfl _ _ rfl) rfl rfl ?_
              refine v_load (v := (0, j)) (hT _ zt_X9_hasPlaces rfl _ _ rfl) rfl rfl ?_
              refine v_if (hT _ zt_X9_hasPlaces rfl _ _ rfl) (fun hc29 => ?_) (fun hc29 => ?_)
              · have hc29 : j < 0 := hc29
                refine v_push (0) (hT _ zt_X9_hasPlaces rfl _ _ rfl) rfl ?_
                refine v_ret (hT _ zt_X9_hasPlaces rfl _ _ rfl) (Or.inl rfl) ?_
                show vP D T N 172 110 h [some (2, 0), some (0, 1), some (0, i), some (0, 2), some (0, j), some (0, n), some (2, 4), some (2, 6)] [(0, 0)] _
                refine v_if (hT _ zt_X11_pour rfl _ _ rfl) (fun _ => ?_) (fun hc30 => absurd (show (0 : Int) = 0 from (by decide)) hc30)
                refine v_load (v := (2, 0)) (hT _ zt_X11_pour rfl _ _ rfl) rfl rfl ?_
                refine v_push (4) (hT _ zt_X11_pour rfl _ _ rfl) rfl ?_
                refine v_call (w := 2) [some (2, 0), some (0, 4)] hO (hT _ zt_X11_pour rfl _ _ rfl) rfl rfl ?_
                refine v_load (v := (2, 0)) (hT _ zt_X11_refuse rfl _ _ rfl) rfl rfl ?_
                refine v_load (v := (0, 4)) (hT _ zt_X11_refuse rfl _ _ rfl) rfl rfl ?_
                refine v_putf (r := 0) hO (hT _ zt_X11_refuse rfl _ _ rfl) rfl (fun hf31 => ?_)
                refine v_push (0) (hT _ zt_X11_refuse rfl _ _ rfl) rfl ?_
                refine v_ret (hT _ zt_X11_refuse rfl _ _ rfl) (Or.inl rfl) ?_
                show vP D T N 172 118 (zset h 0 0 (0, 4)) [some (2, 0), some (0, 1), some (0, i), some (0, 2), some (0, j), some (0, n), some (2, 4), some (2, 6)] [(0, 0)] _
                refine v_ret (hT _ zt_X11_pour rfl _ _ rfl) (Or.inl rfl) ?_
                exact k5 hc11 hc15 hc19 hc20 hc22 hc25 hc29
              · have hc29 : 0 ≤ j := Int.not_lt.mp hc29
                refine v_load (v := (0, j)) (hT _ zt_X9_hasPlaces rfl _ _ rfl) rfl rfl ?_
                refine v_load (v := (2, 6)) (hT _ zt_X9_hasPlaces rfl _ _ rfl) rfl rfl ?_
                refine v_getI (t := 0) (r := 6) (hT _ zt_X9_hasPlaces rfl _ _ rfl) rfl rfl rfl ?_
                refine v_load (v := (0, n)) (hT _ zt_X9_hasPlaces rfl _ _ rfl) rfl rfl ?_
                refine v_bin (w := ((h 6 2).2 - n)) (hT _ zt_X9_hasPlaces rfl _ _ rfl) (hq_sub (by omega) (by omega)) ?_
                refine v_ic (hT _ zt_X9_hasPlaces rfl _ _ rfl) (fun hc32 => ?_) (fun hc32 => ?_)
                · have hc32 : ((h 6 2).2 - n) < j := hc32
                  refine v_push (0) (hT _ zt_X9_hasPlaces rfl _ _ rfl) rfl ?_
                  refine v_ret (hT _ zt_X9_hasPlaces rfl _ _ rfl) (Or.inl rfl) ?_
                  show vP D T N 172 110 h [some (2, 0), some (0, 1), some (0, i), some (0, 2), some (0, j), some (0, n), some (2, 4), some (2, 6)] [(0, 0)] _
                  refine v_if (hT _ zt_X11_pour rfl _ _ rfl) (fun _ => ?_) (fun hc33 => absurd (show (0 : Int) = 0 from (by decide)) hc33)
                  refine v_load (v := (2, 0)) (hT _ zt_X11_pour rfl _ _ rfl) rfl rfl ?_
                  refine v_push (4) (hT _ zt_X11_pour rfl _ _ rfl) rfl ?_
                  refine v_call (w := 2) [some (2, 0), some (0, 4)] hO (hT _ zt_X11_pour rfl _ _ rfl) rfl rfl ?_
                  refine v_load (v := (2, 0)) (hT _ zt_X11_refuse rfl _ _ rfl) rfl rfl ?_
                  refine v_load (v := (0, 4)) (hT _ zt_X11_refuse rfl _ _ rfl) rfl rfl ?_
                  refine v_putf (r := 0) hO (hT _ zt_X11_refuse rfl _ _ rfl) rfl (fun hf34 => ?_)
                  refine v_push (0) (hT _ zt_X11_refuse rfl _ _ rfl) rfl ?_
                  refine v_ret (hT _ zt_X11_refuse rfl _ _ rfl) (Or.inl rfl) ?_
                  show vP D T N 172 118 (zset h 0 0 (0, 4)) [some (2, 0), some (0, 1), some (0, i), some (0, 2), some (0, j), some (0, n), some (2, 4), some (2, 6)] [(0, 0)] _
                  refine v_ret (hT _ zt_X11_pour rfl _ _ rfl) (Or.inl rfl) ?_
                  exact k6 hc11 hc15 hc19 hc20 hc22 hc25 hc29 hc32
                · have hc32 : j ≤ ((h 6 2).2 - n) := Int.not_lt.mp hc32
                  refine v_push (1) (hT _ zt_X9_hasPlaces rfl _ _ rfl) rfl ?_
                  refine v_goto (hT _ zt_X9_hasPlaces rfl _ _ rfl) ?_
                  refine v_ret (hT _ zt_X9_hasPlaces rfl _ _ rfl) (Or.inl rfl) ?_
                  show vP D T N 172 110 h [some (2, 0), some (0, 1), some (0, i), some (0, 2), some (0, j), some (0, n), some (2, 4), some (2, 6)] [(0, 1)] _
                  refine v_if (hT _ zt_X11_pour rfl _ _ rfl) (fun hc35 => absurd (show (1 : Int) = 0 from hc35) (by decide)) (fun _ => ?_)
                  refine v_load (v := (2, 4)) (hT _ zt_X11_pour rfl _ _ rfl) rfl rfl ?_
                  refine v_getR (c := 5) (r := 4) (hT _ zt_X11_pour rfl _ _ rfl) rfl rfl rfl ?_
                  refine v_load (v := (0, i)) (hT _ zt_X11_pour rfl _ _ rfl) rfl rfl ?_
                  refine v_load (v := (2, 6)) (hT _ zt_X11_pour rfl _ _ rfl) rfl rfl ?_
                  refine v_getR (c := 7) (r := 6) (hT _ zt_X11_pour rfl _ _ rfl) rfl rfl rfl ?_
                  refine v_load (v := (0, j)) (hT _ zt_X11_pour rfl _ _ rfl) rfl rfl ?_
                  refine v_load (v := (0, n)) (hT _ zt_X11_pour rfl _ _ rfl) rfl rfl ?_
                  refine v_copy (r0 := 5) (r1 := 7) (hT _ zt_X11_pour rfl _ _ rfl) rfl rfl rfl rfl (fun hd36 hd37 hd38 hd39 hd40 => ?_)
                  refine v_load (v := (2, 0)) (hT _ zt_X11_pour rfl _ _ rfl) rfl rfl ?_
                  refine v_call (w := 1) [some (2, 0)] hO (hT _ zt_X11_pour rfl _ _ rfl) rfl rfl ?_
                  refine v_load (v := (2, 0)) (hT _ zt_X11_accept rfl _ _ rfl) rfl rfl ?_
                  refine v_push (0) (hT _ zt_X11_accept rfl _ _ rfl) rfl ?_
                  refine v_putf (r := 0) hO (hT _ zt_X11_accept rfl _ _ rfl) rfl (fun hf41 => ?_)
                  refine v_push (1) (hT _ zt_X11_accept rfl _ _ rfl) rfl ?_
                  refine v_ret (hT _ zt_X11_accept rfl _ _ rfl) (Or.inl rfl) ?_
                  show vP D T N 172 141 (zset (zcopy h 5 i.toNat 7 j.toNat n.toNat) 0 0 (0, 0)) [some (2, 0), some (0, 1), some (0, i), some (0, 2), some (0, j), some (0, n), some (2, 4), some (2, 6)] [(0, 1)] _
                  refine v_ret (hT _ zt_X11_pour rfl _ _ rfl) (Or.inl rfl) ?_
                  exact k7 hc11 hc15 hc19 hc20 hc22 hc25 hc29 hc32 hd36 hd37 hd38 hd39 hd40
      · have hc19 : (h 4 1).2 ≠ (h 6 1).2 := hc19
        refine v_load (v := (2, 0)) (hT _ zt_X11_pour rfl _ _ rfl) rfl rfl ?_
        refine v_push (11) (hT _ zt_X11_pour rfl _ _ rfl) rfl ?_
        refine v_call (w := 2) [some (2, 0), some (0, 11)] hO (hT _ zt_X11_pour rfl _ _ rfl) rfl rfl ?_
        refine v_load (v := (2, 0)) (hT _ zt_X11_refuse rfl _ _ rfl) rfl rfl ?_
        refine v_load (v := (0, 11)) (hT _ zt_X11_refuse rfl _ _ rfl) rfl rfl ?_
        refine v_putf (r := 0) hO (hT _ zt_X11_refuse rfl _ _ rfl) rfl (fun hf42 => ?_)
        refine v_push (0) (hT _ zt_X11_refuse rfl _ _ rfl) rfl ?_
        refine v_ret (hT _ zt_X11_refuse rfl _ _ rfl) (Or.inl rfl) ?_
        show vP D T N 172 77 (zset h 0 0 (0, 11)) [some (2, 0), some (0, 1), some (0, i), some (0, 2), some (0, j), some (0, n), some (2, 4), some (2, 6)] [(0, 0)] _
        refine v_ret (hT _ zt_X11_pour rfl _ _ rfl) (Or.inl rfl) ?_
        exact k8 hc11 hc15 hc19
theorem y_X11_pour_1_3 {D : zD} {T : zT} (hT : hTab T) (hO : vOK T) {N : Nat} {h : zH} {Q : zR → Prop} (i j n : Int) (hv0 : zHv h) (hb : 0 ≤ (h 4 2).2 ∧ (h 4 2).2 ≤ 60) (hc : 0 ≤ (h 8 2).2 ∧ (h 8 2).2 ≤ 60) (hn : n ≤ 2147483647)
    (k0 : ((h 4 1).2 = -1) → Q (zset h 0 0 (0, 3), some (0, 0)))
    (k1 : ((h 4 1).2 ≠ -1) → ((h 8 1).2 = -1) → Q (zset h 0 0 (0, 3), some (0, 0)))
    (k2 : ((h 4 1).2 ≠ -1) → ((h 8 1).2 ≠ -1) → ((h 4 1).2 = (h 8 1).2) → (n < 0) → Q (zset h 0 0 (0, 6), some (0, 0)))
    (k3 : ((h 4 1).2 ≠ -1) → ((h 8 1).2 ≠ -1) → ((h 4 1).2 = (h 8 1).2) → (0 ≤ n) → (i < 0) → Q (zset h 0 0 (0, 4), some (0, 0)))
    (k4 : ((h 4 1).2 ≠ -1) → ((h 8 1).2 ≠ -1) → ((h 4 1).2 = (h 8 1).2) → (0 ≤ n) → (0 ≤ i) → (((h 4 2).2 - n) < i) → Q (zset h 0 0 (0, 4), some (0, 0)))
    (k5 : ((h 4 1).2 ≠ -1) → ((h 8 1).2 ≠ -1) → ((h 4 1).2 = (h 8 1).2) → (0 ≤ n) → (0 ≤ i) → (i ≤ ((h 4 2).2 - n)) → (j < 0) → Q (zset h 0 0 (0, 4), some (0, 0)))
    (k6 : ((h 4 1).2 ≠ -1) → ((h 8 1).2 ≠ -1) → ((h 4 1).2 = (h 8 1).2) → (0 ≤ n) → (0 ≤ i) → (i ≤ ((h 4 2).2 - n)) → (0 ≤ j) → (((h 8 2).2 - n) < j) → Q (zset h 0 0 (0, 4), some (0, 0)))
    (k7 : ((h 4 1).2 ≠ -1) → ((h 8 1).2 ≠ -1) → ((h 4 1).2 = (h 8 1).2) → (0 ≤ n) → (0 ≤ i) → (i ≤ ((h 4 2).2 - n)) → (0 ≤ j) → (j ≤ ((h 8 2).2 - n)) → (0 ≤ n) → (0 ≤ i) → (0 ≤ j) → (i + n ≤ 60) → (j + n ≤ 60) → Q (zset (zcopy h 5 i.toNat 9 j.toNat n.toNat) 0 0 (0, 0), some (0, 1)))
    (k8 : ((h 4 1).2 ≠ -1) → ((h 8 1).2 ≠ -1) → ((h 4 1).2 ≠ (h 8 1).2) → Q (zset h 0 0 (0, 11), some (0, 0))) :
    vP D T N 172 0 h [some (2, 0), some (0, 1), some (0, i), some (0, 3), some (0, j), some (0, n), none, none] [] Q := by
  refine v_load (v := (0, 1)) (hT _ zt_X11_pour rfl _ _ rfl) rfl rfl ?_
  refine v_call (w := 1) [some (0, 1)] hO (hT _ zt_X11_pour rfl _ _ rfl) rfl rfl ?_
  refine v_load (v := (0, 1)) (hT _ zt_X11_isTray rfl _ _ rfl) rfl rfl ?_
  refine v_if (hT _ zt_X11_isTray rfl _ _ rfl) (fun hc1 => absurd (show (1 : Int) < 0 from hc1) (by decide)) (fun _ => ?_)
  refine v_load (v := (0, 1)) (hT _ zt_X11_isTray rfl _ _ rfl) rfl rfl ?_
  refine v_push (4) (hT _ zt_X11_isTray rfl _ _ rfl) rfl ?_
  refine v_ic (hT _ zt_X11_isTray rfl _ _ rfl) (fun _ => ?_) (fun hc2 => absurd (show (1 : Int) < 4 from (by decide)) hc2)
  refine v_push (1) (hT _ zt_X11_isTray rfl _ _ rfl) rfl ?_
  refine v_goto (hT _ zt_X11_isTray rfl _ _ rfl) ?_
  refine v_ret (hT _ zt_X11_isTray rfl _ _ rfl) (Or.inl rfl) ?_
  show vP D T N 172 4 h [some (2, 0), some (0, 1), some (0, i), some (0, 3), some (0, j), some (0, n), none, none] [(0, 1)] _
  refine v_if (hT _ zt_X11_pour rfl _ _ rfl) (fun hc3 => absurd (show (1 : Int) = 0 from hc3) (by decide)) (fun _ => ?_)
  refine v_load (v := (0, 3)) (hT _ zt_X11_pour rfl _ _ rfl) rfl rfl ?_
  refine v_call (w := 1) [some (0, 3)] hO (hT _ zt_X11_pour rfl _ _ rfl) rfl rfl ?_
  refine v_load (v := (0, 3)) (hT _ zt_X11_isTray rfl _ _ rfl) rfl rfl ?_
  refine v_if (hT _ zt_X11_isTray rfl _ _ rfl) (fun hc4 => absurd (show (3 : Int) < 0 from hc4) (by decide)) (fun _ => ?_)
  refine v_load (v := (0, 3)) (hT _ zt_X11_isTray rfl _ _ rfl) rfl rfl ?_
  refine v_push (4) (hT _ zt_X11_isTray rfl _ _ rfl) rfl ?_
  refine v_ic (hT _ zt_X11_isTray rfl _ _ rfl) (fun _ => ?_) (fun hc5 => absurd (show (3 : Int) < 4 from (by decide)) hc5)
  refine v_push (1) (hT _ zt_X11_isTray rfl _ _ rfl) rfl ?_
  refine v_goto (hT _ zt_X11_isTray rfl _ _ rfl) ?_
  refine v_ret (hT _ zt_X11_isTray rfl _ _ rfl) (Or.inl rfl) ?_
  show vP D T N 172 11 h [some (2, 0), some (0, 1), some (0, i), some (0, 3), some (0, j), some (0, n), none, none] [(0, 1)] _
  refine v_if (hT _ zt_X11_pour rfl _ _ rfl) (fun hc6 => absurd (show (1 : Int) = 0 from hc6) (by decide)) (fun _ => ?_)
  refine v_load (v := (2, 0)) (hT _ zt_X11_pour rfl _ _ rfl) rfl rfl ?_
  refine v_getR (c := 1) (r := 0) (hT _ zt_X11_pour rfl _ _ rfl) rfl rfl rfl ?_
  refine v_load (v := (0, 1)) (hT _ zt_X11_pour rfl _ _ rfl) rfl rfl ?_
  refine v_aldV (v := (2, 4)) (r := 1) (hT _ zt_X11_pour rfl _ _ rfl) rfl rfl (fun hv _ _ => hv.ref rfl) (fun ha7 hb8 => ?_)
  refine v_store1 [some (2, 0), some (0, 1), some (0, i), some (0, 3), some (0, j), some (0, n), some (2, 4), none] (hT _ zt_X11_pour rfl _ _ rfl) ⟨rfl, Nat.ne_of_beq_eq_false rfl⟩ (Nat.le_of_ble_eq_true rfl) rfl ?_
  refine v_load (v := (2, 0)) (hT _ zt_X11_pour rfl _ _ rfl) rfl rfl ?_
  refine v_getR (c := 1) (r := 0) (hT _ zt_X11_pour rfl _ _ rfl) rfl rfl rfl ?_
  refine v_load (v := (0, 3)) (hT _ zt_X11_pour rfl _ _ rfl) rfl rfl ?_
  refine v_aldV (v := (2, 8)) (r := 1) (hT _ zt_X11_pour rfl _ _ rfl) rfl rfl (fun hv _ _ => hv.ref rfl) (fun ha9 hb10 => ?_)
  refine v_store1 [some (2, 0), some (0, 1), some (0, i), some (0, 3), some (0, j), some (0, n), some (2, 4), some (2, 8)] (hT _ zt_X11_pour rfl _ _ rfl) ⟨rfl, Nat.ne_of_beq_eq_false rfl⟩ (Nat.le_of_ble_eq_true rfl) rfl ?_
  refine v_load (v := (2, 4)) (hT _ zt_X11_pour rfl _ _ rfl) rfl rfl ?_
  refine v_call (w := 1) [some (2, 4)] hO (hT _ zt_X11_pour rfl _ _ rfl) rfl rfl ?_
  refine v_load (v := (2, 4)) (hT _ zt_X9_isMissing rfl _ _ rfl) rfl rfl ?_
  refine v_getI (t := 0) (r := 4) (hT _ zt_X9_isMissing rfl _ _ rfl) rfl rfl rfl ?_
  refine v_push (-1) (hT _ zt_X9_isMissing rfl _ _ rfl) rfl ?_
  refine v_ic (hT _ zt_X9_isMissing rfl _ _ rfl) (fun hc11 => ?_) (fun hc11 => ?_)
  · have hc11 : (h 4 1).2 = -1 := hc11
    refine v_push (1) (hT _ zt_X9_isMissing rfl _ _ rfl) rfl ?_
    refine v_goto (hT _ zt_X9_isMissing rfl _ _ rfl) ?_
    refine v_ret (hT _ zt_X9_isMissing rfl _ _ rfl) (Or.inl rfl) ?_
    show vP D T N 172 41 h [some (2, 0), some (0, 1), some (0, i), some (0, 3), some (0, j), some (0, n), some (2, 4), some (2, 8)] [(0, 1)] _
    refine v_if (hT _ zt_X11_pour rfl _ _ rfl) (fun hc12 => absurd (show (1 : Int) = 0 from hc12) (by decide)) (fun _ => ?_)
    refine v_load (v := (2, 0)) (hT _ zt_X11_pour rfl _ _ rfl) rfl rfl ?_
    refine v_push (3) (hT _ zt_X11_pour rfl _ _ rfl) rfl ?_
    refine v_call (w := 2) [some (2, 0), some (0, 3)] hO (hT _ zt_X11_pour rfl _ _ rfl) rfl rfl ?_
    refine v_load (v := (2, 0)) (hT _ zt_X11_refuse rfl _ _ rfl) rfl rfl ?_
    refine v_load (v := (0, 3)) (hT _ zt_X11_refuse rfl _ _ rfl) rfl rfl ?_
    refine v_putf (r := 0) hO (hT _ zt_X11_refuse rfl _ _ rfl) rfl (fun hf13 => ?_)
    refine v_push (0) (hT _ zt_X11_refuse rfl _ _ rfl) rfl ?_
    refine v_ret (hT _ zt_X11_refuse rfl _ _ rfl) (Or.inl rfl) ?_
    show vP D T N 172 57 (zset h 0 0 (0, 3)) [some (2, 0), some (0, 1), some (0, i), some (0, 3), some (0, j), some (0, n), some (2, 4), some (2, 8)] [(0, 0)] _
    refine v_ret (hT _ zt_X11_pour rfl _ _ rfl) (Or.inl rfl) ?_
    exact k0 hc11
  · have hc11 : (h 4 1).2 ≠ -1 := hc11
    refine v_push (0) (hT _ zt_X9_isMissing rfl _ _ rfl) rfl ?_
    refine v_ret (hT _ zt_X9_isMissing rfl _ _ rfl) (Or.inl rfl) ?_
    show vP D T N 172 41 h [some (2, 0), some (0, 1), some (0, i), some (0, 3), some (0, j), some (0, n), some (2, 4), some (2, 8)] [(0, 0)] _
    refine v_if (hT _ zt_X11_pour rfl _ _ rfl) (fun _ => ?_) (fun hc14 => absurd (show (0 : Int) = 0 from (by decide)) hc14)
    refine v_load (v := (2, 8)) (hT _ zt_X11_pour rfl _ _ rfl) rfl rfl ?_
    refine v_call (w := 1) [some (2, 8)] hO (hT _ zt_X11_pour rfl _ _ rfl) rfl rfl ?_
    refine v_load (v := (2, 8)) (hT _ zt_X9_isMissing rfl _ _ rfl) rfl rfl ?_
    refine v_getI (t := 0) (r := 8) (hT _ zt_X9_isMissing rfl _ _ rfl) rfl rfl rfl ?_
    refine v_push (-1) (hT _ zt_X9_isMissing rfl _ _ rfl) rfl ?_
    refine v_ic (hT _ zt_X9_isMissing rfl _ _ rfl) (fun hc15 => ?_) (fun hc15 => ?_)
    · have hc15 : (h 8 1).2 = -1 := hc15
      refine v_push (1) (hT _ zt_X9_isMissing rfl _ _ rfl) rfl ?_
      refine v_goto (hT _ zt_X9_isMissing rfl _ _ rfl) ?_
      refine v_ret (hT _ zt_X9_isMissing rfl _ _ rfl) (Or.inl rfl) ?_
      show vP D T N 172 49 h [some (2, 0), some (0, 1), some (0, i), some (0, 3), some (0, j), some (0, n), some (2, 4), some (2, 8)] [(0, 1)] _
      refine v_if (hT _ zt_X11_pour rfl _ _ rfl) (fun hc16 => absurd (show (1 : Int) = 0 from hc16) (by decide)) (fun _ => ?_)
      refine v_load (v := (2, 0)) (hT _ zt_X11_pour rfl _ _ rfl) rfl rfl ?_
      refine v_push (3) (hT _ zt_X11_pour rfl _ _ rfl) rfl ?_
      refine v_call (w := 2) [some (2, 0), some (0, 3)] hO (hT _ zt_X11_pour rfl _ _ rfl) rfl rfl ?_
      refine v_load (v := (2, 0)) (hT _ zt_X11_refuse rfl _ _ rfl) rfl rfl ?_
      refine v_load (v := (0, 3)) (hT _ zt_X11_refuse rfl _ _ rfl) rfl rfl ?_
      refine v_putf (r := 0) hO (hT _ zt_X11_refuse rfl _ _ rfl) rfl (fun hf17 => ?_)
      refine v_push (0) (hT _ zt_X11_refuse rfl _ _ rfl) rfl ?_
      refine v_ret (hT _ zt_X11_refuse rfl _ _ rfl) (Or.inl rfl) ?_
      show vP D T N 172 57 (zset h 0 0 (0, 3)) [some (2, 0), some (0, 1), some (0, i), some (0, 3), some (0, j), some (0, n), some (2, 4), some (2, 8)] [(0, 0)] _
      refine v_ret (hT _ zt_X11_pour rfl _ _ rfl) (Or.inl rfl) ?_
      exact k1 hc11 hc15
    · have hc15 : (h 8 1).2 ≠ -1 := hc15
      refine v_push (0) (hT _ zt_X9_isMissing rfl _ _ rfl) rfl ?_
      refine v_ret (hT _ zt_X9_isMissing rfl _ _ rfl) (Or.inl rfl) ?_
      show vP D T N 172 49 h [some (2, 0), some (0, 1), some (0, i), some (0, 3), some (0, j), some (0, n), some (2, 4), some (2, 8)] [(0, 0)] _
      refine v_if (hT _ zt_X11_pour rfl _ _ rfl) (fun _ => ?_) (fun hc18 => absurd (show (0 : Int) = 0 from (by decide)) hc18)
      refine v_load (v := (2, 4)) (hT _ zt_X11_pour rfl _ _ rfl) rfl rfl ?_
      refine v_getI (t := 0) (r := 4) (hT _ zt_X11_pour rfl _ _ rfl) rfl rfl rfl ?_
      refine v_load (v := (2, 8)) (hT _ zt_X11_pour rfl _ _ rfl) rfl rfl ?_
      refine v_getI (t := 0) (r := 8) (hT _ zt_X11_pour rfl _ _ rfl) rfl rfl rfl ?_
      refine v_ic (hT _ zt_X11_pour rfl _ _ rfl) (fun hc19 => ?_) (fun hc19 => ?_)
      · have hc19 : (h 4 1).2 = (h 8 1).2 := hc19
        refine v_load (v := (0, n)) (hT _ zt_X11_pour rfl _ _ rfl) rfl rfl ?_
        refine v_if (hT _ zt_X11_pour rfl _ _ rfl) (fun hc20 => ?_) (fun hc20 => ?_)
        · have hc20 : n < 0 := hc20
          refine v_load (v := (2, 0)) (hT _ zt_X11_pour rfl _ _ rfl) rfl rfl ?_
          refine v_push (6) (hT _ zt_X11_pour rfl _ _ rfl) rfl ?_
          refine v_call (w := 2) [some (2, 0), some (0, 6)] hO (hT _ zt_X11_pour rfl _ _ rfl) rfl rfl ?_
          refine v_load (v := (2, 0)) (hT _ zt_X11_refuse rfl _ _ rfl) rfl rfl ?_
          refine v_load (v := (0, 6)) (hT _ zt_X11_refuse rfl _ _ rfl) rfl rfl ?_
          refine v_putf (r := 0) hO (hT _ zt_X11_refuse rfl _ _ rfl) rfl (fun hf21 => ?_)
          refine v_push (0) (hT _ zt_X11_refuse rfl _ _ rfl) rfl ?_
          refine v_ret (hT _ zt_X11_refuse rfl _ _ rfl) (Or.inl rfl) ?_
          show vP D T N 172 89 (zset h 0 0 (0, 6)) [some (2, 0), some (0, 1), some (0, i), some (0, 3), some (0, j), some (0, n), some (2, 4), some (2, 8)] [(0, 0)] _
          refine v_ret (hT _ zt_X11_pour rfl _ _ rfl) (Or.inl rfl) ?_
          exact k2 hc11 hc15 hc19 hc20
        · have hc20 : 0 ≤ n := Int.not_lt.mp hc20
          refine v_load (v := (2, 4)) (hT _ zt_X11_pour rfl _ _ rfl) rfl rfl ?_
          refine v_load (v := (0, i)) (hT _ zt_X11_pour rfl _ _ rfl) rfl rfl ?_
          refine v_load (v := (0, n)) (hT _ zt_X11_pour rfl _ _ rfl) rfl rfl ?_
          refine v_call (w := 3) [some (2, 4), some (0, i), some (0, n)] hO (hT _ zt_X11_pour rfl _ _ rfl) rfl rfl ?_
          refine v_load (v := (0, i)) (hT _ zt_X9_hasPlaces rfl _ _ rfl) rfl rfl ?_
          refine v_if (hT _ zt_X9_hasPlaces rfl _ _ rfl) (fun hc22 => ?_) (fun hc22 => ?_)
          · have hc22 : i < 0 := hc22
            refine v_push (0) (hT _ zt_X9_hasPlaces rfl _ _ rfl) rfl ?_
            refine v_ret (hT _ zt_X9_hasPlaces rfl _ _ rfl) (Or.inl rfl) ?_
            show vP D T N 172 98 h [some (2, 0), some (0, 1), some (0, i), some (0, 3), some (0, j), some (0, n), some (2, 4), some (2, 8)] [(0, 0)] _
            refine v_if (hT _ zt_X11_pour rfl _ _ rfl) (fun _ => ?_) (fun hc23 => absurd (show (0 : Int) = 0 from (by decide)) hc23)
            refine v_load (v := (2, 0)) (hT _ zt_X11_pour rfl _ _ rfl) rfl rfl ?_
            refine v_push (4) (hT _ zt_X11_pour rfl _ _ rfl) rfl ?_
            refine v_call (w := 2) [some (2, 0), some (0, 4)] hO (hT _ zt_X11_pour rfl _ _ rfl) rfl rfl ?_
            refine v_load (v := (2, 0)) (hT _ zt_X11_refuse rfl _ _ rfl) rfl rfl ?_
            refine v_load (v := (0, 4)) (hT _ zt_X11_refuse rfl _ _ rfl) rfl rfl ?_
            refine v_putf (r := 0) hO (hT _ zt_X11_refuse rfl _ _ rfl) rfl (fun hf24 => ?_)
            refine v_push (0) (hT _ zt_X11_refuse rfl _ _ rfl) rfl ?_
            refine v_ret (hT _ zt_X11_refuse rfl _ _ rfl) (Or.inl rfl) ?_
            show vP D T N 172 118 (zset h 0 0 (0, 4)) [some (2, 0), some (0, 1), some (0, i), some (0, 3), some (0, j), some (0, n), some (2, 4), some (2, 8)] [(0, 0)] _
            refine v_ret (hT _ zt_X11_pour rfl _ _ rfl) (Or.inl rfl) ?_
            exact k3 hc11 hc15 hc19 hc20 hc22
          · have hc22 : 0 ≤ i := Int.not_lt.mp hc22
            refine v_load (v := (0, i)) (hT _ zt_X9_hasPlaces rfl _ _ rfl) rfl rfl ?_
            refine v_load (v := (2, 4)) (hT _ zt_X9_hasPlaces rfl _ _ rfl) rfl rfl ?_
            refine v_getI (t := 0) (r := 4) (hT _ zt_X9_hasPlaces rfl _ _ rfl) rfl rfl rfl ?_
            refine v_load (v := (0, n)) (hT _ zt_X9_hasPlaces rfl _ _ rfl) rfl rfl ?_
            refine v_bin (w := ((h 4 2).2 - n)) (hT _ zt_X9_hasPlaces rfl _ _ rfl) (hq_sub (by omega) (by omega)) ?_
            refine v_ic (hT _ zt_X9_hasPlaces rfl _ _ rfl) (fun hc25 => ?_) (fun hc25 => ?_)
            · have hc25 : ((h 4 2).2 - n) < i := hc25
              refine v_push (0) (hT _ zt_X9_hasPlaces rfl _ _ rfl) rfl ?_
              refine v_ret (hT _ zt_X9_hasPlaces rfl _ _ rfl) (Or.inl rfl) ?_
              show vP D T N 172 98 h [some (2, 0), some (0, 1), some (0, i), some (0, 3), some (0, j), some (0, n), some (2, 4), some (2, 8)] [(0, 0)] _
              refine v_if (hT _ zt_X11_pour rfl _ _ rfl) (fun _ => ?_) (fun hc26 => absurd (show (0 : Int) = 0 from (by decide)) hc26)
              refine v_load (v := (2, 0)) (hT _ zt_X11_pour rfl _ _ rfl) rfl rfl ?_
              refine v_push (4) (hT _ zt_X11_pour rfl _ _ rfl) rfl ?_
              refine v_call (w := 2) [some (2, 0), some (0, 4)] hO (hT _ zt_X11_pour rfl _ _ rfl) rfl rfl ?_
              refine v_load (v := (2, 0)) (hT _ zt_X11_refuse rfl _ _ rfl) rfl rfl ?_
              refine v_load (v := (0, 4)) (hT _ zt_X11_refuse rfl _ _ rfl) rfl rfl ?_
              refine v_putf (r := 0) hO (hT _ zt_X11_refuse rfl _ _ rfl) rfl (fun hf27 => ?_)
              refine v_push (0) (hT _ zt_X11_refuse rfl _ _ rfl) rfl ?_
              refine v_ret (hT _ zt_X11_refuse rfl _ _ rfl) (Or.inl rfl) ?_
              show vP D T N 172 118 (zset h 0 0 (0, 4)) [some (2, 0), some (0, 1), some (0, i), some (0, 3), some (0, j), some (0, n), some (2, 4), some (2, 8)] [(0, 0)] _
              refine v_ret (hT _ zt_X11_pour rfl _ _ rfl) (Or.inl rfl) ?_
              exact k4 hc11 hc15 hc19 hc20 hc22 hc25
            · have hc25 : i ≤ ((h 4 2).2 - n) := Int.not_lt.mp hc25
              refine v_push (1) (hT _ zt_X9_hasPlaces rfl _ _ rfl) rfl ?_
              refine v_goto (hT _ zt_X9_hasPlaces rfl _ _ rfl) ?_
              refine v_ret (hT _ zt_X9_hasPlaces rfl _ _ rfl) (Or.inl rfl) ?_
              show vP D T N 172 98 h [some (2, 0), some (0, 1), some (0, i), some (0, 3), some (0, j), some (0, n), some (2, 4), some (2, 8)] [(0, 1)] _
              refine v_if (hT _ zt_X11_pour rfl _ _ rfl) (fun hc28 => absurd (show (1 : Int) = 0 from hc28) (by decide)) (fun _ => ?_)
              refine v_load (v := (2, 8)) (hT _ zt_X11_pour rfl _ _ rfl) rfl rfl ?_
              refine v_load (v := (0, j)) (hT _ zt_X11_pour rfl _ _ rfl) rfl rfl ?_
              refine v_load (v := (0, n)) (hT _ zt_X11_pour rfl _ _ rfl) rfl rfl ?_
              refine v_call (w := 3) [some (2, 8), some (0, j), some (0, n)] hO (hT _ zt_X11_pour rfl _ _ rfl) rfl rfl ?_
              refine v_load (v := (0, j)) (hT _ zt_X9_hasPlaces rfl _ _ rfl) rfl rfl ?_
              refine v_if (hT _ zt_X9_hasPlaces rfl _ _ rfl) (fun hc29 => ?_) (fun hc29 => ?_)
              · have hc29 : j < 0 := hc29
                refine v_push (0) (hT _ zt_X9_hasPlaces rfl _ _ rfl) rfl ?_
                refine v_ret (hT _ zt_X9_hasPlaces rfl _ _ rfl) (Or.inl rfl) ?_
                show vP D T N 172 110 h [some (2, 0), some (0, 1), some (0, i), some (0, 3), some (0, j), some (0, n), some (2, 4), some (2, 8)] [(0, 0)] _
                refine v_if (hT _ zt_X11_pour rfl _ _ rfl) (fun _ => ?_) (fun hc30 => absurd (show (0 : Int) = 0 from (by decide)) hc30)
                refine v_load (v := (2, 0)) (hT _ zt_X11_pour rfl _ _ rfl) rfl rfl ?_
                refine v_push (4) (hT _ zt_X11_pour rfl _ _ rfl) rfl ?_
                refine v_call (w := 2) [some (2, 0), some (0, 4)] hO (hT _ zt_X11_pour rfl _ _ rfl) rfl rfl ?_
                refine v_load (v := (2, 0)) (hT _ zt_X11_refuse rfl _ _ rfl) rfl rfl ?_
                refine v_load (v := (0, 4)) (hT _ zt_X11_refuse rfl _ _ rfl) rfl rfl ?_
                refine v_putf (r := 0) hO (hT _ zt_X11_refuse rfl _ _ rfl) rfl (fun hf31 => ?_)
                refine v_push (0) (hT _ zt_X11_refuse rfl _ _ rfl) rfl ?_
                refine v_ret (hT _ zt_X11_refuse rfl _ _ rfl) (Or.inl rfl) ?_
                show vP D T N 172 118 (zset h 0 0 (0, 4)) [some (2, 0), some (0, 1), some (0, i), some (0, 3), some (0, j), some (0, n), some (2, 4), some (2, 8)] [(0, 0)] _
                refine v_ret (hT _ zt_X11_pour rfl _ _ rfl) (Or.inl rfl) ?_
                exact k5 hc11 hc15 hc19 hc20 hc22 hc25 hc29
              · have hc29 : 0 ≤ j := Int.not_lt.mp hc29
                refine v_load (v := (0, j)) (hT _ zt_X9_hasPlaces rfl _ _ rfl) rfl rfl ?_
                refine v_load (v := (2, 8)) (hT _ zt_X9_hasPlaces rfl _ _ rfl) rfl rfl ?_
                refine v_getI (t := 0) (r := 8) (hT _ zt_X9_hasPlaces rfl _ _ rfl) rfl rfl rfl ?_
                refine v_load (v := (0, n)) (hT _ zt_X9_hasPlaces rfl _ _ rfl) rfl rfl ?_
                refine v_bin (w := ((h 8 2).2 - n)) (hT _ zt_X9_hasPlaces rfl _ _ rfl) (hq_sub (by omega) (by omega)) ?_
                refine v_ic (hT _ zt_X9_hasPlaces rfl _ _ rfl) (fun hc32 => ?_) (fun hc32 => ?_)
                · have hc32 : ((h 8 2).2 - n) < j := hc32
                  refine v_push (0) (hT _ zt_X9_hasPlaces rfl _ _ rfl) rfl ?_
                  refine v_ret (hT _ zt_X9_hasPlaces rfl _ _ rfl) (Or.inl rfl) ?_
                  show vP D T N 172 110 h [some (2, 0), some (0, 1), some (0, i), some (0, 3), some (0, j), some (0, n), some (2, 4), some (2, 8)] [(0, 0)] _
                  refine v_if (hT _ zt_X11_pour rfl _ _ rfl) (fun _ => ?_) (fun hc33 => absurd (show (0 : Int) = 0 from (by decide)) hc33)
                  refine v_load (v := (2, 0)) (hT _ zt_X11_pour rfl _ _ rfl) rfl rfl ?_
                  refine v_push (4) (hT _ zt_X11_pour rfl _ _ rfl) rfl ?_
                  refine v_call (w := 2) [some (2, 0), some (0, 4)] hO (hT _ zt_X11_pour rfl _ _ rfl) rfl rfl ?_
                  refine v_load (v := (2, 0)) (hT _ zt_X11_refuse rfl _ _ rfl) rfl rfl ?_
                  refine v_load (v := (0, 4)) (hT _ zt_X11_refuse rfl _ _ rfl) rfl rfl ?_
                  refine v_putf (r := 0) hO (hT _ zt_X11_refuse rfl _ _ rfl) rfl (fun hf34 => ?_)
                  refine v_push (0) (hT _ zt_X11_refuse rfl _ _ rfl) rfl ?_
                  refine v_ret (hT _ zt_X11_refuse rfl _ _ rfl) (Or.inl rfl) ?_
                  show vP D T N 172 118 (zset h 0 0 (0, 4)) [some (2, 0), some (0, 1), some (0, i), some (0, 3), some (0, j), some (0, n), some (2, 4), some (2, 8)] [(0, 0)] _
                  refine v_ret (hT _ zt_X11_pour rfl _ _ rfl) (Or.inl rfl) ?_
                  exact k6 hc11 hc15 hc19 hc20 hc22 hc25 hc29 hc32
                · have hc32 : j ≤ ((h 8 2).2 - n) := Int.not_lt.mp hc32
                  refine v_push (1) (hT _ zt_X9_hasPlaces rfl _ _ rfl) rfl ?_
                  refine v_goto (hT _ zt_X9_hasPlaces rfl _ _ rfl) ?_
                  refine v_ret (hT _ zt_X9_hasPlaces rfl _ _ rfl) (Or.inl rfl) ?_
                  show vP D T N 172 110 h [some (2, 0), some (0, 1), some (0, i), some (0, 3), some (0, j), some (0, n), some (2, 4), some (2, 8)] [(0, 1)] _
                  refine v_if (hT _ zt_X11_pour rfl _ _ rfl) (fun hc35 => absurd (show (1 : Int) = 0 from hc35) (by decide)) (fun _ => ?_)
                  refine v_load (v := (2, 4)) (hT _ zt_X11_pour rfl _ _ rfl) rfl rfl ?_
                  refine v_getR (c := 5) (r := 4) (hT _ zt_X11_pour rfl _ _ rfl) rfl rfl rfl ?_
                  refine v_load (v := (0, i)) (hT _ zt_X11_pour rfl _ _ rfl) rfl rfl ?_
                  refine v_load (v := (2, 8)) (hT _ zt_X11_pour rfl _ _ rfl) rfl rfl ?_
                  refine v_getR (c := 9) (r := 8) (hT _ zt_X11_pour rfl _ _ rfl) rfl rfl rfl ?_
                  refine v_load (v := (0, j)) (hT _ zt_X11_pour rfl _ _ rfl) rfl rfl ?_
                  refine v_load (v := (0, n)) (hT _ zt_X11_pour rfl _ _ rfl) rfl rfl ?_
                  refine v_copy (r0 := 5) (r1 := 9) (hT _ zt_X11_pour rfl _ _ rfl) rfl rfl rfl rfl (fun hd36 hd37 hd38 hd39 hd40 => ?_)
                  refine v_load (v := (2, 0)) (hT _ zt_X11_pour rfl _ _ rfl) rfl rfl ?_
                  refine v_call (w := 1) [some (2, 0)] hO (hT _ zt_X11_pour rfl _ _ rfl) rfl rfl ?_
                  refine v_load (v := (2, 0)) (hT _ zt_X11_accept rfl _ _ rfl) rfl rfl ?_
                  refine v_push (0) (hT _ zt_X11_accept rfl _ _ rfl) rfl ?_
                  refine v_putf (r := 0) hO (hT _ zt_X11_accept rfl _ _ rfl) rfl (fun hf41 => ?_)
                  refine v_push (1) (hT _ zt_X11_accept rfl _ _ rfl) rfl ?_
                  refine v_ret (hT _ zt_X11_accept rfl _ _ rfl) (Or.inl rfl) ?_
                  show vP D T N 172 141 (zset (zcopy h 5 i.toNat 9 j.toNat n.toNat) 0 0 (0, 0)) [some (2, 0), some (0, 1), some (0, i), some (0, 3), some (0, j), some (0, n), some (2, 4), some (2, 8)] [(0, 1)] _
                  refine v_ret (hT _ zt_X11_pour rfl _ _ rfl) (Or.inl rfl) ?_
                  exact k7 hc11 hc15 hc19 hc20 hc22 hc25 hc29 hc32 hd36 hd37 hd38 hd39 hd40
      · have hc19 : (h 4 1).2 ≠ (h 8 1).2 := hc19
        refine v_load (v := (2, 0)) (hT _ zt_X11_pour rfl _ _ rfl) rfl rfl ?_
        refine v_push (11) (hT _ zt_X11_pour rfl _ _ rfl) rfl ?_
        refine v_call (w := 2) [some (2, 0), some (0, 11)] hO (hT _ zt_X11_pour rfl _ _ rfl) rfl rfl ?_
        refine v_load (v := (2, 0)) (hT _ zt_X11_refuse rfl _ _ rfl) rfl rfl ?_
        refine v_load (v := (0, 11)) (hT _ zt_X11_refuse rfl _ _ rfl) rfl rfl ?_
        refine v_putf (r := 0) hO (hT _ zt_X11_refuse rfl _ _ rfl) rfl (fun hf42 => ?_)
        refine v_push (0) (hT _ zt_X11_refuse rfl _ _ rfl) rfl ?_
        refine v_ret (hT _ zt_X11_refuse rfl _ _ rfl) (Or.inl rfl) ?_
        show vP D T N 172 77 (zset h 0 0 (0, 11)) [some (2, 0), some (0, 1), some (0, i), some (0, 3), some (0, j), some (0, n), some (2, 4), some (2, 8)] [(0, 0)] _
        refine v_ret (hT _ zt_X11_pour rfl _ _ rfl) (Or.inl rfl) ?_
        exact k8 hc11 hc15 hc19
theorem y_X11_pour_2_0 {D : zD} {T : zT} (hT : hTab T) (hO : vOK T) {N : Nat} {h : zH} {Q : zR → Prop} (i j n : Int) (hv0 : zHv h) (hb : 0 ≤ (h 6 2).2 ∧ (h 6 2).2 ≤ 60) (hc : 0 ≤ (h 2 2).2 ∧ (h 2 2).2 ≤ 60) (hn : n ≤ 2147483647)
    (k0 : ((h 6 1).2 = -1) → Q (zset h 0 0 (0, 3), some (0, 0)))
    (k1 : ((h 6 1).2 ≠ -1) → ((h 2 1).2 = -1) → Q (zset h 0 0 (0, 3), some (0, 0)))
    (k2 : ((h 6 1).2 ≠ -1) → ((h 2 1).2 ≠ -1) → ((h 6 1).2 = (h 2 1).2) → (n < 0) → Q (zset h 0 0 (0, 6), some (0, 0)))
    (k3 : ((h 6 1).2 ≠ -1) → ((h 2 1).2 ≠ -1) → ((h 6 1).2 = (h 2 1).2) → (0 ≤ n) → (i < 0) → Q (zset h 0 0 (0, 4), some (0, 0)))
    (k4 : ((h 6 1).2 ≠ -1) → ((h 2 1).2 ≠ -1) → ((h 6 1).2 = (h 2 1).2) → (0 ≤ n) → (0 ≤ i) → (((h 6 2).2 - n) < i) → Q (zset h 0 0 (0, 4), some (0, 0)))
    (k5 : ((h 6 1).2 ≠ -1) → ((h 2 1).2 ≠ -1) → ((h 6 1).2 = (h 2 1).2) → (0 ≤ n) → (0 ≤ i) → (i ≤ ((h 6 2).2 - n)) → (j < 0) → Q (zset h 0 0 (0, 4), some (0, 0)))
    (k6 : ((h 6 1).2 ≠ -1) → ((h 2 1).2 ≠ -1) → ((h 6 1).2 = (h 2 1).2) → (0 ≤ n) → (0 ≤ i) → (i ≤ ((h 6 2).2 - n)) → (0 ≤ j) → (((h 2 2).2 - n) < j) → Q (zset h 0 0 (0, 4), some (0, 0)))
    (k7 : ((h 6 1).2 ≠ -1) → ((h 2 1).2 ≠ -1) → ((h 6 1).2 = (h 2 1).2) → (0 ≤ n) → (0 ≤ i) → (i ≤ ((h 6 2).2 - n)) → (0 ≤ j) → (j ≤ ((h 2 2).2 - n)) → (0 ≤ n) → (0 ≤ i) → (0 ≤ j) → (i + n ≤ 60) → (j + n ≤ 60) → Q (zset (zcopy h 7 i.toNat 3 j.toNat n.toNat) 0 0 (0, 0), some (0, 1)))
    (k8 : ((h 6 1).2 ≠ -1) → ((h 2 1).2 ≠ -1) → ((h 6 1).2 ≠ (h 2 1).2) → Q (zset h 0 0 (0, 11), some (0, 0))) :
    vP D T N 172 0 h [some (2, 0), some (0, 2), some (0, i), some (0, 0), some (0, j), some (0, n), none, none] [] Q := by
  refine v_load (v := (0, 2)) (hT _ zt_X11_pour rfl _ _ rfl) rfl rfl ?_
  refine v_call (w := 1) [some (0, 2)] hO (hT _ zt_X11_pour rfl _ _ rfl) rfl rfl ?_
  refine v_load (v := (0, 2)) (hT _ zt_X11_isTray rfl _ _ rfl) rfl rfl ?_
  refine v_if (hT _ zt_X11_isTray rfl _ _ rfl) (fun hc1 => absurd (show (2 : Int) < 0 from hc1) (by decide)) (fun _ => ?_)
  refine v_load (v := (0, 2)) (hT _ zt_X11_isTray rfl _ _ rfl) rfl rfl ?_
  refine v_push (4) (hT _ zt_X11_isTray rfl _ _ rfl) rfl ?_
  refine v_ic (hT _ zt_X11_isTray rfl _ _ rfl) (fun _ => ?_) (fun hc2 => absurd (show (2 : Int) < 4 from (by decide)) hc2)
  refine v_push (1) (hT _ zt_X11_isTray rfl _ _ rfl) rfl ?_
  refine v_goto (hT _ zt_X11_isTray rfl _ _ rfl) ?_
  refine v_ret (hT _ zt_X11_isTray rfl _ _ rfl) (Or.inl rfl) ?_
  show vP D T N 172 4 h [some (2, 0), some (0, 2), some (0, i), some (0, 0), some (0, j), some (0, n), none, none] [(0, 1)] _
  refine v_if (hT _ zt_X11_pour rfl _ _ rfl) (fun hc3 => absurd (show (1 : Int) = 0 from hc3) (by decide)) (fun _ => ?_)
  refine v_load (v := (0, 0)) (hT _ zt_X11_pour rfl _ _ rfl) rfl rfl ?_
  refine v_call (w := 1) [some (0, 0)] hO (hT _ zt_X11_pour rfl _ _ rfl) rfl rfl ?_
  refine v_load (v := (0, 0)) (hT _ zt_X11_isTray rfl _ _ rfl) rfl rfl ?_
  refine v_if (hT _ zt_X11_isTray rfl _ _ rfl) (fun hc4 => absurd (show (0 : Int) < 0 from hc4) (by decide)) (fun _ => ?_)
  refine v_load (v := (0, 0)) (hT _ zt_X11_isTray rfl _ _ rfl) rfl rfl ?_
  refine v_push (4) (hT _ zt_X11_isTray rfl _ _ rfl) rfl ?_
  refine v_ic (hT _ zt_X11_isTray rfl _ _ rfl) (fun _ => ?_) (fun hc5 => absurd (show (0 : Int) < 4 from (by decide)) hc5)
  refine v_push (1) (hT _ zt_X11_isTray rfl _ _ rfl) rfl ?_
  refine v_goto (hT _ zt_X11_isTray rfl _ _ rfl) ?_
  refine v_ret (hT _ zt_X11_isTray rfl _ _ rfl) (Or.inl rfl) ?_
  show vP D T N 172 11 h [some (2, 0), some (0, 2), some (0, i), some (0, 0), some (0, j), some (0, n), none, none] [(0, 1)] _
  refine v_if (hT _ zt_X11_pour rfl _ _ rfl) (fun hc6 => absurd (show (1 : Int) = 0 from hc6) (by decide)) (fun _ => ?_)
  refine v_load (v := (2, 0)) (hT _ zt_X11_pour rfl _ _ rfl) rfl rfl ?_
  refine v_getR (c := 1) (r := 0) (hT _ zt_X11_pour rfl _ _ rfl) rfl rfl rfl ?_
  refine v_load (v := (0, 2)) (hT _ zt_X11_pour rfl _ _ rfl) rfl rfl ?_
  refine v_aldV (v := (2, 6)) (r := 1) (hT _ zt_X11_pour rfl _ _ rfl) rfl rfl (fun hv _ _ => hv.ref rfl) (fun ha7 hb8 => ?_)
  refine v_store1 [some (2, 0), some (0, 2), some (0, i), some (0, 0), some (0, j), some (0, n), some (2, 6), none] (hT _ zt_X11_pour rfl _ _ rfl) ⟨rfl, Nat.ne_of_beq_eq_false rfl⟩ (Nat.le_of_ble_eq_true rfl) rfl ?_
  refine v_load (v := (2, 0)) (hT _ zt_X11_pour rfl _ _ rfl) rfl rfl ?_
  refine v_getR (c := 1) (r := 0) (hT _ zt_X11_pour rfl _ _ rfl) rfl rfl rfl ?_
  refine v_load (v := (0, 0)) (hT _ zt_X11_pour rfl _ _ rfl) rfl rfl ?_
  refine v_aldV (v := (2, 2)) (r := 1) (hT _ zt_X11_pour rfl _ _ rfl) rfl rfl (fun hv _ _ => hv.ref rfl) (fun ha9 hb10 => ?_)
  refine v_store1 [some (2, 0), some (0, 2), some (0, i), some (0, 0), some (0, j), some (0, n), some (2, 6), some (2, 2)] (hT _ zt_X11_pour rfl _ _ rfl) ⟨rfl, Nat.ne_of_beq_eq_false rfl⟩ (Nat.le_of_ble_eq_true rfl) rfl ?_
  refine v_load (v := (2, 6)) (hT _ zt_X11_pour rfl _ _ rfl) rfl rfl ?_
  refine v_call (w := 1) [some (2, 6)] hO (hT _ zt_X11_pour rfl _ _ rfl) rfl rfl ?_
  refine v_load (v := (2, 6)) (hT _ zt_X9_isMissing rfl _ _ rfl) rfl rfl ?_
  refine v_getI (t := 0) (r := 6) (hT _ zt_X9_isMissing rfl _ _ rfl) rfl rfl rfl ?_
  refine v_push (-1) (hT _ zt_X9_isMissing rfl _ _ rfl) rfl ?_
  refine v_ic (hT _ zt_X9_isMissing rfl _ _ rfl) (fun hc11 => ?_) (fun hc11 => ?_)
  · have hc11 : (h 6 1).2 = -1 := hc11
    refine v_push (1) (hT _ zt_X9_isMissing rfl _ _ rfl) rfl ?_
    refine v_goto (hT _ zt_X9_isMissing rfl _ _ rfl) ?_
    refine v_ret (hT _ zt_X9_isMissing rfl _ _ rfl) (Or.inl rfl) ?_
    show vP D T N 172 41 h [some (2, 0), some (0, 2), some (0, i), some (0, 0), some (0, j), some (0, n), some (2, 6), some (2, 2)] [(0, 1)] _
    refine v_if (hT _ zt_X11_pour rfl _ _ rfl) (fun hc12 => absurd (show (1 : Int) = 0 from hc12) (by decide)) (fun _ => ?_)
    refine v_load (v := (2, 0)) (hT _ zt_X11_pour rfl _ _ rfl) rfl rfl ?_
    refine v_push (3) (hT _ zt_X11_pour rfl _ _ rfl) rfl ?_
    refine v_call (w := 2) [some (2, 0), some (0, 3)] hO (hT _ zt_X11_pour rfl _ _ rfl) rfl rfl ?_
    refine v_load (v := (2, 0)) (hT _ zt_X11_refuse rfl _ _ rfl) rfl rfl ?_
    refine v_load (v := (0, 3)) (hT _ zt_X11_refuse rfl _ _ rfl) rfl rfl ?_
    refine v_putf (r := 0) hO (hT _ zt_X11_refuse rfl _ _ rfl) rfl (fun hf13 => ?_)
    refine v_push (0) (hT _ zt_X11_refuse rfl _ _ rfl) rfl ?_
    refine v_ret (hT _ zt_X11_refuse rfl _ _ rfl) (Or.inl rfl) ?_
    show vP D T N 172 57 (zset h 0 0 (0, 3)) [some (2, 0), some (0, 2), some (0, i), some (0, 0), some (0, j), some (0, n), some (2, 6), some (2, 2)] [(0, 0)] _
    refine v_ret (hT _ zt_X11_pour rfl _ _ rfl) (Or.inl rfl) ?_
    exact k0 hc11
  · have hc11 : (h 6 1).2 ≠ -1 := hc11
    refine v_push (0) (hT _ zt_X9_isMissing rfl _ _ rfl) rfl ?_
    refine v_ret (hT _ zt_X9_isMissing rfl _ _ rfl) (Or.inl rfl) ?_
    show vP D T N 172 41 h [some (2, 0), some (0, 2), some (0, i), some (0, 0), some (0, j), some (0, n), some (2, 6), some (2, 2)] [(0, 0)] _
    refine v_if (hT _ zt_X11_pour rfl _ _ rfl) (fun _ => ?_) (fun hc14 => absurd (show (0 : Int) = 0 from (by decide)) hc14)
    refine v_load (v := (2, 2)) (hT _ zt_X11_pour rfl _ _ rfl) rfl rfl ?_
    refine v_call (w := 1) [some (2, 2)] hO (hT _ zt_X11_pour rfl _ _ rfl) rfl rfl ?_
    refine v_load (v := (2, 2)) (hT _ zt_X9_isMissing rfl _ _ rfl) rfl rfl ?_
    refine v_getI (t := 0) (r := 2) (hT _ zt_X9_isMissing rfl _ _ rfl) rfl rfl rfl ?_
    refine v_push (-1) (hT _ zt_X9_isMissing rfl _ _ rfl) rfl ?_
    refine v_ic (hT _ zt_X9_isMissing rfl _ _ rfl) (fun hc15 => ?_) (fun hc15 => ?_)
    · have hc15 : (h 2 1).2 = -1 := hc15
      refine v_push (1) (hT _ zt_X9_isMissing rfl _ _ rfl) rfl ?_
      refine v_goto (hT _ zt_X9_isMissing rfl _ _ rfl) ?_
      refine v_ret (hT _ zt_X9_isMissing rfl _ _ rfl) (Or.inl rfl) ?_
      show vP D T N 172 49 h [some (2, 0), some (0, 2), some (0, i), some (0, 0), some (0, j), some (0, n), some (2, 6), some (2, 2)] [(0, 1)] _
      refine v_if (hT _ zt_X11_pour rfl _ _ rfl) (fun hc16 => absurd (show (1 : Int) = 0 from hc16) (by decide)) (fun _ => ?_)
      refine v_load (v := (2, 0)) (hT _ zt_X11_pour rfl _ _ rfl) rfl rfl ?_
      refine v_push (3) (hT _ zt_X11_pour rfl _ _ rfl) rfl ?_
      refine v_call (w := 2) [some (2, 0), some (0, 3)] hO (hT _ zt_X11_pour rfl _ _ rfl) rfl rfl ?_
      refine v_load (v := (2, 0)) (hT _ zt_X11_refuse rfl _ _ rfl) rfl rfl ?_
      refine v_load (v := (0, 3)) (hT _ zt_X11_refuse rfl _ _ rfl) rfl rfl ?_
      refine v_putf (r := 0) hO (hT _ zt_X11_refuse rfl _ _ rfl) rfl (fun hf17 => ?_)
      refine v_push (0) (hT _ zt_X11_refuse rfl _ _ rfl) rfl ?_
      refine v_ret (hT _ zt_X11_refuse rfl _ _ rfl) (Or.inl rfl) ?_
      show vP D T N 172 57 (zset h 0 0 (0, 3)) [some (2, 0), some (0, 2), some (0, i), some (0, 0), some (0, j), some (0, n), some (2, 6), some (2, 2)] [(0, 0)] _
      refine v_ret (hT _ zt_X11_pour rfl _ _ rfl) (Or.inl rfl) ?_
      exact k1 hc11 hc15
    · have hc15 : (h 2 1).2 ≠ -1 := hc15
      refine v_push (0) (hT _ zt_X9_isMissing rfl _ _ rfl) rfl ?_
      refine v_ret (hT _ zt_X9_isMissing rfl _ _ rfl) (Or.inl rfl) ?_
      show vP D T N 172 49 h [some (2, 0), some (0, 2), some (0, i), some (0, 0), some (0, j), some (0, n), some (2, 6), some (2, 2)] [(0, 0)] _
      refine v_if (hT _ zt_X11_pour rfl _ _ rfl) (fun _ => ?_) (fun hc18 => absurd (show (0 : Int) = 0 from (by decide)) hc18)
      refine v_load (v := (2, 6)) (hT _ zt_X11_pour rfl _ _ rfl) rfl rfl ?_
      refine v_getI (t := 0) (r := 6) (hT _ zt_X11_pour rfl _ _ rfl) rfl rfl rfl ?_
      refine v_load (v := (2, 2)) (hT _ zt_X11_pour rfl _ _ rfl) rfl rfl ?_
      refine v_getI (t := 0) (r := 2) (hT _ zt_X11_pour rfl _ _ rfl) rfl rfl rfl ?_
      refine v_ic (hT _ zt_X11_pour rfl _ _ rfl) (fun hc19 => ?_) (fun hc19 => ?_)
      · have hc19 : (h 6 1).2 = (h 2 1).2 := hc19
        refine v_load (v := (0, n)) (hT _ zt_X11_pour rfl _ _ rfl) rfl rfl ?_
        refine v_if (hT _ zt_X11_pour rfl _ _ rfl) (fun hc20 => ?_) (fun hc20 => ?_)
        · have hc20 : n < 0 := hc20
          refine v_load (v := (2, 0)) (hT _ zt_X11_pour rfl _ _ rfl) rfl rfl ?_
          refine v_push (6) (hT _ zt_X11_pour rfl _ _ rfl) rfl ?_
          refine v_call (w := 2) [some (2, 0), some (0, 6)] hO (hT _ zt_X11_pour rfl _ _ rfl) rfl rfl ?_
          refine v_load (v := (2, 0)) (hT _ zt_X11_refuse rfl _ _ rfl) rfl rfl ?_
          refine v_load (v := (0, 6)) (hT _ zt_X11_refuse rfl _ _ rfl) rfl rfl ?_
          refine v_putf (r := 0) hO (hT _ zt_X11_refuse rfl _ _ rfl) rfl (fun hf21 => ?_)
          refine v_push (0) (hT _ zt_X11_refuse rfl _ _ rfl) rfl ?_
          refine v_ret (hT _ zt_X11_refuse rfl _ _ rfl) (Or.inl rfl) ?_
          show vP D T N 172 89 (zset h 0 0 (0, 6)) [some (2, 0), some (0, 2), some (0, i), some (0, 0), some (0, j), some (0, n), some (2, 6), some (2, 2)] [(0, 0)] _
          refine v_ret (hT _ zt_X11_pour rfl _ _ rfl) (Or.inl rfl) ?_
          exact k2 hc11 hc15 hc19 hc20
        · have hc20 : 0 ≤ n := Int.not_lt.mp hc20
          refine v_load (v := (2, 6)) (hT _ zt_X11_pour rfl _ _ rfl) rfl rfl ?_
          refine v_load (v := (0, i)) (hT _ zt_X11_pour rfl _ _ rfl) rfl rfl ?_
          refine v_load (v := (0, n)) (hT _ zt_X11_pour rfl _ _ rfl) rfl rfl ?_
          refine v_call (w := 3) [some (2, 6), some (0, i), some (0, n)] hO (hT _ zt_X11_pour rfl _ _ rfl) rfl rfl ?_
          refine v_load (v := (0, i)) (hT _ zt_X9_hasPlaces rfl _ _ rfl) rfl rfl ?_
          refine v_if (hT _ zt_X9_hasPlaces rfl _ _ rfl) (fun hc22 => ?_) (fun hc22 => ?_)
          · have hc22 : i < 0 := hc22
            refine v_push (0) (hT _ zt_X9_hasPlaces rfl _ _ rfl) rfl ?_
            refine v_ret (hT _ zt_X9_hasPlaces rfl _ _ rfl) (Or.inl rfl) ?_
            show vP D T N 172 98 h [some (2, 0), some (0, 2), some (0, i), some (0, 0), some (0, j), some (0, n), some (2, 6), some (2, 2)] [(0, 0)] _
            refine v_if (hT _ zt_X11_pour rfl _ _ rfl) (fun _ => ?_) (fun hc23 => absurd (show (0 : Int) = 0 from (by decide)) hc23)
            refine v_load (v := (2, 0)) (hT _ zt_X11_pour rfl _ _ rfl) rfl rfl ?_
            refine v_push (4) (hT _ zt_X11_pour rfl _ _ rfl) rfl ?_
            refine v_call (w := 2) [some (2, 0), some (0, 4)] hO (hT _ zt_X11_pour rfl _ _ rfl) rfl rfl ?_
            refine v_load (v := (2, 0)) (hT _ zt_X11_refuse rfl _ _ rfl) rfl rfl ?_
            refine v_load (v := (0, 4)) (hT _ zt_X11_refuse rfl _ _ rfl) rfl rfl ?_
            refine v_putf (r := 0) hO (hT _ zt_X11_refuse rfl _ _ rfl) rfl (fun hf24 => ?_)
            refine v_push (0) (hT _ zt_X11_refuse rfl _ _ rfl) rfl ?_
            refine v_ret (hT _ zt_X11_refuse rfl _ _ rfl) (Or.inl rfl) ?_
            show vP D T N 172 118 (zset h 0 0 (0, 4)) [some (2, 0), some (0, 2), some (0, i), some (0, 0), some (0, j), some (0, n), some (2, 6), some (2, 2)] [(0, 0)] _
            refine v_ret (hT _ zt_X11_pour rfl _ _ rfl) (Or.inl rfl) ?_
            exact k3 hc11 hc15 hc19 hc20 hc22
          · have hc22 : 0 ≤ i := Int.not_lt.mp hc22
            refine v_load (v := (0, i)) (hT _ zt_X9_hasPlaces rfl _ _ rfl) rfl rfl ?_
            refine v_load (v := (2, 6)) (hT _ zt_X9_hasPlaces rfl _ _ rfl) rfl rfl ?_
            refine v_getI (t := 0) (r := 6) (hT _ zt_X9_hasPlaces rfl _ _ rfl) rfl rfl rfl ?_
            refine v_load (v := (0, n)) (hT _ zt_X9_hasPlaces rfl _ _ rfl) rfl rfl ?_
            refine v_bin (w := ((h 6 2).2 - n)) (hT _ zt_X9_hasPlaces rfl _ _ rfl) (hq_sub (by omega) (by omega)) ?_
            refine v_ic (hT _ zt_X9_hasPlaces rfl _ _ rfl) (fun hc25 => ?_) (fun hc25 => ?_)
            · have hc25 : ((h 6 2).2 - n) < i := hc25
              refine v_push (0) (hT _ zt_X9_hasPlaces rfl _ _ rfl) rfl ?_
              refine v_ret (hT _ zt_X9_hasPlaces rfl _ _ rfl) (Or.inl rfl) ?_
              show vP D T N 172 98 h [some (2, 0), some (0, 2), some (0, i), some (0, 0), some (0, j), some (0, n), some (2, 6), some (2, 2)] [(0, 0)] _
              refine v_if (hT _ zt_X11_pour rfl _ _ rfl) (fun _ => ?_) (fun hc26 => absurd (show (0 : Int) = 0 from (by decide)) hc26)
              refine v_load (v := (2, 0)) (hT _ zt_X11_pour rfl _ _ rfl) rfl rfl ?_
              refine v_push (4) (hT _ zt_X11_pour rfl _ _ rfl) rfl ?_
              refine v_call (w := 2) [some (2, 0), some (0, 4)] hO (hT _ zt_X11_pour rfl _ _ rfl) rfl rfl ?_
              refine v_load (v := (2, 0)) (hT _ zt_X11_refuse rfl _ _ rfl) rfl rfl ?_
              refine v_load (v := (0, 4)) (hT _ zt_X11_refuse rfl _ _ rfl) rfl rfl ?_
              refine v_putf (r := 0) hO (hT _ zt_X11_refuse rfl _ _ rfl) rfl (fun hf27 => ?_)
              refine v_push (0) (hT _ zt_X11_refuse rfl _ _ rfl) rfl ?_
              refine v_ret (hT _ zt_X11_refuse rfl _ _ rfl) (Or.inl rfl) ?_
              show vP D T N 172 118 (zset h 0 0 (0, 4)) [some (2, 0), some (0, 2), some (0, i), some (0, 0), some (0, j), some (0, n), some (2, 6), some (2, 2)] [(0, 0)] _
              refine v_ret (hT _ zt_X11_pour rfl _ _ rfl) (Or.inl rfl) ?_
              exact k4 hc11 hc15 hc19 hc20 hc22 hc25
            · have hc25 : i ≤ ((h 6 2).2 - n) := Int.not_lt.mp hc25
              refine v_push (1) (hT _ zt_X9_hasPlaces rfl _ _ rfl) rfl ?_
              refine v_goto (hT _ zt_X9_hasPlaces rfl _ _ rfl) ?_
              refine v_ret (hT _ zt_X9_hasPlaces rfl _ _ rfl) (Or.inl rfl) ?_
              show vP D T N 172 98 h [some (2, 0), some (0, 2), some (0, i), some (0, 0), some (0, j), some (0, n), some (2, 6), some (2, 2)] [(0, 1)] _
              refine v_if (hT _ zt_X11_pour rfl _ _ rfl) (fun hc28 => absurd (show (1 : Int) = 0 from hc28) (by decide)) (fun _ => ?_)
              refine v_load (v := (2, 2)) (hT _ zt_X11_pour rfl _ _ rfl) rfl rfl ?_
              refine v_load (v := (0, j)) (hT _ zt_X11_pour rfl _ _ rfl) rfl rfl ?_
              refine v_load (v := (0, n)) (hT _ zt_X11_pour rfl _ _ rfl) rfl rfl ?_
              refine v_call (w := 3) [some (2, 2), some (0, j), some (0, n)] hO (hT _ zt_X11_pour rfl _ _ rfl) rfl rfl ?_
              refine v_load (v := (0, j)) (hT _ zt_X9_hasPlaces rfl _ _ rfl) rfl rfl ?_
              refine v_if (hT _ zt_X9_hasPlaces rfl _ _ rfl) (fun hc29 => ?_) (fun hc29 => ?_)
              · have hc29 : j < 0 := hc29
                refine v_push (0) (hT _ zt_X9_hasPlaces rfl _ _ rfl) rfl ?_
                refine v_ret (hT _ zt_X9_hasPlaces rfl _ _ rfl) (Or.inl rfl) ?_
                show vP D T N 172 110 h [some (2, 0), some (0, 2), some (0, i), some (0, 0), some (0, j), some (0, n), some (2, 6), some (2, 2)] [(0, 0)] _
                refine v_if (hT _ zt_X11_pour rfl _ _ rfl) (fun _ => ?_) (fun hc30 => absurd (show (0 : Int) = 0 from (by decide)) hc30)
                refine v_load (v := (2, 0)) (hT _ zt_X11_pour rfl _ _ rfl) rfl rfl ?_
                refine v_push (4) (hT _ zt_X11_pour rfl _ _ rfl) rfl ?_
                refine v_call (w := 2) [some (2, 0), some (0, 4)] hO (hT _ zt_X11_pour rfl _ _ rfl) rfl rfl ?_
                refine v_load (v := (2, 0)) (hT _ zt_X11_refuse rfl _ _ rfl) rfl rfl ?_
                refine v_load (v := (0, 4)) (hT _ zt_X11_refuse rfl _ _ rfl) rfl rfl ?_
                refine v_putf (r := 0) hO (hT _ zt_X11_refuse rfl _ _ rfl) rfl (fun hf31 => ?_)
                refine v_push (0) (hT _ zt_X11_refuse rfl _ _ rfl) rfl ?_
                refine v_ret (hT _ zt_X11_refuse rfl _ _ rfl) (Or.inl rfl) ?_
                show vP D T N 172 118 (zset h 0 0 (0, 4)) [some (2, 0), some (0, 2), some (0, i), some (0, 0), some (0, j), some (0, n), some (2, 6), some (2, 2)] [(0, 0)] _
                refine v_ret (hT _ zt_X11_pour rfl _ _ rfl) (Or.inl rfl) ?_
                exact k5 hc11 hc15 hc19 hc20 hc22 hc25 hc29
              · have hc29 : 0 ≤ j := Int.not_lt.mp hc29
                refine v_load (v := (0, j)) (hT _ zt_X9_hasPlaces rfl _ _ rfl) rfl rfl ?_
                refine v_load (v := (2, 2)) (hT _ zt_X9_hasPlaces rfl _ _ rfl) rfl rfl ?_
                refine v_getI (t := 0) (r := 2) (hT _ zt_X9_hasPlaces rfl _ _ rfl) rfl rfl rfl ?_
                refine v_load (v := (0, n)) (hT _ zt_X9_hasPlaces rfl _ _ rfl) rfl rfl ?_
                refine v_bin (w := ((h 2 2).2 - n)) (hT _ zt_X9_hasPlaces rfl _ _ rfl) (hq_sub (by omega) (by omega)) ?_
                refine v_ic (hT _ zt_X9_hasPlaces rfl _ _ rfl) (fun hc32 => ?_) (fun hc32 => ?_)
                · have hc32 : ((h 2 2).2 - n) < j := hc32
                  refine v_push (0) (hT _ zt_X9_hasPlaces rfl _ _ rfl) rfl ?_
                  refine v_ret (hT _ zt_X9_hasPlaces rfl _ _ rfl) (Or.inl rfl) ?_
                  show vP D T N 172 110 h [some (2, 0), some (0, 2), some (0, i), some (0, 0), some (0, j), some (0, n), some (2, 6), some (2, 2)] [(0, 0)] _
                  refine v_if (hT _ zt_X11_pour rfl _ _ rfl) (fun _ => ?_) (fun hc33 => absurd (show (0 : Int) = 0 from (by decide)) hc33)
                  refine v_load (v := (2, 0)) (hT _ zt_X11_pour rfl _ _ rfl) rfl rfl ?_
                  refine v_push (4) (hT _ zt_X11_pour rfl _ _ rfl) rfl ?_
                  refine v_call (w := 2) [some (2, 0), some (0, 4)] hO (hT _ zt_X11_pour rfl _ _ rfl) rfl rfl ?_
                  refine v_load (v := (2, 0)) (hT _ zt_X11_refuse rfl _ _ rfl) rfl rfl ?_
                  refine v_load (v := (0, 4)) (hT _ zt_X11_refuse rfl _ _ rfl) rfl rfl ?_
                  refine v_putf (r := 0) hO (hT _ zt_X11_refuse rfl _ _ rfl) rfl (fun hf34 => ?_)
                  refine v_push (0) (hT _ zt_X11_refuse rfl _ _ rfl) rfl ?_
                  refine v_ret (hT _ zt_X11_refuse rfl _ _ rfl) (Or.inl rfl) ?_
                  show vP D T N 172 118 (zset h 0 0 (0, 4)) [some (2, 0), some (0, 2), some (0, i), some (0, 0), some (0, j), some (0, n), some (2, 6), some (2, 2)] [(0, 0)] _
                  refine v_ret (hT _ zt_X11_pour rfl _ _ rfl) (Or.inl rfl) ?_
                  exact k6 hc11 hc15 hc19 hc20 hc22 hc25 hc29 hc32
                · have hc32 : j ≤ ((h 2 2).2 - n) := Int.not_lt.mp hc32
                  refine v_push (1) (hT _ zt_X9_hasPlaces rfl _ _ rfl) rfl ?_
                  refine v_goto (hT _ zt_X9_hasPlaces rfl _ _ rfl) ?_
                  refine v_ret (hT _ zt_X9_hasPlaces rfl _ _ rfl) (Or.inl rfl) ?_
                  show vP D T N 172 110 h [some (2, 0), some (0, 2), some (0, i), some (0, 0), some (0, j), some (0, n), some (2, 6), some (2, 2)] [(0, 1)] _
                  refine v_if (hT _ zt_X11_pour rfl _ _ rfl) (fun hc35 => absurd (show (1 : Int) = 0 from hc35) (by decide)) (fun _ => ?_)
                  refine v_load (v := (2, 6)) (hT _ zt_X11_pour rfl _ _ rfl) rfl rfl ?_
                  refine v_getR (c := 7) (r := 6) (hT _ zt_X11_pour rfl _ _ rfl) rfl rfl rfl ?_
                  refine v_load (v := (0, i)) (hT _ zt_X11_pour rfl _ _ rfl) rfl rfl ?_
                  refine v_load (v := (2, 2)) (hT _ zt_X11_pour rfl _ _ rfl) rfl rfl ?_
                  refine v_getR (c := 3) (r := 2) (hT _ zt_X11_pour rfl _ _ rfl) rfl rfl rfl ?_
                  refine v_load (v := (0, j)) (hT _ zt_X11_pour rfl _ _ rfl) rfl rfl ?_
                  refine v_load (v := (0, n)) (hT _ zt_X11_pour rfl _ _ rfl) rfl rfl ?_
                  refine v_copy (r0 := 7) (r1 := 3) (hT _ zt_X11_pour rfl _ _ rfl) rfl rfl rfl rfl (fun hd36 hd37 hd38 hd39 hd40 => ?_)
                  refine v_load (v := (2, 0)) (hT _ zt_X11_pour rfl _ _ rfl) rfl rfl ?_
                  refine v_call (w := 1) [some (2, 0)] hO (hT _ zt_X11_pour rfl _ _ rfl) rfl rfl ?_
                  refine v_load (v := (2, 0)) (hT _ zt_X11_accept rfl _ _ rfl) rfl rfl ?_
                  refine v_push (0) (hT _ zt_X11_accept rfl _ _ rfl) rfl ?_
                  refine v_putf (r := 0) hO (hT _ zt_X11_accept rfl _ _ rfl) rfl (fun hf41 => ?_)
                  refine v_push (1) (hT _ zt_X11_accept rfl _ _ rfl) rfl ?_
                  refine v_ret (hT _ zt_X11_accept rfl _ _ rfl) (Or.inl rfl) ?_
                  show vP D T N 172 141 (zset (zcopy h 7 i.toNat 3 j.toNat n.toNat) 0 0 (0, 0)) [some (2, 0), some (0, 2), some (0, i), some (0, 0), some (0, j), some (0, n), some (2, 6), some (2, 2)] [(0, 1)] _
                  refine v_ret (hT _ zt_X11_pour rfl _ _ rfl) (Or.inl rfl) ?_
                  exact k7 hc11 hc15 hc19 hc20 hc22 hc25 hc29 hc32 hd36 hd37 hd38 hd39 hd40
      · have hc19 : (h 6 1).2 ≠ (h 2 1).2 := hc19
        refine v_load (v := (2, 0)) (hT _ zt_X11_pour rfl _ _ rfl) rfl rfl ?_
        refine v_push (11) (hT _ zt_X11_pour rfl _ _ rfl) rfl ?_
        refine v_call (w := 2) [some (2, 0), some (0, 11)] hO (hT _ zt_X11_pour rfl _ _ rfl) rfl rfl ?_
        refine v_load (v := (2, 0)) (hT _ zt_X11_refuse rfl _ _ rfl) rfl rfl ?_
        refine v_load (v := (0, 11)) (hT _ zt_X11_refuse rfl _ _ rfl) rfl rfl ?_
        refine v_putf (r := 0) hO (hT _ zt_X11_refuse rfl _ _ rfl) rfl (fun hf42 => ?_)
        refine v_push (0) (hT _ zt_X11_refuse rfl _ _ rfl) rfl ?_
        refine v_ret (hT _ zt_X11_refuse rfl _ _ rfl) (Or.inl rfl) ?_
        show vP D T N 172 77 (zset h 0 0 (0, 11)) [some (2, 0), some (0, 2), some (0, i), some (0, 0), some (0, j), some (0, n), some (2, 6), some (2, 2)] [(0, 0)] _
        refine v_ret (hT _ zt_X11_pour rfl _ _ rfl) (Or.inl rfl) ?_
        exact k8 hc11 hc15 hc19
theorem y_X11_pour_2_1 {D : zD} {T : zT} (hT : hTab T) (hO : vOK T) {N : Nat} {h : zH} {Q : zR → Prop} (i j n : Int) (hv0 : zHv h) (hb : 0 ≤ (h 6 2).2 ∧ (h 6 2).2 ≤ 60) (hc : 0 ≤ (h 4 2).2 ∧ (h 4 2).2 ≤ 60) (hn : n ≤ 2147483647)
    (k0 : ((h 6 1).2 = -1) → Q (zset h 0 0 (0, 3), some (0, 0)))
    (k1 : ((h 6 1).2 ≠ -1) → ((h 4 1).2 = -1) → Q (zset h 0 0 (0, 3), some (0, 0)))
    (k2 : ((h 6 1).2 ≠ -1) → ((h 4 1).2 ≠ -1) → ((h 6 1).2 = (h 4 1).2) → (n < 0) → Q (zset h 0 0 (0, 6), some (0, 0)))
    (k3 : ((h 6 1).2 ≠ -1) → ((h 4 1).2 ≠ -1) → ((h 6 1).2 = (h 4 1).2) → (0 ≤ n) → (i < 0) → Q (zset h 0 0 (0, 4), some (0, 0)))
    (k4 : ((h 6 1).2 ≠ -1) → ((h 4 1).2 ≠ -1) → ((h 6 1).2 = (h 4 1).2) → (0 ≤ n) → (0 ≤ i) → (((h 6 2).2 - n) < i) → Q (zset h 0 0 (0, 4), some (0, 0)))
    (k5 : ((h 6 1).2 ≠ -1) → ((h 4 1).2 ≠ -1) → ((h 6 1).2 = (h 4 1).2) → (0 ≤ n) → (0 ≤ i) → (i ≤ ((h 6 2).2 - n)) → (j < 0) → Q (zset h 0 0 (0, 4), some (0, 0)))
    (k6 : ((h 6 1).2 ≠ -1) → ((h 4 1).2 ≠ -1) → ((h 6 1).2 = (h 4 1).2) → (0 ≤ n) → (0 ≤ i) → (i ≤ ((h 6 2).2 - n)) → (0 ≤ j) → (((h 4 2).2 - n) < j) → Q (zset h 0 0 (0, 4), some (0, 0)))
    (k7 : ((h 6 1).2 ≠ -1) → ((h 4 1).2 ≠ -1) → ((h 6 1).2 = (h 4 1).2) → (0 ≤ n) → (0 ≤ i) → (i ≤ ((h 6 2).2 - n)) → (0 ≤ j) → (j ≤ ((h 4 2).2 - n)) → (0 ≤ n) → (0 ≤ i) → (0 ≤ j) → (i + n ≤ 60) → (j + n ≤ 60) → Q (zset (zcopy h 7 i.toNat 5 j.toNat n.toNat) 0 0 (0, 0), some (0, 1)))
    (k8 : ((h 6 1).2 ≠ -1) → ((h 4 1).2 ≠ -1) → ((h 6 1).2 ≠ (h 4 1).2) → Q (zset h 0 0 (0, 11), some (0, 0))) :
    vP D T N 172 0 h [some (2, 0), some (0, 2), some (0, i), some (0, 1), some (0, j), some (0, n), none, none] [] Q := by
  refine v_load (v := (0, 2)) (hT _ zt_X11_pour rfl _ _ rfl) rfl rfl ?_
  refine v_call (w := 1) [some (0, 2)] hO (hT _ zt_X11_pour rfl _ _ rfl) rfl rfl ?_
  refine v_load (v := (0, 2)) (hT _ zt_X11_isTray rfl _ _ rfl) rfl rfl ?_
  refine v_if (hT _ zt_X11_isTray rfl _ _ rfl) (fun hc1 => absurd (show (2 : Int) < 0 from hc1) (by decide)) (fun _ => ?_)
  refine v_load (v := (0, 2)) (hT _ zt_X11_isTray rfl _ _ rfl) rfl rfl ?_
  refine v_push (4) (hT _ zt_X11_isTray rfl _ _ rfl) rfl ?_
  refine v_ic (hT _ zt_X11_isTray rfl _ _ rfl) (fun _ => ?_) (fun hc2 => absurd (show (2 : Int) < 4 from (by decide)) hc2)
  refine v_push (1) (hT _ zt_X11_isTray rfl _ _ rfl) rfl ?_
  refine v_goto (hT _ zt_X11_isTray rfl _ _ rfl) ?_
  refine v_ret (hT _ zt_X11_isTray rfl _ _ rfl) (Or.inl rfl) ?_
  show vP D T N 172 4 h [some (2, 0), some (0, 2), some (0, i), some (0, 1), some (0, j), some (0, n), none, none] [(0, 1)] _
  refine v_if (hT _ zt_X11_pour rfl _ _ rfl) (fun hc3 => absurd (show (1 : Int) = 0 from hc3) (by decide)) (fun _ => ?_)
  refine v_load (v := (0, 1)) (hT _ zt_X11_pour rfl _ _ rfl) rfl rfl ?_
  refine v_call (w := 1) [some (0, 1)] hO (hT _ zt_X11_pour rfl _ _ rfl) rfl rfl ?_
  refine v_load (v := (0, 1)) (hT _ zt_X11_isTray rfl _ _ rfl) rfl rfl ?_
  refine v_if (hT _ zt_X11_isTray rfl _ _ rfl) (fun hc4 => absurd (show (1 : Int) < 0 from hc4) (by decide)) (fun _ => ?_)
  refine v_load (v := (0, 1)) (hT _ zt_X11_isTray rfl _ _ rfl) rfl rfl ?_
  refine v_push (4) (hT _ zt_X11_isTray rfl _ _ rfl) rfl ?_
  refine v_ic (hT _ zt_X11_isTray rfl _ _ rfl) (fun _ => ?_) (fun hc5 => absurd (show (1 : Int) < 4 from (by decide)) hc5)
  refine v_push (1) (hT _ zt_X11_isTray rfl _ _ rfl) rfl ?_
  refine v_goto (hT _ zt_X11_isTray rfl _ _ rfl) ?_
  refine v_ret (hT _ zt_X11_isTray rfl _ _ rfl) (Or.inl rfl) ?_
  show vP D T N 172 11 h [some (2, 0), some (0, 2), some (0, i), some (0, 1), some (0, j), some (0, n), none, none] [(0, 1)] _
  refine v_if (hT _ zt_X11_pour rfl _ _ rfl) (fun hc6 => absurd (show (1 : Int) = 0 from hc6) (by decide)) (fun _ => ?_)
  refine v_load (v := (2, 0)) (hT _ zt_X11_pour rfl _ _ rfl) rfl rfl ?_
  refine v_getR (c := 1) (r := 0) (hT _ zt_X11_pour rfl _ _ rfl) rfl rfl rfl ?_
  refine v_load (v := (0, 2)) (hT _ zt_X11_pour rfl _ _ rfl) rfl rfl ?_
  refine v_aldV (v := (2, 6)) (r := 1) (hT _ zt_X11_pour rfl _ _ rfl) rfl rfl (fun hv _ _ => hv.ref rfl) (fun ha7 hb8 => ?_)
  refine v_store1 [some (2, 0), some (0, 2), some (0, i), some (0, 1), some (0, j), some (0, n), some (2, 6), none] (hT _ zt_X11_pour rfl _ _ rfl) ⟨rfl, Nat.ne_of_beq_eq_false rfl⟩ (Nat.le_of_ble_eq_true rfl) rfl ?_
  refine v_load (v := (2, 0)) (hT _ zt_X11_pour rfl _ _ rfl) rfl rfl ?_
  refine v_getR (c := 1) (r := 0) (hT _ zt_X11_pour rfl _ _ rfl) rfl rfl rfl ?_
  refine v_load (v := (0, 1)) (hT _ zt_X11_pour rfl _ _ rfl) rfl rfl ?_
  refine v_aldV (v := (2, 4)) (r := 1) (hT _ zt_X11_pour rfl _ _ rfl) rfl rfl (fun hv _ _ => hv.ref rfl) (fun ha9 hb10 => ?_)
  refine v_store1 [some (2, 0), some (0, 2), some (0, i), some (0, 1), some (0, j), some (0, n), some (2, 6), some (2, 4)] (hT _ zt_X11_pour rfl _ _ rfl) ⟨rfl, Nat.ne_of_beq_eq_false rfl⟩ (Nat.le_of_ble_eq_true rfl) rfl ?_
  refine v_load (v := (2, 6)) (hT _ zt_X11_pour rfl _ _ rfl) rfl rfl ?_
  refine v_call (w := 1) [some (2, 6)] hO (hT _ zt_X11_pour rfl _ _ rfl) rfl rfl ?_
  refine v_load (v := (2, 6)) (hT _ zt_X9_isMissing rfl _ _ rfl) rfl rfl ?_
  refine v_getI (t := 0) (r := 6) (hT _ zt_X9_isMissing rfl _ _ rfl) rfl rfl rfl ?_
  refine v_push (-1) (hT _ zt_X9_isMissing rfl _ _ rfl) rfl ?_
  refine v_ic (hT _ zt_X9_isMissing rfl _ _ rfl) (fun hc11 => ?_) (fun hc11 => ?_)
  · have hc11 : (h 6 1).2 = -1 := hc11
    refine v_push (1) (hT _ zt_X9_isMissing rfl _ _ rfl) rfl ?_
    refine v_goto (hT _ zt_X9_isMissing rfl _ _ rfl) ?_
    refine v_ret (hT _ zt_X9_isMissing rfl _ _ rfl) (Or.inl rfl) ?_
    show vP D T N 172 41 h [some (2, 0), some (0, 2), some (0, i), some (0, 1), some (0, j), some (0, n), some (2, 6), some (2, 4)] [(0, 1)] _
    refine v_if (hT _ zt_X11_pour rfl _ _ rfl) (fun hc12 => absurd (show (1 : Int) = 0 from hc12) (by decide)) (fun _ => ?_)
    refine v_load (v := (2, 0)) (hT _ zt_X11_pour rfl _ _ rfl) rfl rfl ?_
    refine v_push (3) (hT _ zt_X11_pour rfl _ _ rfl) rfl ?_
    refine v_call (w := 2) [some (2, 0), some (0, 3)] hO (hT _ zt_X11_pour rfl _ _ rfl) rfl rfl ?_
    refine v_load (v := (2, 0)) (hT _ zt_X11_refuse rfl _ _ rfl) rfl rfl ?_
    refine v_load (v := (0, 3)) (hT _ zt_X11_refuse rfl _ _ rfl) rfl rfl ?_
    refine v_putf (r := 0) hO (hT _ zt_X11_refuse rfl _ _ rfl) rfl (fun hf13 => ?_)
    refine v_push (0) (hT _ zt_X11_refuse rfl _ _ rfl) rfl ?_
    refine v_ret (hT _ zt_X11_refuse rfl _ _ rfl) (Or.inl rfl) ?_
    show vP D T N 172 57 (zset h 0 0 (0, 3)) [some (2, 0), some (0, 2), some (0, i), some (0, 1), some (0, j), some (0, n), some (2, 6), some (2, 4)] [(0, 0)] _
    refine v_ret (hT _ zt_X11_pour rfl _ _ rfl) (Or.inl rfl) ?_
    exact k0 hc11
  · have hc11 : (h 6 1).2 ≠ -1 := hc11
    refine v_push (0) (hT _ zt_X9_isMissing rfl _ _ rfl) rfl ?_
    refine v_ret (hT _ zt_X9_isMissing rfl _ _ rfl) (Or.inl rfl) ?_
    show vP D T N 172 41 h [some (2, 0), some (0, 2), some (0, i), some (0, 1), some (0, j), some (0, n), some (2, 6), some (2, 4)] [(0, 0)] _
    refine v_if (hT _ zt_X11_pour rfl _ _ rfl) (fun _ => ?_) (fun hc14 => absurd (show (0 : Int) = 0 from (by decide)) hc14)
    refine v_load (v := (2, 4)) (hT _ zt_X11_pour rfl _ _ rfl) rfl rfl ?_
    refine v_call (w := 1) [some (2, 4)] hO (hT _ zt_X11_pour rfl _ _ rfl) rfl rfl ?_
    refine v_load (v := (2, 4)) (hT _ zt_X9_isMissing rfl _ _ rfl) rfl rfl ?_
    refine v_getI (t := 0) (r := 4) (hT _ zt_X9_isMissing rfl _ _ rfl) rfl rfl rfl ?_
    refine v_push (-1) (hT _ zt_X9_isMissing rfl _ _ rfl) rfl ?_
    refine v_ic (hT _ zt_X9_isMissing rfl _ _ rfl) (fun hc15 => ?_) (fun hc15 => ?_)
    · have hc15 : (h 4 1).2 = -1 := hc15
      refine v_push (1) (hT _ zt_X9_isMissing rfl _ _ rfl) rfl ?_
      refine v_goto (hT _ zt_X9_isMissing rfl _ _ rfl) ?_
      refine v_ret (hT _ zt_X9_isMissing rfl _ _ rfl) (Or.inl rfl) ?_
      show vP D T N 172 49 h [some (2, 0), some (0, 2), some (0, i), some (0, 1), some (0, j), some (0, n), some (2, 6), some (2, 4)] [(0, 1)] _
      refine v_if (hT _ zt_X11_pour rfl _ _ rfl) (fun hc16 => absurd (show (1 : Int) = 0 from hc16) (by decide)) (fun _ => ?_)
      refine v_load (v := (2, 0)) (hT _ zt_X11_pour rfl _ _ rfl) rfl rfl ?_
      refine v_push (3) (hT _ zt_X11_pour rfl _ _ rfl) rfl ?_
      refine v_call (w := 2) [some (2, 0), some (0, 3)] hO (hT _ zt_X11_pour rfl _ _ rfl) rfl rfl ?_
      refine v_load (v := (2, 0)) (hT _ zt_X11_refuse rfl _ _ rfl) rfl rfl ?_
      refine v_load (v := (0, 3)) (hT _ zt_X11_refuse rfl _ _ rfl) rfl rfl ?_
      refine v_putf (r := 0) hO (hT _ zt_X11_refuse rfl _ _ rfl) rfl (fun hf17 => ?_)
      refine v_push (0) (hT _ zt_X11_refuse rfl _ _ rfl) rfl ?_
      refine v_ret (hT _ zt_X11_refuse rfl _ _ rfl) (Or.inl rfl) ?_
      show vP D T N 172 57 (zset h 0 0 (0, 3)) [some (2, 0), some (0, 2), some (0, i), some (0, 1), some (0, j), some (0, n), some (2, 6), some (2, 4)] [(0, 0)] _
      refine v_ret (hT _ zt_X11_pour rfl _ _ rfl) (Or.inl rfl) ?_
      exact k1 hc11 hc15
    · have hc15 : (h 4 1).2 ≠ -1 := hc15
      refine v_push (0) (hT _ zt_X9_isMissing rfl _ _ rfl) rfl ?_
      refine v_ret (hT _ zt_X9_isMissing rfl _ _ rfl) (Or.inl rfl) ?_
      show vP D T N 172 49 h [some (2, 0), some (0, 2), some (0, i), some (0, 1), some (0, j), some (0, n), some (2, 6), some (2, 4)] [(0, 0)] _
      refine v_if (hT _ zt_X11_pour rfl _ _ rfl) (fun _ => ?_) (fun hc18 => absurd (show (0 : Int) = 0 from (by decide)) hc18)
      refine v_load (v := (2, 6)) (hT _ zt_X11_pour rfl _ _ rfl) rfl rfl ?_
      refine v_getI (t := 0) (r := 6) (hT _ zt_X11_pour rfl _ _ rfl) rfl rfl rfl ?_
      refine v_load (v := (2, 4)) (hT _ zt_X11_pour rfl _ _ rfl) rfl rfl ?_
      refine v_getI (t := 0) (r := 4) (hT _ zt_X11_pour rfl _ _ rfl) rfl rfl rfl ?_
      refine v_ic (hT _ zt_X11_pour rfl _ _ rfl) (fun hc19 => ?_) (fun hc19 => ?_)
      · have hc19 : (h 6 1).2 = (h 4 1).2 := hc19
        refine v_load (v := (0, n)) (hT _ zt_X11_pour rfl _ _ rfl) rfl rfl ?_
        refine v_if (hT _ zt_X11_pour rfl _ _ rfl) (fun hc20 => ?_) (fun hc20 => ?_)
        · have hc20 : n < 0 := hc20
          refine v_load (v := (2, 0)) (hT _ zt_X11_pour rfl _ _ rfl) rfl rfl ?_
          refine v_push (6) (hT _ zt_X11_pour rfl _ _ rfl) rfl ?_
          refine v_call (w := 2) [some (2, 0), some (0, 6)] hO (hT _ zt_X11_pour rfl _ _ rfl) rfl rfl ?_
          refine v_load (v := (2, 0)) (hT _ zt_X11_refuse rfl _ _ rfl) rfl rfl ?_
          refine v_load (v := (0, 6)) (hT _ zt_X11_refuse rfl _ _ rfl) rfl rfl ?_
          refine v_putf (r := 0) hO (hT _ zt_X11_refuse rfl _ _ rfl) rfl (fun hf21 => ?_)
          refine v_push (0) (hT _ zt_X11_refuse rfl _ _ rfl) rfl ?_
          refine v_ret (hT _ zt_X11_refuse rfl _ _ rfl) (Or.inl rfl) ?_
          show vP D T N 172 89 (zset h 0 0 (0, 6)) [some (2, 0), some (0, 2), some (0, i), some (0, 1), some (0, j), some (0, n), some (2, 6), some (2, 4)] [(0, 0)] _
          refine v_ret (hT _ zt_X11_pour rfl _ _ rfl) (Or.inl rfl) ?_
          exact k2 hc11 hc15 hc19 hc20
        · have hc20 : 0 ≤ n := Int.not_lt.mp hc20
          refine v_load (v := (2, 6)) (hT _ zt_X11_pour rfl _ _ rfl) rfl rfl ?_
          refine v_load (v := (0, i)) (hT _ zt_X11_pour rfl _ _ rfl) rfl rfl ?_
          refine v_load (v := (0, n)) (hT _ zt_X11_pour rfl _ _ rfl) rfl rfl ?_
          refine v_call (w := 3) [some (2, 6), some (0, i), some (0, n)] hO (hT _ zt_X11_pour rfl _ _ rfl) rfl rfl ?_
          refine v_load (v := (0, i)) (hT _ zt_X9_hasPlaces rfl _ _ rfl) rfl rfl ?_
          refine v_if (hT _ zt_X9_hasPlaces rfl _ _ rfl) (fun hc22 => ?_) (fun hc22 => ?_)
          · have hc22 : i < 0 := hc22
            refine v_push (0) (hT _ zt_X9_hasPlaces rfl _ _ rfl) rfl ?_
            refine v_ret (hT _ zt_X9_hasPlaces rfl _ _ rfl) (Or.inl rfl) ?_
            show vP D T N 172 98 h [some (2, 0), some (0, 2), some (0, i), some (0, 1), some (0, j), some (0, n), some (2, 6), some (2, 4)] [(0, 0)] _
            refine v_if (hT _ zt_X11_pour rfl _ _ rfl) (fun _ => ?_) (fun hc23 => absurd (show (0 : Int) = 0 from (by decide)) hc23)
            refine v_load (v := (2, 0)) (hT _ zt_X11_pour rfl _ _ rfl) rfl rfl ?_
            refine v_push (4) (hT _ zt_X11_pour rfl _ _ rfl) rfl ?_
            refine v_call (w := 2) [some (2, 0), some (0, 4)] hO (hT _ zt_X11_pour rfl _ _ rfl) rfl rfl ?_
            refine v_load (v := (2, 0)) (hT _ zt_X11_refuse rfl _ _ rfl) rfl rfl ?_
            refine v_load (v := (0, 4)) (hT _ zt_X11_refuse rfl _ _ rfl) rfl rfl ?_
            refine v_putf (r := 0) hO (hT _ zt_X11_refuse rfl _ _ rfl) rfl (fun hf24 => ?_)
            refine v_push (0) (hT _ zt_X11_refuse rfl _ _ rfl) rfl ?_
            refine v_ret (hT _ zt_X11_refuse rfl _ _ rfl) (Or.inl rfl) ?_
            show vP D T N 172 118 (zset h 0 0 (0, 4)) [some (2, 0), some (0, 2), some (0, i), some (0, 1), some (0, j), some (0, n), some (2, 6), some (2, 4)] [(0, 0)] _
            refine v_ret (hT _ zt_X11_pour rfl _ _ rfl) (Or.inl rfl) ?_
            exact k3 hc11 hc15 hc19 hc20 hc22
          · have hc22 : 0 ≤ i := Int.not_lt.mp hc22
            refine v_load (v := (0, i)) (hT _ zt_X9_hasPlaces rfl _ _ rfl) rfl rfl ?_
            refine v_load (v := (2, 6)) (hT _ zt_X9_hasPlaces rfl _ _ rfl) rfl rfl ?_
            refine v_getI (t := 0) (r := 6) (hT _ zt_X9_hasPlaces rfl _ _ rfl) rfl rfl rfl ?_
            refine v_load (v := (0, n)) (hT _ zt_X9_hasPlaces rfl _ _ rfl) rfl rfl ?_
            refine v_bin (w := ((h 6 2).2 - n)) (hT _ zt_X9_hasPlaces rfl _ _ rfl) (hq_sub (by omega) (by omega)) ?_
            refine v_ic (hT _ zt_X9_hasPlaces rfl _ _ rfl) (fun hc25 => ?_) (fun hc25 => ?_)
            · have hc25 : ((h 6 2).2 - n) < i := hc25
              refine v_push (0) (hT _ zt_X9_hasPlaces rfl _ _ rfl) rfl ?_
              refine v_ret (hT _ zt_X9_hasPlaces rfl _ _ rfl) (Or.inl rfl) ?_
              show vP D T N 172 98 h [some (2, 0), some (0, 2), some (0, i), some (0, 1), some (0, j), some (0, n), some (2, 6), some (2, 4)] [(0, 0)] _
              refine v_if (hT _ zt_X11_pour rfl _ _ rfl) (fun _ => ?_) (fun hc26 => absurd (show (0 : Int) = 0 from (by decide)) hc26)
              refine v_load (v := (2, 0)) (hT _ zt_X11_pour rfl _ _ rfl) rfl rfl ?_
              refine v_push (4) (hT _ zt_X11_pour rfl _ _ rfl) rfl ?_
              refine v_call (w := 2) [some (2, 0), some (0, 4)] hO (hT _ zt_X11_pour rfl _ _ rfl) rfl rfl ?_
              refine v_load (v := (2, 0)) (hT _ zt_X11_refuse rfl _ _ rfl) rfl rfl ?_
              refine v_load (v := (0, 4)) (hT _ zt_X11_refuse rfl _ _ rfl) rfl rfl ?_
              refine v_putf (r := 0) hO (hT _ zt_X11_refuse rfl _ _ rfl) rfl (fun hf27 => ?_)
              refine v_push (0) (hT _ zt_X11_refuse rfl _ _ rfl) rfl ?_
              refine v_ret (hT _ zt_X11_refuse rfl _ _ rfl) (Or.inl rfl) ?_
              show vP D T N 172 118 (zset h 0 0 (0, 4)) [some (2, 0), some (0, 2), some (0, i), some (0, 1), some (0, j), some (0, n), some (2, 6), some (2, 4)] [(0, 0)] _
              refine v_ret (hT _ zt_X11_pour rfl _ _ rfl) (Or.inl rfl) ?_
              exact k4 hc11 hc15 hc19 hc20 hc22 hc25
            · have hc25 : i ≤ ((h 6 2).2 - n) := Int.not_lt.mp hc25
              refine v_push (1) (hT _ zt_X9_hasPlaces rfl _ _ rfl) rfl ?_
              refine v_goto (hT _ zt_X9_hasPlaces rfl _ _ rfl) ?_
              refine v_ret (hT _ zt_X9_hasPlaces rfl _ _ rfl) (Or.inl rfl) ?_
              show vP D T N 172 98 h [some (2, 0), some (0, 2), some (0, i), some (0, 1), some (0, j), some (0, n), some (2, 6), some (2, 4)] [(0, 1)] _
              refine v_if (hT _ zt_X11_pour rfl _ _ rfl) (fun hc28 => absurd (show (1 : Int) = 0 from hc28) (by decide)) (fun _ => ?_)
              refine v_load (v := (2, 4)) (hT _ zt_X11_pour rfl _ _ rfl) rfl rfl ?_
              refine v_load (v := (0, j)) (hT _ zt_X11_pour rfl _ _ rfl) rfl rfl ?_
              refine v_load (v := (0, n)) (hT _ zt_X11_pour rfl _ _ rfl) rfl rfl ?_
              refine v_call (w := 3) [some (2, 4), some (0, j), some (0, n)] hO (hT _ zt_X11_pour rfl _ _ rfl) rfl rfl ?_
              refine v_load (v := (0, j)) (hT _ zt_X9_hasPlaces rfl _ _ rfl) rfl rfl ?_
              refine v_if (hT _ zt_X9_hasPlaces rfl _ _ rfl) (fun hc29 => ?_) (fun hc29 => ?_)
              · have hc29 : j < 0 := hc29
                refine v_push (0) (hT _ zt_X9_hasPlaces rfl _ _ rfl) rfl ?_
                refine v_ret (hT _ zt_X9_hasPlaces rfl _ _ rfl) (Or.inl rfl) ?_
                show vP D T N 172 110 h [some (2, 0), some (0, 2), some (0, i), some (0, 1), some (0, j), some (0, n), some (2, 6), some (2, 4)] [(0, 0)] _
                refine v_if (hT _ zt_X11_pour rfl _ _ rfl) (fun _ => ?_) (fun hc30 => absurd (show (0 : Int) = 0 from (by decide)) hc30)
                refine v_load (v := (2, 0)) (hT _ zt_X11_pour rfl _ _ rfl) rfl rfl ?_
                refine v_push (4) (hT _ zt_X11_pour rfl _ _ rfl) rfl ?_
                refine v_call (w := 2) [some (2, 0), some (0, 4)] hO (hT _ zt_X11_pour rfl _ _ rfl) rfl rfl ?_
                refine v_load (v := (2, 0)) (hT _ zt_X11_refuse rfl _ _ rfl) rfl rfl ?_
                refine v_load (v := (0, 4)) (hT _ zt_X11_refuse rfl _ _ rfl) rfl rfl ?_
                refine v_putf (r := 0) hO (hT _ zt_X11_refuse rfl _ _ rfl) rfl (fun hf31 => ?_)
                refine v_push (0) (hT _ zt_X11_refuse rfl _ _ rfl) rfl ?_
                refine v_ret (hT _ zt_X11_refuse rfl _ _ rfl) (Or.inl rfl) ?_
                show vP D T N 172 118 (zset h 0 0 (0, 4)) [some (2, 0), some (0, 2), some (0, i), some (0, 1), some (0, j), some (0, n), some (2, 6), some (2, 4)] [(0, 0)] _
                refine v_ret (hT _ zt_X11_pour rfl _ _ rfl) (Or.inl rfl) ?_
                exact k5 hc11 hc15 hc19 hc20 hc22 hc25 hc29
              · have hc29 : 0 ≤ j := Int.not_lt.mp hc29
                refine v_load (v := (0, j)) (hT _ zt_X9_hasPlaces rfl _ _ rfl) rfl rfl ?_
                refine v_load (v := (2, 4)) (hT _ zt_X9_hasPlaces rfl _ _ rfl) rfl rfl ?_
                refine v_getI (t := 0) (r := 4) (hT _ zt_X9_hasPlaces rfl _ _ rfl) rfl rfl rfl ?_
                refine v_load (v := (0, n)) (hT _ zt_X9_hasPlaces rfl _ _ rfl) rfl rfl ?_
                refine v_bin (w := ((h 4 2).2 - n)) (hT _ zt_X9_hasPlaces rfl _ _ rfl) (hq_sub (by omega) (by omega)) ?_
                refine v_ic (hT _ zt_X9_hasPlaces rfl _ _ rfl) (fun hc32 => ?_) (fun hc32 => ?_)
                · have hc32 : ((h 4 2).2 - n) < j := hc32
                  refine v_push (0) (hT _ zt_X9_hasPlaces rfl _ _ rfl) rfl ?_
                  refine v_ret (hT _ zt_X9_hasPlaces rfl _ _ rfl) (Or.inl rfl) ?_
                  show vP D T N 172 110 h [some (2, 0), some (0, 2), some (0, i), some (0, 1), some (0, j), some (0, n), some (2, 6), some (2, 4)] [(0, 0)] _
                  refine v_if (hT _ zt_X11_pour rfl _ _ rfl) (fun _ => ?_) (fun hc33 => absurd (show (0 : Int) = 0 from (by decide)) hc33)
                  refine v_load (v := (2, 0)) (hT _ zt_X11_pour rfl _ _ rfl) rfl rfl ?_
                  refine v_push (4) (hT _ zt_X11_pour rfl _ _ rfl) rfl ?_
                  refine v_call (w := 2) [some (2, 0), some (0, 4)] hO (hT _ zt_X11_pour rfl _ _ rfl) rfl rfl ?_
                  refine v_load (v := (2, 0)) (hT _ zt_X11_refuse rfl _ _ rfl) rfl rfl ?_
                  refine v_load (v := (0, 4)) (hT _ zt_X11_refuse rfl _ _ rfl) rfl rfl ?_
                  refine v_putf (r := 0) hO (hT _ zt_X11_refuse rfl _ _ rfl) rfl (fun hf34 => ?_)
                  refine v_push (0) (hT _ zt_X11_refuse rfl _ _ rfl) rfl ?_
                  refine v_ret (hT _ zt_X11_refuse rfl _ _ rfl) (Or.inl rfl) ?_
                  show vP D T N 172 118 (zset h 0 0 (0, 4)) [some (2, 0), some (0, 2), some (0, i), some (0, 1), some (0, j), some (0, n), some (2, 6), some (2, 4)] [(0, 0)] _
                  refine v_ret (hT _ zt_X11_pour rfl _ _ rfl) (Or.inl rfl) ?_
                  exact k6 hc11 hc15 hc19 hc20 hc22 hc25 hc29 hc32
                · have hc32 : j ≤ ((h 4 2).2 - n) := Int.not_lt.mp hc32
                  refine v_push (1) (hT _ zt_X9_hasPlaces rfl _ _ rfl) rfl ?_
                  refine v_goto (hT _ zt_X9_hasPlaces rfl _ _ rfl) ?_
                  refine v_ret (hT _ zt_X9_hasPlaces rfl _ _ rfl) (Or.inl rfl) ?_
                  show vP D T N 172 110 h [some (2, 0), some (0, 2), some (0, i), some (0, 1), some (0, j), some (0, n), some (2, 6), some (2, 4)] [(0, 1)] _
                  refine v_if (hT _ zt_X11_pour rfl _ _ rfl) (fun hc35 => absurd (show (1 : Int) = 0 from hc35) (by decide)) (fun _ => ?_)
                  refine v_load (v := (2, 6)) (hT _ zt_X11_pour rfl _ _ rfl) rfl rfl ?_
                  refine v_getR (c := 7) (r := 6) (hT _ zt_X11_pour rfl _ _ rfl) rfl rfl rfl ?_
                  refine v_load (v := (0, i)) (hT _ zt_X11_pour rfl _ _ rfl) rfl rfl ?_
                  refine v_load (v := (2, 4)) (hT _ zt_X11_pour rfl _ _ rfl) rfl rfl ?_
                  refine v_getR (c := 5) (r := 4) (hT _ zt_X11_pour rfl _ _ rfl) rfl rfl rfl ?_
                  refine v_load (v := (0, j)) (hT _ zt_X11_pour rfl _ _ rfl) rfl rfl ?_
                  refine v_load (v := (0, n)) (hT _ zt_X11_pour rfl _ _ rfl) rfl rfl ?_
                  refine v_copy (r0 := 7) (r1 := 5) (hT _ zt_X11_pour rfl _ _ rfl) rfl rfl rfl rfl (fun hd36 hd37 hd38 hd39 hd40 => ?_)
                  refine v_load (v := (2, 0)) (hT _ zt_X11_pour rfl _ _ rfl) rfl rfl ?_
                  refine v_call (w := 1) [some (2, 0)] hO (hT _ zt_X11_pour rfl _ _ rfl) rfl rfl ?_
                  refine v_load (v := (2, 0)) (hT _ zt_X11_accept rfl _ _ rfl) rfl rfl ?_
                  refine v_push (0) (hT _ zt_X11_accept rfl _ _ rfl) rfl ?_
                  refine v_putf (r := 0) hO (hT _ zt_X11_accept rfl _ _ rfl) rfl (fun hf41 => ?_)
                  refine v_push (1) (hT _ zt_X11_accept rfl _ _ rfl) rfl ?_
                  refine v_ret (hT _ zt_X11_accept rfl _ _ rfl) (Or.inl rfl) ?_
                  show vP D T N 172 141 (zset (zcopy h 7 i.toNat 5 j.toNat n.toNat) 0 0 (0, 0)) [some (2, 0), some (0, 2), some (0, i), some (0, 1), some (0, j), some (0, n), some (2, 6), some (2, 4)] [(0, 1)] _
                  refine v_ret (hT _ zt_X11_pour rfl _ _ rfl) (Or.inl rfl) ?_
                  exact k7 hc11 hc15 hc19 hc20 hc22 hc25 hc29 hc32 hd36 hd37 hd38 hd39 hd40
      · have hc19 : (h 6 1).2 ≠ (h 4 1).2 := hc19
        refine v_load (v := (2, 0)) (hT _ zt_X11_pour rfl _ _ rfl) rfl rfl ?_
        refine v_push (11) (hT _ zt_X11_pour rfl _ _ rfl) rfl ?_
        refine v_call (w := 2) [some (2, 0), some (0, 11)] hO (hT _ zt_X11_pour rfl _ _ rfl) rfl rfl ?_
        refine v_load (v := (2, 0)) (hT _ zt_X11_refuse rfl _ _ rfl) rfl rfl ?_
        refine v_load (v := (0, 11)) (hT _ zt_X11_refuse rfl _ _ rfl) rfl rfl ?_
        refine v_putf (r := 0) hO (hT _ zt_X11_refuse rfl _ _ rfl) rfl (fun hf42 => ?_)
        refine v_push (0) (hT _ zt_X11_refuse rfl _ _ rfl) rfl ?_
        refine v_ret (hT _ zt_X11_refuse rfl _ _ rfl) (Or.inl rfl) ?_
        show vP D T N 172 77 (zset h 0 0 (0, 11)) [some (2, 0), some (0, 2), some (0, i), some (0, 1), some (0, j), some (0, n), some (2, 6), some (2, 4)] [(0, 0)] _
        refine v_ret (hT _ zt_X11_pour rfl _ _ rfl) (Or.inl rfl) ?_
        exact k8 hc11 hc15 hc19
theorem y_X11_pour_2_2 {D : zD} {T : zT} (hT : hTab T) (hO : vOK T) {N : Nat} {h : zH} {Q : zR → Prop} (i j n : Int) (hv0 : zHv h) (hb : 0 ≤ (h 6 2).2 ∧ (h 6 2).2 ≤ 60) (hc : 0 ≤ (h 6 2).2 ∧ (h 6 2).2 ≤ 60) (hn : n ≤ 2147483647)
    (k0 : ((h 6 1).2 = -1) → Q (zset h 0 0 (0, 3), some (0, 0)))
    (k1 : ((h 6 1).2 ≠ -1) → ((h 6 1).2 = (h 6 1).2) → (n < 0) → Q (zset h 0 0 (0, 6), some (0, 0)))
    (k2 : ((h 6 1).2 ≠ -1) → ((h 6 1).2 = (h 6 1).2) → (0 ≤ n) → (i < 0) → Q (zset h 0 0 (0, 4), some (0, 0)))
    (k3 : ((h 6 1).2 ≠ -1) → ((h 6 1).2 = (h 6 1).2) → (0 ≤ n) → (0 ≤ i) → (((h 6 2).2 - n) < i) → Q (zset h 0 0 (0, 4), some (0, 0)))
    (k4 : ((h 6 1).2 ≠ -1) → ((h 6 1).2 = (h 6 1).2) → (0 ≤ n) → (0 ≤ i) → (i ≤ ((h 6 2).2 - n)) → (j < 0) → Q (zset h 0 0 (0, 4), some (0, 0)))
    (k5 : ((h 6 1).2 ≠ -1) → ((h 6 1).2 = (h 6 1).2) → (0 ≤ n) → (0 ≤ i) → (i ≤ ((h 6 2).2 - n)) → (0 ≤ j) → (((h 6 2).2 - n) < j) → Q (zset h 0 0 (0, 4), some (0, 0)))
    (k6 : ((h 6 1).2 ≠ -1) → ((h 6 1).2 = (h 6 1).2) → (0 ≤ n) → (0 ≤ i) → (i ≤ ((h 6 2).2 - n)) → (0 ≤ j) → (j ≤ ((h 6 2).2 - n)) → (0 ≤ n) → (0 ≤ i) → (0 ≤ j) → (i + n ≤ 60) → (j + n ≤ 60) → Q (zset (zcopy h 7 i.toNat 7 j.toNat n.toNat) 0 0 (0, 0), some (0, 1)))
    (k7 : ((h 6 1).2 ≠ -1) → ((h 6 1).2 ≠ (h 6 1).2) → Q (zset h 0 0 (0, 11), some (0, 0))) :
    vP D T N 172 0 h [some (2, 0), some (0, 2), some (0, i), some (0, 2), some (0, j), some (0, n), none, none] [] Q := by
  refine v_load (v := (0, 2)) (hT _ zt_X11_pour rfl _ _ rfl) rfl rfl ?_
  refine v_call (w := 1) [some (0, 2)] hO (hT _ zt_X11_pour rfl _ _ rfl) rfl rfl ?_
  refine v_load (v := (0, 2)) (hT _ zt_X11_isTray rfl _ _ rfl) rfl rfl ?_
  refine v_if (hT _ zt_X11_isTray rfl _ _ rfl) (fun hc1 => absurd (show (2 : Int) < 0 from hc1) (by decide)) (fun _ => ?_)
  refine v_load (v := (0, 2)) (hT _ zt_X11_isTray rfl _ _ rfl) rfl rfl ?_
  refine v_push (4) (hT _ zt_X11_isTray rfl _ _ rfl) rfl ?_
  refine v_ic (hT _ zt_X11_isTray rfl _ _ rfl) (fun _ => ?_) (fun hc2 => absurd (show (2 : Int) < 4 from (by decide)) hc2)
  refine v_push (1) (hT _ zt_X11_isTray rfl _ _ rfl) rfl ?_
  refine v_goto (hT _ zt_X11_isTray rfl _ _ rfl) ?_
  refine v_ret (hT _ zt_X11_isTray rfl _ _ rfl) (Or.inl rfl) ?_
  show vP D T N 172 4 h [some (2, 0), some (0, 2), some (0, i), some (0, 2), some (0, j), some (0, n), none, none] [(0, 1)] _
  refine v_if (hT _ zt_X11_pour rfl _ _ rfl) (fun hc3 => absurd (show (1 : Int) = 0 from hc3) (by decide)) (fun _ => ?_)
  refine v_load (v := (0, 2)) (hT _ zt_X11_pour rfl _ _ rfl) rfl rfl ?_
  refine v_call (w := 1) [some (0, 2)] hO (hT _ zt_X11_pour rfl _ _ rfl) rfl rfl ?_
  refine v_load (v := (0, 2)) (hT _ zt_X11_isTray rfl _ _ rfl) rfl rfl ?_
  refine v_if (hT _ zt_X11_isTray rfl _ _ rfl) (fun hc4 => absurd (show (2 : Int) < 0 from hc4) (by decide)) (fun _ => ?_)
  refine v_load (v := (0, 2)) (hT _ zt_X11_isTray rfl _ _ rfl) rfl rfl ?_
  refine v_push (4) (hT _ zt_X11_isTray rfl _ _ rfl) rfl ?_
  refine v_ic (hT _ zt_X11_isTray rfl _ _ rfl) (fun _ => ?_) (fun hc5 => absurd (show (2 : Int) < 4 from (by decide)) hc5)
  refine v_push (1) (hT _ zt_X11_isTray rfl _ _ rfl) rfl ?_
  refine v_goto (hT _ zt_X11_isTray rfl _ _ rfl) ?_
  refine v_ret (hT _ zt_X11_isTray rfl _ _ rfl) (Or.inl rfl) ?_
  show vP D T N 172 11 h [some (2, 0), some (0, 2), some (0, i), some (0, 2), some (0, j), some (0, n), none, none] [(0, 1)] _
  refine v_if (hT _ zt_X11_pour rfl _ _ rfl) (fun hc6 => absurd (show (1 : Int) = 0 from hc6) (by decide)) (fun _ => ?_)
  refine v_load (v := (2, 0)) (hT _ zt_X11_pour rfl _ _ rfl) rfl rfl ?_
  refine v_getR (c := 1) (r := 0) (hT _ zt_X11_pour rfl _ _ rfl) rfl rfl rfl ?_
  refine v_load (v := (0, 2)) (hT _ zt_X11_pour rfl _ _ rfl) rfl rfl ?_
  refine v_aldV (v := (2, 6)) (r := 1) (hT _ zt_X11_pour rfl _ _ rfl) rfl rfl (fun hv _ _ => hv.ref rfl) (fun ha7 hb8 => ?_)
  refine v_store1 [some (2, 0), some (0, 2), some (0, i), some (0, 2), some (0, j), some (0, n), some (2, 6), none] (hT _ zt_X11_pour rfl _ _ rfl) ⟨rfl, Nat.ne_of_beq_eq_false rfl⟩ (Nat.le_of_ble_eq_true rfl) rfl ?_
  refine v_load (v := (2, 0)) (hT _ zt_X11_pour rfl _ _ rfl) rfl rfl ?_
  refine v_getR (c := 1) (r := 0) (hT _ zt_X11_pour rfl _ _ rfl) rfl rfl rfl ?_
  refine v_load (v := (0, 2)) (hT _ zt_X11_pour rfl _ _ rfl) rfl rfl ?_
  refine v_aldV (v := (2, 6)) (r := 1) (hT _ zt_X11_pour rfl _ _ rfl) rfl rfl (fun hv _ _ => hv.ref rfl) (fun ha9 hb10 => ?_)
  refine v_store1 [some (2, 0), some (0, 2), some (0, i), some (0, 2), some (0, j), some (0, n), some (2, 6), some (2, 6)] (hT _ zt_X11_pour rfl _ _ rfl) ⟨rfl, Nat.ne_of_beq_eq_false rfl⟩ (Nat.le_of_ble_eq_true rfl) rfl ?_
  refine v_load (v := (2, 6)) (hT _ zt_X11_pour rfl _ _ rfl) rfl rfl ?_
  refine v_call (w := 1) [some (2, 6)] hO (hT _ zt_X11_pour rfl _ _ rfl) rfl rfl ?_
  refine v_load (v := (2, 6)) (hT _ zt_X9_isMissing rfl _ _ rfl) rfl rfl ?_
  refine v_getI (t := 0) (r := 6) (hT _ zt_X9_isMissing rfl _ _ rfl) rfl rfl rfl ?_
  refine v_push (-1) (hT _ zt_X9_isMissing rfl _ _ rfl) rfl ?_
  refine v_ic (hT _ zt_X9_isMissing rfl _ _ rfl) (fun hc11 => ?_) (fun hc11 => ?_)
  · have hc11 : (h 6 1).2 = -1 := hc11
    refine v_push (1) (hT _ zt_X9_isMissing rfl _ _ rfl) rfl ?_
    refine v_goto (hT _ zt_X9_isMissing rfl _ _ rfl) ?_
    refine v_ret (hT _ zt_X9_isMissing rfl _ _ rfl) (Or.inl rfl) ?_
    show vP D T N 172 41 h [some (2, 0), some (0, 2), some (0, i), some (0, 2), some (0, j), some (0, n), some (2, 6), some (2, 6)] [(0, 1)] _
    refine v_if (hT _ zt_X11_pour rfl _ _ rfl) (fun hc12 => absurd (show (1 : Int) = 0 from hc12) (by decide)) (fun _ => ?_)
    refine v_load (v := (2, 0)) (hT _ zt_X11_pour rfl _ _ rfl) rfl rfl ?_
    refine v_push (3) (hT _ zt_X11_pour rfl _ _ rfl) rfl ?_
    refine v_call (w := 2) [some (2, 0), some (0, 3)] hO (hT _ zt_X11_pour rfl _ _ rfl) rfl rfl ?_
    refine v_load (v := (2, 0)) (hT _ zt_X11_refuse rfl _ _ rfl) rfl rfl ?_
    refine v_load (v := (0, 3)) (hT _ zt_X11_refuse rfl _ _ rfl) rfl rfl ?_
    refine v_putf (r := 0) hO (hT _ zt_X11_refuse rfl _ _ rfl) rfl (fun hf13 => ?_)
    refine v_push (0) (hT _ zt_X11_refuse rfl _ _ rfl) rfl ?_
    refine v_ret (hT _ zt_X11_refuse rfl _ _ rfl) (Or.inl rfl) ?_
    show vP D T N 172 57 (zset h 0 0 (0, 3)) [some (2, 0), some (0, 2), some (0, i), some (0, 2), some (0, j), some (0, n), some (2, 6), some (2, 6)] [(0, 0)] _
    refine v_ret (hT _ zt_X11_pour rfl _ _ rfl) (Or.inl rfl) ?_
    exact k0 hc11
  · have hc11 : (h 6 1).2 ≠ -1 := hc11
    refine v_push (0) (hT _ zt_X9_isMissing rfl _ _ rfl) rfl ?_
    refine v_ret (hT _ zt_X9_isMissing rfl _ _ rfl) (Or.inl rfl) ?_
    show vP D T N 172 41 h [some (2, 0), some (0, 2), some (0, i), some (0, 2), some (0, j), some (0, n), some (2, 6), some (2, 6)] [(0, 0)] _
    refine v_if (hT _ zt_X11_pour rfl _ _ rfl) (fun _ => ?_) (fun hc14 => absurd (show (0 : Int) = 0 from (by decide)) hc14)
    refine v_load (v := (2, 6)) (hT _ zt_X11_pour rfl _ _ rfl) rfl rfl ?_
    refine v_call (w := 1) [some (2, 6)] hO (hT _ zt_X11_pour rfl _ _ rfl) rfl rfl ?_
    refine v_load (v := (2, 6)) (hT _ zt_X9_isMissing rfl _ _ rfl) rfl rfl ?_
    refine v_getI (t := 0) (r := 6) (hT _ zt_X9_isMissing rfl _ _ rfl) rfl rfl rfl ?_
    refine v_push (-1) (hT _ zt_X9_isMissing rfl _ _ rfl) rfl ?_
    refine v_ic (hT _ zt_X9_isMissing rfl _ _ rfl) (fun hc15 => absurd (show (h 6 1).2 = -1 from hc15) (by omega)) (fun _ => ?_)
    refine v_push (0) (hT _ zt_X9_isMissing rfl _ _ rfl) rfl ?_
    refine v_ret (hT _ zt_X9_isMissing rfl _ _ rfl) (Or.inl rfl) ?_
    show vP D T N 172 49 h [some (2, 0), some (0, 2), some (0, i), some (0, 2), some (0, j), some (0, n), some (2, 6), some (2, 6)] [(0, 0)] _
    refine v_if (hT _ zt_X11_pour rfl _ _ rfl) (fun _ => ?_) (fun hc16 => absurd (show (0 : Int) = 0 from (by decide)) hc16)
    refine v_load (v := (2, 6)) (hT _ zt_X11_pour rfl _ _ rfl) rfl rfl ?_
    refine v_getI (t := 0) (r := 6) (hT _ zt_X11_pour rfl _ _ rfl) rfl rfl rfl ?_
    refine v_load (v := (2, 6)) (hT _ zt_X11_pour rfl _ _ rfl) rfl rfl ?_
    refine v_getI (t := 0) (r := 6) (hT _ zt_X11_pour rfl _ _ rfl) rfl rfl rfl ?_
    refine v_ic (hT _ zt_X11_pour rfl _ _ rfl) (fun hc17 => ?_) (fun hc17 => ?_)
    · have hc17 : (h 6 1).2 = (h 6 1).2 := hc17
      refine v_load (v := (0, n)) (hT _ zt_X11_pour rfl _ _ rfl) rfl rfl ?_
      refine v_if (hT _ zt_X11_pour rfl _ _ rfl) (fun hc18 => ?_) (fun hc18 => ?_)
      · have hc18 : n < 0 := hc18
        refine v_load (v := (2, 0)) (hT _ zt_X11_pour rfl _ _ rfl) rfl rfl ?_
        refine v_push (6) (hT _ zt_X11_pour rfl _ _ rfl) rfl ?_
        refine v_call (w := 2) [some (2, 0), some (0, 6)] hO (hT _ zt_X11_pour rfl _ _ rfl) rfl rfl ?_
        refine v_load (v := (2, 0)) (hT _ zt_X11_refuse rfl _ _ rfl) rfl rfl ?_
        refine v_load (v := (0, 6)) (hT _ zt_X11_refuse rfl _ _ rfl) rfl rfl ?_
        refine v_putf (r := 0) hO (hT _ zt_X11_refuse rfl _ _ rfl) rfl (fun hf19 => ?_)
        refine v_push (0) (hT _ zt_X11_refuse rfl _ _ rfl) rfl ?_
        refine v_ret (hT _ zt_X11_refuse rfl _ _ rfl) (Or.inl rfl) ?_
        show vP D T N 172 89 (zset h 0 0 (0, 6)) [some (2, 0), some (0, 2), some (0, i), some (0, 2), some (0, j), some (0, n), some (2, 6), some (2, 6)] [(0, 0)] _
        refine v_ret (hT _ zt_X11_pour rfl _ _ rfl) (Or.inl rfl) ?_
        exact k1 hc11 hc17 hc18
      · have hc18 : 0 ≤ n := Int.not_lt.mp hc18
        refine v_load (v := (2, 6)) (hT _ zt_X11_pour rfl _ _ rfl) rfl rfl ?_
        refine v_load (v := (0, i)) (hT _ zt_X11_pour rfl _ _ rfl) rfl rfl ?_
        refine v_load (v := (0, n)) (hT _ zt_X11_pour rfl _ _ rfl) rfl rfl ?_
        refine v_call (w := 3) [some (2, 6), some (0, i), some (0, n)] hO (hT _ zt_X11_pour rfl _ _ rfl) rfl rfl ?_
        refine v_load (v := (0, i)) (hT _ zt_X9_hasPlaces rfl _ _ rfl) rfl rfl ?_
        refine v_if (hT _ zt_X9_hasPlaces rfl _ _ rfl) (fun hc20 => ?_) (fun hc20 => ?_)
        · have hc20 : i < 0 := hc20
          refine v_push (0) (hT _ zt_X9_hasPlaces rfl _ _ rfl) rfl ?_
          refine v_ret (hT _ zt_X9_hasPlaces rfl _ _ rfl) (Or.inl rfl) ?_
          show vP D T N 172 98 h [some (2, 0), some (0, 2), some (0, i), some (0, 2), some (0, j), some (0, n), some (2, 6), some (2, 6)] [(0, 0)] _
          refine v_if (hT _ zt_X11_pour rfl _ _ rfl) (fun _ => ?_) (fun hc21 => absurd (show (0 : Int) = 0 from (by decide)) hc21)
          refine v_load (v := (2, 0)) (hT _ zt_X11_pour rfl _ _ rfl) rfl rfl ?_
          refine v_push (4) (hT _ zt_X11_pour rfl _ _ rfl) rfl ?_
          refine v_call (w := 2) [some (2, 0), some (0, 4)] hO (hT _ zt_X11_pour rfl _ _ rfl) rfl rfl ?_
          refine v_load (v := (2, 0)) (hT _ zt_X11_refuse rfl _ _ rfl) rfl rfl ?_
          refine v_load (v := (0, 4)) (hT _ zt_X11_refuse rfl _ _ rfl) rfl rfl ?_
          refine v_putf (r := 0) hO (hT _ zt_X11_refuse rfl _ _ rfl) rfl (fun hf22 => ?_)
          refine v_push (0) (hT _ zt_X11_refuse rfl _ _ rfl) rfl ?_
          refine v_ret (hT _ zt_X11_refuse rfl _ _ rfl) (Or.inl rfl) ?_
          show vP D T N 172 118 (zset h 0 0 (0, 4)) [some (2, 0), some (0, 2), some (0, i), some (0, 2), some (0, j), some (0, n), some (2, 6), some (2, 6)] [(0, 0)] _
          refine v_ret (hT _ zt_X11_pour rfl _ _ rfl) (Or.inl rfl) ?_
          exact k2 hc11 hc17 hc18 hc20
        · have hc20 : 0 ≤ i := Int.not_lt.mp hc20
          refine v_load (v := (0, i)) (hT _ zt_X9_hasPlaces rfl _ _ rfl) rfl rfl ?_
          refine v_load (v := (2, 6)) (hT _ zt_X9_hasPlaces rfl _ _ rfl) rfl rfl ?_
          refine v_getI (t := 0) (r := 6) (hT _ zt_X9_hasPlaces rfl _ _ rfl) rfl rfl rfl ?_
          refine v_load (v := (0, n)) (hT _ zt_X9_hasPlaces rfl _ _ rfl) rfl rfl ?_
          refine v_bin (w := ((h 6 2).2 - n)) (hT _ zt_X9_hasPlaces rfl _ _ rfl) (hq_sub (by omega) (by omega)) ?_
          refine v_ic (hT _ zt_X9_hasPlaces rfl _ _ rfl) (fun hc23 => ?_) (fun hc23 => ?_)
          · have hc23 : ((h 6 2).2 - n) < i := hc23
            refine v_push (0) (hT _ zt_X9_hasPlaces rfl _ _ rfl) rfl ?_
            refine v_ret (hT _ zt_X9_hasPlaces rfl _ _ rfl) (Or.inl rfl) ?_
            show vP D T N 172 98 h [some (2, 0), some (0, 2), some (0, i), some (0, 2), some (0, j), some (0, n), some (2, 6), some (2, 6)] [(0, 0)] _
            refine v_if (hT _ zt_X11_pour rfl _ _ rfl) (fun _ => ?_) (fun hc24 => absurd (show (0 : Int) = 0 from (by decide)) hc24)
            refine v_load (v := (2, 0)) (hT _ zt_X11_pour rfl _ _ rfl) rfl rfl ?_
            refine v_push (4) (hT _ zt_X11_pour rfl _ _ rfl) rfl ?_
            refine v_call (w := 2) [some (2, 0), some (0, 4)] hO (hT _ zt_X11_pour rfl _ _ rfl) rfl rfl ?_
            refine v_load (v := (2, 0)) (hT _ zt_X11_refuse rfl _ _ rfl) rfl rfl ?_
            refine v_load (v := (0, 4)) (hT _ zt_X11_refuse rfl _ _ rfl) rfl rfl ?_
            refine v_putf (r := 0) hO (hT _ zt_X11_refuse rfl _ _ rfl) rfl (fun hf25 => ?_)
            refine v_push (0) (hT _ zt_X11_refuse rfl _ _ rfl) rfl ?_
            refine v_ret (hT _ zt_X11_refuse rfl _ _ rfl) (Or.inl rfl) ?_
            show vP D T N 172 118 (zset h 0 0 (0, 4)) [some (2, 0), some (0, 2), some (0, i), some (0, 2), some (0, j), some (0, n), some (2, 6), some (2, 6)] [(0, 0)] _
            refine v_ret (hT _ zt_X11_pour rfl _ _ rfl) (Or.inl rfl) ?_
            exact k3 hc11 hc17 hc18 hc20 hc23
          · have hc23 : i ≤ ((h 6 2).2 - n) := Int.not_lt.mp hc23
            refine v_push (1) (hT _ zt_X9_hasPlaces rfl _ _ rfl) rfl ?_
            refine v_goto (hT _ zt_X9_hasPlaces rfl _ _ rfl) ?_
            refine v_ret (hT _ zt_X9_hasPlaces rfl _ _ rfl) (Or.inl rfl) ?_
            show vP D T N 172 98 h [some (2, 0), some (0, 2), some (0, i), some (0, 2), some (0, j), some (0, n), some (2, 6), some (2, 6)] [(0, 1)] _
            refine v_if (hT _ zt_X11_pour rfl _ _ rfl) (fun hc26 => absurd (show (1 : Int) = 0 from hc26) (by decide)) (fun _ => ?_)
            refine v_load (v := (2, 6)) (hT _ zt_X11_pour rfl _ _ rfl) rfl rfl ?_
            refine v_load (v := (0, j)) (hT _ zt_X11_pour rfl _ _ rfl) rfl rfl ?_
            refine v_load (v := (0, n)) (hT _ zt_X11_pour rfl _ _ rfl) rfl rfl ?_
            refine v_call (w := 3) [some (2, 6), some (0, j), some (0, n)] hO (hT _ zt_X11_pour rfl _ _ rfl) rfl rfl ?_
            refine v_load (v := (0, j)) (hT _ zt_X9_hasPlaces rfl _ _ rfl) rfl rfl ?_
            refine v_if (hT _ zt_X9_hasPlaces rfl _ _ rfl) (fun hc27 => ?_) (fun hc27 => ?_)
            · have hc27 : j < 0 := hc27
              refine v_push (0) (hT _ zt_X9_hasPlaces rfl _ _ rfl) rfl ?_
              refine v_ret (hT _ zt_X9_hasPlaces rfl _ _ rfl) (Or.inl rfl) ?_
              show vP D T N 172 110 h [some (2, 0), some (0, 2), some (0, i), some (0, 2), some (0, j), some (0, n), some (2, 6), some (2, 6)] [(0, 0)] _
              refine v_if (hT _ zt_X11_pour rfl _ _ rfl) (fun _ => ?_) (fun hc28 => absurd (show (0 : Int) = 0 from (by decide)) hc28)
              refine v_load (v := (2, 0)) (hT _ zt_X11_pour rfl _ _ rfl) rfl rfl ?_
              refine v_push (4) (hT _ zt_X11_pour rfl _ _ rfl) rfl ?_
              refine v_call (w := 2) [some (2, 0), some (0, 4)] hO (hT _ zt_X11_pour rfl _ _ rfl) rfl rfl ?_
              refine v_load (v := (2, 0)) (hT _ zt_X11_refuse rfl _ _ rfl) rfl rfl ?_
              refine v_load (v := (0, 4)) (hT _ zt_X11_refuse rfl _ _ rfl) rfl rfl ?_
              refine v_putf (r := 0) hO (hT _ zt_X11_refuse rfl _ _ rfl) rfl (fun hf29 => ?_)
              refine v_push (0) (hT _ zt_X11_refuse rfl _ _ rfl) rfl ?_
              refine v_ret (hT _ zt_X11_refuse rfl _ _ rfl) (Or.inl rfl) ?_
              show vP D T N 172 118 (zset h 0 0 (0, 4)) [some (2, 0), some (0, 2), some (0, i), some (0, 2), some (0, j), some (0, n), some (2, 6), some (2, 6)] [(0, 0)] _
              refine v_ret (hT _ zt_X11_pour rfl _ _ rfl) (Or.inl rfl) ?_
              exact k4 hc11 hc17 hc18 hc20 hc23 hc27
            · have hc27 : 0 ≤ j := Int.not_lt.mp hc27
              refine v_load (v := (0, j)) (hT _ zt_X9_hasPlaces rfl _ _ rfl) rfl rfl ?_
              refine v_load (v := (2, 6)) (hT _ zt_X9_hasPlaces rfl _ _ rfl) rfl rfl ?_
              refine v_getI (t := 0) (r := 6) (hT _ zt_X9_hasPlaces rfl _ _ rfl) rfl rfl rfl ?_
              refine v_load (v := (0, n)) (hT _ zt_X9_hasPlaces rfl _ _ rfl) rfl rfl ?_
              refine v_bin (w := ((h 6 2).2 - n)) (hT _ zt_X9_hasPlaces rfl _ _ rfl) (hq_sub (by omega) (by omega)) ?_
              refine v_ic (hT _ zt_X9_hasPlaces rfl _ _ rfl) (fun hc30 => ?_) (fun hc30 => ?_)
              · have hc30 : ((h 6 2).2 - n) < j := hc30
                refine v_push (0) (hT _ zt_X9_hasPlaces rfl _ _ rfl) rfl ?_
                refine v_ret (hT _ zt_X9_hasPlaces rfl _ _ rfl) (Or.inl rfl) ?_
                show vP D T N 172 110 h [some (2, 0), some (0, 2), some (0, i), some (0, 2), some (0, j), some (0, n), some (2, 6), some (2, 6)] [(0, 0)] _
                refine v_if (hT _ zt_X11_pour rfl _ _ rfl) (fun _ => ?_) (fun hc31 => absurd (show (0 : Int) = 0 from (by decide)) hc31)
                refine v_load (v := (2, 0)) (hT _ zt_X11_pour rfl _ _ rfl) rfl rfl ?_
                refine v_push (4) (hT _ zt_X11_pour rfl _ _ rfl) rfl ?_
                refine v_call (w := 2) [some (2, 0), some (0, 4)] hO (hT _ zt_X11_pour rfl _ _ rfl) rfl rfl ?_
                refine v_load (v := (2, 0)) (hT _ zt_X11_refuse rfl _ _ rfl) rfl rfl ?_
                refine v_load (v := (0, 4)) (hT _ zt_X11_refuse rfl _ _ rfl) rfl rfl ?_
                refine v_putf (r := 0) hO (hT _ zt_X11_refuse rfl _ _ rfl) rfl (fun hf32 => ?_)
                refine v_push (0) (hT _ zt_X11_refuse rfl _ _ rfl) rfl ?_
                refine v_ret (hT _ zt_X11_refuse rfl _ _ rfl) (Or.inl rfl) ?_
                show vP D T N 172 118 (zset h 0 0 (0, 4)) [some (2, 0), some (0, 2), some (0, i), some (0, 2), some (0, j), some (0, n), some (2, 6), some (2, 6)] [(0, 0)] _
                refine v_ret (hT _ zt_X11_pour rfl _ _ rfl) (Or.inl rfl) ?_
                exact k5 hc11 hc17 hc18 hc20 hc23 hc27 hc30
              · have hc30 : j ≤ ((h 6 2).2 - n) := Int.not_lt.mp hc30
                refine v_push (1) (hT _ zt_X9_hasPlaces rfl _ _ rfl) rfl ?_
                refine v_goto (hT _ zt_X9_hasPlaces rfl _ _ rfl) ?_
                refine v_ret (hT _ zt_X9_hasPlaces rfl _ _ rfl) (Or.inl rfl) ?_
                show vP D T N 172 110 h [some (2, 0), some (0, 2), some (0, i), some (0, 2), some (0, j), some (0, n), some (2, 6), some (2, 6)] [(0, 1)] _
                refine v_if (hT _ zt_X11_pour rfl _ _ rfl) (fun hc33 => absurd (show (1 : Int) = 0 from hc33) (by decide)) (fun _ => ?_)
                refine v_load (v := (2, 6)) (hT _ zt_X11_pour rfl _ _ rfl) rfl rfl ?_
                refine v_getR (c := 7) (r := 6) (hT _ zt_X11_pour rfl _ _ rfl) rfl rfl rfl ?_
                refine v_load (v := (0, i)) (hT _ zt_X11_pour rfl _ _ rfl) rfl rfl ?_
                refine v_load (v := (2, 6)) (hT _ zt_X11_pour rfl _ _ rfl) rfl rfl ?_
                refine v_getR (c := 7) (r := 6) (hT _ zt_X11_pour rfl _ _ rfl) rfl rfl rfl ?_
                refine v_load (v := (0, j)) (hT _ zt_X11_pour rfl _ _ rfl) rfl rfl ?_
                refine v_load (v := (0, n)) (hT _ zt_X11_pour rfl _ _ rfl) rfl rfl ?_
                refine v_copy (r0 := 7) (r1 := 7) (hT _ zt_X11_pour rfl _ _ rfl) rfl rfl rfl rfl (fun hd34 hd35 hd36 hd37 hd38 => ?_)
                refine v_load (v := (2, 0)) (hT _ zt_X11_pour rfl _ _ rfl) rfl rfl ?_
                refine v_call (w := 1) [some (2, 0)] hO (hT _ zt_X11_pour rfl _ _ rfl) rfl rfl ?_
                refine v_load (v := (2, 0)) (hT _ zt_X11_accept rfl _ _ rfl) rfl rfl ?_
                refine v_push (0) (hT _ zt_X11_accept rfl _ _ rfl) rfl ?_
                refine v_putf (r := 0) hO (hT _ zt_X11_accept rfl _ _ rfl) rfl (fun hf39 => ?_)
                refine v_push (1) (hT _ zt_X11_accept rfl _ _ rfl) rfl ?_
                refine v_ret (hT _ zt_X11_accept rfl _ _ rfl) (Or.inl rfl) ?_
                show vP D T N 172 141 (zset (zcopy h 7 i.toNat 7 j.toNat n.toNat) 0 0 (0, 0)) [some (2, 0), some (0, 2), some (0, i), some (0, 2), some (0, j), some (0, n), some (2, 6), some (2, 6)] [(0, 1)] _
                refine v_ret (hT _ zt_X11_pour rfl _ _ rfl) (Or.inl rfl) ?_
                exact k6 hc11 hc17 hc18 hc20 hc23 hc27 hc30 hd34 hd35 hd36 hd37 hd38
    · have hc17 : (h 6 1).2 ≠ (h 6 1).2 := hc17
      refine v_load (v := (2, 0)) (hT _ zt_X11_pour rfl _ _ rfl) rfl rfl ?_
      refine v_push (11) (hT _ zt_X11_pour rfl _ _ rfl) rfl ?_
      refine v_call (w := 2) [some (2, 0), some (0, 11)] hO (hT _ zt_X11_pour rfl _ _ rfl) rfl rfl ?_
      refine v_load (v := (2, 0)) (hT _ zt_X11_refuse rfl _ _ rfl) rfl rfl ?_
      refine v_load (v := (0, 11)) (hT _ zt_X11_refuse rfl _ _ rfl) rfl rfl ?_
      refine v_putf (r := 0) hO (hT _ zt_X11_refuse rfl _ _ rfl) rfl (fun hf40 => ?_)
      refine v_push (0) (hT _ zt_X11_refuse rfl _ _ rfl) rfl ?_
      refine v_ret (hT _ zt_X11_refuse rfl _ _ rfl) (Or.inl rfl) ?_
      show vP D T N 172 77 (zset h 0 0 (0, 11)) [some (2, 0), some (0, 2), some (0, i), some (0, 2), some (0, j), some (0, n), some (2, 6), some (2, 6)] [(0, 0)] _
      refine v_ret (hT _ zt_X11_pour rfl _ _ rfl) (Or.inl rfl) ?_
      exact k7 hc11 hc17
theorem y_X11_pour_2_3 {D : zD} {T : zT} (hT : hTab T) (hO : vOK T) {N : Nat} {h : zH} {Q : zR → Prop} (i j n : Int) (hv0 : zHv h) (hb : 0 ≤ (h 6 2).2 ∧ (h 6 2).2 ≤ 60) (hc : 0 ≤ (h 8 2).2 ∧ (h 8 2).2 ≤ 60) (hn : n ≤ 2147483647)
    (k0 : ((h 6 1).2 = -1) → Q (zset h 0 0 (0, 3), some (0, 0)))
    (k1 : ((h 6 1).2 ≠ -1) → ((h 8 1).2 = -1) → Q (zset h 0 0 (0, 3), some (0, 0)))
    (k2 : ((h 6 1).2 ≠ -1) → ((h 8 1).2 ≠ -1) → ((h 6 1).2 = (h 8 1).2) → (n < 0) → Q (zset h 0 0 (0, 6), some (0, 0)))
    (k3 : ((h 6 1).2 ≠ -1) → ((h 8 1).2 ≠ -1) → ((h 6 1).2 = (h 8 1).2) → (0 ≤ n) → (i < 0) → Q (zset h 0 0 (0, 4), some (0, 0)))
    (k4 : ((h 6 1).2 ≠ -1) → ((h 8 1).2 ≠ -1) → ((h 6 1).2 = (h 8 1).2) → (0 ≤ n) → (0 ≤ i) → (((h 6 2).2 - n) < i) → Q (zset h 0 0 (0, 4), some (0, 0)))
    (k5 : ((h 6 1).2 ≠ -1) → ((h 8 1).2 ≠ -1) → ((h 6 1).2 = (h 8 1).2) → (0 ≤ n) → (0 ≤ i) → (i ≤ ((h 6 2).2 - n)) → (j < 0) → Q (zset h 0 0 (0, 4), some (0, 0)))
    (k6 : ((h 6 1).2 ≠ -1) → ((h 8 1).2 ≠ -1) → ((h 6 1).2 = (h 8 1).2) → (0 ≤ n) → (0 ≤ i) → (i ≤ ((h 6 2).2 - n)) → (0 ≤ j) → (((h 8 2).2 - n) < j) → Q (zset h 0 0 (0, 4), some (0, 0)))
    (k7 : ((h 6 1).2 ≠ -1) → ((h 8 1).2 ≠ -1) → ((h 6 1).2 = (h 8 1).2) → (0 ≤ n) → (0 ≤ i) → (i ≤ ((h 6 2).2 - n)) → (0 ≤ j) → (j ≤ ((h 8 2).2 - n)) → (0 ≤ n) → (0 ≤ i) → (0 ≤ j) → (i + n ≤ 60) → (j + n ≤ 60) → Q (zset (zcopy h 7 i.toNat 9 j.toNat n.toNat) 0 0 (0, 0), some (0, 1)))
    (k8 : ((h 6 1).2 ≠ -1) → ((h 8 1).2 ≠ -1) → ((h 6 1).2 ≠ (h 8 1).2) → Q (zset h 0 0 (0, 11), some (0, 0))) :
    vP D T N 172 0 h [some (2, 0), some (0, 2), some (0, i), some (0, 3), some (0, j), some (0, n), none, none] [] Q := by
  refine v_load (v := (0, 2)) (hT _ zt_X11_pour rfl _ _ rfl) rfl rfl ?_
  refine v_call (w := 1) [some (0, 2)] hO (hT _ zt_X11_pour rfl _ _ rfl) rfl rfl ?_
  refine v_load (v := (0, 2)) (hT _ zt_X11_isTray rfl _ _ rfl) rfl rfl ?_
  refine v_if (hT _ zt_X11_isTray rfl _ _ rfl) (fun hc1 => absurd (show (2 : Int) < 0 from hc1) (by decide)) (fun _ => ?_)
  refine v_load (v := (0, 2)) (hT _ zt_X11_isTray rfl _ _ rfl) rfl rfl ?_
  refine v_push (4) (hT _ zt_X11_isTray rfl _ _ rfl) rfl ?_
  refine v_ic (hT _ zt_X11_isTray rfl _ _ rfl) (fun _ => ?_) (fun hc2 => absurd (show (2 : Int) < 4 from (by decide)) hc2)
  refine v_push (1) (hT _ zt_X11_isTray rfl _ _ rfl) rfl ?_
  refine v_goto (hT _ zt_X11_isTray rfl _ _ rfl) ?_
  refine v_ret (hT _ zt_X11_isTray rfl _ _ rfl) (Or.inl rfl) ?_
  show vP D T N 172 4 h [some (2, 0), some (0, 2), some (0, i), some (0, 3), some (0, j), some (0, n), none, none] [(0, 1)] _
  refine v_if (hT _ zt_X11_pour rfl _ _ rfl) (fun hc3 => absurd (show (1 : Int) = 0 from hc3) (by decide)) (fun _ => ?_)
  refine v_load (v := (0, 3)) (hT _ zt_X11_pour rfl _ _ rfl) rfl rfl ?_
  refine v_call (w := 1) [some (0, 3)] hO (hT _ zt_X11_pour rfl _ _ rfl) rfl rfl ?_
  refine v_load (v := (0, 3)) (hT _ zt_X11_isTray rfl _ _ rfl) rfl rfl ?_
  refine v_if (hT _ zt_X11_isTray rfl _ _ rfl) (fun hc4 => absurd (show (3 : Int) < 0 from hc4) (by decide)) (fun _ => ?_)
  refine v_load (v := (0, 3)) (hT _ zt_X11_isTray rfl _ _ rfl) rfl rfl ?_
  refine v_push (4) (hT _ zt_X11_isTray rfl _ _ rfl) rfl ?_
  refine v_ic (hT _ zt_X11_isTray rfl _ _ rfl) (fun _ => ?_) (fun hc5 => absurd (show (3 : Int) < 4 from (by decide)) hc5)
  refine v_push (1) (hT _ zt_X11_isTray rfl _ _ rfl) rfl ?_
  refine v_goto (hT _ zt_X11_isTray rfl _ _ rfl) ?_
  refine v_ret (hT _ zt_X11_isTray rfl _ _ rfl) (Or.inl rfl) ?_
  show vP D T N 172 11 h [some (2, 0), some (0, 2), some (0, i), some (0, 3), some (0, j), some (0, n), none, none] [(0, 1)] _
  refine v_if (hT _ zt_X11_pour rfl _ _ rfl) (fun hc6 => absurd (show (1 : Int) = 0 from hc6) (by decide)) (fun _ => ?_)
  refine v_load (v := (2, 0)) (hT _ zt_X11_pour rfl _ _ rfl) rfl rfl ?_
  refine v_getR (c := 1) (r := 0) (hT _ zt_X11_pour rfl _ _ rfl) rfl rfl rfl ?_
  refine v_load (v := (0, 2)) (hT _ zt_X11_pour rfl _ _ rfl) rfl rfl ?_
  refine v_aldV (v := (2, 6)) (r := 1) (hT _ zt_X11_pour rfl _ _ rfl) rfl rfl (fun hv _ _ => hv.ref rfl) (fun ha7 hb8 => ?_)
  refine v_store1 [some (2, 0), some (0, 2), some (0, i), some (0, 3), some (0, j), some (0, n), some (2, 6), none] (hT _ zt_X11_pour rfl _ _ rfl) ⟨rfl, Nat.ne_of_beq_eq_false rfl⟩ (Nat.le_of_ble_eq_true rfl) rfl ?_
  refine v_load (v := (2, 0)) (hT _ zt_X11_pour rfl _ _ rfl) rfl rfl ?_
  refine v_getR (c := 1) (r := 0) (hT _ zt_X11_pour rfl _ _ rfl) rfl rfl rfl ?_
  refine v_load (v := (0, 3)) (hT _ zt_X11_pour rfl _ _ rfl) rfl rfl ?_
  refine v_aldV (v := (2, 8)) (r := 1) (hT _ zt_X11_pour rfl _ _ rfl) rfl rfl (fun hv _ _ => hv.ref rfl) (fun ha9 hb10 => ?_)
  refine v_store1 [some (2, 0), some (0, 2), some (0, i), some (0, 3), some (0, j), some (0, n), some (2, 6), some (2, 8)] (hT _ zt_X11_pour rfl _ _ rfl) ⟨rfl, Nat.ne_of_beq_eq_false rfl⟩ (Nat.le_of_ble_eq_true rfl) rfl ?_
  refine v_load (v := (2, 6)) (hT _ zt_X11_pour rfl _ _ rfl) rfl rfl ?_
  refine v_call (w := 1) [some (2, 6)] hO (hT _ zt_X11_pour rfl _ _ rfl) rfl rfl ?_
  refine v_load (v := (2, 6)) (hT _ zt_X9_isMissing rfl _ _ rfl) rfl rfl ?_
  refine v_getI (t := 0) (r := 6) (hT _ zt_X9_isMissing rfl _ _ rfl) rfl rfl rfl ?_
  refine v_push (-1) (hT _ zt_X9_isMissing rfl _ _ rfl) rfl ?_
  refine v_ic (hT _ zt_X9_isMissing rfl _ _ rfl) (fun hc11 => ?_) (fun hc11 => ?_)
  · have hc11 : (h 6 1).2 = -1 := hc11
    refine v_push (1) (hT _ zt_X9_isMissing rfl _ _ rfl) rfl ?_
    refine v_goto (hT _ zt_X9_isMissing rfl _ _ rfl) ?_
    refine v_ret (hT _ zt_X9_isMissing rfl _ _ rfl) (Or.inl rfl) ?_
    show vP D T N 172 41 h [some (2, 0), some (0, 2), some (0, i), some (0, 3), some (0, j), some (0, n), some (2, 6), some (2, 8)] [(0, 1)] _
    refine v_if (hT _ zt_X11_pour rfl _ _ rfl) (fun hc12 => absurd (show (1 : Int) = 0 from hc12) (by decide)) (fun _ => ?_)
    refine v_load (v := (2, 0)) (hT _ zt_X11_pour rfl _ _ rfl) rfl rfl ?_
    refine v_push (3) (hT _ zt_X11_pour rfl _ _ rfl) rfl ?_
    refine v_call (w := 2) [some (2, 0), some (0, 3)] hO (hT _ zt_X11_pour rfl _ _ rfl) rfl rfl ?_
    refine v_load (v := (2, 0)) (hT _ zt_X11_refuse rfl _ _ rfl) rfl rfl ?_
    refine v_load (v := (0, 3)) (hT _ zt_X11_refuse rfl _ _ rfl) rfl rfl ?_
    refine v_putf (r := 0) hO (hT _ zt_X11_refuse rfl _ _ rfl) rfl (fun hf13 => ?_)
    refine v_push (0) (hT _ zt_X11_refuse rfl _ _ rfl) rfl ?_
    refine v_ret (hT _ zt_X11_refuse rfl _ _ rfl) (Or.inl rfl) ?_
    show vP D T N 172 57 (zset h 0 0 (0, 3)) [some (2, 0), some (0, 2), some (0, i), some (0, 3), some (0, j), some (0, n), some (2, 6), some (2, 8)] [(0, 0)] _
    refine v_ret (hT _ zt_X11_pour rfl _ _ rfl) (Or.inl rfl) ?_
    exact k0 hc11
  · have hc11 : (h 6 1).2 ≠ -1 := hc11
    refine v_push (0) (hT _ zt_X9_isMissing rfl _ _ rfl) rfl ?_
    refine v_ret (hT _ zt_X9_isMissing rfl _ _ rfl) (Or.inl rfl) ?_
    show vP D T N 172 41 h [some (2, 0), some (0, 2), some (0, i), some (0, 3), some (0, j), some (0, n), some (2, 6), some (2, 8)] [(0, 0)] _
    refine v_if (hT _ zt_X11_pour rfl _ _ rfl) (fun _ => ?_) (fun hc14 => absurd (show (0 : Int) = 0 from (by decide)) hc14)
    refine v_load (v := (2, 8)) (hT _ zt_X11_pour rfl _ _ rfl) rfl rfl ?_
    refine v_call (w := 1) [some (2, 8)] hO (hT _ zt_X11_pour rfl _ _ rfl) rfl rfl ?_
    refine v_load (v := (2, 8)) (hT _ zt_X9_isMissing rfl _ _ rfl) rfl rfl ?_
    refine v_getI (t := 0) (r := 8) (hT _ zt_X9_isMissing rfl _ _ rfl) rfl rfl rfl ?_
    refine v_push (-1) (hT _ zt_X9_isMissing rfl _ _ rfl) rfl ?_
    refine v_ic (hT _ zt_X9_isMissing rfl _ _ rfl) (fun hc15 => ?_) (fun hc15 => ?_)
    · have hc15 : (h 8 1).2 = -1 := hc15
      refine v_push (1) (hT _ zt_X9_isMissing rfl _ _ rfl) rfl ?_
      refine v_goto (hT _ zt_X9_isMissing rfl _ _ rfl) ?_
      refine v_ret (hT _ zt_X9_isMissing rfl _ _ rfl) (Or.inl rfl) ?_
      show vP D T N 172 49 h [some (2, 0), some (0, 2), some (0, i), some (0, 3), some (0, j), some (0, n), some (2, 6), some (2, 8)] [(0, 1)] _
      refine v_if (hT _ zt_X11_pour rfl _ _ rfl) (fun hc16 => absurd (show (1 : Int) = 0 from hc16) (by decide)) (fun _ => ?_)
      refine v_load (v := (2, 0)) (hT _ zt_X11_pour rfl _ _ rfl) rfl rfl ?_
      refine v_push (3) (hT _ zt_X11_pour rfl _ _ rfl) rfl ?_
      refine v_call (w := 2) [some (2, 0), some (0, 3)] hO (hT _ zt_X11_pour rfl _ _ rfl) rfl rfl ?_
      refine v_load (v := (2, 0)) (hT _ zt_X11_refuse rfl _ _ rfl) rfl rfl ?_
      refine v_load (v := (0, 3)) (hT _ zt_X11_refuse rfl _ _ rfl) rfl rfl ?_
      refine v_putf (r := 0) hO (hT _ zt_X11_refuse rfl _ _ rfl) rfl (fun hf17 => ?_)
      refine v_push (0) (hT _ zt_X11_refuse rfl _ _ rfl) rfl ?_
      refine v_ret (hT _ zt_X11_refuse rfl _ _ rfl) (Or.inl rfl) ?_
      show vP D T N 172 57 (zset h 0 0 (0, 3)) [some (2, 0), some (0, 2), some (0, i), some (0, 3), some (0, j), some (0, n), some (2, 6), some (2, 8)] [(0, 0)] _
      refine v_ret (hT _ zt_X11_pour rfl _ _ rfl) (Or.inl rfl) ?_
      exact k1 hc11 hc15
    · have hc15 : (h 8 1).2 ≠ -1 := hc15
      refine v_push (0) (hT _ zt_X9_isMissing rfl _ _ rfl) rfl ?_
      refine v_ret (hT _ zt_X9_isMissing rfl _ _ rfl) (Or.inl rfl) ?_
      show vP D T N 172 49 h [some (2, 0), some (0, 2), some (0, i), some (0, 3), some (0, j), some (0, n), some (2, 6), some (2, 8)] [(0, 0)] _
      refine v_if (hT _ zt_X11_pour rfl _ _ rfl) (fun _ => ?_) (fun hc18 => absurd (show (0 : Int) = 0 from (by decide)) hc18)
      refine v_load (v := (2, 6)) (hT _ zt_X11_pour rfl _ _ rfl) rfl rfl ?_
      refine v_getI (t := 0) (r := 6) (hT _ zt_X11_pour rfl _ _ rfl) rfl rfl rfl ?_
      refine v_load (v := (2, 8)) (hT _ zt_X11_pour rfl _ _ rfl) rfl rfl ?_
      refine v_getI (t := 0) (r := 8) (hT _ zt_X11_pour rfl _ _ rfl) rfl rfl rfl ?_
      refine v_ic (hT _ zt_X11_pour rfl _ _ rfl) (fun hc19 => ?_) (fun hc19 => ?_)
      · have hc19 : (h 6 1).2 = (h 8 1).2 := hc19
        refine v_load (v := (0, n)) (hT _ zt_X11_pour rfl _ _ rfl) rfl rfl ?_
        refine v_if (hT _ zt_X11_pour rfl _ _ rfl) (fun hc20 => ?_) (fun hc20 => ?_)
        · have hc20 : n < 0 := hc20
          refine v_load (v := (2, 0)) (hT _ zt_X11_pour rfl _ _ rfl) rfl rfl ?_
          refine v_push (6) (hT _ zt_X11_pour rfl _ _ rfl) rfl ?_
          refine v_call (w := 2) [some (2, 0), some (0, 6)] hO (hT _ zt_X11_pour rfl _ _ rfl) rfl rfl ?_
          refine v_load (v := (2, 0)) (hT _ zt_X11_refuse rfl _ _ rfl) rfl rfl ?_
          refine v_load (v := (0, 6)) (hT _ zt_X11_refuse rfl _ _ rfl) rfl rfl ?_
          refine v_putf (r := 0) hO (hT _ zt_X11_refuse rfl _ _ rfl) rfl (fun hf21 => ?_)
          refine v_push (0) (hT _ zt_X11_refuse rfl _ _ rfl) rfl ?_
          refine v_ret (hT _ zt_X11_refuse rfl _ _ rfl) (Or.inl rfl) ?_
          show vP D T N 172 89 (zset h 0 0 (0, 6)) [some (2, 0), some (0, 2), some (0, i), some (0, 3), some (0, j), some (0, n), some (2, 6), some (2, 8)] [(0, 0)] _
          refine v_ret (hT _ zt_X11_pour rfl _ _ rfl) (Or.inl rfl) ?_
          exact k2 hc11 hc15 hc19 hc20
        · have hc20 : 0 ≤ n := Int.not_lt.mp hc20
          refine v_load (v := (2, 6)) (hT _ zt_X11_pour rfl _ _ rfl) rfl rfl ?_
          refine v_load (v := (0, i)) (hT _ zt_X11_pour rfl _ _ rfl) rfl rfl ?_
          refine v_load (v := (0, n)) (hT _ zt_X11_pour rfl _ _ rfl) rfl rfl ?_
          refine v_call (w := 3) [some (2, 6), some (0, i), some (0, n)] hO (hT _ zt_X11_pour rfl _ _ rfl) rfl rfl ?_
          refine v_load (v := (0, i)) (hT _ zt_X9_hasPlaces rfl _ _ rfl) rfl rfl ?_
          refine v_if (hT _ zt_X9_hasPlaces rfl _ _ rfl) (fun hc22 => ?_) (fun hc22 => ?_)
          · have hc22 : i < 0 := hc22
            refine v_push (0) (hT _ zt_X9_hasPlaces rfl _ _ rfl) rfl ?_
            refine v_ret (hT _ zt_X9_hasPlaces rfl _ _ rfl) (Or.inl rfl) ?_
            show vP D T N 172 98 h [some (2, 0), some (0, 2), some (0, i), some (0, 3), some (0, j), some (0, n), some (2, 6), some (2, 8)] [(0, 0)] _
            refine v_if (hT _ zt_X11_pour rfl _ _ rfl) (fun _ => ?_) (fun hc23 => absurd (show (0 : Int) = 0 from (by decide)) hc23)
            refine v_load (v := (2, 0)) (hT _ zt_X11_pour rfl _ _ rfl) rfl rfl ?_
            refine v_push (4) (hT _ zt_X11_pour rfl _ _ rfl) rfl ?_
            refine v_call (w := 2) [some (2, 0), some (0, 4)] hO (hT _ zt_X11_pour rfl _ _ rfl) rfl rfl ?_
            refine v_load (v := (2, 0)) (hT _ zt_X11_refuse rfl _ _ rfl) rfl rfl ?_
            refine v_load (v := (0, 4)) (hT _ zt_X11_refuse rfl _ _ rfl) rfl rfl ?_
            refine v_putf (r := 0) hO (hT _ zt_X11_refuse rfl _ _ rfl) rfl (fun hf24 => ?_)
            refine v_push (0) (hT _ zt_X11_refuse rfl _ _ rfl) rfl ?_
            refine v_ret (hT _ zt_X11_refuse rfl _ _ rfl) (Or.inl rfl) ?_
            show vP D T N 172 118 (zset h 0 0 (0, 4)) [some (2, 0), some (0, 2), some (0, i), some (0, 3), some (0, j), some (0, n), some (2, 6), some (2, 8)] [(0, 0)] _
            refine v_ret (hT _ zt_X11_pour rfl _ _ rfl) (Or.inl rfl) ?_
            exact k3 hc11 hc15 hc19 hc20 hc22
          · have hc22 : 0 ≤ i := Int.not_lt.mp hc22
            refine v_load (v := (0, i)) (hT _ zt_X9_hasPlaces rfl _ _ rfl) rfl rfl ?_
            refine v_load (v := (2, 6)) (hT _ zt_X9_hasPlaces rfl _ _ rfl) rfl rfl ?_
            refine v_getI (t := 0) (r := 6) (hT _ zt_X9_hasPlaces rfl _ _ rfl) rfl rfl rfl ?_
            refine v_load (v := (0, n)) (hT _ zt_X9_hasPlaces rfl _ _ rfl) rfl rfl ?_
            refine v_bin (w := ((h 6 2).2 - n)) (hT _ zt_X9_hasPlaces rfl _ _ rfl) (hq_sub (by omega) (by omega)) ?_
            refine v_ic (hT _ zt_X9_hasPlaces rfl _ _ rfl) (fun hc25 => ?_) (fun hc25 => ?_)
            · have hc25 : ((h 6 2).2 - n) < i := hc25
              refine v_push (0) (hT _ zt_X9_hasPlaces rfl _ _ rfl) rfl ?_
              refine v_ret (hT _ zt_X9_hasPlaces rfl _ _ rfl) (Or.inl rfl) ?_
              show vP D T N 172 98 h [some (2, 0), some (0, 2), some (0, i), some (0, 3), some (0, j), some (0, n), some (2, 6), some (2, 8)] [(0, 0)] _
              refine v_if (hT _ zt_X11_pour rfl _ _ rfl) (fun _ => ?_) (fun hc26 => absurd (show (0 : Int) = 0 from (by decide)) hc26)
              refine v_load (v := (2, 0)) (hT _ zt_X11_pour rfl _ _ rfl) rfl rfl ?_
              refine v_push (4) (hT _ zt_X11_pour rfl _ _ rfl) rfl ?_
              refine v_call (w := 2) [some (2, 0), some (0, 4)] hO (hT _ zt_X11_pour rfl _ _ rfl) rfl rfl ?_
              refine v_load (v := (2, 0)) (hT _ zt_X11_refuse rfl _ _ rfl) rfl rfl ?_
              refine v_load (v := (0, 4)) (hT _ zt_X11_refuse rfl _ _ rfl) rfl rfl ?_
              refine v_putf (r := 0) hO (hT _ zt_X11_refuse rfl _ _ rfl) rfl (fun hf27 => ?_)
              refine v_push (0) (hT _ zt_X11_refuse rfl _ _ rfl) rfl ?_
              refine v_ret (hT _ zt_X11_refuse rfl _ _ rfl) (Or.inl rfl) ?_
              show vP D T N 172 118 (zset h 0 0 (0, 4)) [some (2, 0), some (0, 2), some (0, i), some (0, 3), some (0, j), some (0, n), some (2, 6), some (2, 8)] [(0, 0)] _
              refine v_ret (hT _ zt_X11_pour rfl _ _ rfl) (Or.inl rfl) ?_
              exact k4 hc11 hc15 hc19 hc20 hc22 hc25
            · have hc25 : i ≤ ((h 6 2).2 - n) := Int.not_lt.mp hc25
              refine v_push (1) (hT _ zt_X9_hasPlaces rfl _ _ rfl) rfl ?_
              refine v_goto (hT _ zt_X9_hasPlaces rfl _ _ rfl) ?_
              refine v_ret (hT _ zt_X9_hasPlaces rfl _ _ rfl) (Or.inl rfl) ?_
              show vP D T N 172 98 h [some (2, 0), some (0, 2), some (0, i), some (0, 3), some (0, j), some (0, n), some (2, 6), some (2, 8)] [(0, 1)] _
              refine v_if (hT _ zt_X11_pour rfl _ _ rfl) (fun hc28 => absurd (show (1 : Int) = 0 from hc28) (by decide)) (fun _ => ?_)
              refine v_load (v := (2, 8)) (hT _ zt_X11_pour rfl _ _ rfl) rfl rfl ?_
              refine v_load (v := (0, j)) (hT _ zt_X11_pour rfl _ _ rfl) rfl rfl ?_
              refine v_load (v := (0, n)) (hT _ zt_X11_pour rfl _ _ rfl) rfl rfl ?_
              refine v_call (w := 3) [some (2, 8), some (0, j), some (0, n)] hO (hT _ zt_X11_pour rfl _ _ rfl) rfl rfl ?_
              refine v_load (v := (0, j)) (hT _ zt_X9_hasPlaces rfl _ _ rfl) rfl rfl ?_
              refine v_if (hT _ zt_X9_hasPlaces rfl _ _ rfl) (fun hc29 => ?_) (fun hc29 => ?_)
              · have hc29 : j < 0 := hc29
                refine v_push (0) (hT _ zt_X9_hasPlaces rfl _ _ rfl) rfl ?_
                refine v_ret (hT _ zt_X9_hasPlaces rfl _ _ rfl) (Or.inl rfl) ?_
                show vP D T N 172 110 h [some (2, 0), some (0, 2), some (0, i), some (0, 3), some (0, j), some (0, n), some (2, 6), some (2, 8)] [(0, 0)] _
                refine v_if (hT _ zt_X11_pour rfl _ _ rfl) (fun _ => ?_) (fun hc30 => absurd (show (0 : Int) = 0 from (by decide)) hc30)
                refine v_load (v := (2, 0)) (hT _ zt_X11_pour rfl _ _ rfl) rfl rfl ?_
                refine v_push (4) (hT _ zt_X11_pour rfl _ _ rfl) rfl ?_
                refine v_call (w := 2) [some (2, 0), some (0, 4)] hO (hT _ zt_X11_pour rfl _ _ rfl) rfl rfl ?_
                refine v_load (v := (2, 0)) (hT _ zt_X11_refuse rfl _ _ rfl) rfl rfl ?_
                refine v_load (v := (0, 4)) (hT _ zt_X11_refuse rfl _ _ rfl) rfl rfl ?_
                refine v_putf (r := 0) hO (hT _ zt_X11_refuse rfl _ _ rfl) rfl (fun hf31 => ?_)
                refine v_push (0) (hT _ zt_X11_refuse rfl _ _ rfl) rfl ?_
                refine v_ret (hT _ zt_X11_refuse rfl _ _ rfl) (Or.inl rfl) ?_
                show vP D T N 172 118 (zset h 0 0 (0, 4)) [some (2, 0), some (0, 2), some (0, i), some (0, 3), some (0, j), some (0, n), some (2, 6), some (2, 8)] [(0, 0)] _
                refine v_ret (hT _ zt_X11_pour rfl _ _ rfl) (Or.inl rfl) ?_
                exact k5 hc11 hc15 hc19 hc20 hc22 hc25 hc29
              · have hc29 : 0 ≤ j := Int.not_lt.mp hc29
                refine v_load (v := (0, j)) (hT _ zt_X9_hasPlaces rfl _ _ rfl) rfl rfl ?_
                refine v_load (v := (2, 8)) (hT _ zt_X9_hasPlaces rfl _ _ rfl) rfl rfl ?_
                refine v_getI (t := 0) (r := 8) (hT _ zt_X9_hasPlaces rfl _ _ rfl) rfl rfl rfl ?_
                refine v_load (v := (0, n)) (hT _ zt_X9_hasPlaces rfl _ _ rfl) rfl rfl ?_
                refine v_bin (w := ((h 8 2).2 - n)) (hT _ zt_X9_hasPlaces rfl _ _ rfl) (hq_sub (by omega) (by omega)) ?_
                refine v_ic (hT _ zt_X9_hasPlaces rfl _ _ rfl) (fun hc32 => ?_) (fun hc32 => ?_)
                · have hc32 : ((h 8 2).2 - n) < j := hc32
                  refine v_push (0) (hT _ zt_X9_hasPlaces rfl _ _ rfl) rfl ?_
                  refine v_ret (hT _ zt_X9_hasPlaces rfl _ _ rfl) (Or.inl rfl) ?_
                  show vP D T N 172 110 h [some (2, 0), some (0, 2), some (0, i), some (0, 3), some (0, j), some (0, n), some (2, 6), some (2, 8)] [(0, 0)] _
                  refine v_if (hT _ zt_X11_pour rfl _ _ rfl) (fun _ => ?_) (fun hc33 => absurd (show (0 : Int) = 0 from (by decide)) hc33)
                  refine v_load (v := (2, 0)) (hT _ zt_X11_pour rfl _ _ rfl) rfl rfl ?_
                  refine v_push (4) (hT _ zt_X11_pour rfl _ _ rfl) rfl ?_
                  refine v_call (w := 2) [some (2, 0), some (0, 4)] hO (hT _ zt_X11_pour rfl _ _ rfl) rfl rfl ?_
                  refine v_load (v := (2, 0)) (hT _ zt_X11_refuse rfl _ _ rfl) rfl rfl ?_
                  refine v_load (v := (0, 4)) (hT _ zt_X11_refuse rfl _ _ rfl) rfl rfl ?_
                  refine v_putf (r := 0) hO (hT _ zt_X11_refuse rfl _ _ rfl) rfl (fun hf34 => ?_)
                  refine v_push (0) (hT _ zt_X11_refuse rfl _ _ rfl) rfl ?_
                  refine v_ret (hT _ zt_X11_refuse rfl _ _ rfl) (Or.inl rfl) ?_
                  show vP D T N 172 118 (zset h 0 0 (0, 4)) [some (2, 0), some (0, 2), some (0, i), some (0, 3), some (0, j), some (0, n), some (2, 6), some (2, 8)] [(0, 0)] _
                  refine v_ret (hT _ zt_X11_pour rfl _ _ rfl) (Or.inl rfl) ?_
                  exact k6 hc11 hc15 hc19 hc20 hc22 hc25 hc29 hc32
                · have hc32 : j ≤ ((h 8 2).2 - n) := Int.not_lt.mp hc32
                  refine v_push (1) (hT _ zt_X9_hasPlaces rfl _ _ rfl) rfl ?_
                  refine v_goto (hT _ zt_X9_hasPlaces rfl _ _ rfl) ?_
                  refine v_ret (hT _ zt_X9_hasPlaces rfl _ _ rfl) (Or.inl rfl) ?_
                  show vP D T N 172 110 h [some (2, 0), some (0, 2), some (0, i), some (0, 3), some (0, j), some (0, n), some (2, 6), some (2, 8)] [(0, 1)] _
                  refine v_if (hT _ zt_X11_pour rfl _ _ rfl) (fun hc35 => absurd (show (1 : Int) = 0 from hc35) (by decide)) (fun _ => ?_)
                  refine v_load (v := (2, 6)) (hT _ zt_X11_pour rfl _ _ rfl) rfl rfl ?_
                  refine v_getR (c := 7) (r := 6) (hT _ zt_X11_pour rfl _ _ rfl) rfl rfl rfl ?_
                  refine v_load (v := (0, i)) (hT _ zt_X11_pour rfl _ _ rfl) rfl rfl ?_
                  refine v_load (v := (2, 8)) (hT _ zt_X11_pour rfl _ _ rfl) rfl rfl ?_
                  refine v_getR (c := 9) (r := 8) (hT _ zt_X11_pour rfl _ _ rfl) rfl rfl rfl ?_
                  refine v_load (v := (0, j)) (hT _ zt_X11_pour rfl _ _ rfl) rfl rfl ?_
                  refine v_load (v := (0, n)) (hT _ zt_X11_pour rfl _ _ rfl) rfl rfl ?_
                  refine v_copy (r0 := 7) (r1 := 9) (hT _ zt_X11_pour rfl _ _ rfl) rfl rfl rfl rfl (fun hd36 hd37 hd38 hd39 hd40 => ?_)
                  refine v_load (v := (2, 0)) (hT _ zt_X11_pour rfl _ _ rfl) rfl rfl ?_
                  refine v_call (w := 1) [some (2, 0)] hO (hT _ zt_X11_pour rfl _ _ rfl) rfl rfl ?_
                  refine v_load (v := (2, 0)) (hT _ zt_X11_accept rfl _ _ rfl) rfl rfl ?_
                  refine v_push (0) (hT _ zt_X11_accept rfl _ _ rfl) rfl ?_
                  refine v_putf (r := 0) hO (hT _ zt_X11_accept rfl _ _ rfl) rfl (fun hf41 => ?_)
                  refine v_push (1) (hT _ zt_X11_accept rfl _ _ rfl) rfl ?_
                  refine v_ret (hT _ zt_X11_accept rfl _ _ rfl) (Or.inl rfl) ?_
                  show vP D T N 172 141 (zset (zcopy h 7 i.toNat 9 j.toNat n.toNat) 0 0 (0, 0)) [some (2, 0), some (0, 2), some (0, i), some (0, 3), some (0, j), some (0, n), some (2, 6), some (2, 8)] [(0, 1)] _
                  refine v_ret (hT _ zt_X11_pour rfl _ _ rfl) (Or.inl rfl) ?_
                  exact k7 hc11 hc15 hc19 hc20 hc22 hc25 hc29 hc32 hd36 hd37 hd38 hd39 hd40
      · have hc19 : (h 6 1).2 ≠ (h 8 1).2 := hc19
        refine v_load (v := (2, 0)) (hT _ zt_X11_pour rfl _ _ rfl) rfl rfl ?_
        refine v_push (11) (hT _ zt_X11_pour rfl _ _ rfl) rfl ?_
        refine v_call (w := 2) [some (2, 0), some (0, 11)] hO (hT _ zt_X11_pour rfl _ _ rfl) rfl rfl ?_
        refine v_load (v := (2, 0)) (hT _ zt_X11_refuse rfl _ _ rfl) rfl rfl ?_
        refine v_load (v := (0, 11)) (hT _ zt_X11_refuse rfl _ _ rfl) rfl rfl ?_
        refine v_putf (r := 0) hO (hT _ zt_X11_refuse rfl _ _ rfl) rfl (fun hf42 => ?_)
        refine v_push (0) (hT _ zt_X11_refuse rfl _ _ rfl) rfl ?_
        refine v_ret (hT _ zt_X11_refuse rfl _ _ rfl) (Or.inl rfl) ?_
        show vP D T N 172 77 (zset h 0 0 (0, 11)) [some (2, 0), some (0, 2), some (0, i), some (0, 3), some (0, j), some (0, n), some (2, 6), some (2, 8)] [(0, 0)] _
        refine v_ret (hT _ zt_X11_pour rfl _ _ rfl) (Or.inl rfl) ?_
        exact k8 hc11 hc15 hc19
theorem y_X11_pour_3_0 {D : zD} {T : zT} (hT : hTab T) (hO : vOK T) {N : Nat} {h : zH} {Q : zR → Prop} (i j n : Int) (hv0 : zHv h) (hb : 0 ≤ (h 8 2).2 ∧ (h 8 2).2 ≤ 60) (hc : 0 ≤ (h 2 2).2 ∧ (h 2 2).2 ≤ 60) (hn : n ≤ 2147483647)
    (k0 : ((h 8 1).2 = -1) → Q (zset h 0 0 (0, 3), some (0, 0)))
    (k1 : ((h 8 1).2 ≠ -1) → ((h 2 1).2 = -1) → Q (zset h 0 0 (0, 3), some (0, 0)))
    (k2 : ((h 8 1).2 ≠ -1) → ((h 2 1).2 ≠ -1) → ((h 8 1).2 = (h 2 1).2) → (n < 0) → Q (zset h 0 0 (0, 6), some (0, 0)))
    (k3 : ((h 8 1).2 ≠ -1) → ((h 2 1).2 ≠ -1) → ((h 8 1).2 = (h 2 1).2) → (0 ≤ n) → (i < 0) → Q (zset h 0 0 (0, 4), some (0, 0)))
    (k4 : ((h 8 1).2 ≠ -1) → ((h 2 1).2 ≠ -1) → ((h 8 1).2 = (h 2 1).2) → (0 ≤ n) → (0 ≤ i) → (((h 8 2).2 - n) < i) → Q (zset h 0 0 (0, 4), some (0, 0)))
    (k5 : ((h 8 1).2 ≠ -1) → ((h 2 1).2 ≠ -1) → ((h 8 1).2 = (h 2 1).2) → (0 ≤ n) → (0 ≤ i) → (i ≤ ((h 8 2).2 - n)) → (j < 0) → Q (zset h 0 0 (0, 4), some (0, 0)))
    (k6 : ((h 8 1).2 ≠ -1) → ((h 2 1).2 ≠ -1) → ((h 8 1).2 = (h 2 1).2) → (0 ≤ n) → (0 ≤ i) → (i ≤ ((h 8 2).2 - n)) → (0 ≤ j) → (((h 2 2).2 - n) < j) → Q (zset h 0 0 (0, 4), some (0, 0)))
    (k7 : ((h 8 1).2 ≠ -1) → ((h 2 1).2 ≠ -1) → ((h 8 1).2 = (h 2 1).2) → (0 ≤ n) → (0 ≤ i) → (i ≤ ((h 8 2).2 - n)) → (0 ≤ j) → (j ≤ ((h 2 2).2 - n)) → (0 ≤ n) → (0 ≤ i) → (0 ≤ j) → (i + n ≤ 60) → (j + n ≤ 60) → Q (zset (zcopy h 9 i.toNat 3 j.toNat n.toNat) 0 0 (0, 0), some (0, 1)))
    (k8 : ((h 8 1).2 ≠ -1) → ((h 2 1).2 ≠ -1) → ((h 8 1).2 ≠ (h 2 1).2) → Q (zset h 0 0 (0, 11), some (0, 0))) :
    vP D T N 172 0 h [some (2, 0), some (0, 3), some (0, i), some (0, 0), some (0, j), some (0, n), none, none] [] Q := by
  refine v_load (v := (0, 3)) (hT _ zt_X11_pour rfl _ _ rfl) rfl rfl ?_
  refine v_call (w := 1) [some (0, 3)] hO (hT _ zt_X11_pour rfl _ _ rfl) rfl rfl ?_
  refine v_load (v := (0, 3)) (hT _ zt_X11_isTray rfl _ _ rfl) rfl rfl ?_
  refine v_if (hT _ zt_X11_isTray rfl _ _ rfl) (fun hc1 => absurd (show (3 : Int) < 0 from hc1) (by decide)) (fun _ => ?_)
  refine v_load (v := (0, 3)) (hT _ zt_X11_isTray rfl _ _ rfl) rfl rfl ?_
  refine v_push (4) (hT _ zt_X11_isTray rfl _ _ rfl) rfl ?_
  refine v_ic (hT _ zt_X11_isTray rfl _ _ rfl) (fun _ => ?_) (fun hc2 => absurd (show (3 : Int) < 4 from (by decide)) hc2)
  refine v_push (1) (hT _ zt_X11_isTray rfl _ _ rfl) rfl ?_
  refine v_goto (hT _ zt_X11_isTray rfl _ _ rfl) ?_
  refine v_ret (hT _ zt_X11_isTray rfl _ _ rfl) (Or.inl rfl) ?_
  show vP D T N 172 4 h [some (2, 0), some (0, 3), some (0, i), some (0, 0), some (0, j), some (0, n), none, none] [(0, 1)] _
  refine v_if (hT _ zt_X11_pour rfl _ _ rfl) (fun hc3 => absurd (show (1 : Int) = 0 from hc3) (by decide)) (fun _ => ?_)
  refine v_load (v := (0, 0)) (hT _ zt_X11_pour rfl _ _ rfl) rfl rfl ?_
  refine v_call (w := 1) [some (0, 0)] hO (hT _ zt_X11_pour rfl _ _ rfl) rfl rfl ?_
  refine v_load (v := (0, 0)) (hT _ zt_X11_isTray rfl _ _ rfl) rfl rfl ?_
  refine v_if (hT _ zt_X11_isTray rfl _ _ rfl) (fun hc4 => absurd (show (0 : Int) < 0 from hc4) (by decide)) (fun _ => ?_)
  refine v_load (v := (0, 0)) (hT _ zt_X11_isTray rfl _ _ rfl) rfl rfl ?_
  refine v_push (4) (hT _ zt_X11_isTray rfl _ _ rfl) rfl ?_
  refine v_ic (hT _ zt_X11_isTray rfl _ _ rfl) (fun _ => ?_) (fun hc5 => absurd (show (0 : Int) < 4 from (by decide)) hc5)
  refine v_push (1) (hT _ zt_X11_isTray rfl _ _ rfl) rfl ?_
  refine v_goto (hT _ zt_X11_isTray rfl _ _ rfl) ?_
  refine v_ret (hT _ zt_X11_isTray rfl _ _ rfl) (Or.inl rfl) ?_
  show vP D T N 172 11 h [some (2, 0), some (0, 3), some (0, i), some (0, 0), some (0, j), some (0, n), none, none] [(0, 1)] _
  refine v_if (hT _ zt_X11_pour rfl _ _ rfl) (fun hc6 => absurd (show (1 : Int) = 0 from hc6) (by decide)) (fun _ => ?_)
  refine v_load (v := (2, 0)) (hT _ zt_X11_pour rfl _ _ rfl) rfl rfl ?_
  refine v_getR (c := 1) (r := 0) (hT _ zt_X11_pour rfl _ _ rfl) rfl rfl rfl ?_
  refine v_load (v := (0, 3)) (hT _ zt_X11_pour rfl _ _ rfl) rfl rfl ?_
  refine v_aldV (v := (2, 8)) (r := 1) (hT _ zt_X11_pour rfl _ _ rfl) rfl rfl (fun hv _ _ => hv.ref rfl) (fun ha7 hb8 => ?_)
  refine v_store1 [some (2, 0), some (0, 3), some (0, i), some (0, 0), some (0, j), some (0, n), some (2, 8), none] (hT _ zt_X11_pour rfl _ _ rfl) ⟨rfl, Nat.ne_of_beq_eq_false rfl⟩ (Nat.le_of_ble_eq_true rfl) rfl ?_
  refine v_load (v := (2, 0)) (hT _ zt_X11_pour rfl _ _ rfl) rfl rfl ?_
  refine v_getR (c := 1) (r := 0) (hT _ zt_X11_pour rfl _ _ rfl) rfl rfl rfl ?_
  refine v_load (v := (0, 0)) (hT _ zt_X11_pour rfl _ _ rfl) rfl rfl ?_
  refine v_aldV (v := (2, 2)) (r := 1) (hT _ zt_X11_pour rfl _ _ rfl) rfl rfl (fun hv _ _ => hv.ref rfl) (fun ha9 hb10 => ?_)
  refine v_store1 [some (2, 0), some (0, 3), some (0, i), some (0, 0), some (0, j), some (0, n), some (2, 8), some (2, 2)] (hT _ zt_X11_pour rfl _ _ rfl) ⟨rfl, Nat.ne_of_beq_eq_false rfl⟩ (Nat.le_of_ble_eq_true rfl) rfl ?_
  refine v_load (v := (2, 8)) (hT _ zt_X11_pour rfl _ _ rfl) rfl rfl ?_
  refine v_call (w := 1) [some (2, 8)] hO (hT _ zt_X11_pour rfl _ _ rfl) rfl rfl ?_
  refine v_load (v := (2, 8)) (hT _ zt_X9_isMissing rfl _ _ rfl) rfl rfl ?_
  refine v_getI (t := 0) (r := 8) (hT _ zt_X9_isMissing rfl _ _ rfl) rfl rfl rfl ?_
  refine v_push (-1) (hT _ zt_X9_isMissing rfl _ _ rfl) rfl ?_
  refine v_ic (hT _ zt_X9_isMissing rfl _ _ rfl) (fun hc11 => ?_) (fun hc11 => ?_)
  · have hc11 : (h 8 1).2 = -1 := hc11
    refine v_push (1) (hT _ zt_X9_isMissing rfl _ _ rfl) rfl ?_
    refine v_goto (hT _ zt_X9_isMissing rfl _ _ rfl) ?_
    refine v_ret (hT _ zt_X9_isMissing rfl _ _ rfl) (Or.inl rfl) ?_
    show vP D T N 172 41 h [some (2, 0), some (0, 3), some (0, i), some (0, 0), some (0, j), some (0, n), some (2, 8), some (2, 2)] [(0, 1)] _
    refine v_if (hT _ zt_X11_pour rfl _ _ rfl) (fun hc12 => absurd (show (1 : Int) = 0 from hc12) (by decide)) (fun _ => ?_)
    refine v_load (v := (2, 0)) (hT _ zt_X11_pour rfl _ _ rfl) rfl rfl ?_
    refine v_push (3) (hT _ zt_X11_pour rfl _ _ rfl) rfl ?_
    refine v_call (w := 2) [some (2, 0), some (0, 3)] hO (hT _ zt_X11_pour rfl _ _ rfl) rfl rfl ?_
    refine v_load (v := (2, 0)) (hT _ zt_X11_refuse rfl _ _ rfl) rfl rfl ?_
    refine v_load (v := (0, 3)) (hT _ zt_X11_refuse rfl _ _ rfl) rfl rfl ?_
    refine v_putf (r := 0) hO (hT _ zt_X11_refuse rfl _ _ rfl) rfl (fun hf13 => ?_)
    refine v_push (0) (hT _ zt_X11_refuse rfl _ _ rfl) rfl ?_
    refine v_ret (hT _ zt_X11_refuse rfl _ _ rfl) (Or.inl rfl) ?_
    show vP D T N 172 57 (zset h 0 0 (0, 3)) [some (2, 0), some (0, 3), some (0, i), some (0, 0), some (0, j), some (0, n), some (2, 8), some (2, 2)] [(0, 0)] _
    refine v_ret (hT _ zt_X11_pour rfl _ _ rfl) (Or.inl rfl) ?_
    exact k0 hc11
  · have hc11 : (h 8 1).2 ≠ -1 := hc11
    refine v_push (0) (hT _ zt_X9_isMissing rfl _ _ rfl) rfl ?_
    refine v_ret (hT _ zt_X9_isMissing rfl _ _ rfl) (Or.inl rfl) ?_
    show vP D T N 172 41 h [some (2, 0), some (0, 3), some (0, i), some (0, 0), some (0, j), some (0, n), some (2, 8), some (2, 2)] [(0, 0)] _
    refine v_if (hT _ zt_X11_pour rfl _ _ rfl) (fun _ => ?_) (fun hc14 => absurd (show (0 : Int) = 0 from (by decide)) hc14)
    refine v_load (v := (2, 2)) (hT _ zt_X11_pour rfl _ _ rfl) rfl rfl ?_
    refine v_call (w := 1) [some (2, 2)] hO (hT _ zt_X11_pour rfl _ _ rfl) rfl rfl ?_
    refine v_load (v := (2, 2)) (hT _ zt_X9_isMissing rfl _ _ rfl) rfl rfl ?_
    refine v_getI (t := 0) (r := 2) (hT _ zt_X9_isMissing rfl _ _ rfl) rfl rfl rfl ?_
    refine v_push (-1) (hT _ zt_X9_isMissing rfl _ _ rfl) rfl ?_
    refine v_ic (hT _ zt_X9_isMissing rfl _ _ rfl) (fun hc15 => ?_) (fun hc15 => ?_)
    · have hc15 : (h 2 1).2 = -1 := hc15
      refine v_push (1) (hT _ zt_X9_isMissing rfl _ _ rfl) rfl ?_
      refine v_goto (hT _ zt_X9_isMissing rfl _ _ rfl) ?_
      refine v_ret (hT _ zt_X9_isMissing rfl _ _ rfl) (Or.inl rfl) ?_
      show vP D T N 172 49 h [some (2, 0), some (0, 3), some (0, i), some (0, 0), some (0, j), some (0, n), some (2, 8), some (2, 2)] [(0, 1)] _
      refine v_if (hT _ zt_X11_pour rfl _ _ rfl) (fun hc16 => absurd (show (1 : Int) = 0 from hc16) (by decide)) (fun _ => ?_)
      refine v_load (v := (2, 0)) (hT _ zt_X11_pour rfl _ _ rfl) rfl rfl ?_
      refine v_push (3) (hT _ zt_X11_pour rfl _ _ rfl) rfl ?_
      refine v_call (w := 2) [some (2, 0), some (0, 3)] hO (hT _ zt_X11_pour rfl _ _ rfl) rfl rfl ?_
      refine v_load (v := (2, 0)) (hT _ zt_X11_refuse rfl _ _ rfl) rfl rfl ?_
      refine v_load (v := (0, 3)) (hT _ zt_X11_refuse rfl _ _ rfl) rfl rfl ?_
      refine v_putf (r := 0) hO (hT _ zt_X11_refuse rfl _ _ rfl) rfl (fun hf17 => ?_)
      refine v_push (0) (hT _ zt_X11_refuse rfl _ _ rfl) rfl ?_
      refine v_ret (hT _ zt_X11_refuse rfl _ _ rfl) (Or.inl rfl) ?_
      show vP D T N 172 57 (zset h 0 0 (0, 3)) [some (2, 0), some (0, 3), some (0, i), some (0, 0), some (0, j), some (0, n), some (2, 8), some (2, 2)] [(0, 0)] _
      refine v_ret (hT _ zt_X11_pour rfl _ _ rfl) (Or.inl rfl) ?_
      exact k1 hc11 hc15
    · have hc15 : (h 2 1).2 ≠ -1 := hc15
      refine v_push (0) (hT _ zt_X9_isMissing rfl _ _ rfl) rfl ?_
      refine v_ret (hT _ zt_X9_isMissing rfl _ _ rfl) (Or.inl rfl) ?_
      show vP D T N 172 49 h [some (2, 0), some (0, 3), some (0, i), some (0, 0), some (0, j), some (0, n), some (2, 8), some (2, 2)] [(0, 0)] _
      refine v_if (hT _ zt_X11_pour rfl _ _ rfl) (fun _ => ?_) (fun hc18 => absurd (show (0 : Int) = 0 from (by decide)) hc18)
      refine v_load (v := (2, 8)) (hT _ zt_X11_pour rfl _ _ rfl) rfl rfl ?_
      refine v_getI (t := 0) (r := 8) (hT _ zt_X11_pour rfl _ _ rfl) rfl rfl rfl ?_
      refine v_load (v := (2, 2)) (hT _ zt_X11_pour rfl _ _ rfl) rfl rfl ?_
      refine v_getI (t := 0) (r := 2) (hT _ zt_X11_pour rfl _ _ rfl) rfl rfl rfl ?_
      refine v_ic (hT _ zt_X11_pour rfl _ _ rfl) (fun hc19 => ?_) (fun hc19 => ?_)
      · have hc19 : (h 8 1).2 = (h 2 1).2 := hc19
        refine v_load (v := (0, n)) (hT _ zt_X11_pour rfl _ _ rfl) rfl rfl ?_
        refine v_if (hT _ zt_X11_pour rfl _ _ rfl) (fun hc20 => ?_) (fun hc20 => ?_)
        · have hc20 : n < 0 := hc20
          refine v_load (v := (2, 0)) (hT _ zt_X11_pour rfl _ _ rfl) rfl rfl ?_
          refine v_push (6) (hT _ zt_X11_pour rfl _ _ rfl) rfl ?_
          refine v_call (w := 2) [some (2, 0), some (0, 6)] hO (hT _ zt_X11_pour rfl _ _ rfl) rfl rfl ?_
          refine v_load (v := (2, 0)) (hT _ zt_X11_refuse rfl _ _ rfl) rfl rfl ?_
          refine v_load (v := (0, 6)) (hT _ zt_X11_refuse rfl _ _ rfl) rfl rfl ?_
          refine v_putf (r := 0) hO (hT _ zt_X11_refuse rfl _ _ rfl) rfl (fun hf21 => ?_)
          refine v_push (0) (hT _ zt_X11_refuse rfl _ _ rfl) rfl ?_
          refine v_ret (hT _ zt_X11_refuse rfl _ _ rfl) (Or.inl rfl) ?_
          show vP D T N 172 89 (zset h 0 0 (0, 6)) [some (2, 0), some (0, 3), some (0, i), some (0, 0), some (0, j), some (0, n), some (2, 8), some (2, 2)] [(0, 0)] _
          refine v_ret (hT _ zt_X11_pour rfl _ _ rfl) (Or.inl rfl) ?_
          exact k2 hc11 hc15 hc19 hc20
        · have hc20 : 0 ≤ n := Int.not_lt.mp hc20
          refine v_load (v := (2, 8)) (hT _ zt_X11_pour rfl _ _ rfl) rfl rfl ?_
          refine v_load (v := (0, i)) (hT _ zt_X11_pour rfl _ _ rfl) rfl rfl ?_
          refine v_load (v := (0, n)) (hT _ zt_X11_pour rfl _ _ rfl) rfl rfl ?_
          refine v_call (w := 3) [some (2, 8), some (0, i), some (0, n)] hO (hT _ zt_X11_pour rfl _ _ rfl) rfl rfl ?_
          refine v_load (v := (0, i)) (hT _ zt_X9_hasPlaces rfl _ _ rfl) rfl rfl ?_
          refine v_if (hT _ zt_X9_hasPlaces rfl _ _ rfl) (fun hc22 => ?_) (fun hc22 => ?_)
          · have hc22 : i < 0 := hc22
            refine v_push (0) (hT _ zt_X9_hasPlaces rfl _ _ rfl) rfl ?_
            refine v_ret (hT _ zt_X9_hasPlaces rfl _ _ rfl) (Or.inl rfl) ?_
            show vP D T N 172 98 h [some (2, 0), some (0, 3), some (0, i), some (0, 0), some (0, j), some (0, n), some (2, 8), some (2, 2)] [(0, 0)] _
            refine v_if (hT _ zt_X11_pour rfl _ _ rfl) (fun _ => ?_) (fun hc23 => absurd (show (0 : Int) = 0 from (by decide)) hc23)
            refine v_load (v := (2, 0)) (hT _ zt_X11_pour rfl _ _ rfl) rfl rfl ?_
            refine v_push (4) (hT _ zt_X11_pour rfl _ _ rfl) rfl ?_
            refine v_call (w := 2) [some (2, 0), some (0, 4)] hO (hT _ zt_X11_pour rfl _ _ rfl) rfl rfl ?_
            refine v_load (v := (2, 0)) (hT _ zt_X11_refuse rfl _ _ rfl) rfl rfl ?_
            refine v_load (v := (0, 4)) (hT _ zt_X11_refuse rfl _ _ rfl) rfl rfl ?_
            refine v_putf (r := 0) hO (hT _ zt_X11_refuse rfl _ _ rfl) rfl (fun hf24 => ?_)
            refine v_push (0) (hT _ zt_X11_refuse rfl _ _ rfl) rfl ?_
            refine v_ret (hT _ zt_X11_refuse rfl _ _ rfl) (Or.inl rfl) ?_
            show vP D T N 172 118 (zset h 0 0 (0, 4)) [some (2, 0), some (0, 3), some (0, i), some (0, 0), some (0, j), some (0, n), some (2, 8), some (2, 2)] [(0, 0)] _
            refine v_ret (hT _ zt_X11_pour rfl _ _ rfl) (Or.inl rfl) ?_
            exact k3 hc11 hc15 hc19 hc20 hc22
          · have hc22 : 0 ≤ i := Int.not_lt.mp hc22
            refine v_load (v := (0, i)) (hT _ zt_X9_hasPlaces rfl _ _ rfl) rfl rfl ?_
            refine v_load (v := (2, 8)) (hT _ zt_X9_hasPlaces rfl _ _ rfl) rfl rfl ?_
            refine v_getI (t := 0) (r := 8) (hT _ zt_X9_hasPlaces rfl _ _ rfl) rfl rfl rfl ?_
            refine v_load (v := (0, n)) (hT _ zt_X9_hasPlaces rfl _ _ rfl) rfl rfl ?_
            refine v_bin (w := ((h 8 2).2 - n)) (hT _ zt_X9_hasPlaces rfl _ _ rfl) (hq_sub (by omega) (by omega)) ?_
            refine v_ic (hT _ zt_X9_hasPlaces rfl _ _ rfl) (fun hc25 => ?_) (fun hc25 => ?_)
            · have hc25 : ((h 8 2).2 - n) < i := hc25
              refine v_push (0) (hT _ zt_X9_hasPlaces rfl _ _ rfl) rfl ?_
              refine v_ret (hT _ zt_X9_hasPlaces rfl _ _ rfl) (Or.inl rfl) ?_
              show vP D T N 172 98 h [some (2, 0), some (0, 3), some (0, i), some (0, 0), some (0, j), some (0, n), some (2, 8), some (2, 2)] [(0, 0)] _
              refine v_if (hT _ zt_X11_pour rfl _ _ rfl) (fun _ => ?_) (fun hc26 => absurd (show (0 : Int) = 0 from (by decide)) hc26)
              refine v_load (v := (2, 0)) (hT _ zt_X11_pour rfl _ _ rfl) rfl rfl ?_
              refine v_push (4) (hT _ zt_X11_pour rfl _ _ rfl) rfl ?_
              refine v_call (w := 2) [some (2, 0), some (0, 4)] hO (hT _ zt_X11_pour rfl _ _ rfl) rfl rfl ?_
              refine v_load (v := (2, 0)) (hT _ zt_X11_refuse rfl _ _ rfl) rfl rfl ?_
              refine v_load (v := (0, 4)) (hT _ zt_X11_refuse rfl _ _ rfl) rfl rfl ?_
              refine v_putf (r := 0) hO (hT _ zt_X11_refuse rfl _ _ rfl) rfl (fun hf27 => ?_)
              refine v_push (0) (hT _ zt_X11_refuse rfl _ _ rfl) rfl ?_
              refine v_ret (hT _ zt_X11_refuse rfl _ _ rfl) (Or.inl rfl) ?_
              show vP D T N 172 118 (zset h 0 0 (0, 4)) [some (2, 0), some (0, 3), some (0, i), some (0, 0), some (0, j), some (0, n), some (2, 8), some (2, 2)] [(0, 0)] _
              refine v_ret (hT _ zt_X11_pour rfl _ _ rfl) (Or.inl rfl) ?_
              exact k4 hc11 hc15 hc19 hc20 hc22 hc25
            · have hc25 : i ≤ ((h 8 2).2 - n) := Int.not_lt.mp hc25
              refine v_push (1) (hT _ zt_X9_hasPlaces rfl _ _ rfl) rfl ?_
              refine v_goto (hT _ zt_X9_hasPlaces rfl _ _ rfl) ?_
              refine v_ret (hT _ zt_X9_hasPlaces rfl _ _ rfl) (Or.inl rfl) ?_
              show vP D T N 172 98 h [some (2, 0), some (0, 3), some (0, i), some (0, 0), some (0, j), some (0, n), some (2, 8), some (2, 2)] [(0, 1)] _
              refine v_if (hT _ zt_X11_pour rfl _ _ rfl) (fun hc28 => absurd (show (1 : Int) = 0 from hc28) (by decide)) (fun _ => ?_)
              refine v_load (v := (2, 2)) (hT _ zt_X11_pour rfl _ _ rfl) rfl rfl ?_
              refine v_load (v := (0, j)) (hT _ zt_X11_pour rfl _ _ rfl) rfl rfl ?_
              refine v_load (v := (0, n)) (hT _ zt_X11_pour rfl _ _ rfl) rfl rfl ?_
              refine v_call (w := 3) [some (2, 2), some (0, j), some (0, n)] hO (hT _ zt_X11_pour rfl _ _ rfl) rfl rfl ?_
              refine v_load (v := (0, j)) (hT _ zt_X9_hasPlaces rfl _ _ rfl) rfl rfl ?_
              refine v_if (hT _ zt_X9_hasPlaces rfl _ _ rfl) (fun hc29 => ?_) (fun hc29 => ?_)
              · have hc29 : j < 0 := hc29
                refine v_push (0) (hT _ zt_X9_hasPlaces rfl _ _ rfl) rfl ?_
                refine v_ret (hT _ zt_X9_hasPlaces rfl _ _ rfl) (Or.inl rfl) ?_
                show vP D T N 172 110 h [some (2, 0), some (0, 3), some (0, i), some (0, 0), some (0, j), some (0, n), some (2, 8), some (2, 2)] [(0, 0)] _
                refine v_if (hT _ zt_X11_pour rfl _ _ rfl) (fun _ => ?_) (fun hc30 => absurd (show (0 : Int) = 0 from (by decide)) hc30)
                refine v_load (v := (2, 0)) (hT _ zt_X11_pour rfl _ _ rfl) rfl rfl ?_
                refine v_push (4) (hT _ zt_X11_pour rfl _ _ rfl) rfl ?_
                refine v_call (w := 2) [some (2, 0), some (0, 4)] hO (hT _ zt_X11_pour rfl _ _ rfl) rfl rfl ?_
                refine v_load (v := (2, 0)) (hT _ zt_X11_refuse rfl _ _ rfl) rfl rfl ?_
                refine v_load (v := (0, 4)) (hT _ zt_X11_refuse rfl _ _ rfl) rfl rfl ?_
                refine v_putf (r := 0) hO (hT _ zt_X11_refuse rfl _ _ rfl) rfl (fun hf31 => ?_)
                refine v_push (0) (hT _ zt_X11_refuse rfl _ _ rfl) rfl ?_
                refine v_ret (hT _ zt_X11_refuse rfl _ _ rfl) (Or.inl rfl) ?_
                show vP D T N 172 118 (zset h 0 0 (0, 4)) [some (2, 0), some (0, 3), some (0, i), some (0, 0), some (0, j), some (0, n), some (2, 8), some (2, 2)] [(0, 0)] _
                refine v_ret (hT _ zt_X11_pour rfl _ _ rfl) (Or.inl rfl) ?_
                exact k5 hc11 hc15 hc19 hc20 hc22 hc25 hc29
              · have hc29 : 0 ≤ j := Int.not_lt.mp hc29
                refine v_load (v := (0, j)) (hT _ zt_X9_hasPlaces rfl _ _ rfl) rfl rfl ?_
                refine v_load (v := (2, 2)) (hT _ zt_X9_hasPlaces rfl _ _ rfl) rfl rfl ?_
                refine v_getI (t := 0) (r := 2) (hT _ zt_X9_hasPlaces rfl _ _ rfl) rfl rfl rfl ?_
                refine v_load (v := (0, n)) (hT _ zt_X9_hasPlaces rfl _ _ rfl) rfl rfl ?_
                refine v_bin (w := ((h 2 2).2 - n)) (hT _ zt_X9_hasPlaces rfl _ _ rfl) (hq_sub (by omega) (by omega)) ?_
                refine v_ic (hT _ zt_X9_hasPlaces rfl _ _ rfl) (fun hc32 => ?_) (fun hc32 => ?_)
                · have hc32 : ((h 2 2).2 - n) < j := hc32
                  refine v_push (0) (hT _ zt_X9_hasPlaces rfl _ _ rfl) rfl ?_
                  refine v_ret (hT _ zt_X9_hasPlaces rfl _ _ rfl) (Or.inl rfl) ?_
                  show vP D T N 172 110 h [some (2, 0), some (0, 3), some (0, i), some (0, 0), some (0, j), some (0, n), some (2, 8), some (2, 2)] [(0, 0)] _
                  refine v_if (hT _ zt_X11_pour rfl _ _ rfl) (fun _ => ?_) (fun hc33 => absurd (show (0 : Int) = 0 from (by decide)) hc33)
                  refine v_load (v := (2, 0)) (hT _ zt_X11_pour rfl _ _ rfl) rfl rfl ?_
                  refine v_push (4) (hT _ zt_X11_pour rfl _ _ rfl) rfl ?_
                  refine v_call (w := 2) [some (2, 0), some (0, 4)] hO (hT _ zt_X11_pour rfl _ _ rfl) rfl rfl ?_
                  refine v_load (v := (2, 0)) (hT _ zt_X11_refuse rfl _ _ rfl) rfl rfl ?_
                  refine v_load (v := (0, 4)) (hT _ zt_X11_refuse rfl _ _ rfl) rfl rfl ?_
                  refine v_putf (r := 0) hO (hT _ zt_X11_refuse rfl _ _ rfl) rfl (fun hf34 => ?_)
                  refine v_push (0) (hT _ zt_X11_refuse rfl _ _ rfl) rfl ?_
                  refine v_ret (hT _ zt_X11_refuse rfl _ _ rfl) (Or.inl rfl) ?_
                  show vP D T N 172 118 (zset h 0 0 (0, 4)) [some (2, 0), some (0, 3), some (0, i), some (0, 0), some (0, j), some (0, n), some (2, 8), some (2, 2)] [(0, 0)] _
                  refine v_ret (hT _ zt_X11_pour rfl _ _ rfl) (Or.inl rfl) ?_
                  exact k6 hc11 hc15 hc19 hc20 hc22 hc25 hc29 hc32
                · have hc32 : j ≤ ((h 2 2).2 - n) := Int.not_lt.mp hc32
                  refine v_push (1) (hT _ zt_X9_hasPlaces rfl _ _ rfl) rfl ?_
                  refine v_goto (hT _ zt_X9_hasPlaces rfl _ _ rfl) ?_
                  refine v_ret (hT _ zt_X9_hasPlaces rfl _ _ rfl) (Or.inl rfl) ?_
                  show vP D T N 172 110 h [some (2, 0), some (0, 3), some (0, i), some (0, 0), some (0, j), some (0, n), some (2, 8), some (2, 2)] [(0, 1)] _
                  refine v_if (hT _ zt_X11_pour rfl _ _ rfl) (fun hc35 => absurd (show (1 : Int) = 0 from hc35) (by decide)) (fun _ => ?_)
                  refine v_load (v := (2, 8)) (hT _ zt_X11_pour rfl _ _ rfl) rfl rfl ?_
                  refine v_getR (c := 9) (r := 8) (hT _ zt_X11_pour rfl _ _ rfl) rfl rfl rfl ?_
                  refine v_load (v := (0, i)) (hT _ zt_X11_pour rfl _ _ rfl) rfl rfl ?_
                  refine v_load (v := (2, 2)) (hT _ zt_X11_pour rfl _ _ rfl) rfl rfl ?_
                  refine v_getR (c := 3) (r := 2) (hT _ zt_X11_pour rfl _ _ rfl) rfl rfl rfl ?_
                  refine v_load (v := (0, j)) (hT _ zt_X11_pour rfl _ _ rfl) rfl rfl ?_
                  refine v_load (v := (0, n)) (hT _ zt_X11_pour rfl _ _ rfl) rfl rfl ?_
                  refine v_copy (r0 := 9) (r1 := 3) (hT _ zt_X11_pour rfl _ _ rfl) rfl rfl rfl rfl (fun hd36 hd37 hd38 hd39 hd40 => ?_)
                  refine v_load (v := (2, 0)) (hT _ zt_X11_pour rfl _ _ rfl) rfl rfl ?_
                  refine v_call (w := 1) [some (2, 0)] hO (hT _ zt_X11_pour rfl _ _ rfl) rfl rfl ?_
                  refine v_load (v := (2, 0)) (hT _ zt_X11_accept rfl _ _ rfl) rfl rfl ?_
                  refine v_push (0) (hT _ zt_X11_accept rfl _ _ rfl) rfl ?_
                  refine v_putf (r := 0) hO (hT _ zt_X11_accept rfl _ _ rfl) rfl (fun hf41 => ?_)
                  refine v_push (1) (hT _ zt_X11_accept rfl _ _ rfl) rfl ?_
                  refine v_ret (hT _ zt_X11_accept rfl _ _ rfl) (Or.inl rfl) ?_
                  show vP D T N 172 141 (zset (zcopy h 9 i.toNat 3 j.toNat n.toNat) 0 0 (0, 0)) [some (2, 0), some (0, 3), some (0, i), some (0, 0), some (0, j), some (0, n), some (2, 8), some (2, 2)] [(0, 1)] _
                  refine v_ret (hT _ zt_X11_pour rfl _ _ rfl) (Or.inl rfl) ?_
                  exact k7 hc11 hc15 hc19 hc20 hc22 hc25 hc29 hc32 hd36 hd37 hd38 hd39 hd40
      · have hc19 : (h 8 1).2 ≠ (h 2 1).2 := hc19
        refine v_load (v := (2, 0)) (hT _ zt_X11_pour rfl _ _ rfl) rfl rfl ?_
        refine v_push (11) (hT _ zt_X11_pour rfl _ _ rfl) rfl ?_
        refine v_call (w := 2) [some (2, 0), some (0, 11)] hO (hT _ zt_X11_pour rfl _ _ rfl) rfl rfl ?_
        refine v_load (v := (2, 0)) (hT _ zt_X11_refuse rfl _ _ rfl) rfl rfl ?_
        refine v_load (v := (0, 11)) (hT _ zt_X11_refuse rfl _ _ rfl) rfl rfl ?_
        refine v_putf (r := 0) hO (hT _ zt_X11_refuse rfl _ _ rfl) rfl (fun hf42 => ?_)
        refine v_push (0) (hT _ zt_X11_refuse rfl _ _ rfl) rfl ?_
        refine v_ret (hT _ zt_X11_refuse rfl _ _ rfl) (Or.inl rfl) ?_
        show vP D T N 172 77 (zset h 0 0 (0, 11)) [some (2, 0), some (0, 3), some (0, i), some (0, 0), some (0, j), some (0, n), some (2, 8), some (2, 2)] [(0, 0)] _
        refine v_ret (hT _ zt_X11_pour rfl _ _ rfl) (Or.inl rfl) ?_
        exact k8 hc11 hc15 hc19
theorem y_X11_pour_3_1 {D : zD} {T : zT} (hT : hTab T) (hO : vOK T) {N : Nat} {h : zH} {Q : zR → Prop} (i j n : Int) (hv0 : zHv h) (hb : 0 ≤ (h 8 2).2 ∧ (h 8 2).2 ≤ 60) (hc : 0 ≤ (h 4 2).2 ∧ (h 4 2).2 ≤ 60) (hn : n ≤ 2147483647)
    (k0 : ((h 8 1).2 = -1) → Q (zset h 0 0 (0, 3), some (0, 0)))
    (k1 : ((h 8 1).2 ≠ -1) → ((h 4 1).2 = -1) → Q (zset h 0 0 (0, 3), some (0, 0)))
    (k2 : ((h 8 1).2 ≠ -1) → ((h 4 1).2 ≠ -1) → ((h 8 1).2 = (h 4 1).2) → (n < 0) → Q (zset h 0 0 (0, 6), some (0, 0)))
    (k3 : ((h 8 1).2 ≠ -1) → ((h 4 1).2 ≠ -1) → ((h 8 1).2 = (h 4 1).2) → (0 ≤ n) → (i < 0) → Q (zset h 0 0 (0, 4), some (0, 0)))
    (k4 : ((h 8 1).2 ≠ -1) → ((h 4 1).2 ≠ -1) → ((h 8 1).2 = (h 4 1).2) → (0 ≤ n) → (0 ≤ i) → (((h 8 2).2 - n) < i) → Q (zset h 0 0 (0, 4), some (0, 0)))
    (k5 : ((h 8 1).2 ≠ -1) → ((h 4 1).2 ≠ -1) → ((h 8 1).2 = (h 4 1).2) → (0 ≤ n) → (0 ≤ i) → (i ≤ ((h 8 2).2 - n)) → (j < 0) → Q (zset h 0 0 (0, 4), some (0, 0)))
    (k6 : ((h 8 1).2 ≠ -1) → ((h 4 1).2 ≠ -1) → ((h 8 1).2 = (h 4 1).2) → (0 ≤ n) → (0 ≤ i) → (i ≤ ((h 8 2).2 - n)) → (0 ≤ j) → (((h 4 2).2 - n) < j) → Q (zset h 0 0 (0, 4), some (0, 0)))
    (k7 : ((h 8 1).2 ≠ -1) → ((h 4 1).2 ≠ -1) → ((h 8 1).2 = (h 4 1).2) → (0 ≤ n) → (0 ≤ i) → (i ≤ ((h 8 2).2 - n)) → (0 ≤ j) → (j ≤ ((h 4 2).2 - n)) → (0 ≤ n) → (0 ≤ i) → (0 ≤ j) → (i + n ≤ 60) → (j + n ≤ 60) → Q (zset (zcopy h 9 i.toNat 5 j.toNat n.toNat) 0 0 (0, 0), some (0, 1)))
    (k8 : ((h 8 1).2 ≠ -1) → ((h 4 1).2 ≠ -1) → ((h 8 1).2 ≠ (h 4 1).2) → Q (zset h 0 0 (0, 11), some (0, 0))) :
    vP D T N 172 0 h [some (2, 0), some (0, 3), some (0, i), some (0, 1), some (0, j), some (0, n), none, none] [] Q := by
  refine v_load (v := (0, 3)) (hT _ zt_X11_pour rfl _ _ rfl) rfl rfl ?_
  refine v_call (w := 1) [some (0, 3)] hO (hT _ zt_X11_pour rfl _ _ rfl) rfl rfl ?_
  refine v_load (v := (0, 3)) (hT _ zt_X11_isTray rfl _ _ rfl) rfl rfl ?_
  refine v_if (hT _ zt_X11_isTray rfl _ _ rfl) (fun hc1 => absurd (show (3 : Int) < 0 from hc1) (by decide)) (fun _ => ?_)
  refine v_load (v := (0, 3)) (hT _ zt_X11_isTray rfl _ _ rfl) rfl rfl ?_
  refine v_push (4) (hT _ zt_X11_isTray rfl _ _ rfl) rfl ?_
  refine v_ic (hT _ zt_X11_isTray rfl _ _ rfl) (fun _ => ?_) (fun hc2 => absurd (show (3 : Int) < 4 from (by decide)) hc2)
  refine v_push (1) (hT _ zt_X11_isTray rfl _ _ rfl) rfl ?_
  refine v_goto (hT _ zt_X11_isTray rfl _ _ rfl) ?_
  refine v_ret (hT _ zt_X11_isTray rfl _ _ rfl) (Or.inl rfl) ?_
  show vP D T N 172 4 h [some (2, 0), some (0, 3), some (0, i), some (0, 1), some (0, j), some (0, n), none, none] [(0, 1)] _
  refine v_if (hT _ zt_X11_pour rfl _ _ rfl) (fun hc3 => absurd (show (1 : Int) = 0 from hc3) (by decide)) (fun _ => ?_)
  refine v_load (v := (0, 1)) (hT _ zt_X11_pour rfl _ _ rfl) rfl rfl ?_
  refine v_call (w := 1) [some (0, 1)] hO (hT _ zt_X11_pour rfl _ _ rfl) rfl rfl ?_
  refine v_load (v := (0, 1)) (hT _ zt_X11_isTray rfl _ _ rfl) rfl rfl ?_
  refine v_if (hT _ zt_X11_isTray rfl _ _ rfl) (fun hc4 => absurd (show (1 : Int) < 0 from hc4) (by decide)) (fun _ => ?_)
  refine v_load (v := (0, 1)) (hT _ zt_X11_isTray rfl _ _ rfl) rfl rfl ?_
  refine v_push (4) (hT _ zt_X11_isTray rfl _ _ rfl) rfl ?_
  refine v_ic (hT _ zt_X11_isTray rfl _ _ rfl) (fun _ => ?_) (fun hc5 => absurd (show (1 : Int) < 4 from (by decide)) hc5)
  refine v_push (1) (hT _ zt_X11_isTray rfl _ _ rfl) rfl ?_
  refine v_goto (hT _ zt_X11_isTray rfl _ _ rfl) ?_
  refine v_ret (hT _ zt_X11_isTray rfl _ _ rfl) (Or.inl rfl) ?_
  show vP D T N 172 11 h [some (2, 0), some (0, 3), some (0, i), some (0, 1), some (0, j), some (0, n), none, none] [(0, 1)] _
  refine v_if (hT _ zt_X11_pour rfl _ _ rfl) (fun hc6 => absurd (show (1 : Int) = 0 from hc6) (by decide)) (fun _ => ?_)
  refine v_load (v := (2, 0)) (hT _ zt_X11_pour rfl _ _ rfl) rfl rfl ?_
  refine v_getR (c := 1) (r := 0) (hT _ zt_X11_pour rfl _ _ rfl) rfl rfl rfl ?_
  refine v_load (v := (0, 3)) (hT _ zt_X11_pour rfl _ _ rfl) rfl rfl ?_
  refine v_aldV (v := (2, 8)) (r := 1) (hT _ zt_X11_pour rfl _ _ rfl) rfl rfl (fun hv _ _ => hv.ref rfl) (fun ha7 hb8 => ?_)
  refine v_store1 [some (2, 0), some (0, 3), some (0, i), some (0, 1), some (0, j), some (0, n), some (2, 8), none] (hT _ zt_X11_pour rfl _ _ rfl) ⟨rfl, Nat.ne_of_beq_eq_false rfl⟩ (Nat.le_of_ble_eq_true rfl) rfl ?_
  refine v_load (v := (2, 0)) (hT _ zt_X11_pour rfl _ _ rfl) rfl rfl ?_
  refine v_getR (c := 1) (r := 0) (hT _ zt_X11_pour rfl _ _ rfl) rfl rfl rfl ?_
  refine v_load (v := (0, 1)) (hT _ zt_X11_pour rfl _ _ rfl) rfl rfl ?_
  refine v_aldV (v := (2, 4)) (r := 1) (hT _ zt_X11_pour rfl _ _ rfl) rfl rfl (fun hv _ _ => hv.ref rfl) (fun ha9 hb10 => ?_)
  refine v_store1 [some (2, 0), some (0, 3), some (0, i), some (0, 1), some (0, j), some (0, n), some (2, 8), some (2, 4)] (hT _ zt_X11_pour rfl _ _ rfl) ⟨rfl, Nat.ne_of_beq_eq_false rfl⟩ (Nat.le_of_ble_eq_true rfl) rfl ?_
  refine v_load (v := (2, 8)) (hT _ zt_X11_pour rfl _ _ rfl) rfl rfl ?_
  refine v_call (w := 1) [some (2, 8)] hO (hT _ zt_X11_pour rfl _ _ rfl) rfl rfl ?_
  refine v_load (v := (2, 8)) (hT _ zt_X9_isMissing rfl _ _ rfl) rfl rfl ?_
  refine v_getI (t := 0) (r := 8) (hT _ zt_X9_isMissing rfl _ _ rfl) rfl rfl rfl ?_
  refine v_push (-1) (hT _ zt_X9_isMissing rfl _ _ rfl) rfl ?_
  refine v_ic (hT _ zt_X9_isMissing rfl _ _ rfl) (fun hc11 => ?_) (fun hc11 => ?_)
  · have hc11 : (h 8 1).2 = -1 := hc11
    refine v_push (1) (hT _ zt_X9_isMissing rfl _ _ rfl) rfl ?_
    refine v_goto (hT _ zt_X9_isMissing rfl _ _ rfl) ?_
    refine v_ret (hT _ zt_X9_isMissing rfl _ _ rfl) (Or.inl rfl) ?_
    show vP D T N 172 41 h [some (2, 0), some (0, 3), some (0, i), some (0, 1), some (0, j), some (0, n), some (2, 8), some (2, 4)] [(0, 1)] _
    refine v_if (hT _ zt_X11_pour rfl _ _ rfl) (fun hc12 => absurd (show (1 : Int) = 0 from hc12) (by decide)) (fun _ => ?_)
    refine v_load (v := (2, 0)) (hT _ zt_X11_pour rfl _ _ rfl) rfl rfl ?_
    refine v_push (3) (hT _ zt_X11_pour rfl _ _ rfl) rfl ?_
    refine v_call (w := 2) [some (2, 0), some (0, 3)] hO (hT _ zt_X11_pour rfl _ _ rfl) rfl rfl ?_
    refine v_load (v := (2, 0)) (hT _ zt_X11_refuse rfl _ _ rfl) rfl rfl ?_
    refine v_load (v := (0, 3)) (hT _ zt_X11_refuse rfl _ _ rfl) rfl rfl ?_
    refine v_putf (r := 0) hO (hT _ zt_X11_refuse rfl _ _ rfl) rfl (fun hf13 => ?_)
    refine v_push (0) (hT _ zt_X11_refuse rfl _ _ rfl) rfl ?_
    refine v_ret (hT _ zt_X11_refuse rfl _ _ rfl) (Or.inl rfl) ?_
    show vP D T N 172 57 (zset h 0 0 (0, 3)) [some (2, 0), some (0, 3), some (0, i), some (0, 1), some (0, j), some (0, n), some (2, 8), some (2, 4)] [(0, 0)] _
    refine v_ret (hT _ zt_X11_pour rfl _ _ rfl) (Or.inl rfl) ?_
    exact k0 hc11
  · have hc11 : (h 8 1).2 ≠ -1 := hc11
    refine v_push (0) (hT _ zt_X9_isMissing rfl _ _ rfl) rfl ?_
    refine v_ret (hT _ zt_X9_isMissing rfl _ _ rfl) (Or.inl rfl) ?_
    show vP D T N 172 41 h [some (2, 0), some (0, 3), some (0, i), some (0, 1), some (0, j), some (0, n), some (2, 8), some (2, 4)] [(0, 0)] _
    refine v_if (hT _ zt_X11_pour rfl _ _ rfl) (fun _ => ?_) (fun hc14 => absurd (show (0 : Int) = 0 from (by decide)) hc14)
    refine v_load (v := (2, 4)) (hT _ zt_X11_pour rfl _ _ rfl) rfl rfl ?_
    refine v_call (w := 1) [some (2, 4)] hO (hT _ zt_X11_pour rfl _ _ rfl) rfl rfl ?_
    refine v_load (v := (2, 4)) (hT _ zt_X9_isMissing rfl _ _ rfl) rfl rfl ?_
    refine v_getI (t := 0) (r := 4) (hT _ zt_X9_isMissing rfl _ _ rfl) rfl rfl rfl ?_
    refine v_push (-1) (hT _ zt_X9_isMissing rfl _ _ rfl) rfl ?_
    refine v_ic (hT _ zt_X9_isMissing rfl _ _ rfl) (fun hc15 => ?_) (fun hc15 => ?_)
    · have hc15 : (h 4 1).2 = -1 := hc15
      refine v_push (1) (hT _ zt_X9_isMissing rfl _ _ rfl) rfl ?_
      refine v_goto (hT _ zt_X9_isMissing rfl _ _ rfl) ?_
      refine v_ret (hT _ zt_X9_isMissing rfl _ _ rfl) (Or.inl rfl) ?_
      show vP D T N 172 49 h [some (2, 0), some (0, 3), some (0, i), some (0, 1), some (0, j), some (0, n), some (2, 8), some (2, 4)] [(0, 1)] _
      refine v_if (hT _ zt_X11_pour rfl _ _ rfl) (fun hc16 => absurd (show (1 : Int) = 0 from hc16) (by decide)) (fun _ => ?_)
      refine v_load (v := (2, 0)) (hT _ zt_X11_pour rfl _ _ rfl) rfl rfl ?_
      refine v_push (3) (hT _ zt_X11_pour rfl _ _ rfl) rfl ?_
      refine v_call (w := 2) [some (2, 0), some (0, 3)] hO (hT _ zt_X11_pour rfl _ _ rfl) rfl rfl ?_
      refine v_load (v := (2, 0)) (hT _ zt_X11_refuse rfl _ _ rfl) rfl rfl ?_
      refine v_load (v := (0, 3)) (hT _ zt_X11_refuse rfl _ _ rfl) rfl rfl ?_
      refine v_putf (r := 0) hO (hT _ zt_X11_refuse rfl _ _ rfl) rfl (fun hf17 => ?_)
      refine v_push (0) (hT _ zt_X11_refuse rfl _ _ rfl) rfl ?_
      refine v_ret (hT _ zt_X11_refuse rfl _ _ rfl) (Or.inl rfl) ?_
      show vP D T N 172 57 (zset h 0 0 (0, 3)) [some (2, 0), some (0, 3), some (0, i), some (0, 1), some (0, j), some (0, n), some (2, 8), some (2, 4)] [(0, 0)] _
      refine v_ret (hT _ zt_X11_pour rfl _ _ rfl) (Or.inl rfl) ?_
      exact k1 hc11 hc15
    · have hc15 : (h 4 1).2 ≠ -1 := hc15
      refine v_push (0) (hT _ zt_X9_isMissing rfl _ _ rfl) rfl ?_
      refine v_ret (hT _ zt_X9_isMissing rfl _ _ rfl) (Or.inl rfl) ?_
      show vP D T N 172 49 h [some (2, 0), some (0, 3), some (0, i), some (0, 1), some (0, j), some (0, n), some (2, 8), some (2, 4)] [(0, 0)] _
      refine v_if (hT _ zt_X11_pour rfl _ _ rfl) (fun _ => ?_) (fun hc18 => absurd (show (0 : Int) = 0 from (by decide)) hc18)
      refine v_load (v := (2, 8)) (hT _ zt_X11_pour rfl _ _ rfl) rfl rfl ?_
      refine v_getI (t := 0) (r := 8) (hT _ zt_X11_pour rfl _ _ rfl) rfl rfl rfl ?_
      refine v_load (v := (2, 4)) (hT _ zt_X11_pour rfl _ _ rfl) rfl rfl ?_
      refine v_getI (t := 0) (r := 4) (hT _ zt_X11_pour rfl _ _ rfl) rfl rfl rfl ?_
      refine v_ic (hT _ zt_X11_pour rfl _ _ rfl) (fun hc19 => ?_) (fun hc19 => ?_)
      · have hc19 : (h 8 1).2 = (h 4 1).2 := hc19
        refine v_load (v := (0, n)) (hT _ zt_X11_pour rfl _ _ rfl) rfl rfl ?_
        refine v_if (hT _ zt_X11_pour rfl _ _ rfl) (fun hc20 => ?_) (fun hc20 => ?_)
        · have hc20 : n < 0 := hc20
          refine v_load (v := (2, 0)) (hT _ zt_X11_pour rfl _ _ rfl) rfl rfl ?_
          refine v_push (6) (hT _ zt_X11_pour rfl _ _ rfl) rfl ?_
          refine v_call (w := 2) [some (2, 0), some (0, 6)] hO (hT _ zt_X11_pour rfl _ _ rfl) rfl rfl ?_
          refine v_load (v := (2, 0)) (hT _ zt_X11_refuse rfl _ _ rfl) rfl rfl ?_
          refine v_load (v := (0, 6)) (hT _ zt_X11_refuse rfl _ _ rfl) rfl rfl ?_
          refine v_putf (r := 0) hO (hT _ zt_X11_refuse rfl _ _ rfl) rfl (fun hf21 => ?_)
          refine v_push (0) (hT _ zt_X11_refuse rfl _ _ rfl) rfl ?_
          refine v_ret (hT _ zt_X11_refuse rfl _ _ rfl) (Or.inl rfl) ?_
          show vP D T N 172 89 (zset h 0 0 (0, 6)) [some (2, 0), some (0, 3), some (0, i), some (0, 1), some (0, j), some (0, n), some (2, 8), some (2, 4)] [(0, 0)] _
          refine v_ret (hT _ zt_X11_pour rfl _ _ rfl) (Or.inl rfl) ?_
          exact k2 hc11 hc15 hc19 hc20
        · have hc20 : 0 ≤ n := Int.not_lt.mp hc20
          refine v_load (v := (2, 8)) (hT _ zt_X11_pour rfl _ _ rfl) rfl rfl ?_
          refine v_load (v := (0, i)) (hT _ zt_X11_pour rfl _ _ rfl) rfl rfl ?_
          refine v_load (v := (0, n)) (hT _ zt_X11_pour rfl _ _ rfl) rfl rfl ?_
          refine v_call (w := 3) [some (2, 8), some (0, i), some (0, n)] hO (hT _ zt_X11_pour rfl _ _ rfl) rfl rfl ?_
          refine v_load (v := (0, i)) (hT _ zt_X9_hasPlaces rfl _ _ rfl) rfl rfl ?_
          refine v_if (hT _ zt_X9_hasPlaces rfl _ _ rfl) (fun hc22 => ?_) (fun hc22 => ?_)
          · have hc22 : i < 0 := hc22
            refine v_push (0) (hT _ zt_X9_hasPlaces rfl _ _ rfl) rfl ?_
            refine v_ret (hT _ zt_X9_hasPlaces rfl _ _ rfl) (Or.inl rfl) ?_
            show vP D T N 172 98 h [some (2, 0), some (0, 3), some (0, i), some (0, 1), some (0, j), some (0, n), some (2, 8), some (2, 4)] [(0, 0)] _
            refine v_if (hT _ zt_X11_pour rfl _ _ rfl) (fun _ => ?_) (fun hc23 => absurd (show (0 : Int) = 0 from (by decide)) hc23)
            refine v_load (v := (2, 0)) (hT _ zt_X11_pour rfl _ _ rfl) rfl rfl ?_
            refine v_push (4) (hT _ zt_X11_pour rfl _ _ rfl) rfl ?_
            refine v_call (w := 2) [some (2, 0), some (0, 4)] hO (hT _ zt_X11_pour rfl _ _ rfl) rfl rfl ?_
            refine v_load (v := (2, 0)) (hT _ zt_X11_refuse rfl _ _ rfl) rfl rfl ?_
            refine v_load (v := (0, 4)) (hT _ zt_X11_refuse rfl _ _ rfl) rfl rfl ?_
            refine v_putf (r := 0) hO (hT _ zt_X11_refuse rfl _ _ rfl) rfl (fun hf24 => ?_)
            refine v_push (0) (hT _ zt_X11_refuse rfl _ _ rfl) rfl ?_
            refine v_ret (hT _ zt_X11_refuse rfl _ _ rfl) (Or.inl rfl) ?_
            show vP D T N 172 118 (zset h 0 0 (0, 4)) [some (2, 0), some (0, 3), some (0, i), some (0, 1), some (0, j), some (0, n), some (2, 8), some (2, 4)] [(0, 0)] _
            refine v_ret (hT _ zt_X11_pour rfl _ _ rfl) (Or.inl rfl) ?_
            exact k3 hc11 hc15 hc19 hc20 hc22
          · have hc22 : 0 ≤ i := Int.not_lt.mp hc22
            refine v_load (v := (0, i)) (hT _ zt_X9_hasPlaces rfl _ _ rfl) rfl rfl ?_
            refine v_load (v := (2, 8)) (hT _ zt_X9_hasPlaces rfl _ _ rfl) rfl rfl ?_
            refine v_getI (t := 0) (r := 8) (hT _ zt_X9_hasPlaces rfl _ _ rfl) rfl rfl rfl ?_
            refine v_load (v := (0, n)) (hT _ zt_X9_hasPlaces rfl _ _ rfl) rfl rfl ?_
            refine v_bin (w := ((h 8 2).2 - n)) (hT _ zt_X9_hasPlaces rfl _ _ rfl) (hq_sub (by omega) (by omega)) ?_
            refine v_ic (hT _ zt_X9_hasPlaces rfl _ _ rfl) (fun hc25 => ?_) (fun hc25 => ?_)
            · have hc25 : ((h 8 2).2 - n) < i := hc25
              refine v_push (0) (hT _ zt_X9_hasPlaces rfl _ _ rfl) rfl ?_
              refine v_ret (hT _ zt_X9_hasPlaces rfl _ _ rfl) (Or.inl rfl) ?_
              show vP D T N 172 98 h [some (2, 0), some (0, 3), some (0, i), some (0, 1), some (0, j), some (0, n), some (2, 8), some (2, 4)] [(0, 0)] _
              refine v_if (hT _ zt_X11_pour rfl _ _ rfl) (fun _ => ?_) (fun hc26 => absurd (show (0 : Int) = 0 from (by decide)) hc26)
              refine v_load (v := (2, 0)) (hT _ zt_X11_pour rfl _ _ rfl) rfl rfl ?_
              refine v_push (4) (hT _ zt_X11_pour rfl _ _ rfl) rfl ?_
              refine v_call (w := 2) [some (2, 0), some (0, 4)] hO (hT _ zt_X11_pour rfl _ _ rfl) rfl rfl ?_
              refine v_load (v := (2, 0)) (hT _ zt_X11_refuse rfl _ _ rfl) rfl rfl ?_
              refine v_load (v := (0, 4)) (hT _ zt_X11_refuse rfl _ _ rfl) rfl rfl ?_
              refine v_putf (r := 0) hO (hT _ zt_X11_refuse rfl _ _ rfl) rfl (fun hf27 => ?_)
              refine v_push (0) (hT _ zt_X11_refuse rfl _ _ rfl) rfl ?_
              refine v_ret (hT _ zt_X11_refuse rfl _ _ rfl) (Or.inl rfl) ?_
              show vP D T N 172 118 (zset h 0 0 (0, 4)) [some (2, 0), some (0, 3), some (0, i), some (0, 1), some (0, j), some (0, n), some (2, 8), some (2, 4)] [(0, 0)] _
              refine v_ret (hT _ zt_X11_pour rfl _ _ rfl) (Or.inl rfl) ?_
              exact k4 hc11 hc15 hc19 hc20 hc22 hc25
            · have hc25 : i ≤ ((h 8 2).2 - n) := Int.not_lt.mp hc25
              refine v_push (1) (hT _ zt_X9_hasPlaces rfl _ _ rfl) rfl ?_
              refine v_goto (hT _ zt_X9_hasPlaces rfl _ _ rfl) ?_
              refine v_ret (hT _ zt_X9_hasPlaces rfl _ _ rfl) (Or.inl rfl) ?_
              show vP D T N 172 98 h [some (2, 0), some (0, 3), some (0, i), some (0, 1), some (0, j), some (0, n), some (2, 8), some (2, 4)] [(0, 1)] _
              refine v_if (hT _ zt_X11_pour rfl _ _ rfl) (fun hc28 => absurd (show (1 : Int) = 0 from hc28) (by decide)) (fun _ => ?_)
              refine v_load (v := (2, 4)) (hT _ zt_X11_pour rfl _ _ rfl) rfl rfl ?_
              refine v_load (v := (0, j)) (hT _ zt_X11_pour rfl _ _ rfl) rfl rfl ?_
              refine v_load (v := (0, n)) (hT _ zt_X11_pour rfl _ _ rfl) rfl rfl ?_
              refine v_call (w := 3) [some (2, 4), some (0, j), some (0, n)] hO (hT _ zt_X11_pour rfl _ _ rfl) rfl rfl ?_
              refine v_load (v := (0, j)) (hT _ zt_X9_hasPlaces rfl _ _ rfl) rfl rfl ?_
              refine v_if (hT _ zt_X9_hasPlaces rfl _ _ rfl) (fun hc29 => ?_) (fun hc29 => ?_)
              · have hc29 : j < 0 := hc29
                refine v_push (0) (hT _ zt_X9_hasPlaces rfl _ _ rfl) rfl ?_
                refine v_ret (hT _ zt_X9_hasPlaces rfl _ _ rfl) (Or.inl rfl) ?_
                show vP D T N 172 110 h [some (2, 0), some (0, 3), some (0, i), some (0, 1), some (0, j), some (0, n), some (2, 8), some (2, 4)] [(0, 0)] _
                refine v_if (hT _ zt_X11_pour rfl _ _ rfl) (fun _ => ?_) (fun hc30 => absurd (show (0 : Int) = 0 from (by decide)) hc30)
                refine v_load (v := (2, 0)) (hT _ zt_X11_pour rfl _ _ rfl) rfl rfl ?_
                refine v_push (4) (hT _ zt_X11_pour rfl _ _ rfl) rfl ?_
                refine v_call (w := 2) [some (2, 0), some (0, 4)] hO (hT _ zt_X11_pour rfl _ _ rfl) rfl rfl ?_
                refine v_load (v := (2, 0)) (hT _ zt_X11_refuse rfl _ _ rfl) rfl rfl ?_
                refine v_load (v := (0, 4)) (hT _ zt_X11_refuse rfl _ _ rfl) rfl rfl ?_
                refine v_putf (r := 0) hO (hT _ zt_X11_refuse rfl _ _ rfl) rfl (fun hf31 => ?_)
                refine v_push (0) (hT _ zt_X11_refuse rfl _ _ rfl) rfl ?_
                refine v_ret (hT _ zt_X11_refuse rfl _ _ rfl) (Or.inl rfl) ?_
                show vP D T N 172 118 (zset h 0 0 (0, 4)) [some (2, 0), some (0, 3), some (0, i), some (0, 1), some (0, j), some (0, n), some (2, 8), some (2, 4)] [(0, 0)] _
                refine v_ret (hT _ zt_X11_pour rfl _ _ rfl) (Or.inl rfl) ?_
                exact k5 hc11 hc15 hc19 hc20 hc22 hc25 hc29
              · have hc29 : 0 ≤ j := Int.not_lt.mp hc29
                refine v_load (v := (0, j)) (hT _ zt_X9_hasPlaces rfl _ _ rfl) rfl rfl ?_
                refine v_load (v := (2, 4)) (hT _ zt_X9_hasPlaces rfl _ _ rfl) rfl rfl ?_
                refine v_getI (t := 0) (r := 4) (hT _ zt_X9_hasPlaces rfl _ _ rfl) rfl rfl rfl ?_
                refine v_load (v := (0, n)) (hT _ zt_X9_hasPlaces rfl _ _ rfl) rfl rfl ?_
                refine v_bin (w := ((h 4 2).2 - n)) (hT _ zt_X9_hasPlaces rfl _ _ rfl) (hq_sub (by omega) (by omega)) ?_
                refine v_ic (hT _ zt_X9_hasPlaces rfl _ _ rfl) (fun hc32 => ?_) (fun hc32 => ?_)
                · have hc32 : ((h 4 2).2 - n) < j := hc32
                  refine v_push (0) (hT _ zt_X9_hasPlaces rfl _ _ rfl) rfl ?_
                  refine v_ret (hT _ zt_X9_hasPlaces rfl _ _ rfl) (Or.inl rfl) ?_
                  show vP D T N 172 110 h [some (2, 0), some (0, 3), some (0, i), some (0, 1), some (0, j), some (0, n), some (2, 8), some (2, 4)] [(0, 0)] _
                  refine v_if (hT _ zt_X11_pour rfl _ _ rfl) (fun _ => ?_) (fun hc33 => absurd (show (0 : Int) = 0 from (by decide)) hc33)
                  refine v_load (v := (2, 0)) (hT _ zt_X11_pour rfl _ _ rfl) rfl rfl ?_
                  refine v_push (4) (hT _ zt_X11_pour rfl _ _ rfl) rfl ?_
                  refine v_call (w := 2) [some (2, 0), some (0, 4)] hO (hT _ zt_X11_pour rfl _ _ rfl) rfl rfl ?_
                  refine v_load (v := (2, 0)) (hT _ zt_X11_refuse rfl _ _ rfl) rfl rfl ?_
                  refine v_load (v := (0, 4)) (hT _ zt_X11_refuse rfl _ _ rfl) rfl rfl ?_
                  refine v_putf (r := 0) hO (hT _ zt_X11_refuse rfl _ _ rfl) rfl (fun hf34 => ?_)
                  refine v_push (0) (hT _ zt_X11_refuse rfl _ _ rfl) rfl ?_
                  refine v_ret (hT _ zt_X11_refuse rfl _ _ rfl) (Or.inl rfl) ?_
                  show vP D T N 172 118 (zset h 0 0 (0, 4)) [some (2, 0), some (0, 3), some (0, i), some (0, 1), some (0, j), some (0, n), some (2, 8), some (2, 4)] [(0, 0)] _
                  refine v_ret (hT _ zt_X11_pour rfl _ _ rfl) (Or.inl rfl) ?_
                  exact k6 hc11 hc15 hc19 hc20 hc22 hc25 hc29 hc32
                · have hc32 : j ≤ ((h 4 2).2 - n) := Int.not_lt.mp hc32
                  refine v_push (1) (hT _ zt_X9_hasPlaces rfl _ _ rfl) rfl ?_
                  refine v_goto (hT _ zt_X9_hasPlaces rfl _ _ rfl) ?_
                  refine v_ret (hT _ zt_X9_hasPlaces rfl _ _ rfl) (Or.inl rfl) ?_
                  show vP D T N 172 110 h [some (2, 0), some (0, 3), some (0, i), some (0, 1), some (0, j), some (0, n), some (2, 8), some (2, 4)] [(0, 1)] _
                  refine v_if (hT _ zt_X11_pour rfl _ _ rfl) (fun hc35 => absurd (show (1 : Int) = 0 from hc35) (by decide)) (fun _ => ?_)
                  refine v_load (v := (2, 8)) (hT _ zt_X11_pour rfl _ _ rfl) rfl rfl ?_
                  refine v_getR (c := 9) (r := 8) (hT _ zt_X11_pour rfl _ _ rfl) rfl rfl rfl ?_
                  refine v_load (v := (0, i)) (hT _ zt_X11_pour rfl _ _ rfl) rfl rfl ?_
                  refine v_load (v := (2, 4)) (hT _ zt_X11_pour rfl _ _ rfl) rfl rfl ?_
                  refine v_getR (c := 5) (r := 4) (hT _ zt_X11_pour rfl _ _ rfl) rfl rfl rfl ?_
                  refine v_load (v := (0, j)) (hT _ zt_X11_pour rfl _ _ rfl) rfl rfl ?_
                  refine v_load (v := (0, n)) (hT _ zt_X11_pour rfl _ _ rfl) rfl rfl ?_
                  refine v_copy (r0 := 9) (r1 := 5) (hT _ zt_X11_pour rfl _ _ rfl) rfl rfl rfl rfl (fun hd36 hd37 hd38 hd39 hd40 => ?_)
                  refine v_load (v := (2, 0)) (hT _ zt_X11_pour rfl _ _ rfl) rfl rfl ?_
                  refine v_call (w := 1) [some (2, 0)] hO (hT _ zt_X11_pour rfl _ _ rfl) rfl rfl ?_
                  refine v_load (v := (2, 0)) (hT _ zt_X11_accept rfl _ _ rfl) rfl rfl ?_
                  refine v_push (0) (hT _ zt_X11_accept rfl _ _ rfl) rfl ?_
                  refine v_putf (r := 0) hO (hT _ zt_X11_accept rfl _ _ rfl) rfl (fun hf41 => ?_)
                  refine v_push (1) (hT _ zt_X11_accept rfl _ _ rfl) rfl ?_
                  refine v_ret (hT _ zt_X11_accept rfl _ _ rfl) (Or.inl rfl) ?_
                  show vP D T N 172 141 (zset (zcopy h 9 i.toNat 5 j.toNat n.toNat) 0 0 (0, 0)) [some (2, 0), some (0, 3), some (0, i), some (0, 1), some (0, j), some (0, n), some (2, 8), some (2, 4)] [(0, 1)] _
                  refine v_ret (hT _ zt_X11_pour rfl _ _ rfl) (Or.inl rfl) ?_
                  exact k7 hc11 hc15 hc19 hc20 hc22 hc25 hc29 hc32 hd36 hd37 hd38 hd39 hd40
      · have hc19 : (h 8 1).2 ≠ (h 4 1).2 := hc19
        refine v_load (v := (2, 0)) (hT _ zt_X11_pour rfl _ _ rfl) rfl rfl ?_
        refine v_push (11) (hT _ zt_X11_pour rfl _ _ rfl) rfl ?_
        refine v_call (w := 2) [some (2, 0), some (0, 11)] hO (hT _ zt_X11_pour rfl _ _ rfl) rfl rfl ?_
        refine v_load (v := (2, 0)) (hT _ zt_X11_refuse rfl _ _ rfl) rfl rfl ?_
        refine v_load (v := (0, 11)) (hT _ zt_X11_refuse rfl _ _ rfl) rfl rfl ?_
        refine v_putf (r := 0) hO (hT _ zt_X11_refuse rfl _ _ rfl) rfl (fun hf42 => ?_)
        refine v_push (0) (hT _ zt_X11_refuse rfl _ _ rfl) rfl ?_
        refine v_ret (hT _ zt_X11_refuse rfl _ _ rfl) (Or.inl rfl) ?_
        show vP D T N 172 77 (zset h 0 0 (0, 11)) [some (2, 0), some (0, 3), some (0, i), some (0, 1), some (0, j), some (0, n), some (2, 8), some (2, 4)] [(0, 0)] _
        refine v_ret (hT _ zt_X11_pour rfl _ _ rfl) (Or.inl rfl) ?_
        exact k8 hc11 hc15 hc19
theorem y_X11_pour_3_2 {D : zD} {T : zT} (hT : hTab T) (hO : vOK T) {N : Nat} {h : zH} {Q : zR → Prop} (i j n : Int) (hv0 : zHv h) (hb : 0 ≤ (h 8 2).2 ∧ (h 8 2).2 ≤ 60) (hc : 0 ≤ (h 6 2).2 ∧ (h 6 2).2 ≤ 60) (hn : n ≤ 2147483647)
    (k0 : ((h 8 1).2 = -1) → Q (zset h 0 0 (0, 3), some (0, 0)))
    (k1 : ((h 8 1).2 ≠ -1) → ((h 6 1).2 = -1) → Q (zset h 0 0 (0, 3), some (0, 0)))
    (k2 : ((h 8 1).2 ≠ -1) → ((h 6 1).2 ≠ -1) → ((h 8 1).2 = (h 6 1).2) → (n < 0) → Q (zset h 0 0 (0, 6), some (0, 0)))
    (k3 : ((h 8 1).2 ≠ -1) → ((h 6 1).2 ≠ -1) → ((h 8 1).2 = (h 6 1).2) → (0 ≤ n) → (i < 0) → Q (zset h 0 0 (0, 4), some (0, 0)))
    (k4 : ((h 8 1).2 ≠ -1) → ((h 6 1).2 ≠ -1) → ((h 8 1).2 = (h 6 1).2) → (0 ≤ n) → (0 ≤ i) → (((h 8 2).2 - n) < i) → Q (zset h 0 0 (0, 4), some (0, 0)))
    (k5 : ((h 8 1).2 ≠ -1) → ((h 6 1).2 ≠ -1) → ((h 8 1).2 = (h 6 1).2) → (0 ≤ n) → (0 ≤ i) → (i ≤ ((h 8 2).2 - n)) → (j < 0) → Q (zset h 0 0 (0, 4), some (0, 0)))
    (k6 : ((h 8 1).2 ≠ -1) → ((h 6 1).2 ≠ -1) → ((h 8 1).2 = (h 6 1).2) → (0 ≤ n) → (0 ≤ i) → (i ≤ ((h 8 2).2 - n)) → (0 ≤ j) → (((h 6 2).2 - n) < j) → Q (zset h 0 0 (0, 4), some (0, 0)))
    (k7 : ((h 8 1).2 ≠ -1) → ((h 6 1).2 ≠ -1) → ((h 8 1).2 = (h 6 1).2) → (0 ≤ n) → (0 ≤ i) → (i ≤ ((h 8 2).2 - n)) → (0 ≤ j) → (j ≤ ((h 6 2).2 - n)) → (0 ≤ n) → (0 ≤ i) → (0 ≤ j) → (i + n ≤ 60) → (j + n ≤ 60) → Q (zset (zcopy h 9 i.toNat 7 j.toNat n.toNat) 0 0 (0, 0), some (0, 1)))
    (k8 : ((h 8 1).2 ≠ -1) → ((h 6 1).2 ≠ -1) → ((h 8 1).2 ≠ (h 6 1).2) → Q (zset h 0 0 (0, 11), some (0, 0))) :
    vP D T N 172 0 h [some (2, 0), some (0, 3), some (0, i), some (0, 2), some (0, j), some (0, n), none, none] [] Q := by
  refine v_load (v := (0, 3)) (hT _ zt_X11_pour rfl _ _ rfl) rfl rfl ?_
  refine v_call (w := 1) [some (0, 3)] hO (hT _ zt_X11_pour rfl _ _ rfl) rfl rfl ?_
  refine v_load (v := (0, 3)) (hT _ zt_X11_isTray rfl _ _ rfl) rfl rfl ?_
  refine v_if (hT _ zt_X11_isTray rfl _ _ rfl) (fun hc1 => absurd (show (3 : Int) < 0 from hc1) (by decide)) (fun _ => ?_)
  refine v_load (v := (0, 3)) (hT _ zt_X11_isTray rfl _ _ rfl) rfl rfl ?_
  refine v_push (4) (hT _ zt_X11_isTray rfl _ _ rfl) rfl ?_
  refine v_ic (hT _ zt_X11_isTray rfl _ _ rfl) (fun _ => ?_) (fun hc2 => absurd (show (3 : Int) < 4 from (by decide)) hc2)
  refine v_push (1) (hT _ zt_X11_isTray rfl _ _ rfl) rfl ?_
  refine v_goto (hT _ zt_X11_isTray rfl _ _ rfl) ?_
  refine v_ret (hT _ zt_X11_isTray rfl _ _ rfl) (Or.inl rfl) ?_
  show vP D T N 172 4 h [some (2, 0), some (0, 3), some (0, i), some (0, 2), some (0, j), some (0, n), none, none] [(0, 1)] _
  refine v_if (hT _ zt_X11_pour rfl _ _ rfl) (fun hc3 => absurd (show (1 : Int) = 0 from hc3) (by decide)) (fun _ => ?_)
  refine v_load (v := (0, 2)) (hT _ zt_X11_pour rfl _ _ rfl) rfl rfl ?_
  refine v_call (w := 1) [some (0, 2)] hO (hT _ zt_X11_pour rfl _ _ rfl) rfl rfl ?_
  refine v_load (v := (0, 2)) (hT _ zt_X11_isTray rfl _ _ rfl) rfl rfl ?_
  refine v_if (hT _ zt_X11_isTray rfl _ _ rfl) (fun hc4 => absurd (show (2 : Int) < 0 from hc4) (by decide)) (fun _ => ?_)
  refine v_load (v := (0, 2)) (hT _ zt_X11_isTray rfl _ _ rfl) rfl rfl ?_
  refine v_push (4) (hT _ zt_X11_isTray rfl _ _ rfl) rfl ?_
  refine v_ic (hT _ zt_X11_isTray rfl _ _ rfl) (fun _ => ?_) (fun hc5 => absurd (show (2 : Int) < 4 from (by decide)) hc5)
  refine v_push (1) (hT _ zt_X11_isTray rfl _ _ rfl) rfl ?_
  refine v_goto (hT _ zt_X11_isTray rfl _ _ rfl) ?_
  refine v_ret (hT _ zt_X11_isTray rfl _ _ rfl) (Or.inl rfl) ?_
  show vP D T N 172 11 h [some (2, 0), some (0, 3), some (0, i), some (0, 2), some (0, j), some (0, n), none, none] [(0, 1)] _
  refine v_if (hT _ zt_X11_pour rfl _ _ rfl) (fun hc6 => absurd (show (1 : Int) = 0 from hc6) (by decide)) (fun _ => ?_)
  refine v_load (v := (2, 0)) (hT _ zt_X11_pour rfl _ _ rfl) rfl rfl ?_
  refine v_getR (c := 1) (r := 0) (hT _ zt_X11_pour rfl _ _ rfl) rfl rfl rfl ?_
  refine v_load (v := (0, 3)) (hT _ zt_X11_pour rfl _ _ rfl) rfl rfl ?_
  refine v_aldV (v := (2, 8)) (r := 1) (hT _ zt_X11_pour rfl _ _ rfl) rfl rfl (fun hv _ _ => hv.ref rfl) (fun ha7 hb8 => ?_)
  refine v_store1 [some (2, 0), some (0, 3), some (0, i), some (0, 2), some (0, j), some (0, n), some (2, 8), none] (hT _ zt_X11_pour rfl _ _ rfl) ⟨rfl, Nat.ne_of_beq_eq_false rfl⟩ (Nat.le_of_ble_eq_true rfl) rfl ?_
  refine v_load (v := (2, 0)) (hT _ zt_X11_pour rfl _ _ rfl) rfl rfl ?_
  refine v_getR (c := 1) (r := 0) (hT _ zt_X11_pour rfl _ _ rfl) rfl rfl rfl ?_
  refine v_load (v := (0, 2)) (hT _ zt_X11_pour rfl _ _ rfl) rfl rfl ?_
  refine v_aldV (v := (2, 6)) (r := 1) (hT _ zt_X11_pour rfl _ _ rfl) rfl rfl (fun hv _ _ => hv.ref rfl) (fun ha9 hb10 => ?_)
  refine v_store1 [some (2, 0), some (0, 3), some (0, i), some (0, 2), some (0, j), some (0, n), some (2, 8), some (2, 6)] (hT _ zt_X11_pour rfl _ _ rfl) ⟨rfl, Nat.ne_of_beq_eq_false rfl⟩ (Nat.le_of_ble_eq_true rfl) rfl ?_
  refine v_load (v := (2, 8)) (hT _ zt_X11_pour rfl _ _ rfl) rfl rfl ?_
  refine v_call (w := 1) [some (2, 8)] hO (hT _ zt_X11_pour rfl _ _ rfl) rfl rfl ?_
  refine v_load (v := (2, 8)) (hT _ zt_X9_isMissing rfl _ _ rfl) rfl rfl ?_
  refine v_getI (t := 0) (r := 8) (hT _ zt_X9_isMissing rfl _ _ rfl) rfl rfl rfl ?_
  refine v_push (-1) (hT _ zt_X9_isMissing rfl _ _ rfl) rfl ?_
  refine v_ic (hT _ zt_X9_isMissing rfl _ _ rfl) (fun hc11 => ?_) (fun hc11 => ?_)
  · have hc11 : (h 8 1).2 = -1 := hc11
    refine v_push (1) (hT _ zt_X9_isMissing rfl _ _ rfl) rfl ?_
    refine v_goto (hT _ zt_X9_isMissing rfl _ _ rfl) ?_
    refine v_ret (hT _ zt_X9_isMissing rfl _ _ rfl) (Or.inl rfl) ?_
    show vP D T N 172 41 h [some (2, 0), some (0, 3), some (0, i), some (0, 2), some (0, j), some (0, n), some (2, 8), some (2, 6)] [(0, 1)] _
    refine v_if (hT _ zt_X11_pour rfl _ _ rfl) (fun hc12 => absurd (show (1 : Int) = 0 from hc12) (by decide)) (fun _ => ?_)
    refine v_load (v := (2, 0)) (hT _ zt_X11_pour rfl _ _ rfl) rfl rfl ?_
    refine v_push (3) (hT _ zt_X11_pour rfl _ _ rfl) rfl ?_
    refine v_call (w := 2) [some (2, 0), some (0, 3)] hO (hT _ zt_X11_pour rfl _ _ rfl) rfl rfl ?_
    refine v_load (v := (2, 0)) (hT _ zt_X11_refuse rfl _ _ rfl) rfl rfl ?_
    refine v_load (v := (0, 3)) (hT _ zt_X11_refuse rfl _ _ rfl) rfl rfl ?_
    refine v_putf (r := 0) hO (hT _ zt_X11_refuse rfl _ _ rfl) rfl (fun hf13 => ?_)
    refine v_push (0) (hT _ zt_X11_refuse rfl _ _ rfl) rfl ?_
    refine v_ret (hT _ zt_X11_refuse rfl _ _ rfl) (Or.inl rfl) ?_
    show vP D T N 172 57 (zset h 0 0 (0, 3)) [some (2, 0), some (0, 3), some (0, i), some (0, 2), some (0, j), some (0, n), some (2, 8), some (2, 6)] [(0, 0)] _
    refine v_ret (hT _ zt_X11_pour rfl _ _ rfl) (Or.inl rfl) ?_
    exact k0 hc11
  · have hc11 : (h 8 1).2 ≠ -1 := hc11
    refine v_push (0) (hT _ zt_X9_isMissing rfl _ _ rfl) rfl ?_
    refine v_ret (hT _ zt_X9_isMissing rfl _ _ rfl) (Or.inl rfl) ?_
    show vP D T N 172 41 h [some (2, 0), some (0, 3), some (0, i), some (0, 2), some (0, j), some (0, n), some (2, 8), some (2, 6)] [(0, 0)] _
    refine v_if (hT _ zt_X11_pour rfl _ _ rfl) (fun _ => ?_) (fun hc14 => absurd (show (0 : Int) = 0 from (by decide)) hc14)
    refine v_load (v := (2, 6)) (hT _ zt_X11_pour rfl _ _ rfl) rfl rfl ?_
    refine v_call (w := 1) [some (2, 6)] hO (hT _ zt_X11_pour rfl _ _ rfl) rfl rfl ?_
    refine v_load (v := (2, 6)) (hT _ zt_X9_isMissing rfl _ _ rfl) rfl rfl ?_
    refine v_getI (t := 0) (r := 6) (hT _ zt_X9_isMissing rfl _ _ rfl) rfl rfl rfl ?_
    refine v_push (-1) (hT _ zt_X9_isMissing rfl _ _ rfl) rfl ?_
    refine v_ic (hT _ zt_X9_isMissing rfl _ _ rfl) (fun hc15 => ?_) (fun hc15 => ?_)
    · have hc15 : (h 6 1).2 = -1 := hc15
      refine v_push (1) (hT _ zt_X9_isMissing rfl _ _ rfl) rfl ?_
      refine v_goto (hT _ zt_X9_isMissing rfl _ _ rfl) ?_
      refine v_ret (hT _ zt_X9_isMissing rfl _ _ rfl) (Or.inl rfl) ?_
      show vP D T N 172 49 h [some (2, 0), some (0, 3), some (0, i), some (0, 2), some (0, j), some (0, n), some (2, 8), some (2, 6)] [(0, 1)] _
      refine v_if (hT _ zt_X11_pour rfl _ _ rfl) (fun hc16 => absurd (show (1 : Int) = 0 from hc16) (by decide)) (fun _ => ?_)
      refine v_load (v := (2, 0)) (hT _ zt_X11_pour rfl _ _ rfl) rfl rfl ?_
      refine v_push (3) (hT _ zt_X11_pour rfl _ _ rfl) rfl ?_
      refine v_call (w := 2) [some (2, 0), some (0, 3)] hO (hT _ zt_X11_pour rfl _ _ rfl) rfl rfl ?_
      refine v_load (v := (2, 0)) (hT _ zt_X11_refuse rfl _ _ rfl) rfl rfl ?_
      refine v_load (v := (0, 3)) (hT _ zt_X11_refuse rfl _ _ rfl) rfl rfl ?_
      refine v_putf (r := 0) hO (hT _ zt_X11_refuse rfl _ _ rfl) rfl (fun hf17 => ?_)
      refine v_push (0) (hT _ zt_X11_refuse rfl _ _ rfl) rfl ?_
      refine v_ret (hT _ zt_X11_refuse rfl _ _ rfl) (Or.inl rfl) ?_
      show vP D T N 172 57 (zset h 0 0 (0, 3)) [some (2, 0), some (0, 3), some (0, i), some (0, 2), some (0, j), some (0, n), some (2, 8), some (2, 6)] [(0, 0)] _
      refine v_ret (hT _ zt_X11_pour rfl _ _ rfl) (Or.inl rfl) ?_
      exact k1 hc11 hc15
    · have hc15 : (h 6 1).2 ≠ -1 := hc15
      refine v_push (0) (hT _ zt_X9_isMissing rfl _ _ rfl) rfl ?_
      refine v_ret (hT _ zt_X9_isMissing rfl _ _ rfl) (Or.inl rfl) ?_
      show vP D T N 172 49 h [some (2, 0), some (0, 3), some (0, i), some (0, 2), some (0, j), some (0, n), some (2, 8), some (2, 6)] [(0, 0)] _
      refine v_if (hT _ zt_X11_pour rfl _ _ rfl) (fun _ => ?_) (fun hc18 => absurd (show (0 : Int) = 0 from (by decide)) hc18)
      refine v_load (v := (2, 8)) (hT _ zt_X11_pour rfl _ _ rfl) rfl rfl ?_
      refine v_getI (t := 0) (r := 8) (hT _ zt_X11_pour rfl _ _ rfl) rfl rfl rfl ?_
      refine v_load (v := (2, 6)) (hT _ zt_X11_pour rfl _ _ rfl) rfl rfl ?_
      refine v_getI (t := 0) (r := 6) (hT _ zt_X11_pour rfl _ _ rfl) rfl rfl rfl ?_
      refine v_ic (hT _ zt_X11_pour rfl _ _ rfl) (fun hc19 => ?_) (fun hc19 => ?_)
      · have hc19 : (h 8 1).2 = (h 6 1).2 := hc19
        refine v_load (v := (0, n)) (hT _ zt_X11_pour rfl _ _ rfl) rfl rfl ?_
        refine v_if (hT _ zt_X11_pour rfl _ _ rfl) (fun hc20 => ?_) (fun hc20 => ?_)
        · have hc20 : n < 0 := hc20
          refine v_load (v := (2, 0)) (hT _ zt_X11_pour rfl _ _ rfl) rfl rfl ?_
          refine v_push (6) (hT _ zt_X11_pour rfl _ _ rfl) rfl ?_
          refine v_call (w := 2) [some (2, 0), some (0, 6)] hO (hT _ zt_X11_pour rfl _ _ rfl) rfl rfl ?_
          refine v_load (v := (2, 0)) (hT _ zt_X11_refuse rfl _ _ rfl) rfl rfl ?_
          refine v_load (v := (0, 6)) (hT _ zt_X11_refuse rfl _ _ rfl) rfl rfl ?_
          refine v_putf (r := 0) hO (hT _ zt_X11_refuse rfl _ _ rfl) rfl (fun hf21 => ?_)
          refine v_push (0) (hT _ zt_X11_refuse rfl _ _ rfl) rfl ?_
          refine v_ret (hT _ zt_X11_refuse rfl _ _ rfl) (Or.inl rfl) ?_
          show vP D T N 172 89 (zset h 0 0 (0, 6)) [some (2, 0), some (0, 3), some (0, i), some (0, 2), some (0, j), some (0, n), some (2, 8), some (2, 6)] [(0, 0)] _
          refine v_ret (hT _ zt_X11_pour rfl _ _ rfl) (Or.inl rfl) ?_
          exact k2 hc11 hc15 hc19 hc20
        · have hc20 : 0 ≤ n := Int.not_lt.mp hc20
          refine v_load (v := (2, 8)) (hT _ zt_X11_pour rfl _ _ rfl) rfl rfl ?_
          refine v_load (v := (0, i)) (hT _ zt_X11_pour rfl _ _ rfl) rfl rfl ?_
          refine v_load (v := (0, n)) (hT _ zt_X11_pour rfl _ _ rfl) rfl rfl ?_
          refine v_call (w := 3) [some (2, 8), some (0, i), some (0, n)] hO (hT _ zt_X11_pour rfl _ _ rfl) rfl rfl ?_
          refine v_load (v := (0, i)) (hT _ zt_X9_hasPlaces rfl _ _ rfl) rfl rfl ?_
          refine v_if (hT _ zt_X9_hasPlaces rfl _ _ rfl) (fun hc22 => ?_) (fun hc22 => ?_)
          · have hc22 : i < 0 := hc22
            refine v_push (0) (hT _ zt_X9_hasPlaces rfl _ _ rfl) rfl ?_
            refine v_ret (hT _ zt_X9_hasPlaces rfl _ _ rfl) (Or.inl rfl) ?_
            show vP D T N 172 98 h [some (2, 0), some (0, 3), some (0, i), some (0, 2), some (0, j), some (0, n), some (2, 8), some (2, 6)] [(0, 0)] _
            refine v_if (hT _ zt_X11_pour rfl _ _ rfl) (fun _ => ?_) (fun hc23 => absurd (show (0 : Int) = 0 from (by decide)) hc23)
            refine v_load (v := (2, 0)) (hT _ zt_X11_pour rfl _ _ rfl) rfl rfl ?_
            refine v_push (4) (hT _ zt_X11_pour rfl _ _ rfl) rfl ?_
            refine v_call (w := 2) [some (2, 0), some (0, 4)] hO (hT _ zt_X11_pour rfl _ _ rfl) rfl rfl ?_
            refine v_load (v := (2, 0)) (hT _ zt_X11_refuse rfl _ _ rfl) rfl rfl ?_
            refine v_load (v := (0, 4)) (hT _ zt_X11_refuse rfl _ _ rfl) rfl rfl ?_
            refine v_putf (r := 0) hO (hT _ zt_X11_refuse rfl _ _ rfl) rfl (fun hf24 => ?_)
            refine v_push (0) (hT _ zt_X11_refuse rfl _ _ rfl) rfl ?_
            refine v_ret (hT _ zt_X11_refuse rfl _ _ rfl) (Or.inl rfl) ?_
            show vP D T N 172 118 (zset h 0 0 (0, 4)) [some (2, 0), some (0, 3), some (0, i), some (0, 2), some (0, j), some (0, n), some (2, 8), some (2, 6)] [(0, 0)] _
            refine v_ret (hT _ zt_X11_pour rfl _ _ rfl) (Or.inl rfl) ?_
            exact k3 hc11 hc15 hc19 hc20 hc22
          · have hc22 : 0 ≤ i := Int.not_lt.mp hc22
            refine v_load (v := (0, i)) (hT _ zt_X9_hasPlaces rfl _ _ rfl) rfl rfl ?_
            refine v_load (v := (2, 8)) (hT _ zt_X9_hasPlaces rfl _ _ rfl) rfl rfl ?_
            refine v_getI (t := 0) (r := 8) (hT _ zt_X9_hasPlaces rfl _ _ rfl) rfl rfl rfl ?_
            refine v_load (v := (0, n)) (hT _ zt_X9_hasPlaces rfl _ _ rfl) rfl rfl ?_
            refine v_bin (w := ((h 8 2).2 - n)) (hT _ zt_X9_hasPlaces rfl _ _ rfl) (hq_sub (by omega) (by omega)) ?_
            refine v_ic (hT _ zt_X9_hasPlaces rfl _ _ rfl) (fun hc25 => ?_) (fun hc25 => ?_)
            · have hc25 : ((h 8 2).2 - n) < i := hc25
              refine v_push (0) (hT _ zt_X9_hasPlaces rfl _ _ rfl) rfl ?_
              refine v_ret (hT _ zt_X9_hasPlaces rfl _ _ rfl) (Or.inl rfl) ?_
              show vP D T N 172 98 h [some (2, 0), some (0, 3), some (0, i), some (0, 2), some (0, j), some (0, n), some (2, 8), some (2, 6)] [(0, 0)] _
              refine v_if (hT _ zt_X11_pour rfl _ _ rfl) (fun _ => ?_) (fun hc26 => absurd (show (0 : Int) = 0 from (by decide)) hc26)
              refine v_load (v := (2, 0)) (hT _ zt_X11_pour rfl _ _ rfl) rfl rfl ?_
              refine v_push (4) (hT _ zt_X11_pour rfl _ _ rfl) rfl ?_
              refine v_call (w := 2) [some (2, 0), some (0, 4)] hO (hT _ zt_X11_pour rfl _ _ rfl) rfl rfl ?_
              refine v_load (v := (2, 0)) (hT _ zt_X11_refuse rfl _ _ rfl) rfl rfl ?_
              refine v_load (v := (0, 4)) (hT _ zt_X11_refuse rfl _ _ rfl) rfl rfl ?_
              refine v_putf (r := 0) hO (hT _ zt_X11_refuse rfl _ _ rfl) rfl (fun hf27 => ?_)
              refine v_push (0) (hT _ zt_X11_refuse rfl _ _ rfl) rfl ?_
              refine v_ret (hT _ zt_X11_refuse rfl _ _ rfl) (Or.inl rfl) ?_
              show vP D T N 172 118 (zset h 0 0 (0, 4)) [some (2, 0), some (0, 3), some (0, i), some (0, 2), some (0, j), some (0, n), some (2, 8), some (2, 6)] [(0, 0)] _
              refine v_ret (hT _ zt_X11_pour rfl _ _ rfl) (Or.inl rfl) ?_
              exact k4 hc11 hc15 hc19 hc20 hc22 hc25
            · have hc25 : i ≤ ((h 8 2).2 - n) := Int.not_lt.mp hc25
              refine v_push (1) (hT _ zt_X9_hasPlaces rfl _ _ rfl) rfl ?_
              refine v_goto (hT _ zt_X9_hasPlaces rfl _ _ rfl) ?_
              refine v_ret (hT _ zt_X9_hasPlaces rfl _ _ rfl) (Or.inl rfl) ?_
              show vP D T N 172 98 h [some (2, 0), some (0, 3), some (0, i), some (0, 2), some (0, j), some (0, n), some (2, 8), some (2, 6)] [(0, 1)] _
              refine v_if (hT _ zt_X11_pour rfl _ _ rfl) (fun hc28 => absurd (show (1 : Int) = 0 from hc28) (by decide)) (fun _ => ?_)
              refine v_load (v := (2, 6)) (hT _ zt_X11_pour rfl _ _ rfl) rfl rfl ?_
              refine v_load (v := (0, j)) (hT _ zt_X11_pour rfl _ _ rfl) rfl rfl ?_
              refine v_load (v := (0, n)) (hT _ zt_X11_pour rfl _ _ rfl) rfl rfl ?_
              refine v_call (w := 3) [some (2, 6), some (0, j), some (0, n)] hO (hT _ zt_X11_pour rfl _ _ rfl) rfl rfl ?_
              refine v_load (v := (0, j)) (hT _ zt_X9_hasPlaces rfl _ _ rfl) rfl rfl ?_
              refine v_if (hT _ zt_X9_hasPlaces rfl _ _ rfl) (fun hc29 => ?_) (fun hc29 => ?_)
              · have hc29 : j < 0 := hc29
                refine v_push (0) (hT _ zt_X9_hasPlaces rfl _ _ rfl) rfl ?_
                refine v_ret (hT _ zt_X9_hasPlaces rfl _ _ rfl) (Or.inl rfl) ?_
                show vP D T N 172 110 h [some (2, 0), some (0, 3), some (0, i), some (0, 2), some (0, j), some (0, n), some (2, 8), some (2, 6)] [(0, 0)] _
                refine v_if (hT _ zt_X11_pour rfl _ _ rfl) (fun _ => ?_) (fun hc30 => absurd (show (0 : Int) = 0 from (by decide)) hc30)
                refine v_load (v := (2, 0)) (hT _ zt_X11_pour rfl _ _ rfl) rfl rfl ?_
                refine v_push (4) (hT _ zt_X11_pour rfl _ _ rfl) rfl ?_
                refine v_call (w := 2) [some (2, 0), some (0, 4)] hO (hT _ zt_X11_pour rfl _ _ rfl) rfl rfl ?_
                refine v_load (v := (2, 0)) (hT _ zt_X11_refuse rfl _ _ rfl) rfl rfl ?_
                refine v_load (v := (0, 4)) (hT _ zt_X11_refuse rfl _ _ rfl) rfl rfl ?_
                refine v_putf (r := 0) hO (hT _ zt_X11_refuse rfl _ _ rfl) rfl (fun hf31 => ?_)
                refine v_push (0) (hT _ zt_X11_refuse rfl _ _ rfl) rfl ?_
                refine v_ret (hT _ zt_X11_refuse rfl _ _ rfl) (Or.inl rfl) ?_
                show vP D T N 172 118 (zset h 0 0 (0, 4)) [some (2, 0), some (0, 3), some (0, i), some (0, 2), some (0, j), some (0, n), some (2, 8), some (2, 6)] [(0, 0)] _
                refine v_ret (hT _ zt_X11_pour rfl _ _ rfl) (Or.inl rfl) ?_
                exact k5 hc11 hc15 hc19 hc20 hc22 hc25 hc29
              · have hc29 : 0 ≤ j := Int.not_lt.mp hc29
                refine v_load (v := (0, j)) (hT _ zt_X9_hasPlaces rfl _ _ rfl) rfl rfl ?_
                refine v_load (v := (2, 6)) (hT _ zt_X9_hasPlaces rfl _ _ rfl) rfl rfl ?_
                refine v_getI (t := 0) (r := 6) (hT _ zt_X9_hasPlaces rfl _ _ rfl) rfl rfl rfl ?_
                refine v_load (v := (0, n)) (hT _ zt_X9_hasPlaces rfl _ _ rfl) rfl rfl ?_
                refine v_bin (w := ((h 6 2).2 - n)) (hT _ zt_X9_hasPlaces rfl _ _ rfl) (hq_sub (by omega) (by omega)) ?_
                refine v_ic (hT _ zt_X9_hasPlaces rfl _ _ rfl) (fun hc32 => ?_) (fun hc32 => ?_)
                · have hc32 : ((h 6 2).2 - n) < j := hc32
                  refine v_push (0) (hT _ zt_X9_hasPlaces rfl _ _ rfl) rfl ?_
                  refine v_ret (hT _ zt_X9_hasPlaces rfl _ _ rfl) (Or.inl rfl) ?_
                  show vP D T N 172 110 h [some (2, 0), some (0, 3), some (0, i), some (0, 2), some (0, j), some (0, n), some (2, 8), some (2, 6)] [(0, 0)] _
                  refine v_if (hT _ zt_X11_pour rfl _ _ rfl) (fun _ => ?_) (fun hc33 => absurd (show (0 : Int) = 0 from (by decide)) hc33)
                  refine v_load (v := (2, 0)) (hT _ zt_X11_pour rfl _ _ rfl) rfl rfl ?_
                  refine v_push (4) (hT _ zt_X11_pour rfl _ _ rfl) rfl ?_
                  refine v_call (w := 2) [some (2, 0), some (0, 4)] hO (hT _ zt_X11_pour rfl _ _ rfl) rfl rfl ?_
                  refine v_load (v := (2, 0)) (hT _ zt_X11_refuse rfl _ _ rfl) rfl rfl ?_
                  refine v_load (v := (0, 4)) (hT _ zt_X11_refuse rfl _ _ rfl) rfl rfl ?_
                  refine v_putf (r := 0) hO (hT _ zt_X11_refuse rfl _ _ rfl) rfl (fun hf34 => ?_)
                  refine v_push (0) (hT _ zt_X11_refuse rfl _ _ rfl) rfl ?_
                  refine v_ret (hT _ zt_X11_refuse rfl _ _ rfl) (Or.inl rfl) ?_
                  show vP D T N 172 118 (zset h 0 0 (0, 4)) [some (2, 0), some (0, 3), some (0, i), some (0, 2), some (0, j), some (0, n), some (2, 8), some (2, 6)] [(0, 0)] _
                  refine v_ret (hT _ zt_X11_pour rfl _ _ rfl) (Or.inl rfl) ?_
                  exact k6 hc11 hc15 hc19 hc20 hc22 hc25 hc29 hc32
                · have hc32 : j ≤ ((h 6 2).2 - n) := Int.not_lt.mp hc32
                  refine v_push (1) (hT _ zt_X9_hasPlaces rfl _ _ rfl) rfl ?_
                  refine v_goto (hT _ zt_X9_hasPlaces rfl _ _ rfl) ?_
                  refine v_ret (hT _ zt_X9_hasPlaces rfl _ _ rfl) (Or.inl rfl) ?_
                  show vP D T N 172 110 h [some (2, 0), some (0, 3), some (0, i), some (0, 2), some (0, j), some (0, n), some (2, 8), some (2, 6)] [(0, 1)] _
                  refine v_if (hT _ zt_X11_pour rfl _ _ rfl) (fun hc35 => absurd (show (1 : Int) = 0 from hc35) (by decide)) (fun _ => ?_)
                  refine v_load (v := (2, 8)) (hT _ zt_X11_pour rfl _ _ rfl) rfl rfl ?_
                  refine v_getR (c := 9) (r := 8) (hT _ zt_X11_pour rfl _ _ rfl) rfl rfl rfl ?_
                  refine v_load (v := (0, i)) (hT _ zt_X11_pour rfl _ _ rfl) rfl rfl ?_
                  refine v_load (v := (2, 6)) (hT _ zt_X11_pour rfl _ _ rfl) rfl rfl ?_
                  refine v_getR (c := 7) (r := 6) (hT _ zt_X11_pour rfl _ _ rfl) rfl rfl rfl ?_
                  refine v_load (v := (0, j)) (hT _ zt_X11_pour rfl _ _ rfl) rfl rfl ?_
                  refine v_load (v := (0, n)) (hT _ zt_X11_pour rfl _ _ rfl) rfl rfl ?_
                  refine v_copy (r0 := 9) (r1 := 7) (hT _ zt_X11_pour rfl _ _ rfl) rfl rfl rfl rfl (fun hd36 hd37 hd38 hd39 hd40 => ?_)
                  refine v_load (v := (2, 0)) (hT _ zt_X11_pour rfl _ _ rfl) rfl rfl ?_
                  refine v_call (w := 1) [some (2, 0)] hO (hT _ zt_X11_pour rfl _ _ rfl) rfl rfl ?_
                  refine v_load (v := (2, 0)) (hT _ zt_X11_accept rfl _ _ rfl) rfl rfl ?_
                  refine v_push (0) (hT _ zt_X11_accept rfl _ _ rfl) rfl ?_
                  refine v_putf (r := 0) hO (hT _ zt_X11_accept rfl _ _ rfl) rfl (fun hf41 => ?_)
                  refine v_push (1) (hT _ zt_X11_accept rfl _ _ rfl) rfl ?_
                  refine v_ret (hT _ zt_X11_accept rfl _ _ rfl) (Or.inl rfl) ?_
                  show vP D T N 172 141 (zset (zcopy h 9 i.toNat 7 j.toNat n.toNat) 0 0 (0, 0)) [some (2, 0), some (0, 3), some (0, i), some (0, 2), some (0, j), some (0, n), some (2, 8), some (2, 6)] [(0, 1)] _
                  refine v_ret (hT _ zt_X11_pour rfl _ _ rfl) (Or.inl rfl) ?_
                  exact k7 hc11 hc15 hc19 hc20 hc22 hc25 hc29 hc32 hd36 hd37 hd38 hd39 hd40
      · have hc19 : (h 8 1).2 ≠ (h 6 1).2 := hc19
        refine v_load (v := (2, 0)) (hT _ zt_X11_pour rfl _ _ rfl) rfl rfl ?_
        refine v_push (11) (hT _ zt_X11_pour rfl _ _ rfl) rfl ?_
        refine v_call (w := 2) [some (2, 0), some (0, 11)] hO (hT _ zt_X11_pour rfl _ _ rfl) rfl rfl ?_
        refine v_load (v := (2, 0)) (hT _ zt_X11_refuse rfl _ _ rfl) rfl rfl ?_
        refine v_load (v := (0, 11)) (hT _ zt_X11_refuse rfl _ _ rfl) rfl rfl ?_
        refine v_putf (r := 0) hO (hT _ zt_X11_refuse rfl _ _ rfl) rfl (fun hf42 => ?_)
        refine v_push (0) (hT _ zt_X11_refuse rfl _ _ rfl) rfl ?_
        refine v_ret (hT _ zt_X11_refuse rfl _ _ rfl) (Or.inl rfl) ?_
        show vP D T N 172 77 (zset h 0 0 (0, 11)) [some (2, 0), some (0, 3), some (0, i), some (0, 2), some (0, j), some (0, n), some (2, 8), some (2, 6)] [(0, 0)] _
        refine v_ret (hT _ zt_X11_pour rfl _ _ rfl) (Or.inl rfl) ?_
        exact k8 hc11 hc15 hc19
theorem y_X11_pour_3_3 {D : zD} {T : zT} (hT : hTab T) (hO : vOK T) {N : Nat} {h : zH} {Q : zR → Prop} (i j n : Int) (hv0 : zHv h) (hb : 0 ≤ (h 8 2).2 ∧ (h 8 2).2 ≤ 60) (hc : 0 ≤ (h 8 2).2 ∧ (h 8 2).2 ≤ 60) (hn : n ≤ 2147483647)
    (k0 : ((h 8 1).2 = -1) → Q (zset h 0 0 (0, 3), some (0, 0)))
    (k1 : ((h 8 1).2 ≠ -1) → ((h 8 1).2 = (h 8 1).2) → (n < 0) → Q (zset h 0 0 (0, 6), some (0, 0)))
    (k2 : ((h 8 1).2 ≠ -1) → ((h 8 1).2 = (h 8 1).2) → (0 ≤ n) → (i < 0) → Q (zset h 0 0 (0, 4), some (0, 0)))
    (k3 : ((h 8 1).2 ≠ -1) → ((h 8 1).2 = (h 8 1).2) → (0 ≤ n) → (0 ≤ i) → (((h 8 2).2 - n) < i) → Q (zset h 0 0 (0, 4), some (0, 0)))
    (k4 : ((h 8 1).2 ≠ -1) → ((h 8 1).2 = (h 8 1).2) → (0 ≤ n) → (0 ≤ i) → (i ≤ ((h 8 2).2 - n)) → (j < 0) → Q (zset h 0 0 (0, 4), some (0, 0)))
    (k5 : ((h 8 1).2 ≠ -1) → ((h 8 1).2 = (h 8 1).2) → (0 ≤ n) → (0 ≤ i) → (i ≤ ((h 8 2).2 - n)) → (0 ≤ j) → (((h 8 2).2 - n) < j) → Q (zset h 0 0 (0, 4), some (0, 0)))
    (k6 : ((h 8 1).2 ≠ -1) → ((h 8 1).2 = (h 8 1).2) → (0 ≤ n) → (0 ≤ i) → (i ≤ ((h 8 2).2 - n)) → (0 ≤ j) → (j ≤ ((h 8 2).2 - n)) → (0 ≤ n) → (0 ≤ i) → (0 ≤ j) → (i + n ≤ 60) → (j + n ≤ 60) → Q (zset (zcopy h 9 i.toNat 9 j.toNat n.toNat) 0 0 (0, 0), some (0, 1)))
    (k7 : ((h 8 1).2 ≠ -1) → ((h 8 1).2 ≠ (h 8 1).2) → Q (zset h 0 0 (0, 11), some (0, 0))) :
    vP D T N 172 0 h [some (2, 0), some (0, 3), some (0, i), some (0, 3), some (0, j), some (0, n), none, none] [] Q := by
  refine v_load (v := (0, 3)) (hT _ zt_X11_pour rfl _ _ rfl) rfl rfl ?_
  refine v_call (w := 1) [some (0, 3)] hO (hT _ zt_X11_pour rfl _ _ rfl) rfl rfl ?_
  refine v_load (v := (0, 3)) (hT _ zt_X11_isTray rfl _ _ rfl) rfl rfl ?_
  refine v_if (hT _ zt_X11_isTray rfl _ _ rfl) (fun hc1 => absurd (show (3 : Int) < 0 from hc1) (by decide)) (fun _ => ?_)
  refine v_load (v := (0, 3)) (hT _ zt_X11_isTray rfl _ _ rfl) rfl rfl ?_
  refine v_push (4) (hT _ zt_X11_isTray rfl _ _ rfl) rfl ?_
  refine v_ic (hT _ zt_X11_isTray rfl _ _ rfl) (fun _ => ?_) (fun hc2 => absurd (show (3 : Int) < 4 from (by decide)) hc2)
  refine v_push (1) (hT _ zt_X11_isTray rfl _ _ rfl) rfl ?_
  refine v_goto (hT _ zt_X11_isTray rfl _ _ rfl) ?_
  refine v_ret (hT _ zt_X11_isTray rfl _ _ rfl) (Or.inl rfl) ?_
  show vP D T N 172 4 h [some (2, 0), some (0, 3), some (0, i), some (0, 3), some (0, j), some (0, n), none, none] [(0, 1)] _
  refine v_if (hT _ zt_X11_pour rfl _ _ rfl) (fun hc3 => absurd (show (1 : Int) = 0 from hc3) (by decide)) (fun _ => ?_)
  refine v_load (v := (0, 3)) (hT _ zt_X11_pour rfl _ _ rfl) rfl rfl ?_
  refine v_call (w := 1) [some (0, 3)] hO (hT _ zt_X11_pour rfl _ _ rfl) rfl rfl ?_
  refine v_load (v := (0, 3)) (hT _ zt_X11_isTray rfl _ _ rfl) rfl rfl ?_
  refine v_if (hT _ zt_X11_isTray rfl _ _ rfl) (fun hc4 => absurd (show (3 : Int) < 0 from hc4) (by decide)) (fun _ => ?_)
  refine v_load (v := (0, 3)) (hT _ zt_X11_isTray rfl _ _ rfl) rfl rfl ?_
  refine v_push (4) (hT _ zt_X11_isTray rfl _ _ rfl) rfl ?_
  refine v_ic (hT _ zt_X11_isTray rfl _ _ rfl) (fun _ => ?_) (fun hc5 => absurd (show (3 : Int) < 4 from (by decide)) hc5)
  refine v_push (1) (hT _ zt_X11_isTray rfl _ _ rfl) rfl ?_
  refine v_goto (hT _ zt_X11_isTray rfl _ _ rfl) ?_
  refine v_ret (hT _ zt_X11_isTray rfl _ _ rfl) (Or.inl rfl) ?_
  show vP D T N 172 11 h [some (2, 0), some (0, 3), some (0, i), some (0, 3), some (0, j), some (0, n), none, none] [(0, 1)] _
  refine v_if (hT _ zt_X11_pour rfl _ _ rfl) (fun hc6 => absurd (show (1 : Int) = 0 from hc6) (by decide)) (fun _ => ?_)
  refine v_load (v := (2, 0)) (hT _ zt_X11_pour rfl _ _ rfl) rfl rfl ?_
  refine v_getR (c := 1) (r := 0) (hT _ zt_X11_pour rfl _ _ rfl) rfl rfl rfl ?_
  refine v_load (v := (0, 3)) (hT _ zt_X11_pour rfl _ _ rfl) rfl rfl ?_
  refine v_aldV (v := (2, 8)) (r := 1) (hT _ zt_X11_pour rfl _ _ rfl) rfl rfl (fun hv _ _ => hv.ref rfl) (fun ha7 hb8 => ?_)
  refine v_store1 [some (2, 0), some (0, 3), some (0, i), some (0, 3), some (0, j), some (0, n), some (2, 8), none] (hT _ zt_X11_pour rfl _ _ rfl) ⟨rfl, Nat.ne_of_beq_eq_false rfl⟩ (Nat.le_of_ble_eq_true rfl) rfl ?_
  refine v_load (v := (2, 0)) (hT _ zt_X11_pour rfl _ _ rfl) rfl rfl ?_
  refine v_getR (c := 1) (r := 0) (hT _ zt_X11_pour rfl _ _ rfl) rfl rfl rfl ?_
  refine v_load (v := (0, 3)) (hT _ zt_X11_pour rfl _ _ rfl) rfl rfl ?_
  refine v_aldV (v := (2, 8)) (r := 1) (hT _ zt_X11_pour rfl _ _ rfl) rfl rfl (fun hv _ _ => hv.ref rfl) (fun ha9 hb10 => ?_)
  refine v_store1 [some (2, 0), some (0, 3), some (0, i), some (0, 3), some (0, j), some (0, n), some (2, 8), some (2, 8)] (hT _ zt_X11_pour rfl _ _ rfl) ⟨rfl, Nat.ne_of_beq_eq_false rfl⟩ (Nat.le_of_ble_eq_true rfl) rfl ?_
  refine v_load (v := (2, 8)) (hT _ zt_X11_pour rfl _ _ rfl) rfl rfl ?_
  refine v_call (w := 1) [some (2, 8)] hO (hT _ zt_X11_pour rfl _ _ rfl) rfl rfl ?_
  refine v_load (v := (2, 8)) (hT _ zt_X9_isMissing rfl _ _ rfl) rfl rfl ?_
  refine v_getI (t := 0) (r := 8) (hT _ zt_X9_isMissing rfl _ _ rfl) rfl rfl rfl ?_
  refine v_push (-1) (hT _ zt_X9_isMissing rfl _ _ rfl) rfl ?_
  refine v_ic (hT _ zt_X9_isMissing rfl _ _ rfl) (fun hc11 => ?_) (fun hc11 => ?_)
  · have hc11 : (h 8 1).2 = -1 := hc11
    refine v_push (1) (hT _ zt_X9_isMissing rfl _ _ rfl) rfl ?_
    refine v_goto (hT _ zt_X9_isMissing rfl _ _ rfl) ?_
    refine v_ret (hT _ zt_X9_isMissing rfl _ _ rfl) (Or.inl rfl) ?_
    show vP D T N 172 41 h [some (2, 0), some (0, 3), some (0, i), some (0, 3), some (0, j), some (0, n), some (2, 8), some (2, 8)] [(0, 1)] _
    refine v_if (hT _ zt_X11_pour rfl _ _ rfl) (fun hc12 => absurd (show (1 : Int) = 0 from hc12) (by decide)) (fun _ => ?_)
    refine v_load (v := (2, 0)) (hT _ zt_X11_pour rfl _ _ rfl) rfl rfl ?_
    refine v_push (3) (hT _ zt_X11_pour rfl _ _ rfl) rfl ?_
    refine v_call (w := 2) [some (2, 0), some (0, 3)] hO (hT _ zt_X11_pour rfl _ _ rfl) rfl rfl ?_
    refine v_load (v := (2, 0)) (hT _ zt_X11_refuse rfl _ _ rfl) rfl rfl ?_
    refine v_load (v := (0, 3)) (hT _ zt_X11_refuse rfl _ _ rfl) rfl rfl ?_
    refine v_putf (r := 0) hO (hT _ zt_X11_refuse rfl _ _ rfl) rfl (fun hf13 => ?_)
    refine v_push (0) (hT _ zt_X11_refuse rfl _ _ rfl) rfl ?_
    refine v_ret (hT _ zt_X11_refuse rfl _ _ rfl) (Or.inl rfl) ?_
    show vP D T N 172 57 (zset h 0 0 (0, 3)) [some (2, 0), some (0, 3), some (0, i), some (0, 3), some (0, j), some (0, n), some (2, 8), some (2, 8)] [(0, 0)] _
    refine v_ret (hT _ zt_X11_pour rfl _ _ rfl) (Or.inl rfl) ?_
    exact k0 hc11
  · have hc11 : (h 8 1).2 ≠ -1 := hc11
    refine v_push (0) (hT _ zt_X9_isMissing rfl _ _ rfl) rfl ?_
    refine v_ret (hT _ zt_X9_isMissing rfl _ _ rfl) (Or.inl rfl) ?_
    show vP D T N 172 41 h [some (2, 0), some (0, 3), some (0, i), some (0, 3), some (0, j), some (0, n), some (2, 8), some (2, 8)] [(0, 0)] _
    refine v_if (hT _ zt_X11_pour rfl _ _ rfl) (fun _ => ?_) (fun hc14 => absurd (show (0 : Int) = 0 from (by decide)) hc14)
    refine v_load (v := (2, 8)) (hT _ zt_X11_pour rfl _ _ rfl) rfl rfl ?_
    refine v_call (w := 1) [some (2, 8)] hO (hT _ zt_X11_pour rfl _ _ rfl) rfl rfl ?_
    refine v_load (v := (2, 8)) (hT _ zt_X9_isMissing rfl _ _ rfl) rfl rfl ?_
    refine v_getI (t := 0) (r := 8) (hT _ zt_X9_isMissing rfl _ _ rfl) rfl rfl rfl ?_
    refine v_push (-1) (hT _ zt_X9_isMissing rfl _ _ rfl) rfl ?_
    refine v_ic (hT _ zt_X9_isMissing rfl _ _ rfl) (fun hc15 => absurd (show (h 8 1).2 = -1 from hc15) (by omega)) (fun _ => ?_)
    refine v_push (0) (hT _ zt_X9_isMissing rfl _ _ rfl) rfl ?_
    refine v_ret (hT _ zt_X9_isMissing rfl _ _ rfl) (Or.inl rfl) ?_
    show vP D T N 172 49 h [some (2, 0), some (0, 3), some (0, i), some (0, 3), some (0, j), some (0, n), some (2, 8), some (2, 8)] [(0, 0)] _
    refine v_if (hT _ zt_X11_pour rfl _ _ rfl) (fun _ => ?_) (fun hc16 => absurd (show (0 : Int) = 0 from (by decide)) hc16)
    refine v_load (v := (2, 8)) (hT _ zt_X11_pour rfl _ _ rfl) rfl rfl ?_
    refine v_getI (t := 0) (r := 8) (hT _ zt_X11_pour rfl _ _ rfl) rfl rfl rfl ?_
    refine v_load (v := (2, 8)) (hT _ zt_X11_pour rfl _ _ rfl) rfl rfl ?_
    refine v_getI (t := 0) (r := 8) (hT _ zt_X11_pour rfl _ _ rfl) rfl rfl rfl ?_
    refine v_ic (hT _ zt_X11_pour rfl _ _ rfl) (fun hc17 => ?_) (fun hc17 => ?_)
    · have hc17 : (h 8 1).2 = (h 8 1).2 := hc17
      refine v_load (v := (0, n)) (hT _ zt_X11_pour rfl _ _ rfl) rfl rfl ?_
      refine v_if (hT _ zt_X11_pour rfl _ _ rfl) (fun hc18 => ?_) (fun hc18 => ?_)
      · have hc18 : n < 0 := hc18
        refine v_load (v := (2, 0)) (hT _ zt_X11_pour rfl _ _ rfl) rfl rfl ?_
        refine v_push (6) (hT _ zt_X11_pour rfl _ _ rfl) rfl ?_
        refine v_call (w := 2) [some (2, 0), some (0, 6)] hO (hT _ zt_X11_pour rfl _ _ rfl) rfl rfl ?_
        refine v_load (v := (2, 0)) (hT _ zt_X11_refuse rfl _ _ rfl) rfl rfl ?_
        refine v_load (v := (0, 6)) (hT _ zt_X11_refuse rfl _ _ rfl) rfl rfl ?_
        refine v_putf (r := 0) hO (hT _ zt_X11_refuse rfl _ _ rfl) rfl (fun hf19 => ?_)
        refine v_push (0) (hT _ zt_X11_refuse rfl _ _ rfl) rfl ?_
        refine v_ret (hT _ zt_X11_refuse rfl _ _ rfl) (Or.inl rfl) ?_
        show vP D T N 172 89 (zset h 0 0 (0, 6)) [some (2, 0), some (0, 3), some (0, i), some (0, 3), some (0, j), some (0, n), some (2, 8), some (2, 8)] [(0, 0)] _
        refine v_ret (hT _ zt_X11_pour rfl _ _ rfl) (Or.inl rfl) ?_
        exact k1 hc11 hc17 hc18
      · have hc18 : 0 ≤ n := Int.not_lt.mp hc18
        refine v_load (v := (2, 8)) (hT _ zt_X11_pour rfl _ _ rfl) rfl rfl ?_
        refine v_load (v := (0, i)) (hT _ zt_X11_pour rfl _ _ rfl) rfl rfl ?_
        refine v_load (v := (0, n)) (hT _ zt_X11_pour rfl _ _ rfl) rfl rfl ?_
        refine v_call (w := 3) [some (2, 8), some (0, i), some (0, n)] hO (hT _ zt_X11_pour rfl _ _ rfl) rfl rfl ?_
        refine v_load (v := (0, i)) (hT _ zt_X9_hasPlaces rfl _ _ rfl) rfl rfl ?_
        refine v_if (hT _ zt_X9_hasPlaces rfl _ _ rfl) (fun hc20 => ?_) (fun hc20 => ?_)
        · have hc20 : i < 0 := hc20
          refine v_push (0) (hT _ zt_X9_hasPlaces rfl _ _ rfl) rfl ?_
          refine v_ret (hT _ zt_X9_hasPlaces rfl _ _ rfl) (Or.inl rfl) ?_
          show vP D T N 172 98 h [some (2, 0), some (0, 3), some (0, i), some (0, 3), some (0, j), some (0, n), some (2, 8), some (2, 8)] [(0, 0)] _
          refine v_if (hT _ zt_X11_pour rfl _ _ rfl) (fun _ => ?_) (fun hc21 => absurd (show (0 : Int) = 0 from (by decide)) hc21)
          refine v_load (v := (2, 0)) (hT _ zt_X11_pour rfl _ _ rfl) rfl rfl ?_
          refine v_push (4) (hT _ zt_X11_pour rfl _ _ rfl) rfl ?_
          refine v_call (w := 2) [some (2, 0), some (0, 4)] hO (hT _ zt_X11_pour rfl _ _ rfl) rfl rfl ?_
          refine v_load (v := (2, 0)) (hT _ zt_X11_refuse rfl _ _ rfl) rfl rfl ?_
          refine v_load (v := (0, 4)) (hT _ zt_X11_refuse rfl _ _ rfl) rfl rfl ?_
          refine v_putf (r := 0) hO (hT _ zt_X11_refuse rfl _ _ rfl) rfl (fun hf22 => ?_)
          refine v_push (0) (hT _ zt_X11_refuse rfl _ _ rfl) rfl ?_
          refine v_ret (hT _ zt_X11_refuse rfl _ _ rfl) (Or.inl rfl) ?_
          show vP D T N 172 118 (zset h 0 0 (0, 4)) [some (2, 0), some (0, 3), some (0, i), some (0, 3), some (0, j), some (0, n), some (2, 8), some (2, 8)] [(0, 0)] _
          refine v_ret (hT _ zt_X11_pour rfl _ _ rfl) (Or.inl rfl) ?_
          exact k2 hc11 hc17 hc18 hc20
        · have hc20 : 0 ≤ i := Int.not_lt.mp hc20
          refine v_load (v := (0, i)) (hT _ zt_X9_hasPlaces rfl _ _ rfl) rfl rfl ?_
          refine v_load (v := (2, 8)) (hT _ zt_X9_hasPlaces rfl _ _ rfl) rfl rfl ?_
          refine v_getI (t := 0) (r := 8) (hT _ zt_X9_hasPlaces rfl _ _ rfl) rfl rfl rfl ?_
          refine v_load (v := (0, n)) (hT _ zt_X9_hasPlaces rfl _ _ rfl) rfl rfl ?_
          refine v_bin (w := ((h 8 2).2 - n)) (hT _ zt_X9_hasPlaces rfl _ _ rfl) (hq_sub (by omega) (by omega)) ?_
          refine v_ic (hT _ zt_X9_hasPlaces rfl _ _ rfl) (fun hc23 => ?_) (fun hc23 => ?_)
          · have hc23 : ((h 8 2).2 - n) < i := hc23
            refine v_push (0) (hT _ zt_X9_hasPlaces rfl _ _ rfl) rfl ?_
            refine v_ret (hT _ zt_X9_hasPlaces rfl _ _ rfl) (Or.inl rfl) ?_
            show vP D T N 172 98 h [some (2, 0), some (0, 3), some (0, i), some (0, 3), some (0, j), some (0, n), some (2, 8), some (2, 8)] [(0, 0)] _
            refine v_if (hT _ zt_X11_pour rfl _ _ rfl) (fun _ => ?_) (fun hc24 => absurd (show (0 : Int) = 0 from (by decide)) hc24)
            refine v_load (v := (2, 0)) (hT _ zt_X11_pour rfl _ _ rfl) rfl rfl ?_
            refine v_push (4) (hT _ zt_X11_pour rfl _ _ rfl) rfl ?_
            refine v_call (w := 2) [some (2, 0), some (0, 4)] hO (hT _ zt_X11_pour rfl _ _ rfl) rfl rfl ?_
            refine v_load (v := (2, 0)) (hT _ zt_X11_refuse rfl _ _ rfl) rfl rfl ?_
            refine v_load (v := (0, 4)) (hT _ zt_X11_refuse rfl _ _ rfl) rfl rfl ?_
            refine v_putf (r := 0) hO (hT _ zt_X11_refuse rfl _ _ rfl) rfl (fun hf25 => ?_)
            refine v_push (0) (hT _ zt_X11_refuse rfl _ _ rfl) rfl ?_
            refine v_ret (hT _ zt_X11_refuse rfl _ _ rfl) (Or.inl rfl) ?_
            show vP D T N 172 118 (zset h 0 0 (0, 4)) [some (2, 0), some (0, 3), some (0, i), some (0, 3), some (0, j), some (0, n), some (2, 8), some (2, 8)] [(0, 0)] _
            refine v_ret (hT _ zt_X11_pour rfl _ _ rfl) (Or.inl rfl) ?_
            exact k3 hc11 hc17 hc18 hc20 hc23
          · have hc23 : i ≤ ((h 8 2).2 - n) := Int.not_lt.mp hc23
            refine v_push (1) (hT _ zt_X9_hasPlaces rfl _ _ rfl) rfl ?_
            refine v_goto (hT _ zt_X9_hasPlaces rfl _ _ rfl) ?_
            refine v_ret (hT _ zt_X9_hasPlaces rfl _ _ rfl) (Or.inl rfl) ?_
            show vP D T N 172 98 h [some (2, 0), some (0, 3), some (0, i), some (0, 3), some (0, j), some (0, n), some (2, 8), some (2, 8)] [(0, 1)] _
            refine v_if (hT _ zt_X11_pour rfl _ _ rfl) (fun hc26 => absurd (show (1 : Int) = 0 from hc26) (by decide)) (fun _ => ?_)
            refine v_load (v := (2, 8)) (hT _ zt_X11_pour rfl _ _ rfl) rfl rfl ?_
            refine v_load (v := (0, j)) (hT _ zt_X11_pour rfl _ _ rfl) rfl rfl ?_
            refine v_load (v := (0, n)) (hT _ zt_X11_pour rfl _ _ rfl) rfl rfl ?_
            refine v_call (w := 3) [some (2, 8), some (0, j), some (0, n)] hO (hT _ zt_X11_pour rfl _ _ rfl) rfl rfl ?_
            refine v_load (v := (0, j)) (hT _ zt_X9_hasPlaces rfl _ _ rfl) rfl rfl ?_
            refine v_if (hT _ zt_X9_hasPlaces rfl _ _ rfl) (fun hc27 => ?_) (fun hc27 => ?_)
            · have hc27 : j < 0 := hc27
              refine v_push (0) (hT _ zt_X9_hasPlaces rfl _ _ rfl) rfl ?_
              refine v_ret (hT _ zt_X9_hasPlaces rfl _ _ rfl) (Or.inl rfl) ?_
              show vP D T N 172 110 h [some (2, 0), some (0, 3), some (0, i), some (0, 3), some (0, j), some (0, n), some (2, 8), some (2, 8)] [(0, 0)] _
              refine v_if (hT _ zt_X11_pour rfl _ _ rfl) (fun _ => ?_) (fun hc28 => absurd (show (0 : Int) = 0 from (by decide)) hc28)
              refine v_load (v := (2, 0)) (hT _ zt_X11_pour rfl _ _ rfl) rfl rfl ?_
              refine v_push (4) (hT _ zt_X11_pour rfl _ _ rfl) rfl ?_
              refine v_call (w := 2) [some (2, 0), some (0, 4)] hO (hT _ zt_X11_pour rfl _ _ rfl) rfl rfl ?_
              refine v_load (v := (2, 0)) (hT _ zt_X11_refuse rfl _ _ rfl) rfl rfl ?_
              refine v_load (v := (0, 4)) (hT _ zt_X11_refuse rfl _ _ rfl) rfl rfl ?_
              refine v_putf (r := 0) hO (hT _ zt_X11_refuse rfl _ _ rfl) rfl (fun hf29 => ?_)
              refine v_push (0) (hT _ zt_X11_refuse rfl _ _ rfl) rfl ?_
              refine v_ret (hT _ zt_X11_refuse rfl _ _ rfl) (Or.inl rfl) ?_
              show vP D T N 172 118 (zset h 0 0 (0, 4)) [some (2, 0), some (0, 3), some (0, i), some (0, 3), some (0, j), some (0, n), some (2, 8), some (2, 8)] [(0, 0)] _
              refine v_ret (hT _ zt_X11_pour rfl _ _ rfl) (Or.inl rfl) ?_
              exact k4 hc11 hc17 hc18 hc20 hc23 hc27
            · have hc27 : 0 ≤ j := Int.not_lt.mp hc27
              refine v_load (v := (0, j)) (hT _ zt_X9_hasPlaces rfl _ _ rfl) rfl rfl ?_
              refine v_load (v := (2, 8)) (hT _ zt_X9_hasPlaces rfl _ _ rfl) rfl rfl ?_
              refine v_getI (t := 0) (r := 8) (hT _ zt_X9_hasPlaces rfl _ _ rfl) rfl rfl rfl ?_
              refine v_load (v := (0, n)) (hT _ zt_X9_hasPlaces rfl _ _ rfl) rfl rfl ?_
              refine v_bin (w := ((h 8 2).2 - n)) (hT _ zt_X9_hasPlaces rfl _ _ rfl) (hq_sub (by omega) (by omega)) ?_
              refine v_ic (hT _ zt_X9_hasPlaces rfl _ _ rfl) (fun hc30 => ?_) (fun hc30 => ?_)
              · have hc30 : ((h 8 2).2 - n) < j := hc30
                refine v_push (0) (hT _ zt_X9_hasPlaces rfl _ _ rfl) rfl ?_
                refine v_ret (hT _ zt_X9_hasPlaces rfl _ _ rfl) (Or.inl rfl) ?_
                show vP D T N 172 110 h [some (2, 0), some (0, 3), some (0, i), some (0, 3), some (0, j), some (0, n), some (2, 8), some (2, 8)] [(0, 0)] _
                refine v_if (hT _ zt_X11_pour rfl _ _ rfl) (fun _ => ?_) (fun hc31 => absurd (show (0 : Int) = 0 from (by decide)) hc31)
                refine v_load (v := (2, 0)) (hT _ zt_X11_pour rfl _ _ rfl) rfl rfl ?_
                refine v_push (4) (hT _ zt_X11_pour rfl _ _ rfl) rfl ?_
                refine v_call (w := 2) [some (2, 0), some (0, 4)] hO (hT _ zt_X11_pour rfl _ _ rfl) rfl rfl ?_
                refine v_load (v := (2, 0)) (hT _ zt_X11_refuse rfl _ _ rfl) rfl rfl ?_
                refine v_load (v := (0, 4)) (hT _ zt_X11_refuse rfl _ _ rfl) rfl rfl ?_
                refine v_putf (r := 0) hO (hT _ zt_X11_refuse rfl _ _ rfl) rfl (fun hf32 => ?_)
                refine v_push (0) (hT _ zt_X11_refuse rfl _ _ rfl) rfl ?_
                refine v_ret (hT _ zt_X11_refuse rfl _ _ rfl) (Or.inl rfl) ?_
                show vP D T N 172 118 (zset h 0 0 (0, 4)) [some (2, 0), some (0, 3), some (0, i), some (0, 3), some (0, j), some (0, n), some (2, 8), some (2, 8)] [(0, 0)] _
                refine v_ret (hT _ zt_X11_pour rfl _ _ rfl) (Or.inl rfl) ?_
                exact k5 hc11 hc17 hc18 hc20 hc23 hc27 hc30
              · have hc30 : j ≤ ((h 8 2).2 - n) := Int.not_lt.mp hc30
                refine v_push (1) (hT _ zt_X9_hasPlaces rfl _ _ rfl) rfl ?_
                refine v_goto (hT _ zt_X9_hasPlaces rfl _ _ rfl) ?_
                refine v_ret (hT _ zt_X9_hasPlaces rfl _ _ rfl) (Or.inl rfl) ?_
                show vP D T N 172 110 h [some (2, 0), some (0, 3), some (0, i), some (0, 3), some (0, j), some (0, n), some (2, 8), some (2, 8)] [(0, 1)] _
                refine v_if (hT _ zt_X11_pour rfl _ _ rfl) (fun hc33 => absurd (show (1 : Int) = 0 from hc33) (by decide)) (fun _ => ?_)
                refine v_load (v := (2, 8)) (hT _ zt_X11_pour rfl _ _ rfl) rfl rfl ?_
                refine v_getR (c := 9) (r := 8) (hT _ zt_X11_pour rfl _ _ rfl) rfl rfl rfl ?_
                refine v_load (v := (0, i)) (hT _ zt_X11_pour rfl _ _ rfl) rfl rfl ?_
                refine v_load (v := (2, 8)) (hT _ zt_X11_pour rfl _ _ rfl) rfl rfl ?_
                refine v_getR (c := 9) (r := 8) (hT _ zt_X11_pour rfl _ _ rfl) rfl rfl rfl ?_
                refine v_load (v := (0, j)) (hT _ zt_X11_pour rfl _ _ rfl) rfl rfl ?_
                refine v_load (v := (0, n)) (hT _ zt_X11_pour rfl _ _ rfl) rfl rfl ?_
                refine v_copy (r0 := 9) (r1 := 9) (hT _ zt_X11_pour rfl _ _ rfl) rfl rfl rfl rfl (fun hd34 hd35 hd36 hd37 hd38 => ?_)
                refine v_load (v := (2, 0)) (hT _ zt_X11_pour rfl _ _ rfl) rfl rfl ?_
                refine v_call (w := 1) [some (2, 0)] hO (hT _ zt_X11_pour rfl _ _ rfl) rfl rfl ?_
                refine v_load (v := (2, 0)) (hT _ zt_X11_accept rfl _ _ rfl) rfl rfl ?_
                refine v_push (0) (hT _ zt_X11_accept rfl _ _ rfl) rfl ?_
                refine v_putf (r := 0) hO (hT _ zt_X11_accept rfl _ _ rfl) rfl (fun hf39 => ?_)
                refine v_push (1) (hT _ zt_X11_accept rfl _ _ rfl) rfl ?_
                refine v_ret (hT _ zt_X11_accept rfl _ _ rfl) (Or.inl rfl) ?_
                show vP D T N 172 141 (zset (zcopy h 9 i.toNat 9 j.toNat n.toNat) 0 0 (0, 0)) [some (2, 0), some (0, 3), some (0, i), some (0, 3), some (0, j), some (0, n), some (2, 8), some (2, 8)] [(0, 1)] _
                refine v_ret (hT _ zt_X11_pour rfl _ _ rfl) (Or.inl rfl) ?_
                exact k6 hc11 hc17 hc18 hc20 hc23 hc27 hc30 hd34 hd35 hd36 hd37 hd38
    · have hc17 : (h 8 1).2 ≠ (h 8 1).2 := hc17
      refine v_load (v := (2, 0)) (hT _ zt_X11_pour rfl _ _ rfl) rfl rfl ?_
      refine v_push (11) (hT _ zt_X11_pour rfl _ _ rfl) rfl ?_
      refine v_call (w := 2) [some (2, 0), some (0, 11)] hO (hT _ zt_X11_pour rfl _ _ rfl) rfl rfl ?_
      refine v_load (v := (2, 0)) (hT _ zt_X11_refuse rfl _ _ rfl) rfl rfl ?_
      refine v_load (v := (0, 11)) (hT _ zt_X11_refuse rfl _ _ rfl) rfl rfl ?_
      refine v_putf (r := 0) hO (hT _ zt_X11_refuse rfl _ _ rfl) rfl (fun hf40 => ?_)
      refine v_push (0) (hT _ zt_X11_refuse rfl _ _ rfl) rfl ?_
      refine v_ret (hT _ zt_X11_refuse rfl _ _ rfl) (Or.inl rfl) ?_
      show vP D T N 172 77 (zset h 0 0 (0, 11)) [some (2, 0), some (0, 3), some (0, i), some (0, 3), some (0, j), some (0, n), some (2, 8), some (2, 8)] [(0, 0)] _
      refine v_ret (hT _ zt_X11_pour rfl _ _ rfl) (Or.inl rfl) ?_
      exact k7 hc11 hc17
theorem y_X11_pour_lo {D : zD} {T : zT} (hT : hTab T) (hO : vOK T) {N : Nat} {h : zH} {Q : zR → Prop} (a i b j n : Int) (hv0 : zHv h) (ha : a < 0)
    (k0 : Q (zset h 0 0 (0, 1), some (0, 0))) :
    vP D T N 172 0 h [some (2, 0), some (0, a), some (0, i), some (0, b), some (0, j), some (0, n), none, none] [] Q := by
  refine v_load (v := (0, a)) (hT _ zt_X11_pour rfl _ _ rfl) rfl rfl ?_
  refine v_call (w := 1) [some (0, a)] hO (hT _ zt_X11_pour rfl _ _ rfl) rfl rfl ?_
  refine v_load (v := (0, a)) (hT _ zt_X11_isTray rfl _ _ rfl) rfl rfl ?_
  refine v_if (hT _ zt_X11_isTray rfl _ _ rfl) (fun _ => ?_) (fun hc1 => absurd (show a < 0 from ha) hc1)
  refine v_push (0) (hT _ zt_X11_isTray rfl _ _ rfl) rfl ?_
  refine v_ret (hT _ zt_X11_isTray rfl _ _ rfl) (Or.inl rfl) ?_
  show vP D T N 172 4 h [some (2, 0), some (0, a), some (0, i), some (0, b), some (0, j), some (0, n), none, none] [(0, 0)] _
  refine v_if (hT _ zt_X11_pour rfl _ _ rfl) (fun _ => ?_) (fun hc2 => absurd (show (0 : Int) = 0 from (by decide)) hc2)
  refine v_load (v := (2, 0)) (hT _ zt_X11_pour rfl _ _ rfl) rfl rfl ?_
  refine v_push (1) (hT _ zt_X11_pour rfl _ _ rfl) rfl ?_
  refine v_call (w := 2) [some (2, 0), some (0, 1)] hO (hT _ zt_X11_pour rfl _ _ rfl) rfl rfl ?_
  refine v_load (v := (2, 0)) (hT _ zt_X11_refuse rfl _ _ rfl) rfl rfl ?_
  refine v_load (v := (0, 1)) (hT _ zt_X11_refuse rfl _ _ rfl) rfl rfl ?_
  refine v_putf (r := 0) hO (hT _ zt_X11_refuse rfl _ _ rfl) rfl (fun hf3 => ?_)
  refine v_push (0) (hT _ zt_X11_refuse rfl _ _ rfl) rfl ?_
  refine v_ret (hT _ zt_X11_refuse rfl _ _ rfl) (Or.inl rfl) ?_
  show vP D T N 172 19 (zset h 0 0 (0, 1)) [some (2, 0), some (0, a), some (0, i), some (0, b), some (0, j), some (0, n), none, none] [(0, 0)] _
  refine v_ret (hT _ zt_X11_pour rfl _ _ rfl) (Or.inl rfl) ?_
  exact k0 
theorem y_X11_pour_hi {D : zD} {T : zT} (hT : hTab T) (hO : vOK T) {N : Nat} {h : zH} {Q : zR → Prop} (a i b j n : Int) (hv0 : zHv h) (ha0 : 0 ≤ a) (ha : 4 ≤ a)
    (k0 : Q (zset h 0 0 (0, 1), some (0, 0))) :
    vP D T N 172 0 h [some (2, 0), some (0, a), some (0, i), some (0, b), some (0, j), some (0, n), none, none] [] Q := by
  refine v_load (v := (0, a)) (hT _ zt_X11_pour rfl _ _ rfl) rfl rfl ?_
  refine v_call (w := 1) [some (0, a)] hO (hT _ zt_X11_pour rfl _ _ rfl) rfl rfl ?_
  refine v_load (v := (0, a)) (hT _ zt_X11_isTray rfl _ _ rfl) rfl rfl ?_
  refine v_if (hT _ zt_X11_isTray rfl _ _ rfl) (fun hc1 => absurd (show a < 0 from hc1) (by omega)) (fun _ => ?_)
  refine v_load (v := (0, a)) (hT _ zt_X11_isTray rfl _ _ rfl) rfl rfl ?_
  refine v_push (4) (hT _ zt_X11_isTray rfl _ _ rfl) rfl ?_
  refine v_ic (hT _ zt_X11_isTray rfl _ _ rfl) (fun hc2 => absurd (show a < 4 from hc2) (by omega)) (fun _ => ?_)
  refine v_push (0) (hT _ zt_X11_isTray rfl _ _ rfl) rfl ?_
  refine v_ret (hT _ zt_X11_isTray rfl _ _ rfl) (Or.inl rfl) ?_
  show vP D T N 172 4 h [some (2, 0), some (0, a), some (0, i), some (0, b), some (0, j), some (0, n), none, none] [(0, 0)] _
  refine v_if (hT _ zt_X11_pour rfl _ _ rfl) (fun _ => ?_) (fun hc3 => absurd (show (0 : Int) = 0 from (by decide)) hc3)
  refine v_load (v := (2, 0)) (hT _ zt_X11_pour rfl _ _ rfl) rfl rfl ?_
  refine v_push (1) (hT _ zt_X11_pour rfl _ _ rfl) rfl ?_
  refine v_call (w := 2) [some (2, 0), some (0, 1)] hO (hT _ zt_X11_pour rfl _ _ rfl) rfl rfl ?_
  refine v_load (v := (2, 0)) (hT _ zt_X11_refuse rfl _ _ rfl) rfl rfl ?_
  refine v_load (v := (0, 1)) (hT _ zt_X11_refuse rfl _ _ rfl) rfl rfl ?_
  refine v_putf (r := 0) hO (hT _ zt_X11_refuse rfl _ _ rfl) rfl (fun hf4 => ?_)
  refine v_push (0) (hT _ zt_X11_refuse rfl _ _ rfl) rfl ?_
  refine v_ret (hT _ zt_X11_refuse rfl _ _ rfl) (Or.inl rfl) ?_
  show vP D T N 172 19 (zset h 0 0 (0, 1)) [some (2, 0), some (0, a), some (0, i), some (0, b), some (0, j), some (0, n), none, none] [(0, 0)] _
  refine v_ret (hT _ zt_X11_pour rfl _ _ rfl) (Or.inl rfl) ?_
  exact k0 
theorem y_X11_pour_blo {D : zD} {T : zT} (hT : hTab T) (hO : vOK T) {N : Nat} {h : zH} {Q : zR → Prop} (a i b j n : Int) (hv0 : zHv h) (ha0 : 0 ≤ a) (ha : a < 4) (hb : b < 0)
    (k0 : Q (zset h 0 0 (0, 1), some (0, 0))) :
    vP D T N 172 0 h [some (2, 0), some (0, a), some (0, i), some (0, b), some (0, j), some (0, n), none, none] [] Q := by
  refine v_load (v := (0, a)) (hT _ zt_X11_pour rfl _ _ rfl) rfl rfl ?_
  refine v_call (w := 1) [some (0, a)] hO (hT _ zt_X11_pour rfl _ _ rfl) rfl rfl ?_
  refine v_load (v := (0, a)) (hT _ zt_X11_isTray rfl _ _ rfl) rfl rfl ?_
  refine v_if (hT _ zt_X11_isTray rfl _ _ rfl) (fun hc1 => absurd (show a < 0 from hc1) (by omega)) (fun _ => ?_)
  refine v_load (v := (0, a)) (hT _ zt_X11_isTray rfl _ _ rfl) rfl rfl ?_
  refine v_push (4) (hT _ zt_X11_isTray rfl _ _ rfl) rfl ?_
  refine v_ic (hT _ zt_X11_isTray rfl _ _ rfl) (fun _ => ?_) (fun hc2 => absurd (show a < 4 from ha) hc2)
  refine v_push (1) (hT _ zt_X11_isTray rfl _ _ rfl) rfl ?_
  refine v_goto (hT _ zt_X11_isTray rfl _ _ rfl) ?_
  refine v_ret (hT _ zt_X11_isTray rfl _ _ rfl) (Or.inl rfl) ?_
  show vP D T N 172 4 h [some (2, 0), some (0, a), some (0, i), some (0, b), some (0, j), some (0, n), none, none] [(0, 1)] _
  refine v_if (hT _ zt_X11_pour rfl _ _ rfl) (fun hc3 => absurd (show (1 : Int) = 0 from hc3) (by decide)) (fun _ => ?_)
  refine v_load (v := (0, b)) (hT _ zt_X11_pour rfl _ _ rfl) rfl rfl ?_
  refine v_call (w := 1) [some (0, b)] hO (hT _ zt_X11_pour rfl _ _ rfl) rfl rfl ?_
  refine v_load (v := (0, b)) (hT _ zt_X11_isTray rfl _ _ rfl) rfl rfl ?_
  refine v_if (hT _ zt_X11_isTray rfl _ _ rfl) (fun _ => ?_) (fun hc4 => absurd (show b < 0 from hb) hc4)
  refine v_push (0) (hT _ zt_X11_isTray rfl _ _ rfl) rfl ?_
  refine v_ret (hT _ zt_X11_isTray rfl _ _ rfl) (Or.inl rfl) ?_
  show vP D T N 172 11 h [some (2, 0), some (0, a), some (0, i), some (0, b), some (0, j), some (0, n), none, none] [(0, 0)] _
  refine v_if (hT _ zt_X11_pour rfl _ _ rfl) (fun _ => ?_) (fun hc5 => absurd (show (0 : Int) = 0 from (by decide)) hc5)
  refine v_load (v := (2, 0)) (hT _ zt_X11_pour rfl _ _ rfl) rfl rfl ?_
  refine v_push (1) (hT _ zt_X11_pour rfl _ _ rfl) rfl ?_
  refine v_call (w := 2) [some (2, 0), some (0, 1)] hO (hT _ zt_X11_pour rfl _ _ rfl) rfl rfl ?_
  refine v_load (v := (2, 0)) (hT _ zt_X11_refuse rfl _ _ rfl) rfl rfl ?_
  refine v_load (v := (0, 1)) (hT _ zt_X11_refuse rfl _ _ rfl) rfl rfl ?_
  refine v_putf (r := 0) hO (hT _ zt_X11_refuse rfl _ _ rfl) rfl (fun hf6 => ?_)
  refine v_push (0) (hT _ zt_X11_refuse rfl _ _ rfl) rfl ?_
  refine v_ret (hT _ zt_X11_refuse rfl _ _ rfl) (Or.inl rfl) ?_
  show vP D T N 172 19 (zset h 0 0 (0, 1)) [some (2, 0), some (0, a), some (0, i), some (0, b), some (0, j), some (0, n), none, none] [(0, 0)] _
  refine v_ret (hT _ zt_X11_pour rfl _ _ rfl) (Or.inl rfl) ?_
  exact k0 
theorem y_X11_pour_bhi {D : zD} {T : zT} (hT : hTab T) (hO : vOK T) {N : Nat} {h : zH} {Q : zR → Prop} (a i b j n : Int) (hv0 : zHv h) (ha0 : 0 ≤ a) (ha : a < 4) (hb0 : 0 ≤ b) (hb : 4 ≤ b)
    (k0 : Q (zset h 0 0 (0, 1), some (0, 0))) :
    vP D T N 172 0 h [some (2, 0), some (0, a), some (0, i), some (0, b), some (0, j), some (0, n), none, none] [] Q := by
  refine v_load (v := (0, a)) (hT _ zt_X11_pour rfl _ _ rfl) rfl rfl ?_
  refine v_call (w := 1) [some (0, a)] hO (hT _ zt_X11_pour rfl _ _ rfl) rfl rfl ?_
  refine v_load (v := (0, a)) (hT _ zt_X11_isTray rfl _ _ rfl) rfl rfl ?_
  refine v_if (hT _ zt_X11_isTray rfl _ _ rfl) (fun hc1 => absurd (show a < 0 from hc1) (by omega)) (fun _ => ?_)
  refine v_load (v := (0, a)) (hT _ zt_X11_isTray rfl _ _ rfl) rfl rfl ?_
  refine v_push (4) (hT _ zt_X11_isTray rfl _ _ rfl) rfl ?_
  refine v_ic (hT _ zt_X11_isTray rfl _ _ rfl) (fun _ => ?_) (fun hc2 => absurd (show a < 4 from ha) hc2)
  refine v_push (1) (hT _ zt_X11_isTray rfl _ _ rfl) rfl ?_
  refine v_goto (hT _ zt_X11_isTray rfl _ _ rfl) ?_
  refine v_ret (hT _ zt_X11_isTray rfl _ _ rfl) (Or.inl rfl) ?_
  show vP D T N 172 4 h [some (2, 0), some (0, a), some (0, i), some (0, b), some (0, j), some (0, n), none, none] [(0, 1)] _
  refine v_if (hT _ zt_X11_pour rfl _ _ rfl) (fun hc3 => absurd (show (1 : Int) = 0 from hc3) (by decide)) (fun _ => ?_)
  refine v_load (v := (0, b)) (hT _ zt_X11_pour rfl _ _ rfl) rfl rfl ?_
  refine v_call (w := 1) [some (0, b)] hO (hT _ zt_X11_pour rfl _ _ rfl) rfl rfl ?_
  refine v_load (v := (0, b)) (hT _ zt_X11_isTray rfl _ _ rfl) rfl rfl ?_
  refine v_if (hT _ zt_X11_isTray rfl _ _ rfl) (fun hc4 => absurd (show b < 0 from hc4) (by omega)) (fun _ => ?_)
  refine v_load (v := (0, b)) (hT _ zt_X11_isTray rfl _ _ rfl) rfl rfl ?_
  refine v_push (4) (hT _ zt_X11_isTray rfl _ _ rfl) rfl ?_
  refine v_ic (hT _ zt_X11_isTray rfl _ _ rfl) (fun hc5 => absurd (show b < 4 from hc5) (by omega)) (fun _ => ?_)
  refine v_push (0) (hT _ zt_X11_isTray rfl _ _ rfl) rfl ?_
  refine v_ret (hT _ zt_X11_isTray rfl _ _ rfl) (Or.inl rfl) ?_
  show vP D T N 172 11 h [some (2, 0), some (0, a), some (0, i), some (0, b), some (0, j), some (0, n), none, none] [(0, 0)] _
  refine v_if (hT _ zt_X11_pour rfl _ _ rfl) (fun _ => ?_) (fun hc6 => absurd (show (0 : Int) = 0 from (by decide)) hc6)
  refine v_load (v := (2, 0)) (hT _ zt_X11_pour rfl _ _ rfl) rfl rfl ?_
  refine v_push (1) (hT _ zt_X11_pour rfl _ _ rfl) rfl ?_
  refine v_call (w := 2) [some (2, 0), some (0, 1)] hO (hT _ zt_X11_pour rfl _ _ rfl) rfl rfl ?_
  refine v_load (v := (2, 0)) (hT _ zt_X11_refuse rfl _ _ rfl) rfl rfl ?_
  refine v_load (v := (0, 1)) (hT _ zt_X11_refuse rfl _ _ rfl) rfl rfl ?_
  refine v_putf (r := 0) hO (hT _ zt_X11_refuse rfl _ _ rfl) rfl (fun hf7 => ?_)
  refine v_push (0) (hT _ zt_X11_refuse rfl _ _ rfl) rfl ?_
  refine v_ret (hT _ zt_X11_refuse rfl _ _ rfl) (Or.inl rfl) ?_
  show vP D T N 172 19 (zset h 0 0 (0, 1)) [some (2, 0), some (0, a), some (0, i), some (0, b), some (0, j), some (0, n), none, none] [(0, 0)] _
  refine v_ret (hT _ zt_X11_pour rfl _ _ rfl) (Or.inl rfl) ?_
  exact k0 
theorem y_X12_pour {D : zD} {T : zT} (hT : hTab T) (hO : vOK T) {N : Nat} {h : zH} {Q : zR → Prop} (a i b j n : Int) (hv0 : zHv h) (hi : -2147483648 ≤ i ∧ i ≤ 2147483647) (hj : -2147483648 ≤ j ∧ j ≤ 2147483647) (hn : -2147483648 ≤ n ∧ n ≤ 2147483647)
    (k0 : (a < 0) → Q (zset (zset (zset h 121 1 (0, 0)) 121 0 (0, 0)) 121 0 (0, 1), some (0, 0)))
    (k1 : (0 ≤ a) → (a < 4) → (b < 0) → Q (zset (zset (zset h 121 1 (0, 0)) 121 0 (0, 0)) 121 0 (0, 1), some (0, 0)))
    (k2 : (0 ≤ a) → (a < 4) → (0 ≤ b) → (b < 4) → ((h 123 a.toNat).2 < 0) → Q (zset (zset (zset h 121 1 (0, 0)) 121 0 (0, 0)) 121 0 (0, 3), some (0, 0)))
    (k3 : (0 ≤ a) → (a < 4) → (0 ≤ b) → (b < 4) → (0 ≤ (h 123 a.toNat).2) → ((h 123 b.toNat).2 < 0) → Q (zset (zset (zset h 121 1 (0, 0)) 121 0 (0, 0)) 121 0 (0, 3), some (0, 0)))
    (k4 : (0 ≤ a) → (a < 4) → (0 ≤ b) → (b < 4) → (0 ≤ (h 123 a.toNat).2) → (0 ≤ (h 123 b.toNat).2) → ((h 122 a.toNat).2 = (h 122 b.toNat).2) → (n < 0) → Q (zset (zset (zset h 121 1 (0, 0)) 121 0 (0, 0)) 121 0 (0, 6), some (0, 0)))
    (k5 : (0 ≤ a) → (a < 4) → (0 ≤ b) → (b < 4) → (0 ≤ (h 123 a.toNat).2) → (0 ≤ (h 123 b.toNat).2) → ((h 122 a.toNat).2 = (h 122 b.toNat).2) → (0 ≤ n) → (i < 0) → Q (zset (zset (zset h 121 1 (0, 0)) 121 0 (0, 0)) 121 0 (0, 4), some (0, 0)))
    (k6 : (0 ≤ a) → (a < 4) → (0 ≤ b) → (b < 4) → (0 ≤ (h 123 a.toNat).2) → (0 ≤ (h 123 b.toNat).2) → ((h 122 a.toNat).2 = (h 122 b.toNat).2) → (0 ≤ n) → (0 ≤ i) → (j < 0) → Q (zset (zset (zset h 121 1 (0, 0)) 121 0 (0, 0)) 121 0 (0, 4), some (0, 0)))
    (k7 : (0 ≤ a) → (a < 4) → (0 ≤ b) → (b < 4) → (0 ≤ (h 123 a.toNat).2) → (0 ≤ (h 123 b.toNat).2) → ((h 122 a.toNat).2 = (h 122 b.toNat).2) → (0 ≤ n) → (0 ≤ i) → (0 ≤ j) → ((h 123 a.toNat).2 < (i + n)) → Q (zset (zset (zset h 121 1 (0, 0)) 121 0 (0, 0)) 121 0 (0, 4), some (0, 0)))
    (k8 : (0 ≤ a) → (a < 4) → (0 ≤ b) → (b < 4) → (0 ≤ (h 123 a.toNat).2) → (0 ≤ (h 123 b.toNat).2) → ((h 122 a.toNat).2 = (h 122 b.toNat).2) → (0 ≤ n) → (0 ≤ i) → (0 ≤ j) → ((i + n) ≤ (h 123 a.toNat).2) → ((h 123 b.toNat).2 < (j + n)) → Q (zset (zset (zset h 121 1 (0, 0)) 121 0 (0, 0)) 121 0 (0, 4), some (0, 0)))
    (k9 : (0 ≤ a) → (a < 4) → (0 ≤ b) → (b < 4) → (0 ≤ (h 123 a.toNat).2) → (0 ≤ (h 123 b.toNat).2) → ((h 122 a.toNat).2 = (h 122 b.toNat).2) → (0 ≤ n) → (0 ≤ i) → (0 ≤ j) → ((i + n) ≤ (h 123 a.toNat).2) → ((j + n) ≤ (h 123 b.toNat).2) → (i < j) → vP D T N 291 158 (zset (zset h 121 1 (0, 0)) 121 0 (0, 0)) [some (2, 121), some (0, a), some (0, i), some (0, b), some (0, j), some (0, n), some (0, 1), some (0, 0), none] [] Q)
    (k10 : (0 ≤ a) → (a < 4) → (0 ≤ b) → (b < 4) → (0 ≤ (h 123 a.toNat).2) → (0 ≤ (h 123 b.toNat).2) → ((h 122 a.toNat).2 = (h 122 b.toNat).2) → (0 ≤ n) → (0 ≤ i) → (0 ≤ j) → ((i + n) ≤ (h 123 a.toNat).2) → ((j + n) ≤ (h 123 b.toNat).2) → (j ≤ i) → vP D T N 291 158 (zset (zset h 121 1 (0, 0)) 121 0 (0, 0)) [some (2, 121), some (0, a), some (0, i), some (0, b), some (0, j), some (0, n), some (0, 0), some (0, 0), none] [] Q)
    (k11 : (0 ≤ a) → (a < 4) → (0 ≤ b) → (b < 4) → (0 ≤ (h 123 a.toNat).2) → (0 ≤ (h 123 b.toNat).2) → ((h 122 a.toNat).2 ≠ (h 122 b.toNat).2) → Q (zset (zset (zset h 121 1 (0, 0)) 121 0 (0, 0)) 121 0 (0, 11), some (0, 0)))
    (k12 : (0 ≤ a) → (a < 4) → (0 ≤ b) → (4 ≤ b) → Q (zset (zset (zset h 121 1 (0, 0)) 121 0 (0, 0)) 121 0 (0, 1), some (0, 0)))
    (k13 : (0 ≤ a) → (4 ≤ a) → Q (zset (zset (zset h 121 1 (0, 0)) 121 0 (0, 0)) 121 0 (0, 1), some (0, 0))) :
    vP D T N 291 0 h [some (2, 121), some (0, a), some (0, i), some (0, b), some (0, j), some (0, n), none, none, none] [] Q := by
  refine v_load (v := (2, 121)) (hT _ zt_X12_pour rfl _ _ rfl) rfl rfl ?_
  refine v_push (0) (hT _ zt_X12_pour rfl _ _ rfl) rfl ?_
  refine v_putf (r := 121) hO (hT _ zt_X12_pour rfl _ _ rfl) rfl (fun hf1 => ?_)
  refine v_load (v := (2, 121)) (hT _ zt_X12_pour rfl _ _ rfl) rfl rfl ?_
  refine v_push (0) (hT _ zt_X12_pour rfl _ _ rfl) rfl ?_
  refine v_putf (r := 121) hO (hT _ zt_X12_pour rfl _ _ rfl) rfl (fun hf2 => ?_)
  refine v_load (v := (0, a)) (hT _ zt_X12_pour rfl _ _ rfl) rfl rfl ?_
  refine v_if (hT _ zt_X12_pour rfl _ _ rfl) (fun hc3 => ?_) (fun hc3 => ?_)
  · have hc3 : a < 0 := hc3
    refine v_load (v := (2, 121)) (hT _ zt_X12_pour rfl _ _ rfl) rfl rfl ?_
    refine v_push (1) (hT _ zt_X12_pour rfl _ _ rfl) rfl ?_
    refine v_call (w := 2) [some (2, 121), some (0, 1)] hO (hT _ zt_X12_pour rfl _ _ rfl) rfl rfl ?_
    refine v_load (v := (2, 121)) (hT _ zt_X12_no rfl _ _ rfl) rfl rfl ?_
    refine v_load (v := (0, 1)) (hT _ zt_X12_no rfl _ _ rfl) rfl rfl ?_
    refine v_putf (r := 121) hO (hT _ zt_X12_no rfl _ _ rfl) rfl (fun hf4 => ?_)
    refine v_push (0) (hT _ zt_X12_no rfl _ _ rfl) rfl ?_
    refine v_ret (hT _ zt_X12_no rfl _ _ rfl) (Or.inl rfl) ?_
    show vP D T N 291 33 (zset (zset (zset h 121 1 (0, 0)) 121 0 (0, 0)) 121 0 (0, 1)) [some (2, 121), some (0, a), some (0, i), some (0, b), some (0, j), some (0, n), none, none, none] [(0, 0)] _
    refine v_ret (hT _ zt_X12_pour rfl _ _ rfl) (Or.inl rfl) ?_
    exact k0 hc3
  · have hc3 : 0 ≤ a := Int.not_lt.mp hc3
    refine v_load (v := (0, a)) (hT _ zt_X12_pour rfl _ _ rfl) rfl rfl ?_
    refine v_push (4) (hT _ zt_X12_pour rfl _ _ rfl) rfl ?_
    refine v_ic (hT _ zt_X12_pour rfl _ _ rfl) (fun hc5 => ?_) (fun hc5 => ?_)
    · have hc5 : a < 4 := hc5
      refine v_load (v := (0, b)) (hT _ zt_X12_pour rfl _ _ rfl) rfl rfl ?_
      refine v_if (hT _ zt_X12_pour rfl _ _ rfl) (fun hc6 => ?_) (fun hc6 => ?_)
      · have hc6 : b < 0 := hc6
        refine v_load (v := (2, 121)) (hT _ zt_X12_pour rfl _ _ rfl) rfl rfl ?_
        refine v_push (1) (hT _ zt_X12_pour rfl _ _ rfl) rfl ?_
        refine v_call (w := 2) [some (2, 121), some (0, 1)] hO (hT _ zt_X12_pour rfl _ _ rfl) rfl rfl ?_
        refine v_load (v := (2, 121)) (hT _ zt_X12_no rfl _ _ rfl) rfl rfl ?_
        refine v_load (v := (0, 1)) (hT _ zt_X12_no rfl _ _ rfl) rfl rfl ?_
        refine v_putf (r := 121) hO (hT _ zt_X12_no rfl _ _ rfl) rfl (fun hf7 => ?_)
        refine v_push (0) (hT _ zt_X12_no rfl _ _ rfl) rfl ?_
        refine v_ret (hT _ zt_X12_no rfl _ _ rfl) (Or.inl rfl) ?_
        show vP D T N 291 33 (zset (zset (zset h 121 1 (0, 0)) 121 0 (0, 0)) 121 0 (0, 1)) [some (2, 121), some (0, a), some (0, i), some (0, b), some (0, j), some (0, n), none, none, none] [(0, 0)] _
        refine v_ret (hT _ zt_X12_pour rfl _ _ rfl) (Or.inl rfl) ?_
        exact k1 hc3 hc5 hc6
      · have hc6 : 0 ≤ b := Int.not_lt.mp hc6
        refine v_load (v := (0, b)) (hT _ zt_X12_pour rfl _ _ rfl) rfl rfl ?_
        refine v_push (4) (hT _ zt_X12_pour rfl _ _ rfl) rfl ?_
        refine v_ic (hT _ zt_X12_pour rfl _ _ rfl) (fun hc8 => ?_) (fun hc8 => ?_)
        · have hc8 : b < 4 := hc8
          refine v_load (v := (2, 121)) (hT _ zt_X12_pour rfl _ _ rfl) rfl rfl ?_
          refine v_getR (c := 123) (r := 121) (hT _ zt_X12_pour rfl _ _ rfl) rfl rfl rfl ?_
          refine v_load (v := (0, a)) (hT _ zt_X12_pour rfl _ _ rfl) rfl rfl ?_
          refine v_aldE (t := 0) (r := 123) (w := (h 123 a.toNat).2) (hT _ zt_X12_pour rfl _ _ rfl) rfl rfl rfl (congrArg Prod.snd (Eq.trans (zset_ne (fun c => absurd c.1 (by decide))) (zset_ne (fun c => absurd c.1 (by decide))))) (fun ha9 hb10 => ?_)
          refine v_if (hT _ zt_X12_pour rfl _ _ rfl) (fun hc11 => ?_) (fun hc11 => ?_)
          · have hc11 : (h 123 a.toNat).2 < 0 := hc11
            refine v_load (v := (2, 121)) (hT _ zt_X12_pour rfl _ _ rfl) rfl rfl ?_
            refine v_push (3) (hT _ zt_X12_pour rfl _ _ rfl) rfl ?_
            refine v_call (w := 2) [some (2, 121), some (0, 3)] hO (hT _ zt_X12_pour rfl _ _ rfl) rfl rfl ?_
            refine v_load (v := (2, 121)) (hT _ zt_X12_no rfl _ _ rfl) rfl rfl ?_
            refine v_load (v := (0, 3)) (hT _ zt_X12_no rfl _ _ rfl) rfl rfl ?_
            refine v_putf (r := 121) hO (hT _ zt_X12_no rfl _ _ rfl) rfl (fun hf12 => ?_)
            refine v_push (0) (hT _ zt_X12_no rfl _ _ rfl) rfl ?_
            refine v_ret (hT _ zt_X12_no rfl _ _ rfl) (Or.inl rfl) ?_
            show vP D T N 291 57 (zset (zset (zset h 121 1 (0, 0)) 121 0 (0, 0)) 121 0 (0, 3)) [some (2, 121), some (0, a), some (0, i), some (0, b), some (0, j), some (0, n), none, none, none] [(0, 0)] _
            refine v_ret (hT _ zt_X12_pour rfl _ _ rfl) (Or.inl rfl) ?_
            exact k2 hc3 hc5 hc6 hc8 hc11
          · have hc11 : 0 ≤ (h 123 a.toNat).2 := Int.not_lt.mp hc11
            refine v_load (v := (2, 121)) (hT _ zt_X12_pour rfl _ _ rfl) rfl rfl ?_
            refine v_getR (c := 123) (r := 121) (hT _ zt_X12_pour rfl _ _ rfl) rfl rfl rfl ?_
            refine v_load (v := (0, b)) (hT _ zt_X12_pour rfl _ _ rfl) rfl rfl ?_
            refine v_aldE (t := 0) (r := 123) (w := (h 123 b.toNat).2) (hT _ zt_X12_pour rfl _ _ rfl) rfl rfl rfl (congrArg Prod.snd (Eq.trans (zset_ne (fun c => absurd c.1 (by decide))) (zset_ne (fun c => absurd c.1 (by decide))))) (fun ha13 hb14 => ?_)
            refine v_if (hT _ zt_X12_pour rfl _ _ rfl) (fun hc15 => ?_) (fun hc15 => ?_)
            · have hc15 : (h 123 b.toNat).2 < 0 := hc15
              refine v_load (v := (2, 121)) (hT _ zt_X12_pour rfl _ _ rfl) rfl rfl ?_
              refine v_push (3) (hT _ zt_X12_pour rfl _ _ rfl) rfl ?_
              refine v_call (w := 2) [some (2, 121), some (0, 3)] hO (hT _ zt_X12_pour rfl _ _ rfl) rfl rfl ?_
              refine v_load (v := (2, 121)) (hT _ zt_X12_no rfl _ _ rfl) rfl rfl ?_
              refine v_load (v := (0, 3)) (hT _ zt_X12_no rfl _ _ rfl) rfl rfl ?_
              refine v_putf (r := 121) hO (hT _ zt_X12_no rfl _ _ rfl) rfl (fun hf16 => ?_)
              refine v_push (0) (hT _ zt_X12_no rfl _ _ rfl) rfl ?_
              refine v_ret (hT _ zt_X12_no rfl _ _ rfl) (Or.inl rfl) ?_
              show vP D T N 291 57 (zset (zset (zset h 121 1 (0, 0)) 121 0 (0, 0)) 121 0 (0, 3)) [some (2, 121), some (0, a), some (0, i), some (0, b), some (0, j), some (0, n), none, none, none] [(0, 0)] _
              refine v_ret (hT _ zt_X12_pour rfl _ _ rfl) (Or.inl rfl) ?_
              exact k3 hc3 hc5 hc6 hc8 hc11 hc15
            · have hc15 : 0 ≤ (h 123 b.toNat).2 := Int.not_lt.mp hc15
              refine v_load (v := (2, 121)) (hT _ zt_X12_pour rfl _ _ rfl) rfl rfl ?_
              refine v_getR (c := 122) (r := 121) (hT _ zt_X12_pour rfl _ _ rfl) rfl rfl rfl ?_
              refine v_load (v := (0, a)) (hT _ zt_X12_pour rfl _ _ rfl) rfl rfl ?_
              refine v_aldE (t := 0) (r := 122) (w := (h 122 a.toNat).2) (hT _ zt_X12_pour rfl _ _ rfl) rfl rfl rfl (congrArg Prod.snd (Eq.trans (zset_ne (fun c => absurd c.1 (by decide))) (zset_ne (fun c => absurd c.1 (by decide))))) (fun ha17 hb18 => ?_)
              refine v_load (v := (2, 121)) (hT _ zt_X12_pour rfl _ _ rfl) rfl rfl ?_
              refine v_getR (c := 122) (r := 121) (hT _ zt_X12_pour rfl _ _ rfl) rfl rfl rfl ?_
              refine v_load (v := (0, b)) (hT _ zt_X12_pour rfl _ _ rfl) rfl rfl ?_
              refine v_aldE (t := 0) (r := 122) (w := (h 122 b.toNat).2) (hT _ zt_X12_pour rfl _ _ rfl) rfl rfl rfl (congrArg Prod.snd (Eq.trans (zset_ne (fun c => absurd c.1 (by decide))) (zset_ne (fun c => absurd c.1 (by decide))))) (fun ha19 hb20 => ?_)
              refine v_ic (hT _ zt_X12_pour rfl _ _ rfl) (fun hc21 => ?_) (fun hc21 => ?_)
              · have hc21 : (h 122 a.toNat).2 = (h 122 b.toNat).2 := hc21
                refine v_load (v := (0, n)) (hT _ zt_X12_pour rfl _ _ rfl) rfl rfl ?_
                refine v_if (hT _ zt_X12_pour rfl _ _ rfl) (fun hc22 => ?_) (fun hc22 => ?_)
                · have hc22 : n < 0 := hc22
                  refine v_load (v := (2, 121)) (hT _ zt_X12_pour rfl _ _ rfl) rfl rfl ?_
                  refine v_push (6) (hT _ zt_X12_pour rfl _ _ rfl) rfl ?_
                  refine v_call (w := 2) [some (2, 121), some (0, 6)] hO (hT _ zt_X12_pour rfl _ _ rfl) rfl rfl ?_
                  refine v_load (v := (2, 121)) (hT _ zt_X12_no rfl _ _ rfl) rfl rfl ?_
                  refine v_load (v := (0, 6)) (hT _ zt_X12_no rfl _ _ rfl) rfl rfl ?_
                  refine v_putf (r := 121) hO (hT _ zt_X12_no rfl _ _ rfl) rfl (fun hf23 => ?_)
                  refine v_push (0) (hT _ zt_X12_no rfl _ _ rfl) rfl ?_
                  refine v_ret (hT _ zt_X12_no rfl _ _ rfl) (Or.inl rfl) ?_
                  show vP D T N 291 91 (zset (zset (zset h 121 1 (0, 0)) 121 0 (0, 0)) 121 0 (0, 6)) [some (2, 121), some (0, a), some (0, i), some (0, b), some (0, j), some (0, n), none, none, none] [(0, 0)] _
                  refine v_ret (hT _ zt_X12_pour rfl _ _ rfl) (Or.inl rfl) ?_
                  exact k4 hc3 hc5 hc6 hc8 hc11 hc15 hc21 hc22
                · have hc22 : 0 ≤ n := Int.not_lt.mp hc22
                  refine v_load (v := (0, i)) (hT _ zt_X12_pour rfl _ _ rfl) rfl rfl ?_
                  refine v_if (hT _ zt_X12_pour rfl _ _ rfl) (fun hc24 => ?_) (fun hc24 => ?_)
                  · have hc24 : i < 0 := hc24
                    refine v_load (v := (2, 121)) (hT _ zt_X12_pour rfl _ _ rfl) rfl rfl ?_
                    refine v_push (4) (hT _ zt_X12_pour rfl _ _ rfl) rfl ?_
                    refine v_call (w := 2) [some (2, 121), some (0, 4)] hO (hT _ zt_X12_pour rfl _ _ rfl) rfl rfl ?_
                    refine v_load (v := (2, 121)) (hT _ zt_X12_no rfl _ _ rfl) rfl rfl ?_
                    refine v_load (v := (0, 4)) (hT _ zt_X12_no rfl _ _ rfl) rfl rfl ?_
                    refine v_putf (r := 121) hO (hT _ zt_X12_no rfl _ _ rfl) rfl (fun hf25 => ?_)
                    refine v_push (0) (hT _ zt_X12_no rfl _ _ rfl) rfl ?_
                    refine v_ret (hT _ zt_X12_no rfl _ _ rfl) (Or.inl rfl) ?_
                    show vP D T N 291 141 (zset (zset (zset h 121 1 (0, 0)) 121 0 (0, 0)) 121 0 (0, 4)) [some (2, 121), some (0, a), some (0, i), some (0, b), some (0, j), some (0, n), none, none, none] [(0, 0)] _
                    refine v_ret (hT _ zt_X12_pour rfl _ _ rfl) (Or.inl rfl) ?_
                    exact k5 hc3 hc5 hc6 hc8 hc11 hc15 hc21 hc22 hc24
                  · have hc24 : 0 ≤ i := Int.not_lt.mp hc24
                    refine v_load (v := (0, j)) (hT _ zt_X12_pour rfl _ _ rfl) rfl rfl ?_
                    refine v_if (hT _ zt_X12_pour rfl _ _ rfl) (fun hc26 => ?_) (fun hc26 => ?_)
                    · have hc26 : j < 0 := hc26
                      refine v_load (v := (2, 121)) (hT _ zt_X12_pour rfl _ _ rfl) rfl rfl ?_
                      refine v_push (4) (hT _ zt_X12_pour rfl _ _ rfl) rfl ?_
                      refine v_call (w := 2) [some (2, 121), some (0, 4)] hO (hT _ zt_X12_pour rfl _ _ rfl) rfl rfl ?_
                      refine v_load (v := (2, 121)) (hT _ zt_X12_no rfl _ _ rfl) rfl rfl ?_
                      refine v_load (v := (0, 4)) (hT _ zt_X12_no rfl _ _ rfl) rfl rfl ?_
                      refine v_putf (r := 121) hO (hT _ zt_X12_no rfl _ _ rfl) rfl (fun hf27 => ?_)
                      refine v_push (0) (hT _ zt_X12_no rfl _ _ rfl) rfl ?_
                      refine v_ret (hT _ zt_X12_no rfl _ _ rfl) (Or.inl rfl) ?_
                      show vP D T N 291 141 (zset (zset (zset h 121 1 (0, 0)) 121 0 (0, 0)) 121 0 (0, 4)) [some (2, 121), some (0, a), some (0, i), some (0, b), some (0, j), some (0, n), none, none, none] [(0, 0)] _
                      refine v_ret (hT _ zt_X12_pour rfl _ _ rfl) (Or.inl rfl) ?_
                      exact k6 hc3 hc5 hc6 hc8 hc11 hc15 hc21 hc22 hc24 hc26
                    · have hc26 : 0 ≤ j := Int.not_lt.mp hc26
                      refine v_load (v := (0, i)) (hT _ zt_X12_pour rfl _ _ rfl) rfl rfl ?_
                      refine v_i2l (hT _ zt_X12_pour rfl _ _ rfl) ?_
                      refine v_load (v := (0, n)) (hT _ zt_X12_pour rfl _ _ rfl) rfl rfl ?_
                      refine v_i2l (hT _ zt_X12_pour rfl _ _ rfl) ?_
                      refine v_bin64 (w := (i + n)) (hT _ zt_X12_pour rfl _ _ rfl) (vz_addL (by omega) (by omega)) ?_
                      refine v_load (v := (2, 121)) (hT _ zt_X12_pour rfl _ _ rfl) rfl rfl ?_
                      refine v_getR (c := 123) (r := 121) (hT _ zt_X12_pour rfl _ _ rfl) rfl rfl rfl ?_
                      refine v_load (v := (0, a)) (hT _ zt_X12_pour rfl _ _ rfl) rfl rfl ?_
                      refine v_aldE (t := 0) (r := 123) (w := (h 123 a.toNat).2) (hT _ zt_X12_pour rfl _ _ rfl) rfl rfl rfl (congrArg Prod.snd (Eq.trans (zset_ne (fun c => absurd c.1 (by decide))) (zset_ne (fun c => absurd c.1 (by decide))))) (fun ha28 hb29 => ?_)
                      refine v_i2l (hT _ zt_X12_pour rfl _ _ rfl) ?_
                      refine v_lif (hT _ zt_X12_pour rfl _ _ rfl) (hT _ zt_X12_pour rfl _ _ rfl) (fun hc30 => ?_) (fun hc30 => ?_)
                      · have hc30 : (h 123 a.toNat).2 < (i + n) := hc30
                        refine v_load (v := (2, 121)) (hT _ zt_X12_pour rfl _ _ rfl) rfl rfl ?_
                        refine v_push (4) (hT _ zt_X12_pour rfl _ _ rfl) rfl ?_
                        refine v_call (w := 2) [some (2, 121), some (0, 4)] hO (hT _ zt_X12_pour rfl _ _ rfl) rfl rfl ?_
                        refine v_load (v := (2, 121)) (hT _ zt_X12_no rfl _ _ rfl) rfl rfl ?_
                        refine v_load (v := (0, 4)) (hT _ zt_X12_no rfl _ _ rfl) rfl rfl ?_
                        refine v_putf (r := 121) hO (hT _ zt_X12_no rfl _ _ rfl) rfl (fun hf31 => ?_)
                        refine v_push (0) (hT _ zt_X12_no rfl _ _ rfl) rfl ?_
                        refine v_ret (hT _ zt_X12_no rfl _ _ rfl) (Or.inl rfl) ?_
                        show vP D T N 291 141 (zset (zset (zset h 121 1 (0, 0)) 121 0 (0, 0)) 121 0 (0, 4)) [some (2, 121), some (0, a), some (0, i), some (0, b), some (0, j), some (0, n), none, none, none] [(0, 0)] _
                        refine v_ret (hT _ zt_X12_pour rfl _ _ rfl) (Or.inl rfl) ?_
                        exact k7 hc3 hc5 hc6 hc8 hc11 hc15 hc21 hc22 hc24 hc26 hc30
                      · have hc30 : (i + n) ≤ (h 123 a.toNat).2 := Int.not_lt.mp hc30
                        refine v_load (v := (0, j)) (hT _ zt_X12_pour rfl _ _ rfl) rfl rfl ?_
                        refine v_i2l (hT _ zt_X12_pour rfl _ _ rfl) ?_
                        refine v_load (v := (0, n)) (hT _ zt_X12_pour rfl _ _ rfl) rfl rfl ?_
                        refine v_i2l (hT _ zt_X12_pour rfl _ _ rfl) ?_
                        refine v_bin64 (w := (j + n)) (hT _ zt_X12_pour rfl _ _ rfl) (vz_addL (by omega) (by omega)) ?_
                        refine v_load (v := (2, 121)) (hT _ zt_X12_pour rfl _ _ rfl) rfl rfl ?_
                        refine v_getR (c := 123) (r := 121) (hT _ zt_X12_pour rfl _ _ rfl) rfl rfl rfl ?_
                        refine v_load (v := (0, b)) (hT _ zt_X12_pour rfl _ _ rfl) rfl rfl ?_
                        refine v_aldE (t := 0) (r := 123) (w := (h 123 b.toNat).2) (hT _ zt_X12_pour rfl _ _ rfl) rfl rfl rfl (congrArg Prod.snd (Eq.trans (zset_ne (fun c => absurd c.1 (by decide))) (zset_ne (fun c => absurd c.1 (by decide))))) (fun ha32 hb33 => ?_)
                        refine v_i2l (hT _ zt_X12_pour rfl _ _ rfl) ?_
                        refine v_lif (hT _ zt_X12_pour rfl _ _ rfl) (hT _ zt_X12_pour rfl _ _ rfl) (fun hc34 => ?_) (fun hc34 => ?_)
                        · have hc34 : (h 123 b.toNat).2 < (j + n) := hc34
                          refine v_load (v := (2, 121)) (hT _ zt_X12_pour rfl _ _ rfl) rfl rfl ?_
                          refine v_push (4) (hT _ zt_X12_pour rfl _ _ rfl) rfl ?_
                          refine v_call (w := 2) [some (2, 121), some (0, 4)] hO (hT _ zt_X12_pour rfl _ _ rfl) rfl rfl ?_
                          refine v_load (v := (2, 121)) (hT _ zt_X12_no rfl _ _ rfl) rfl rfl ?_
                          refine v_load (v := (0, 4)) (hT _ zt_X12_no rfl _ _ rfl) rfl rfl ?_
                          refine v_putf (r := 121) hO (hT _ zt_X12_no rfl _ _ rfl) rfl (fun hf35 => ?_)
                          refine v_push (0) (hT _ zt_X12_no rfl _ _ rfl) rfl ?_
                          refine v_ret (hT _ zt_X12_no rfl _ _ rfl) (Or.inl rfl) ?_
                          show vP D T N 291 141 (zset (zset (zset h 121 1 (0, 0)) 121 0 (0, 0)) 121 0 (0, 4)) [some (2, 121), some (0, a), some (0, i), some (0, b), some (0, j), some (0, n), none, none, none] [(0, 0)] _
                          refine v_ret (hT _ zt_X12_pour rfl _ _ rfl) (Or.inl rfl) ?_
                          exact k8 hc3 hc5 hc6 hc8 hc11 hc15 hc21 hc22 hc24 hc26 hc30 hc34
                        · have hc34 : (j + n) ≤ (h 123 b.toNat).2 := Int.not_lt.mp hc34
                          refine v_load (v := (0, i)) (hT _ zt_X12_pour rfl _ _ rfl) rfl rfl ?_
                          refine v_load (v := (0, j)) (hT _ zt_X12_pour rfl _ _ rfl) rfl rfl ?_
                          refine v_ic (hT _ zt_X12_pour rfl _ _ rfl) (fun hc36 => ?_) (fun hc36 => ?_)
                          · have hc36 : i < j := hc36
                            refine v_push (1) (hT _ zt_X12_pour rfl _ _ rfl) rfl ?_
                            refine v_goto (hT _ zt_X12_pour rfl _ _ rfl) ?_
                            refine v_store1 [some (2, 121), some (0, a), some (0, i), some (0, b), some (0, j), some (0, n), some (0, 1), none, none] (hT _ zt_X12_pour rfl _ _ rfl) ⟨rfl, Nat.ne_of_beq_eq_false rfl⟩ (Nat.le_of_ble_eq_true rfl) rfl ?_
                            refine v_push (0) (hT _ zt_X12_pour rfl _ _ rfl) rfl ?_
                            refine v_store1 [some (2, 121), some (0, a), some (0, i), some (0, b), some (0, j), some (0, n), some (0, 1), some (0, 0), none] (hT _ zt_X12_pour rfl _ _ rfl) ⟨rfl, Nat.ne_of_beq_eq_false rfl⟩ (Nat.le_of_ble_eq_true rfl) rfl ?_
                            exact k9 hc3 hc5 hc6 hc8 hc11 hc15 hc21 hc22 hc24 hc26 hc30 hc34 hc36
                          · have hc36 : j ≤ i := Int.not_lt.mp hc36
                            refine v_push (0) (hT _ zt_X12_pour rfl _ _ rfl) rfl ?_
                            refine v_store1 [some (2, 121), some (0, a), some (0, i), some (0, b), some (0, j), some (0, n), some (0, 0), none, none] (hT _ zt_X12_pour rfl _ _ rfl) ⟨rfl, Nat.ne_of_beq_eq_false rfl⟩ (Nat.le_of_ble_eq_true rfl) rfl ?_
                            refine v_push (0) (hT _ zt_X12_pour rfl _ _ rfl) rfl ?_
                            refine v_store1 [some (2, 121), some (0, a), some (0, i), some (0, b), some (0, j), some (0, n), some (0, 0), some (0, 0), none] (hT _ zt_X12_pour rfl _ _ rfl) ⟨rfl, Nat.ne_of_beq_eq_false rfl⟩ (Nat.le_of_ble_eq_true rfl) rfl ?_
                            exact k10 hc3 hc5 hc6 hc8 hc11 hc15 hc21 hc22 hc24 hc26 hc30 hc34 hc36
              · have hc21 : (h 122 a.toNat).2 ≠ (h 122 b.toNat).2 := hc21
                refine v_load (v := (2, 121)) (hT _ zt_X12_pour rfl _ _ rfl) rfl rfl ?_
                refine v_push (11) (hT _ zt_X12_pour rfl _ _ rfl) rfl ?_
                refine v_call (w := 2) [some (2, 121), some (0, 11)] hO (hT _ zt_X12_pour rfl _ _ rfl) rfl rfl ?_
                refine v_load (v := (2, 121)) (hT _ zt_X12_no rfl _ _ rfl) rfl rfl ?_
                refine v_load (v := (0, 11)) (hT _ zt_X12_no rfl _ _ rfl) rfl rfl ?_
                refine v_putf (r := 121) hO (hT _ zt_X12_no rfl _ _ rfl) rfl (fun hf37 => ?_)
                refine v_push (0) (hT _ zt_X12_no rfl _ _ rfl) rfl ?_
                refine v_ret (hT _ zt_X12_no rfl _ _ rfl) (Or.inl rfl) ?_
                show vP D T N 291 79 (zset (zset (zset h 121 1 (0, 0)) 121 0 (0, 0)) 121 0 (0, 11)) [some (2, 121), some (0, a), some (0, i), some (0, b), some (0, j), some (0, n), none, none, none] [(0, 0)] _
                refine v_ret (hT _ zt_X12_pour rfl _ _ rfl) (Or.inl rfl) ?_
                exact k11 hc3 hc5 hc6 hc8 hc11 hc15 hc21
        · have hc8 : 4 ≤ b := Int.not_lt.mp hc8
          refine v_load (v := (2, 121)) (hT _ zt_X12_pour rfl _ _ rfl) rfl rfl ?_
          refine v_push (1) (hT _ zt_X12_pour rfl _ _ rfl) rfl ?_
          refine v_call (w := 2) [some (2, 121), some (0, 1)] hO (hT _ zt_X12_pour rfl _ _ rfl) rfl rfl ?_
          refine v_load (v := (2, 121)) (hT _ zt_X12_no rfl _ _ rfl) rfl rfl ?_
          refine v_load (v := (0, 1)) (hT _ zt_X12_no rfl _ _ rfl) rfl rfl ?_
          refine v_putf (r := 121) hO (hT _ zt_X12_no rfl _ _ rfl) rfl (fun hf38 => ?_)
          refine v_push (0) (hT _ zt_X12_no rfl _ _ rfl) rfl ?_
          refine v_ret (hT _ zt_X12_no rfl _ _ rfl) (Or.inl rfl) ?_
          show vP D T N 291 33 (zset (zset (zset h 121 1 (0, 0)) 121 0 (0, 0)) 121 0 (0, 1)) [some (2, 121), some (0, a), some (0, i), some (0, b), some (0, j), some (0, n), none, none, none] [(0, 0)] _
          refine v_ret (hT _ zt_X12_pour rfl _ _ rfl) (Or.inl rfl) ?_
          exact k12 hc3 hc5 hc6 hc8
    · have hc5 : 4 ≤ a := Int.not_lt.mp hc5
      refine v_load (v := (2, 121)) (hT _ zt_X12_pour rfl _ _ rfl) rfl rfl ?_
      refine v_push (1) (hT _ zt_X12_pour rfl _ _ rfl) rfl ?_
      refine v_call (w := 2) [some (2, 121), some (0, 1)] hO (hT _ zt_X12_pour rfl _ _ rfl) rfl rfl ?_
      refine v_load (v := (2, 121)) (hT _ zt_X12_no rfl _ _ rfl) rfl rfl ?_
      refine v_load (v := (0, 1)) (hT _ zt_X12_no rfl _ _ rfl) rfl rfl ?_
      refine v_putf (r := 121) hO (hT _ zt_X12_no rfl _ _ rfl) rfl (fun hf39 => ?_)
      refine v_push (0) (hT _ zt_X12_no rfl _ _ rfl) rfl ?_
      refine v_ret (hT _ zt_X12_no rfl _ _ rfl) (Or.inl rfl) ?_
      show vP D T N 291 33 (zset (zset (zset h 121 1 (0, 0)) 121 0 (0, 0)) 121 0 (0, 1)) [some (2, 121), some (0, a), some (0, i), some (0, b), some (0, j), some (0, n), none, none, none] [(0, 0)] _
      refine v_ret (hT _ zt_X12_pour rfl _ _ rfl) (Or.inl rfl) ?_
      exact k13 hc3 hc5
theorem y_X12_pour1o {D : zD} {T : zT} (hT : hTab T) (hO : vOK T) {N : Nat} {h : zH} {Q : zR → Prop} (a i b j n r k : Int) (o : Option zV) (hv0 : zHv h) (ha : 0 ≤ a ∧ a < 4) (hb : 0 ≤ b ∧ b < 4) (hi : 0 ≤ i ∧ i + n ≤ 60) (hj : 0 ≤ j ∧ j + n ≤ 60) (hk : 0 ≤ k)
    (k0 : (k < n) → (r = 0) → (0 ≤ (((60 * a) + i) + k)) → ((((60 * a) + i) + k) < 240) → (0 ≤ (((60 * b) + j) + k)) → ((((60 * b) + j) + k) < 240) → vP D T N 291 158 (zset h 124 (((((60 * b) + j) + k)).toNat) (1, (h 124 ((((60 * a) + i) + k)).toNat).2)) [some (2, 121), some (0, a), some (0, i), some (0, b), some (0, j), some (0, n), some (0, r), some (0, (k + 1)), some (0, k)] [] Q)
    (k1 : (k < n) → (r ≠ 0) → (0 ≤ (((60 * a) + i) + ((n - 1) - k))) → ((((60 * a) + i) + ((n - 1) - k)) < 240) → (0 ≤ (((60 * b) + j) + ((n - 1) - k))) → ((((60 * b) + j) + ((n - 1) - k)) < 240) → vP D T N 291 158 (zset h 124 (((((60 * b) + j) + ((n - 1) - k))).toNat) (1, (h 124 ((((60 * a) + i) + ((n - 1) - k))).toNat).2)) [some (2, 121), some (0, a), some (0, i), some (0, b), some (0, j), some (0, n), some (0, r), some (0, (k + 1)), some (0, ((n - 1) - k))] [] Q)
    (k2 : (n ≤ k) → Q (h, some (0, 1))) :
    vP D T (N + 1) 291 158 h [some (2, 121), some (0, a), some (0, i), some (0, b), some (0, j), some (0, n), some (0, r), some (0, k), o] [] Q := by
  refine v_loadS (v := (0, k)) (hT _ zt_X12_pour rfl _ _ rfl) rfl rfl ?_
  refine v_load (v := (0, n)) (hT _ zt_X12_pour rfl _ _ rfl) rfl rfl ?_
  refine v_ic (hT _ zt_X12_pour rfl _ _ rfl) (fun hc1 => ?_) (fun hc1 => ?_)
  · have hc1 : k < n := hc1
    refine v_load (v := (0, r)) (hT _ zt_X12_pour rfl _ _ rfl) rfl rfl ?_
    refine v_if (hT _ zt_X12_pour rfl _ _ rfl) (fun hc2 => ?_) (fun hc2 => ?_)
    · have hc2 : r = 0 := hc2
      refine v_load (v := (0, k)) (hT _ zt_X12_pour rfl _ _ rfl) rfl rfl ?_
      refine v_store1 [some (2, 121), some (0, a), some (0, i), some (0, b), some (0, j), some (0, n), some (0, r), some (0, k), some (0, k)] (hT _ zt_X12_pour rfl _ _ rfl) ⟨rfl, Nat.ne_of_beq_eq_false rfl⟩ (Nat.le_of_ble_eq_true rfl) rfl ?_
      refine v_load (v := (2, 121)) (hT _ zt_X12_pour rfl _ _ rfl) rfl rfl ?_
      refine v_getR (c := 124) (r := 121) (hT _ zt_X12_pour rfl _ _ rfl) rfl rfl rfl ?_
      refine v_push (60) (hT _ zt_X12_pour rfl _ _ rfl) rfl ?_
      refine v_load (v := (0, b)) (hT _ zt_X12_pour rfl _ _ rfl) rfl rfl ?_
      refine v_bin (w := (60 * b)) (hT _ zt_X12_pour rfl _ _ rfl) (hq_mul (by omega) (by omega)) ?_
      refine v_load (v := (0, j)) (hT _ zt_X12_pour rfl _ _ rfl) rfl rfl ?_
      refine v_bin (w := ((60 * b) + j)) (hT _ zt_X12_pour rfl _ _ rfl) (hq_add (by omega) (by omega)) ?_
      refine v_load (v := (0, k)) (hT _ zt_X12_pour rfl _ _ rfl) rfl rfl ?_
      refine v_bin (w := (((60 * b) + j) + k)) (hT _ zt_X12_pour rfl _ _ rfl) (hq_add (by omega) (by omega)) ?_
      refine v_load (v := (2, 121)) (hT _ zt_X12_pour rfl _ _ rfl) rfl rfl ?_
      refine v_getR (c := 124) (r := 121) (hT _ zt_X12_pour rfl _ _ rfl) rfl rfl rfl ?_
      refine v_push (60) (hT _ zt_X12_pour rfl _ _ rfl) rfl ?_
      refine v_load (v := (0, a)) (hT _ zt_X12_pour rfl _ _ rfl) rfl rfl ?_
      refine v_bin (w := (60 * a)) (hT _ zt_X12_pour rfl _ _ rfl) (hq_mul (by omega) (by omega)) ?_
      refine v_load (v := (0, i)) (hT _ zt_X12_pour rfl _ _ rfl) rfl rfl ?_
      refine v_bin (w := ((60 * a) + i)) (hT _ zt_X12_pour rfl _ _ rfl) (hq_add (by omega) (by omega)) ?_
      refine v_load (v := (0, k)) (hT _ zt_X12_pour rfl _ _ rfl) rfl rfl ?_
      refine v_bin (w := (((60 * a) + i) + k)) (hT _ zt_X12_pour rfl _ _ rfl) (hq_add (by omega) (by omega)) ?_
      refine v_ald (t := 1) (r := 124) (hT _ zt_X12_pour rfl _ _ rfl) rfl rfl rfl (fun ha3 hb4 => ?_)
      refine v_ast (r := 124) (hT _ zt_X12_pour rfl _ _ rfl) rfl rfl (fun ha5 hb6 hf7 => ?_)
      refine v_iinc (x := k) (u := 1) (w := (k + 1)) [some (2, 121), some (0, a), some (0, i), some (0, b), some (0, j), some (0, n), some (0, r), some (0, (k + 1)), some (0, k)] (hT _ zt_X12_pour rfl _ _ rfl) rfl rfl (Nat.le_of_ble_eq_true rfl) (vz_inc (by omega) (by omega)) rfl ?_
      refine v_goto (hT _ zt_X12_pour rfl _ _ rfl) ?_
      exact k0 hc1 hc2 ha3 hb4 ha5 hb6
    · have hc2 : r ≠ 0 := hc2
      refine v_load (v := (0, n)) (hT _ zt_X12_pour rfl _ _ rfl) rfl rfl ?_
      refine v_push (1) (hT _ zt_X12_pour rfl _ _ rfl) rfl ?_
      refine v_bin (w := (n - 1)) (hT _ zt_X12_pour rfl _ _ rfl) (hq_sub (by omega) (by omega)) ?_
      refine v_load (v := (0, k)) (hT _ zt_X12_pour rfl _ _ rfl) rfl rfl ?_
      refine v_bin (w := ((n - 1) - k)) (hT _ zt_X12_pour rfl _ _ rfl) (hq_sub (by omega) (by omega)) ?_
      refine v_goto (hT _ zt_X12_pour rfl _ _ rfl) ?_
      refine v_store1 [some (2, 121), some (0, a), some (0, i), some (0, b), some (0, j), some (0, n), some (0, r), some (0, k), some (0, ((n - 1) - k))] (hT _ zt_X12_pour rfl _ _ rfl) ⟨rfl, Nat.ne_of_beq_eq_false rfl⟩ (Nat.le_of_ble_eq_true rfl) rfl ?_
      refine v_load (v := (2, 121)) (hT _ zt_X12_pour rfl _ _ rfl) rfl rfl ?_
      refine v_getR (c := 124) (r := 121) (hT _ zt_X12_pour rfl _ _ rfl) rfl rfl rfl ?_
      refine v_push (60) (hT _ zt_X12_pour rfl _ _ rfl) rfl ?_
      refine v_load (v := (0, b)) (hT _ zt_X12_pour rfl _ _ rfl) rfl rfl ?_
      refine v_bin (w := (60 * b)) (hT _ zt_X12_pour rfl _ _ rfl) (hq_mul (by omega) (by omega)) ?_
      refine v_load (v := (0, j)) (hT _ zt_X12_pour rfl _ _ rfl) rfl rfl ?_
      refine v_bin (w := ((60 * b) + j)) (hT _ zt_X12_pour rfl _ _ rfl) (hq_add (by omega) (by omega)) ?_
      refine v_load (v := (0, ((n - 1) - k))) (hT _ zt_X12_pour rfl _ _ rfl) rfl rfl ?_
      refine v_bin (w := (((60 * b) + j) + ((n - 1) - k))) (hT _ zt_X12_pour rfl _ _ rfl) (hq_add (by omega) (by omega)) ?_
      refine v_load (v := (2, 121)) (hT _ zt_X12_pour rfl _ _ rfl) rfl rfl ?_
      refine v_getR (c := 124) (r := 121) (hT _ zt_X12_pour rfl _ _ rfl) rfl rfl rfl ?_
      refine v_push (60) (hT _ zt_X12_pour rfl _ _ rfl) rfl ?_
      refine v_load (v := (0, a)) (hT _ zt_X12_pour rfl _ _ rfl) rfl rfl ?_
      refine v_bin (w := (60 * a)) (hT _ zt_X12_pour rfl _ _ rfl) (hq_mul (by omega) (by omega)) ?_
      refine v_load (v := (0, i)) (hT _ zt_X12_pour rfl _ _ rfl) rfl rfl ?_
      refine v_bin (w := ((60 * a) + i)) (hT _ zt_X12_pour rfl _ _ rfl) (hq_add (by omega) (by omega)) ?_
      refine v_load (v := (0, ((n - 1) - k))) (hT _ zt_X12_pour rfl _ _ rfl) rfl rfl ?_
      refine v_bin (w := (((60 * a) + i) + ((n - 1) - k))) (hT _ zt_X12_pour rfl _ _ rfl) (hq_add (by omega) (by omega)) ?_
      refine v_ald (t := 1) (r := 124) (hT _ zt_X12_pour rfl _ _ rfl) rfl rfl rfl (fun ha8 hb9 => ?_)
      refine v_ast (r := 124) (hT _ zt_X12_pour rfl _ _ rfl) rfl rfl (fun ha10 hb11 hf12 => ?_)
      refine v_iinc (x := k) (u := 1) (w := (k + 1)) [some (2, 121), some (0, a), some (0, i), some (0, b), some (0, j), some (0, n), some (0, r), some (0, (k + 1)), some (0, ((n - 1) - k))] (hT _ zt_X12_pour rfl _ _ rfl) rfl rfl (Nat.le_of_ble_eq_true rfl) (vz_inc (by omega) (by omega)) rfl ?_
      refine v_goto (hT _ zt_X12_pour rfl _ _ rfl) ?_
      exact k1 hc1 hc2 ha8 hb9 ha10 hb11
  · have hc1 : n ≤ k := Int.not_lt.mp hc1
    refine v_push (1) (hT _ zt_X12_pour rfl _ _ rfl) rfl ?_
    refine v_ret (hT _ zt_X12_pour rfl _ _ rfl) (Or.inl rfl) ?_
    exact k2 hc1
