/-! wayOf BY HAND: it ends; what it leaves in out[] is stable and comes from somewhere -/
def hEq (h h' : zH) : Prop := ∀ r k, ¬ (r = 130 ∧ k < 48) → h' r k = h r k
theorem hEq.refl (h : zH) : hEq h h := fun _ _ _ => rfl
theorem hEq.trans {a b c : zH} (h1 : hEq a b) (h2 : hEq b c) : hEq a c := fun r k hn => (h2 r k hn).trans (h1 r k hn)
theorem heq_hc {h h' : zH} (e : hEq h h') (k : Nat) : hc h' k = hc h k := by
  show (h' 126 k).2 = (h 126 k).2
  rw [e 126 k (fun c => by omega)]
theorem heq_bE {h h' : zH} (e : hEq h h') (cell way : Int) : bE h' cell way = bE h cell way := by
  unfold bE bX bY
  rw [heq_hc e 0, heq_hc e 1]
theorem heq_cE {h h' : zH} (e : hEq h h') (copy cell : Int) : cE h' copy cell = cE h copy cell := by
  unfold cE cS cR
  simp only [heq_hc e]
def hDn (h h' : zH) : Prop := ∀ k, k < 48 → hout h' k ≤ hout h k
theorem gE_mono {h h' : zH} (hp : hHp h) (e : hEq h h') (hd : hDn h h') {copy cell way : Int} (hn : gE h copy cell way < 1000000) : gE h' copy cell way ≤ gE h copy cell way := by
  have bb := bE_b hp cell way
  unfold gE at hn ⊢
  rw [heq_bE e, heq_cE e]
  split at hn
  · omega
  · rename_i hf
    rw [if_neg hf]
    have d1 := hd (bE h cell way).toNat (by omega)
    have o1 := (hp.2.2.1 (bE h cell way).toNat (by omega)).2
    rw [if_neg (fun c => by
      rcases c with c | c | c
      · exact hf (Or.inl c)
      · exact hf (Or.inr (Or.inl c))
      · omega)]
    omega
theorem gE_low {h : zH} (hp : hHp h) {copy cell way : Int} : (gE h copy cell way = 1000000) ∨ (0 ≤ bE h cell way ∧ bE h cell way < hc h 0 * hc h 1 ∧ bE h cell way < 48 ∧ hout h (bE h cell way).toNat < gE h copy cell way ∧ hout h (bE h cell way).toNat < 1000000 ∧ 0 ≤ gE h copy cell way ∧ gE h copy cell way ≤ 1002000) := by
  have bb := bE_b hp cell way
  unfold gE
  split
  · left; rfl
  · rename_i hf
    right
    have c0 : ¬ bE h cell way < 0 := fun e => hf (Or.inl e)
    have c2 : hout h (bE h cell way).toNat ≠ 1000000 := fun e => hf (Or.inr (Or.inr e))
    have c1 := (cE_b hp (copy := copy) (cell := bE h cell way) (by omega) (by omega)).resolve_right (fun e => hf (Or.inr (Or.inl e)))
    have o1 := (hp.2.2.1 (bE h cell way).toNat (by omega)).2
    omega
def hInv (copy to : Int) (h : zH) : Prop := ∀ cell : Int, 0 ≤ cell → cell < hc h 0 * hc h 1 → cell ≠ to → hout h cell.toNat < 1000000 → ∃ way : Int, 0 ≤ way ∧ way < 4 ∧ gE h copy cell way ≤ hout h cell.toNat
def hStb (copy : Int) (h : zH) : Prop := ∀ cell way : Int, 0 ≤ cell → cell < hc h 0 * hc h 1 → 0 ≤ way → way < 4 → hout h cell.toNat ≤ gE h copy cell way
def hsum (h : zH) : Nat → Int
  | 0 => 0
  | n + 1 => hsum h n + hout h n
theorem hout_set {h : zH} {k j : Nat} {v : Int} : hout (zset h 130 k (0, v)) j = if j = k then v else hout h j := by
  show (if (130 : Nat) = 130 ∧ j = k then ((0, v) : zV) else h 130 j).2 = _
  by_cases e : j = k
  · rw [if_pos ⟨rfl, e⟩, if_pos e]
  · rw [if_neg (fun c => e c.2), if_neg e]; rfl
theorem hsum_set {h : zH} {k : Nat} {v : Int} : ∀ n, hsum (zset h 130 k (0, v)) n = hsum h n + (if k < n then v - hout h k else 0)
  | 0 => by rw [if_neg (by omega)]; rfl
  | n + 1 => by
    show hsum (zset h 130 k (0, v)) n + hout (zset h 130 k (0, v)) n = hsum h n + hout h n + _
    rw [hsum_set n, hout_set]
    by_cases e : n = k
    · subst e
      rw [if_pos rfl, if_neg (by omega), if_pos (by omega)]; omega
    · rw [if_neg e]
      by_cases e2 : k < n
      · rw [if_pos e2, if_pos (by omega)]; omega
      · rw [if_neg e2, if_neg (by omega)]; omega
theorem hsum_nn {h : zH} (hp : hHp h) : ∀ n, n ≤ 48 → 0 ≤ hsum h n
  | 0, _ => Int.le_refl 0
  | n + 1, hn => by
    have := hsum_nn hp n (by omega)
    have o := (hp.2.2.1 n (by omega)).2
    show 0 ≤ hsum h n + hout h n
    omega
theorem hEq_set {h : zH} {k : Nat} {v : zV} (hk : k < 48) : hEq h (zset h 130 k v) := fun r j hn => if_neg (fun c => hn ⟨c.1, by omega⟩)
theorem hHp.set {h : zH} (hp : hHp h) {k : Nat} {v : Int} (h1 : 0 ≤ v) (h2 : v ≤ 1000000) (hk : k < 48) : hHp (zset h 130 k (0, v)) := by
  have e := hEq_set (h := h) (v := (0, v)) hk
  obtain ⟨⟨a1, a2, a3⟩, a4, a5, a6, a7, a8, a9⟩ := hp
  refine ⟨⟨?_, ?_, ?_⟩, fun j hj => ?_, fun j hj => ?_, ?_, ?_, fun j hj => ?_, fun j hj => ?_⟩
  · rw [e _ _ (fun c => by omega)]; exact a1
  · rw [e _ _ (fun c => by omega)]; exact a2
  · rw [e _ _ (fun c => by omega)]; exact a3
  · rw [e _ _ (fun c => by omega)]; exact a4 j hj
  · rw [hout_set]
    by_cases c : j = k
    · rw [if_pos c]
      exact ⟨by show (if (130 : Nat) = 130 ∧ j = k then ((0, v) : zV) else h 130 j).1 = 0; rw [if_pos ⟨rfl, c⟩], h1, h2⟩
    · rw [if_neg c]
      exact ⟨by show (if (130 : Nat) = 130 ∧ j = k then ((0, v) : zV) else h 130 j).1 = 0; rw [if_neg (fun x => c x.2)]; exact (a5 j hj).1, (a5 j hj).2⟩
  · rw [heq_hc e]; exact a6
  · rw [heq_hc e]; exact a7
  · rw [heq_hc e, heq_hc e]; exact a8 j hj
  · rw [heq_hc e]; exact a9 j hj
-- a better way is written
theorem hInv.set {h : zH} (hp : hHp h) {copy to cell way : Int} (hi : hInv copy to h) (c1 : 0 ≤ cell) (c2 : cell < hc h 0 * hc h 1) (w1 : 0 ≤ way) (w2 : way < 4) (hv : gE h copy cell way < hout h cell.toNat) : hInv copy to (zset h 130 cell.toNat (0, gE h copy cell way)) ∧ hsum (zset h 130 cell.toNat (0, gE h copy cell way)) 48 < hsum h 48 ∧ hHp (zset h 130 cell.toNat (0, gE h copy cell way)) ∧ hEq h (zset h 130 cell.toNat (0, gE h copy cell way)) := by
  have cb := bE_b hp cell way
  have o1 := (hp.2.2.1 cell.toNat (by omega)).2
  have gl := (gE_low hp (copy := copy) (cell := cell) (way := way)).resolve_left (by omega)
  have e : hEq h (zset h 130 cell.toNat (0, gE h copy cell way)) := hEq_set (by omega)
  have hd : hDn h (zset h 130 cell.toNat (0, gE h copy cell way)) := fun k hk => by
    rw [hout_set]
    by_cases c : k = cell.toNat
    · rw [if_pos c, c]; omega
    · rw [if_neg c]; omega
  refine ⟨fun x x1 x2 x3 x4 => ?_, ?_, hp.set (by omega) (by omega) (by omega), e⟩
  · rw [heq_hc e, heq_hc e] at x2
    rw [hout_set] at x4 ⊢
    by_cases c : x.toNat = cell.toNat
    · have c' : x = cell := by omega
      rw [if_pos c, c']
      exact ⟨way, w1, w2, gE_mono hp e hd (by omega)⟩
    · rw [if_neg c] at x4 ⊢
      obtain ⟨w, y1, y2, y3⟩ := hi x x1 x2 x3 x4
      exact ⟨w, y1, y2, Int.le_trans (gE_mono hp e hd (by omega)) y3⟩
  · rw [hsum_set, if_pos (by omega)]; omega
/-! its locals -/
def hwV (x : Option Int) : Option zV := match x with
  | some x => some (0, x)
  | none => none
def hw (a b c : Int) (m ce w v : Option Int) : zL := fun k => match k with
  | 0 => some (2, 121)
  | 1 => some (0, a)
  | 2 => some (0, b)
  | 3 => some (0, c)
  | 4 => hwV m
  | 5 => hwV ce
  | 6 => hwV w
  | 7 => hwV v
  | _ => none
theorem hwV_put {x : Option Int} {p : Prop} [Decidable p] : (match hwV x with
  | some w => if p ∧ zcat w = 2 then none else some w
  | none => none) = hwV x := by
  cases x with
  | none => rfl
  | some x => exact if_neg (fun c => absurd c.2 (Nat.ne_of_beq_eq_false rfl))
section LW
variable {a b c x : Int} {m ce w v : Option Int}
theorem hw_p4 : zput1 (hw a b c m ce w v) 4 (0, x) = hw a b c (some x) ce w v := by
  funext k
  match k with
  | 0 => rfl
  | 1 => rfl
  | 2 => rfl
  | 3 => rfl
  | 4 => rfl
  | 5 => exact hwV_put
  | 6 => exact hwV_put
  | 7 => exact hwV_put
  | k + 8 => exact if_neg (by omega)
theorem hw_p5 : zput1 (hw a b c m ce w v) 5 (0, x) = hw a b c m (some x) w v := by
  funext k
  match k with
  | 0 => rfl
  | 1 => rfl
  | 2 => rfl
  | 3 => rfl
  | 4 => exact hwV_put
  | 5 => rfl
  | 6 => exact hwV_put
  | 7 => exact hwV_put
  | k + 8 => exact if_neg (by omega)
theorem hw_p6 : zput1 (hw a b c m ce w v) 6 (0, x) = hw a b c m ce (some x) v := by
  funext k
  match k with
  | 0 => rfl
  | 1 => rfl
  | 2 => rfl
  | 3 => rfl
  | 4 => exact hwV_put
  | 5 => exact hwV_put
  | 6 => rfl
  | 7 => exact hwV_put
  | k + 8 => exact if_neg (by omega)
theorem hw_p7 : zput1 (hw a b c m ce w v) 7 (0, x) = hw a b c m ce w (some x) := by
  funext k
  match k with
  | 0 => rfl
  | 1 => rfl
  | 2 => rfl
  | 3 => rfl
  | 4 => exact hwV_put
  | 5 => exact hwV_put
  | 6 => exact hwV_put
  | 7 => rfl
  | k + 8 => exact if_neg (by omega)
theorem hw_args : zargs 0 [(2, 121), (0, a), (0, b), (0, c)] = hw a b c none none none none := by
  funext k
  match k with
  | 0 => rfl
  | 1 => rfl
  | 2 => rfl
  | 3 => rfl
  | 4 => rfl
  | 5 => rfl
  | 6 => rfl
  | 7 => rfl
  | k + 8 =>
    show (if k + 8 = 0 then some ((2, 121) : zV) else if k + 8 = 1 then some (0, a) else if k + 8 = 2 then some (0, b) else if k + 8 = 3 then some (0, c) else none) = none
    rw [if_neg (by omega), if_neg (by omega), if_neg (by omega), if_neg (by omega)]
end LW
section WO
variable {D : zD} {T : zT} {d : Nat} {copy from_ to : Int}
-- better, or nothing was better
def hRel (copy : Int) (P : Int → Int → Prop) (h : zH) (more : Int) (h' : zH) (more' : Int) : Prop := (more' = more ∧ h' = h ∧ ∀ cell way, P cell way → hout h cell.toNat ≤ gE h copy cell way) ∨ (more' = 1 ∧ hsum h' 48 < hsum h 48)
def hGood (copy to : Int) (h : zH) : Prop := hHp h ∧ hInv copy to h
theorem w_ways (hT : hTab T) (c0 : -1 ≤ copy ∧ copy ≤ 2) {cell : Int} (c1 : 0 ≤ cell) : ∀ (n : Nat) (h : zH) (more : Int) (v : Option Int), n ≤ 4 → hGood copy to h → cell < hc h 0 * hc h 1 → ∃ h' more' v', hGood copy to h' ∧ hEq h h' ∧ hRel copy (fun c w => c = cell ∧ 4 - (n : Int) ≤ w ∧ w < 4) h more h' more' ∧ ∀ zr, zRun D T (d + 4) 336 111 (h', hw copy from_ to (some more') (some cell) (some 4) v', []) zr → zRun D T (d + 4) 336 61 (h, hw copy from_ to (some more) (some cell) (some (4 - (n : Int))) v, []) zr
  | 0, h, more, v, hn, hg, c2 => by
    have hm := hm_wayOf (T := T) hT
    refine ⟨h, more, v, hg, hEq.refl h, Or.inl ⟨rfl, rfl, fun c w hx => by omega⟩, fun zr k => ?_⟩
    rw [show (4 : Int) - ((0 : Nat) : Int) = 4 by omega]
    refine hq_load (hm _ _ rfl) rfl rfl ?_
    refine hq_pushZ (w := 4) (hm _ _ rfl) rfl ?_
    refine hq_icF (hm _ _ rfl) (zr0F (by omega)) ?_
    exact k
  | n + 1, h, more, v, hn, hg, c2 => by
    have hm := hm_wayOf (T := T) hT
    have hp := hg.1
    have cb := (bE_b hp cell 0).2.2
    obtain ⟨way, hway⟩ : ∃ way : Int, way = 4 - ((n + 1 : Nat) : Int) := ⟨_, rfl⟩
    rw [← hway]
    by_cases hlt : gE h copy cell way < hout h cell.toNat
    · obtain ⟨i1, i2, i3, i4⟩ := hInv.set hp (way := way) hg.2 c1 c2 (by omega) (by omega) hlt
      obtain ⟨h', more', v', g1, g2, g3, g4⟩ := w_ways hT c0 c1 n (zset h 130 cell.toNat (0, gE h copy cell way)) 1 (some (gE h copy cell way)) (by omega) ⟨i3, i1⟩ (by rw [heq_hc i4, heq_hc i4]; exact c2)
      refine ⟨h', more', v', g1, i4.trans g2, Or.inr ?_, fun zr k => ?_⟩
      · rcases g3 with ⟨e1, e2, -⟩ | ⟨e1, e2⟩
        · exact ⟨e1, by rw [e2]; exact i2⟩
        · exact ⟨e1, by omega⟩
      · have k := g4 zr k
        rw [show (4 : Int) - (n : Int) = way + 1 by omega] at k
        refine hq_load (hm _ _ rfl) rfl rfl ?_
        refine hq_pushZ (w := 4) (hm _ _ rfl) rfl ?_
        refine hq_icT (hm _ _ rfl) (zr0T (by omega)) ?_
        refine hq_load (hm _ _ rfl) rfl rfl ?_
        refine hq_load (hm _ _ rfl) rfl rfl ?_
        refine hq_load (hm _ _ rfl) rfl rfl ?_
        refine hq_load (hm _ _ rfl) rfl rfl ?_
        refine hq_call (hm _ _ rfl) rfl ⟨Nat.le_of_ble_eq_true rfl, Nat.le_of_ble_eq_true rfl, fun _ => rfl⟩ (r_goesBy hT hp c0 c1 (by omega)) ?_
        refine hq_store (hm _ _ rfl) ⟨rfl, Nat.ne_of_beq_eq_false rfl⟩ ?_
        show zRun _ _ _ _ _ (h, zput1 (hw copy from_ to (some more) (some cell) (some way) v) 7 (0, gE h copy cell way), []) _
        rw [hw_p7]
        refine hq_load (hm _ _ rfl) rfl rfl ?_
        refine hq_load (hm _ _ rfl) rfl rfl ?_
        refine hq_getf (hm _ _ rfl) rfl hp.o ?_
        refine hq_load (hm _ _ rfl) rfl rfl ?_
        refine hq_ald (hm _ _ rfl) (za130 (by omega) (by omega)) (hKo hp (by omega)) ?_
        refine hq_icT (hm _ _ rfl) (zr0T hlt) ?_
        refine hq_load (hm _ _ rfl) rfl rfl ?_
        refine hq_getf (hm _ _ rfl) rfl hp.o ?_
        refine hq_load (hm _ _ rfl) rfl rfl ?_
        refine hq_load (hm _ _ rfl) rfl rfl ?_
        refine hq_ast (hm _ _ rfl) ⟨za130 (by omega) (by omega), rfl, by decide⟩ ?_
        refine hq_pushZ (w := 1) (hm _ _ rfl) rfl ?_
        refine hq_store (hm _ _ rfl) ⟨rfl, Nat.ne_of_beq_eq_false rfl⟩ ?_
        rw [hw_p4]
        refine hq_iincZ (u := 1) (hm _ _ rfl) rfl rfl (hq_inc (by omega) (by omega)) ?_
        rw [hw_p6]
        refine hq_goto (hm _ _ rfl) ?_
        exact k
    · obtain ⟨h', more', v', g1, g2, g3, g4⟩ := w_ways hT c0 c1 n h more (some (gE h copy cell way)) (by omega) hg c2
      refine ⟨h', more', v', g1, g2, ?_, fun zr k => ?_⟩
      · rcases g3 with ⟨e1, e2, e3⟩ | e
        · refine Or.inl ⟨e1, e2, fun c w hx => ?_⟩
          by_cases ew : w = way
          · rw [ew, hx.1]; omega
          · exact e3 c w ⟨hx.1, by omega, hx.2.2⟩
        · exact Or.inr e
      · have k := g4 zr k
        rw [show (4 : Int) - (n : Int) = way + 1 by omega] at k
        refine hq_load (hm _ _ rfl) rfl rfl ?_
        refine hq_pushZ (w := 4) (hm _ _ rfl) rfl ?_
        refine hq_icT (hm _ _ rfl) (zr0T (by omega)) ?_
        refine hq_load (hm _ _ rfl) rfl rfl ?_
        refine hq_load (hm _ _ rfl) rfl rfl ?_
        refine hq_load (hm _ _ rfl) rfl rfl ?_
        refine hq_load (hm _ _ rfl) rfl rfl ?_
        refine hq_call (hm _ _ rfl) rfl ⟨Nat.le_of_ble_eq_true rfl, Nat.le_of_ble_eq_true rfl, fun _ => rfl⟩ (r_goesBy hT hp c0 c1 (by omega)) ?_
        refine hq_store (hm _ _ rfl) ⟨rfl, Nat.ne_of_beq_eq_false rfl⟩ ?_
        show zRun _ _ _ _ _ (h, zput1 (hw copy from_ to (some more) (some cell) (some way) v) 7 (0, gE h copy cell way), []) _
        rw [hw_p7]
        refine hq_load (hm _ _ rfl) rfl rfl ?_
        refine hq_load (hm _ _ rfl) rfl rfl ?_
        refine hq_getf (hm _ _ rfl) rfl hp.o ?_
        refine hq_load (hm _ _ rfl) rfl rfl ?_
        refine hq_ald (hm _ _ rfl) (za130 (by omega) (by omega)) (hKo hp (by omega)) ?_
        refine hq_icF (hm _ _ rfl) (zr0F (by omega)) ?_
        refine hq_goto (hm _ _ rfl) ?_
        refine hq_iincZ (u := 1) (hm _ _ rfl) rfl rfl (hq_inc (by omega) (by omega)) ?_
        rw [hw_p6]
        refine hq_goto (hm _ _ rfl) ?_
        exact k
theorem w_cells (hT : hTab T) (c0 : -1 ≤ copy ∧ copy ≤ 2) : ∀ (n : Nat) (h : zH) (more cx : Int) (w v : Option Int), hGood copy to h → 0 ≤ cx → hc h 0 * hc h 1 - cx = (n : Int) → ∃ h' more' cx' w' v', hGood copy to h' ∧ hEq h h' ∧ hRel copy (fun c w => cx ≤ c ∧ c < hc h 0 * hc h 1 ∧ 0 ≤ w ∧ w < 4) h more h' more' ∧ ∀ zr, zRun D T (d + 4) 336 38 (h', hw copy from_ to (some more') (some cx') w' v', []) zr → zRun D T (d + 4) 336 49 (h, hw copy from_ to (some more) (some cx) w v, []) zr
  | 0, h, more, cx, w, v, hg, c1, hn => by
    have hm := hm_wayOf (T := T) hT
    have hp := hg.1
    refine ⟨h, more, cx, w, v, hg, hEq.refl h, Or.inl ⟨rfl, rfl, fun c w hx => by omega⟩, fun zr k => ?_⟩
    refine hq_load (hm _ _ rfl) rfl rfl ?_
    refine hq_load (hm _ _ rfl) rfl rfl ?_
    refine hq_call (hm _ _ rfl) rfl ⟨Nat.le_of_ble_eq_true rfl, Nat.le_of_ble_eq_true rfl, fun _ => rfl⟩ (r_cells hT hp) ?_
    refine hq_icF (hm _ _ rfl) (zr0F (by omega)) ?_
    refine hq_goto (hm _ _ rfl) ?_
    exact k
  | n + 1, h, more, cx, w, v, hg, c1, hn => by
    have hm := hm_wayOf (T := T) hT
    have hp := hg.1
    have cb := (bE_b hp cx 0).2.2
    obtain ⟨h1, more1, v1, g1, g2, g3, g4⟩ := w_ways (D := D) (d := d) (from_ := from_) (to := to) hT c0 c1 4 h more v (Nat.le_refl 4) hg (by omega)
    have q0 := heq_hc g2 0
    have q1 := heq_hc g2 1
    obtain ⟨h', more', cx', w', v', k1, k2, k3, k4⟩ := w_cells hT c0 n h1 more1 (cx + 1) (some 4) v1 g1 (by omega) (by rw [q0, q1]; omega)
    refine ⟨h', more', cx', w', v', k1, g2.trans k2, ?_, fun zr k => ?_⟩
    · rcases g3 with ⟨e1, e2, e3⟩ | ⟨e1, e2⟩
      · subst e2
        rcases k3 with ⟨f1, f2, f3⟩ | ⟨f1, f2⟩
        · refine Or.inl ⟨f1.trans e1, f2, fun c w hx => ?_⟩
          by_cases ec : c = cx
          · exact e3 c w ⟨ec, by omega, hx.2.2.2⟩
          · exact f3 c w ⟨by omega, hx.2.1, hx.2.2⟩
        · exact Or.inr ⟨f1, f2⟩
      · rcases k3 with ⟨f1, f2, -⟩ | ⟨f1, f2⟩
        · exact Or.inr ⟨f1.trans e1, by rw [f2]; exact e2⟩
        · exact Or.inr ⟨f1, by omega⟩
    · have k := k4 zr k
      refine hq_load (hm _ _ rfl) rfl rfl ?_
      refine hq_load (hm _ _ rfl) rfl rfl ?_
      refine hq_call (hm _ _ rfl) rfl ⟨Nat.le_of_ble_eq_true rfl, Nat.le_of_ble_eq_true rfl, fun _ => rfl⟩ (r_cells hT hp) ?_
      refine hq_icT (hm _ _ rfl) (zr0T (by omega)) ?_
      refine hq_pushZ (w := 0) (hm _ _ rfl) rfl ?_
      refine hq_store (hm _ _ rfl) ⟨rfl, Nat.ne_of_beq_eq_false rfl⟩ ?_
      rw [hw_p6]
      refine g4 zr ?_
      refine hq_iincZ (u := 1) (hm _ _ rfl) rfl rfl (hq_inc (by omega) (by omega)) ?_
      rw [hw_p5]
      refine hq_goto (hm _ _ rfl) ?_
      exact k
theorem w_while (hT : hTab T) (c0 : -1 ≤ copy ∧ copy ≤ 2) : ∀ (n : Nat) (h : zH) (ce w v : Option Int), hGood copy to h → hsum h 48 = (n : Int) → ∃ h' ce' w' v', hGood copy to h' ∧ hEq h h' ∧ hStb copy h' ∧ ∀ zr, zRun D T (d + 4) 336 120 (h', hw copy from_ to (some 0) ce' w' v', []) zr → zRun D T (d + 4) 336 38 (h, hw copy from_ to (some 1) ce w v, []) zr := by
  intro n
  induction n using Nat.strongRecOn with
  | ind n ih =>
    intro h ce w v hg hn
    have hm := hm_wayOf (T := T) hT
    have hp := hg.1
    obtain ⟨-, -, -, b0, b1, -⟩ := id hp
    have m1 : 0 ≤ hc h 0 * hc h 1 := Int.mul_nonneg (by omega) (by omega)
    obtain ⟨h1, more1, cell1, w1, v1, g1, g2, g3, g4⟩ := w_cells (D := D) (d := d) (from_ := from_) (to := to) hT c0 (hc h 0 * hc h 1).toNat h 0 0 w v hg (Int.le_refl 0) (by omega)
    have pre : ∀ zr, zRun D T (d + 4) 336 38 (h1, hw copy from_ to (some more1) (some cell1) w1 v1, []) zr → zRun D T (d + 4) 336 38 (h, hw copy from_ to (some 1) ce w v, []) zr := fun zr k => by
      have k := g4 zr k
      refine hq_load (hm _ _ rfl) rfl rfl ?_
      refine hq_ifF (hm _ _ rfl) (zr2F (by omega)) ?_
      refine hq_pushZ (w := 0) (hm _ _ rfl) rfl ?_
      refine hq_store (hm _ _ rfl) ⟨rfl, Nat.ne_of_beq_eq_false rfl⟩ ?_
      rw [hw_p4]
      refine hq_pushZ (w := 0) (hm _ _ rfl) rfl ?_
      refine hq_store (hm _ _ rfl) ⟨rfl, Nat.ne_of_beq_eq_false rfl⟩ ?_
      rw [hw_p5]
      exact k
    rcases g3 with ⟨e1, e2, e3⟩ | ⟨e1, e2⟩
    · subst e2
      refine ⟨h1, some cell1, w1, v1, g1, hEq.refl _, fun cell way x1 x2 x3 x4 => e3 cell way ⟨x1, x2, x3, x4⟩, fun zr k => pre zr ?_⟩
      rw [e1]
      refine hq_load (hm _ _ rfl) rfl rfl ?_
      refine hq_ifT (hm _ _ rfl) (zr2T rfl) ?_
      exact k
    · have nn := hsum_nn g1.1 48 (Nat.le_refl 48)
      obtain ⟨h', ce', w', v', k1, k2, k3, k4⟩ := ih (hsum h1 48).toNat (by omega) h1 (some cell1) w1 v1 g1 (by omega)
      refine ⟨h', ce', w', v', k1, g2.trans k2, k3, fun zr k => pre zr ?_⟩
      rw [e1]
      exact k4 zr k
-- all far, then 0 where it leads
theorem w_fill (hT : hTab T) : ∀ (n : Nat) (h : zH) (k : Int), hHp h → 0 ≤ k → hc h 0 * hc h 1 - k = (n : Int) → ∃ h', hHp h' ∧ hEq h h' ∧ (∀ j : Int, 0 ≤ j → j < hc h 0 * hc h 1 → hout h' j.toNat = 1000000 ∨ (j < k ∧ hout h' j.toNat = hout h j.toNat)) ∧ ∃ m', ∀ zr, zRun D T (d + 4) 336 28 (h', hw copy from_ to (some m') none none none, []) zr → zRun D T (d + 4) 336 3 (h, hw copy from_ to (some k) none none none, []) zr
  | 0, h, k, hp, k0, hn => by
    have hm := hm_wayOf (T := T) hT
    refine ⟨h, hp, hEq.refl h, fun j j1 j2 => Or.inr ⟨by omega, rfl⟩, k, fun zr kk => ?_⟩
    refine hq_load (hm _ _ rfl) rfl rfl ?_
    refine hq_load (hm _ _ rfl) rfl rfl ?_
    refine hq_call (hm _ _ rfl) rfl ⟨Nat.le_of_ble_eq_true rfl, Nat.le_of_ble_eq_true rfl, fun _ => rfl⟩ (r_cells hT hp) ?_
    refine hq_icF (hm _ _ rfl) (zr0F (by omega)) ?_
    exact kk
  | n + 1, h, k, hp, k0, hn => by
    have hm := hm_wayOf (T := T) hT
    have cb := (bE_b hp 0 0).2.2
    have hp1 := hp.set (k := k.toNat) (v := 1000000) (by omega) (by omega) (by omega)
    have e1 : hEq h (zset h 130 k.toNat (0, 1000000)) := hEq_set (by omega)
    have q0 := heq_hc e1 0
    have q1 := heq_hc e1 1
    obtain ⟨h', g1, g2, g3, m', g4⟩ := w_fill hT n (zset h 130 k.toNat (0, 1000000)) (k + 1) hp1 (by omega) (by rw [q0, q1]; omega)
    rw [q0, q1] at g3
    refine ⟨h', g1, e1.trans g2, fun j j1 j2 => ?_, m', fun zr kk => ?_⟩
    · rcases g3 j j1 j2 with e | ⟨x1, x2⟩
      · exact Or.inl e
      · rw [hout_set] at x2
        by_cases c : j.toNat = k.toNat
        · rw [if_pos c] at x2; exact Or.inl x2
        · rw [if_neg c] at x2; exact Or.inr ⟨by omega, x2⟩
    · have kk := g4 zr kk
      refine hq_load (hm _ _ rfl) rfl rfl ?_
      refine hq_load (hm _ _ rfl) rfl rfl ?_
      refine hq_call (hm _ _ rfl) rfl ⟨Nat.le_of_ble_eq_true rfl, Nat.le_of_ble_eq_true rfl, fun _ => rfl⟩ (r_cells hT hp) ?_
      refine hq_icT (hm _ _ rfl) (zr0T (by omega)) ?_
      refine hq_load (hm _ _ rfl) rfl rfl ?_
      refine hq_getf (hm _ _ rfl) rfl hp.o ?_
      refine hq_load (hm _ _ rfl) rfl rfl ?_
      refine hq_pushZ (w := 1000000) (hm _ _ rfl) rfl ?_
      refine hq_ast (hm _ _ rfl) ⟨za130 (by omega) (by omega), rfl, by decide⟩ ?_
      refine hq_iincZ (u := 1) (hm _ _ rfl) rfl rfl (hq_inc (by omega) (by omega)) ?_
      rw [hw_p4]
      refine hq_goto (hm _ _ rfl) ?_
      exact kk
def wE (h : zH) (from_ : Int) : Int := if hout h from_.toNat = 1000000 then 1000000 else hout h from_.toNat / 100
theorem r_wayOf (hT : hTab T) {h : zH} (hp : hHp h) (c0 : -1 ≤ copy ∧ copy ≤ 2) (c1 : 0 ≤ from_ ∧ from_ < 48) (c2 : 0 ≤ to ∧ to < 48) : ∃ h', hHp h' ∧ hEq h h' ∧ hInv copy to h' ∧ hStb copy h' ∧ zRun D T (d + 4) 336 0 (h, zargs 0 [(2, 121), (0, copy), (0, from_), (0, to)], []) (h', some (0, wE h' from_)) := by
  have hm := hm_wayOf (T := T) hT
  obtain ⟨-, -, -, b0, b1, -⟩ := id hp
  have m1 : 0 ≤ hc h 0 * hc h 1 := Int.mul_nonneg (by omega) (by omega)
  obtain ⟨h1, f1, f2, f3, m', f4⟩ := w_fill (D := D) (d := d) (copy := copy) (from_ := from_) (to := to) hT (hc h 0 * hc h 1).toNat h 0 hp (Int.le_refl 0) (by omega)
  have e1 : hEq h1 (zset h1 130 to.toNat (0, 0)) := hEq_set (by omega)
  have hp1 := f1.set (k := to.toNat) (v := 0) (Int.le_refl 0) (by omega) (by omega)
  have i1 : hInv copy to (zset h1 130 to.toNat (0, 0)) := by
    intro cell x1 x2 x3 x4
    rw [heq_hc e1, heq_hc e1, heq_hc f2, heq_hc f2] at x2
    rw [hout_set, if_neg (by omega)] at x4
    rcases f3 cell x1 x2 with e | ⟨e, -⟩
    · omega
    · omega
  have nn := hsum_nn hp1 48 (Nat.le_refl 48)
  obtain ⟨h', ce, w, v, g1, g2, g3, g4⟩ := w_while (D := D) (d := d) (from_ := from_) hT c0 (hsum (zset h1 130 to.toNat (0, 0)) 48).toNat (zset h1 130 to.toNat (0, 0)) none none none ⟨hp1, i1⟩ (by omega)
  refine ⟨h', g1.1, f2.trans (e1.trans g2), g1.2, g3, ?_⟩
  rw [hw_args]
  refine hq_pushZ (w := 0) (hm _ _ rfl) rfl ?_
  refine hq_store (hm _ _ rfl) ⟨rfl, Nat.ne_of_beq_eq_false rfl⟩ ?_
  rw [hw_p4]
  refine f4 _ ?_
  clear hp
  have hp := f1
  refine hq_load (hm _ _ rfl) rfl rfl ?_
  refine hq_getf (hm _ _ rfl) rfl hp.o ?_
  refine hq_load (hm _ _ rfl) rfl rfl ?_
  refine hq_pushZ (w := 0) (hm _ _ rfl) rfl ?_
  refine hq_ast (hm _ _ rfl) ⟨za130 (by omega) (by omega), rfl, by decide⟩ ?_
  refine hq_pushZ (w := 1) (hm _ _ rfl) rfl ?_
  refine hq_store (hm _ _ rfl) ⟨rfl, Nat.ne_of_beq_eq_false rfl⟩ ?_
  rw [hw_p4]
  refine g4 _ ?_
  clear hp
  have hp := g1.1
  have o1 := (hp.2.2.1 from_.toNat (by omega)).2
  unfold wE
  split
  · rename_i e
    refine hq_load (hm _ _ rfl) rfl rfl ?_
    refine hq_getf (hm _ _ rfl) rfl hp.o ?_
    refine hq_load (hm _ _ rfl) rfl rfl ?_
    refine hq_ald (hm _ _ rfl) (za130 (by omega) (by omega)) (hKo hp (by omega)) ?_
    refine hq_pushZ (w := 1000000) (hm _ _ rfl) rfl ?_
    refine hq_icT (hm _ _ rfl) (zr2T e) ?_
    refine hq_pushZ (w := 1000000) (hm _ _ rfl) rfl ?_
    refine hq_goto (hm _ _ rfl) ?_
    exact hq_ret (hm _ _ rfl) ⟨rfl, rfl⟩
  · rename_i e
    refine hq_load (hm _ _ rfl) rfl rfl ?_
    refine hq_getf (hm _ _ rfl) rfl hp.o ?_
    refine hq_load (hm _ _ rfl) rfl rfl ?_
    refine hq_ald (hm _ _ rfl) (za130 (by omega) (by omega)) (hKo hp (by omega)) ?_
    refine hq_pushZ (w := 1000000) (hm _ _ rfl) rfl ?_
    refine hq_icF (hm _ _ rfl) (zr2F e) ?_
    refine hq_load (hm _ _ rfl) rfl rfl ?_
    refine hq_getf (hm _ _ rfl) rfl hp.o ?_
    refine hq_load (hm _ _ rfl) rfl rfl ?_
    refine hq_ald (hm _ _ rfl) (za130 (by omega) (by omega)) (hKo hp (by omega)) ?_
    refine hq_pushZ (w := 100) (hm _ _ rfl) rfl ?_
    refine hq_div (hm _ _ rfl) (by omega) (hq_quo (by omega) (by omega) (by omega) (by omega)) ?_
    exact hq_ret (hm _ _ rfl) ⟨rfl, rfl⟩
end WO
