/-! THE WATCHER: the heap -/
noncomputable def a_okc {α : Type} (ll : List (List α)) : Bool := List.rec (motive := fun _ => Bool) true (fun l t ih => match t with
  | [] => Nat.ble l.length 12
  | _ :: _ => Nat.beq l.length 12 && ih) ll
theorem a_at_flat {α : Type} : ∀ (ll : List (List α)) (k : Nat), a_okc ll = true → a_at ll k = ll.flatten[k]?
  | [], k, _ => by
    show (match x_nth ([] : List (List α)) (Nat.div k 12) with
      | some l => x_nth l (Nat.mod k 12)
      | none => none) = _
    rw [x_nth_eq]
    rfl
  | l :: t, k, h => by
    show (match x_nth (l :: t) (k / 12) with
      | some l => x_nth l (k % 12)
      | none => none) = _
    rw [List.flatten_cons, x_nth_eq]
    by_cases hk : k < 12
    · have e1 : k / 12 = 0 := Nat.div_eq_of_lt hk
      have e2 : k % 12 = k := Nat.mod_eq_of_lt hk
      rw [e1, e2]
      show x_nth l k = _
      rw [x_nth_eq]
      cases t with
      | nil => rw [List.flatten_nil, List.append_nil]
      | cons a t =>
        have h : (Nat.beq l.length 12 && a_okc (a :: t)) = true := h
        rw [Bool.and_eq_true] at h
        have hl := Nat.eq_of_beq_eq_true h.1
        rw [List.getElem?_append_left (by omega)]
    · have e1 : k / 12 = (k - 12) / 12 + 1 := by omega
      have e2 : k % 12 = (k - 12) % 12 := by omega
      rw [e1, e2, List.getElem?_cons_succ]
      have ih : a_okc t = true → a_at t (k - 12) = t.flatten[k - 12]? := fun ht => a_at_flat t (k - 12) ht
      have e3 : (match t[(k - 12) / 12]? with
        | some l => x_nth l ((k - 12) % 12)
        | none => none) = a_at t (k - 12) := by
        show _ = (match x_nth t ((k - 12) / 12) with
          | some l => x_nth l ((k - 12) % 12)
          | none => none)
        rw [x_nth_eq]
      rw [e3]
      cases t with
      | nil =>
        have h : Nat.ble l.length 12 = true := h
        have hl := Nat.le_of_ble_eq_true h
        rw [ih rfl, List.flatten_nil, List.append_nil, List.getElem?_nil, List.getElem?_eq_none (by omega)]
      | cons a t =>
        have h : (Nat.beq l.length 12 && a_okc (a :: t)) = true := h
        rw [Bool.and_eq_true] at h
        have hl := Nat.eq_of_beq_eq_true h.1
        rw [ih h.2, List.getElem?_append_right (by omega), hl]
theorem zShape2_ok : a_okc zShape2 = true := by decide +kernel
theorem zShape2_eq : zShape2.flatten = zShape := by decide +kernel
theorem a_shp_eq (k : Nat) : a_shp k = zShape[k]? := by
  show a_at zShape2 k = _
  rw [a_at_flat zShape2 k zShape2_ok, zShape2_eq]
theorem a_isO_ok {ci : Nat} {r : Int} (h : a_isO ci r = true) : zisO ci r = true := by
  unfold a_isO at h
  rw [a_shp_eq] at h
  unfold zisO
  split at h
  · rename_i q hq
    rw [hq]
    show (q.1 == ci) = true
    rw [Nat.eq_of_beq_eq_true h]
    exact beq_self_eq_true _
  · cases h
theorem a_arr_ok {c : Nat} {r lo hi z : Int} (h : a_arr c r lo hi = true) (h1 : lo ≤ z) (h2 : z ≤ hi) : zarr c r z = true := by
  unfold a_arr at h
  rw [a_shp_eq] at h
  unfold zarr
  split at h
  · rename_i q hq
    rw [Bool.and_eq_true, Bool.and_eq_true, a_dec_eq, a_dec_eq] at h
    obtain ⟨e1, e2, e3⟩ := h
    have e3 : hi < (q.2 : Int) := e3
    rw [hq]
    show (zcode q.1 == c && (decide (0 ≤ z) && decide (z < (q.2 : Int)))) = true
    rw [Nat.eq_of_beq_eq_true e1, a_decT (show 0 ≤ z by omega), a_decT (show z < (q.2 : Int) by omega), beq_self_eq_true]
    rfl
  · cases h
theorem a_oget_ok {ρ : Nat → Int} {n : Nat} {h : zH} {r s : Nat} {o : Int} {v : aV} : ∀ {O : aO}, aOv ρ n O h → a_oget O r s o = some v → 0 ≤ aev ρ s o ∧ aR ρ n v (h r (aev ρ s o).toNat)
  | [], _, hq => by cases hq
  | e :: O, g, hq => by
    have hq : cond (Nat.beq e.1.1 r && (Nat.beq e.1.2.1 s && @decide (e.1.2.2 = o) (a_decEqZ _ _))) (some e.2) (a_oget O r s o) = some v := hq
    rcases x_condT hq with ⟨hc, hq⟩ | ⟨-, hq⟩
    · rw [Bool.and_eq_true, Bool.and_eq_true, a_dec_eq] at hc
      obtain ⟨c1, c2, c3⟩ := hc
      have c1 := Nat.eq_of_beq_eq_true c1
      have c2 := Nat.eq_of_beq_eq_true c2
      cases hq
      obtain ⟨-, g2, g3⟩ := g e List.mem_cons_self
      rw [c1, c2, c3] at g3
      rw [c2, c3] at g2
      exact ⟨g2, g3⟩
    · exact a_oget_ok (fun x hx => g x (List.mem_cons_of_mem _ hx)) hq
theorem atin_joinL {a b : aT} {v : zV} (h : atin a v) : atin (a_join a b) v := by
  unfold a_join
  cases hb : Nat.beq a.1 b.1 with
  | false => exact trivial
  | true =>
    obtain ⟨t, l, u, rs⟩ := a
    match t, h with
    | 0, ⟨h1, h2, h3⟩ => exact ⟨h1, Int.le_trans (a_min_ok l b.2.1).1 h2, Int.le_trans h3 (a_max_ok u b.2.2.1).1⟩
    | 1, ⟨h1, h2, h3⟩ => exact ⟨h1, Int.le_trans (a_min_ok l b.2.1).1 h2, Int.le_trans h3 (a_max_ok u b.2.2.1).1⟩
    | 2, ⟨k, h1, h2⟩ => exact ⟨k, List.mem_append_left _ h1, h2⟩
    | n + 3, _ => exact trivial
theorem atin_joinR {a b : aT} {v : zV} (h : atin b v) : atin (a_join a b) v := by
  unfold a_join
  cases hb : Nat.beq a.1 b.1 with
  | false => exact trivial
  | true =>
    have hb := Nat.eq_of_beq_eq_true hb
    obtain ⟨t, l, u, rs⟩ := a
    obtain ⟨t2, l2, u2, rs2⟩ := b
    have hb : t = t2 := hb
    subst hb
    match t, h with
    | 0, ⟨h1, h2, h3⟩ => exact ⟨h1, Int.le_trans (a_min_ok l l2).2.1 h2, Int.le_trans h3 (a_max_ok u u2).2.1⟩
    | 1, ⟨h1, h2, h3⟩ => exact ⟨h1, Int.le_trans (a_min_ok l l2).2.1 h2, Int.le_trans h3 (a_max_ok u u2).2.1⟩
    | 2, ⟨k, h1, h2⟩ => exact ⟨k, List.mem_append_right _ h1, h2⟩
    | n + 3, _ => exact trivial
theorem a_uni_some {lo hi : Int} (hlh : lo ≤ hi) : ∀ (l : List (Nat × aT)) (p : Int), p ≤ hi → a_uni lo hi l p ≠ none
  | [], p, hp => by
    show cond (@decide (hi < p) (a_decLt _ _)) none (some _) ≠ none
    rw [a_decN (by omega)]
    exact fun h => by cases h
  | s :: l, p, hp => by
    show x_kZ (p + Int.ofNat s.1) (fun p' => cond (@decide (p' ≤ lo) (a_decLe _ _)) (a_uni lo hi l p') (cond (@decide (hi < p) (a_decLt _ _)) none (match a_uni lo hi l p' with
      | some b => some (a_join s.2 b)
      | none => some s.2))) ≠ none
    rw [x_kZ_eq]
    by_cases h1 : p + Int.ofNat s.1 ≤ lo
    · rw [a_decT h1]
      exact a_uni_some hlh l _ (by omega)
    · rw [a_decN h1, a_decN (by omega)]
      show (match a_uni lo hi l (p + Int.ofNat s.1) with
        | some b => some (a_join s.2 b)
        | none => some s.2) ≠ none
      split <;> exact fun h => by cases h
theorem a_uni_ok {lo hi : Int} {g : Nat → zV} {j : Nat} (h1 : lo ≤ (j : Int)) (h2 : (j : Int) ≤ hi) : ∀ {l : List (Nat × aT)} {p : Nat} {t : aT}, a_uni lo hi l (p : Int) = some t → atyOK g l p → p ≤ j → atin t (g j)
  | [], p, t, h, _, hp => by
    have h : cond (@decide (hi < (p : Int)) (a_decLt _ _)) none (some ((9, 0, 0, []) : aT)) = some t := h
    rw [a_decN (by omega)] at h
    cases h
    exact trivial
  | s :: l, p, t, h, ⟨ha, hl⟩, hp => by
    have h : x_kZ ((p : Int) + Int.ofNat s.1) (fun p' => cond (@decide (p' ≤ lo) (a_decLe _ _)) (a_uni lo hi l p') (cond (@decide (hi < (p : Int)) (a_decLt _ _)) none (match a_uni lo hi l p' with
      | some b => some (a_join s.2 b)
      | none => some s.2))) = some t := h
    rw [x_kZ_eq, show (p : Int) + Int.ofNat s.1 = ((p + s.1 : Nat) : Int) from rfl] at h
    by_cases c1 : ((p + s.1 : Nat) : Int) ≤ lo
    · rw [a_decT c1] at h
      exact a_uni_ok h1 h2 h hl (by omega)
    · rw [a_decN c1, a_decN (show ¬ hi < (p : Int) by omega)] at h
      have h : (match a_uni lo hi l ((p + s.1 : Nat) : Int) with
        | some b => some (a_join s.2 b)
        | none => some s.2) = some t := h
      split at h
      · rename_i b hb
        cases h
        by_cases hj : j < p + s.1
        · exact atin_joinL (ha j hp hj)
        · exact atin_joinR (a_uni_ok h1 h2 hb hl (by omega))
      · rename_i hb
        cases h
        by_cases hj : j < p + s.1
        · exact ha j hp hj
        · exact absurd hb (a_uni_some (by omega) l _ (by omega))
theorem a_memI_ok {z : Int} : ∀ {l : List Int}, a_memI z l = true → z ∈ l
  | [], h => by cases h
  | a :: l, h => by
    have h : (@decide (a = z) (a_decEqZ _ _) || a_memI z l) = true := h
    rw [Bool.or_eq_true, a_dec_eq] at h
    rcases h with h | h
    · rw [h]; exact List.mem_cons_self
    · exact List.mem_cons_of_mem _ (a_memI_ok h)
theorem a_acc_ok {t : aT} {v : aV} {z : zV} {vl vh : Int} (h : a_acc t v vl vh = true) (hk : z.1 = v.1) (h1 : vl ≤ z.2) (h2 : z.2 ≤ vh) : atin t z := by
  obtain ⟨k, l, u, rs⟩ := t
  obtain ⟨z1, z2⟩ := z
  have hk : z1 = v.1 := hk
  match k, h with
  | 0, h =>
    have h : (Nat.beq v.1 0 && (@decide (l ≤ vl) (a_decLe _ _) && @decide (vh ≤ u) (a_decLe _ _))) = true := h
    rw [Bool.and_eq_true, Bool.and_eq_true, a_dec_eq, a_dec_eq] at h
    exact ⟨hk.trans (Nat.eq_of_beq_eq_true h.1), Int.le_trans h.2.1 h1, Int.le_trans h2 h.2.2⟩
  | 1, h =>
    have h : (Nat.beq v.1 1 && (@decide (l ≤ vl) (a_decLe _ _) && @decide (vh ≤ u) (a_decLe _ _))) = true := h
    rw [Bool.and_eq_true, Bool.and_eq_true, a_dec_eq, a_dec_eq] at h
    exact ⟨hk.trans (Nat.eq_of_beq_eq_true h.1), Int.le_trans h.2.1 h1, Int.le_trans h2 h.2.2⟩
  | 2, h =>
    have h : (@decide (vl = vh) (a_decEqZ _ _) && ((Nat.beq v.1 2 && (@decide (0 ≤ vl) (a_decLe _ _) && a_memI vl rs)) || (Nat.beq v.1 4 && (@decide (vl = 0) (a_decEqZ _ _) && a_memI (-1) rs)))) = true := h
    simp only [Bool.and_eq_true, Bool.or_eq_true, a_dec_eq] at h
    obtain ⟨e1, h⟩ := h
    have h1 : vl ≤ z2 := h1
    have h2 : z2 ≤ vh := h2
    have e2 : z2 = vl := by omega
    rcases h with ⟨a1, a2, a3⟩ | ⟨a1, a2, a3⟩
    · refine ⟨vl, a_memI_ok a3, ?_⟩
      rw [if_neg (by omega), hk, Nat.eq_of_beq_eq_true a1, e2]
    · refine ⟨-1, a_memI_ok a3, ?_⟩
      rw [if_pos rfl, hk, Nat.eq_of_beq_eq_true a1, e2, a2]
  | n + 3, h => exact trivial
theorem a_bZ_eq {z : Int} {f : Int → Bool} : a_bZ z f = f z := by
  unfold a_bZ
  rw [x_kZ_eq]
theorem atyOK_congr {g g' : Nat → zV} : ∀ {l : List (Nat × aT)} {p : Nat}, (∀ j, p ≤ j → g' j = g j) → atyOK g l p → atyOK g' l p
  | [], _, _, _ => trivial
  | s :: l, p, h, ⟨ha, hl⟩ => ⟨fun j j1 j2 => by rw [h j j1]; exact ha j j1 j2, atyOK_congr (fun j hj => h j (by omega)) hl⟩
theorem a_accs_ok {lo hi : Int} {v : aV} {z : zV} {vl vh : Int} {g : Nat → zV} {k : Nat} (hk : z.1 = v.1) (h1 : vl ≤ z.2) (h2 : z.2 ≤ vh) (k1 : lo ≤ (k : Int)) (k2 : (k : Int) ≤ hi) : ∀ {l : List (Nat × aT)} {p : Nat}, a_accs lo hi v vl vh l (p : Int) = true → atyOK g l p → atyOK (fun b => if b = k then z else g b) l p
  | [], _, _, _ => trivial
  | s :: l, p, h, ⟨ha, hl⟩ => by
    have h : cond (@decide (hi < (p : Int)) (a_decLt _ _)) true (a_bZ ((p : Int) + Int.ofNat s.1) (fun p' => (@decide (p' ≤ lo) (a_decLe _ _) || a_acc s.2 v vl vh) && a_accs lo hi v vl vh l p')) = true := h
    cases hb : @decide (hi < (p : Int)) (a_decLt _ _) with
    | true =>
      have hb := a_ofDec hb
      exact atyOK_congr (l := s :: l) (fun j hj => by show (if j = k then z else g j) = g j; rw [if_neg (by omega)]) ⟨ha, hl⟩
    | false =>
    rw [hb, cond_false, a_bZ_eq, Bool.and_eq_true, Bool.or_eq_true, a_dec_eq] at h
    refine ⟨fun j j1 j2 => ?_, a_accs_ok hk h1 h2 k1 k2 h.2 hl⟩
    show atin s.2 (if j = k then z else g j)
    by_cases hj : j = k
    · rw [if_pos hj]
      subst hj
      rcases h.1 with e | e
      · have e : ((p + s.1 : Nat) : Int) ≤ lo := e
        omega
      · exact a_acc_ok e hk h1 h2
    · rw [if_neg hj]
      exact ha j j1 j2
theorem a_bN_eq {n : Nat} {f : Nat → Bool} : a_bN n f = f n := by cases n <;> rfl
theorem a_uniN_eq {lo hi : Nat} : ∀ {l : List (Nat × aT)} {p : Nat}, a_uniN lo hi l p = a_uni (lo : Int) (hi : Int) l (p : Int)
  | [], p => by
    show cond (Nat.blt hi p) none (some ((9, 0, 0, []) : aT)) = cond (@decide ((hi : Int) < (p : Int)) (a_decLt _ _)) none (some (9, 0, 0, []))
    have e2 : @decide ((hi : Int) < (p : Int)) (a_decLt _ _) = Nat.blt hi p := by
      cases hb : Nat.blt hi p with
      | true => exact a_decT (Int.ofNat_lt.mpr (Nat.le_of_ble_eq_true hb))
      | false => exact a_decN (fun e => by rw [show Nat.blt hi p = true from Nat.ble_eq_true_of_le (Int.ofNat_lt.mp e)] at hb; cases hb)
    rw [e2]
  | s :: l, p => by
    show x_kN (p + s.1) (fun p' => cond (Nat.ble p' lo) (a_uniN lo hi l p') (cond (Nat.blt hi p) none (match a_uniN lo hi l p' with
      | some b => some (a_join s.2 b)
      | none => some s.2))) = x_kZ ((p : Int) + Int.ofNat s.1) (fun p' => cond (@decide (p' ≤ (lo : Int)) (a_decLe _ _)) (a_uni lo hi l p') (cond (@decide ((hi : Int) < (p : Int)) (a_decLt _ _)) none (match a_uni lo hi l p' with
      | some b => some (a_join s.2 b)
      | none => some s.2)))
    rw [x_kN_eq, x_kZ_eq, show (p : Int) + Int.ofNat s.1 = ((p + s.1 : Nat) : Int) from rfl, a_uniN_eq]
    have e1 : @decide (((p + s.1 : Nat) : Int) ≤ (lo : Int)) (a_decLe _ _) = Nat.ble (p + s.1) lo := by
      cases hb : Nat.ble (p + s.1) lo with
      | true => exact a_decT (Int.ofNat_le.mpr (Nat.le_of_ble_eq_true hb))
      | false => exact a_decN (fun e => by rw [Nat.ble_eq_true_of_le (Int.ofNat_le.mp e)] at hb; cases hb)
    have e2 : @decide ((hi : Int) < (p : Int)) (a_decLt _ _) = Nat.blt hi p := by
      cases hb : Nat.blt hi p with
      | true => exact a_decT (Int.ofNat_lt.mpr (Nat.le_of_ble_eq_true hb))
      | false => exact a_decN (fun e => by rw [show Nat.blt hi p = true from Nat.ble_eq_true_of_le (Int.ofNat_lt.mp e)] at hb; cases hb)
    rw [e1, e2]
theorem a_uniC_some {lo hi : Nat} (hlh : lo ≤ hi) : ∀ (l : aTc) (p : Nat), p ≤ hi → a_uniC lo hi l p ≠ none
  | [], p, hp => by
    show cond (Nat.blt hi p) none (some _) ≠ none
    cases hb : Nat.blt hi p with
    | true =>
      have : hi + 1 ≤ p := Nat.le_of_ble_eq_true hb
      omega
    | false => exact fun h => by cases h
  | s :: l, p, hp => by
    show x_kN (p + s.1) (fun p' => cond (Nat.ble p' lo) (a_uniC lo hi l p') (cond (Nat.blt hi p) none (cond (Nat.blt hi p') (a_uniN lo hi s.2 p) (a_joinO (x_kN (p' - 1) (fun u => a_uniN lo u s.2 p)) (a_uniC lo hi l p'))))) ≠ none
    rw [x_kN_eq, x_kN_eq]
    cases h1 : Nat.ble (p + s.1) lo with
    | true =>
      have h1 := Nat.le_of_ble_eq_true h1
      exact a_uniC_some hlh l _ (by omega)
    | false =>
      cases h2 : Nat.blt hi p with
      | true =>
        have : hi + 1 ≤ p := Nat.le_of_ble_eq_true h2
        omega
      | false =>
        cases h3 : Nat.blt hi (p + s.1) with
        | true =>
          show a_uniN lo hi s.2 p ≠ none
          rw [a_uniN_eq]
          exact a_uni_some (by omega) _ _ (by omega)
        | false =>
          have h3 : ¬ hi < p + s.1 := fun e => by rw [show Nat.blt hi (p + s.1) = true from Nat.ble_eq_true_of_le e] at h3; cases h3
          have ih := a_uniC_some hlh l (p + s.1) (by omega)
          show a_joinO (a_uniN lo (p + s.1 - 1) s.2 p) (a_uniC lo hi l (p + s.1)) ≠ none
          cases hu : a_uniC lo hi l (p + s.1) with
          | none => exact absurd hu ih
          | some y =>
            cases a_uniN lo (p + s.1 - 1) s.2 p with
            | none => exact fun h => by cases h
            | some x => exact fun h => by cases h
theorem a_uniC_ok {lo hi : Nat} {g : Nat → zV} {j : Nat} (h1 : lo ≤ j) (h2 : j ≤ hi) : ∀ {l : aTc} {p : Nat} {t : aT}, a_uniC lo hi l p = some t → atyC g l p → p ≤ j → atin t (g j)
  | [], p, t, h, _, hp => by
    have h : cond (Nat.blt hi p) none (some ((9, 0, 0, []) : aT)) = some t := h
    cases hb : Nat.blt hi p with
    | true => rw [hb] at h; cases h
    | false =>
      rw [hb] at h
      cases h
      exact trivial
  | s :: l, p, t, h, ⟨ha, _, hl⟩, hp => by
    have h : x_kN (p + s.1) (fun p' => cond (Nat.ble p' lo) (a_uniC lo hi l p') (cond (Nat.blt hi p) none (cond (Nat.blt hi p') (a_uniN lo hi s.2 p) (a_joinO (x_kN (p' - 1) (fun u => a_uniN lo u s.2 p)) (a_uniC lo hi l p'))))) = some t := h
    rw [x_kN_eq, x_kN_eq] at h
    cases c1 : Nat.ble (p + s.1) lo with
    | true =>
      rw [c1] at h
      have c1 := Nat.le_of_ble_eq_true c1
      exact a_uniC_ok h1 h2 h hl (by omega)
    | false =>
      rw [c1] at h
      cases c2 : Nat.blt hi p with
      | true => rw [c2] at h; cases h
      | false =>
        rw [c2] at h
        cases c3 : Nat.blt hi (p + s.1) with
        | true =>
          rw [c3] at h
          have h : a_uniN lo hi s.2 p = some t := h
          rw [a_uniN_eq] at h
          exact a_uni_ok (by omega) (by omega) h ha hp
        | false =>
          rw [c3] at h
          have c3 : ¬ hi < p + s.1 := fun e => by rw [show Nat.blt hi (p + s.1) = true from Nat.ble_eq_true_of_le e] at c3; cases c3
          have h : a_joinO (a_uniN lo (p + s.1 - 1) s.2 p) (a_uniC lo hi l (p + s.1)) = some t := h
          by_cases hj : j < p + s.1
          · cases hx : a_uniN lo (p + s.1 - 1) s.2 p with
            | none =>
              rw [a_uniN_eq] at hx
              exact absurd hx (a_uni_some (by omega) _ _ (by omega))
            | some x =>
              have hx' := hx
              rw [a_uniN_eq] at hx'
              have hat : atin x (g j) := a_uni_ok (by omega) (by omega) hx' ha hp
              rw [hx] at h
              cases hy : a_uniC lo hi l (p + s.1) with
              | none => rw [hy] at h; cases h; exact hat
              | some y => rw [hy] at h; cases h; exact atin_joinL hat
          · cases hy : a_uniC lo hi l (p + s.1) with
            | none => exact absurd hy (a_uniC_some (by omega) l _ (by omega))
            | some y =>
              have hat : atin y (g j) := a_uniC_ok h1 h2 hy hl (by omega)
              rw [hy] at h
              cases hx : a_uniN lo (p + s.1 - 1) s.2 p with
              | none => rw [hx] at h; cases h; exact hat
              | some x => rw [hx] at h; cases h; exact atin_joinR hat
theorem a_uniF_ok {lo hi : Int} {g : Nat → zV} {j : Nat} {l : aTc} {t : aT} (h : a_uniF lo hi l = some t) (hl : atyC g l 0) (h1 : lo ≤ (j : Int)) (h2 : (j : Int) ≤ hi) : atin t (g j) := by
  unfold a_uniF at h
  rcases x_condT h with ⟨hc, h⟩ | ⟨-, h⟩
  · rw [Bool.and_eq_true, a_dec_eq, a_dec_eq] at hc
    rw [x_kN_eq, x_kN_eq] at h
    exact a_uniC_ok (by omega) (by omega) h hl (Nat.zero_le j)
  · cases h
theorem a_accsN_eq {lo hi : Nat} {v : aV} {vl vh : Int} : ∀ {l : List (Nat × aT)} {p : Nat}, a_accsN lo hi v vl vh l p = a_accs (lo : Int) (hi : Int) v vl vh l (p : Int)
  | [], p => rfl
  | s :: l, p => by
    show cond (Nat.blt hi p) true (a_bN (p + s.1) (fun p' => (Nat.ble p' lo || a_acc s.2 v vl vh) && a_accsN lo hi v vl vh l p')) = cond (@decide ((hi : Int) < (p : Int)) (a_decLt _ _)) true (a_bZ ((p : Int) + Int.ofNat s.1) (fun p' => (@decide (p' ≤ (lo : Int)) (a_decLe _ _) || a_acc s.2 v vl vh) && a_accs lo hi v vl vh l p'))
    rw [a_bN_eq, a_bZ_eq, show (p : Int) + Int.ofNat s.1 = ((p + s.1 : Nat) : Int) from rfl, a_accsN_eq]
    have e1 : @decide (((p + s.1 : Nat) : Int) ≤ (lo : Int)) (a_decLe _ _) = Nat.ble (p + s.1) lo := by
      cases hb : Nat.ble (p + s.1) lo with
      | true => exact a_decT (Int.ofNat_le.mpr (Nat.le_of_ble_eq_true hb))
      | false => exact a_decN (fun e => by rw [Nat.ble_eq_true_of_le (Int.ofNat_le.mp e)] at hb; cases hb)
    have e2 : @decide ((hi : Int) < (p : Int)) (a_decLt _ _) = Nat.blt hi p := by
      cases hb : Nat.blt hi p with
      | true => exact a_decT (Int.ofNat_lt.mpr (Nat.le_of_ble_eq_true hb))
      | false => exact a_decN (fun e => by rw [show Nat.blt hi p = true from Nat.ble_eq_true_of_le (Int.ofNat_lt.mp e)] at hb; cases hb)
    rw [e1, e2]
theorem atyOK_in {g g' : Nat → zV} : ∀ {l : List (Nat × aT)} {p : Nat}, (∀ j, p ≤ j → j < p + a_wid l → g' j = g j) → atyOK g l p → atyOK g' l p
  | [], _, _, _ => trivial
  | s :: l, p, h, ⟨ha, hl⟩ => by
    have e : a_wid (s :: l) = s.1 + a_wid l := rfl
    rw [e] at h
    exact ⟨fun j j1 j2 => by rw [h j j1 (by omega)]; exact ha j j1 j2, atyOK_in (fun j j1 j2 => h j (by omega) (by omega)) hl⟩
theorem atyC_congr {g g' : Nat → zV} : ∀ {l : aTc} {p : Nat}, (∀ j, p ≤ j → g' j = g j) → atyC g l p → atyC g' l p
  | [], _, _, _ => trivial
  | s :: l, p, h, ⟨ha, hw, hl⟩ => ⟨atyOK_congr h ha, hw, atyC_congr (fun j hj => h j (by omega)) hl⟩
theorem a_accsC_ok {lo hi : Nat} {v : aV} {z : zV} {vl vh : Int} {g : Nat → zV} {k : Nat} (hk : z.1 = v.1) (h1 : vl ≤ z.2) (h2 : z.2 ≤ vh) (k1 : lo ≤ k) (k2 : k ≤ hi) : ∀ {l : aTc} {p : Nat}, a_accsC lo hi v vl vh l p = true → atyC g l p → atyC (fun b => if b = k then z else g b) l p
  | [], _, _, _ => trivial
  | s :: l, p, h, ⟨ha, hw, hl⟩ => by
    have h : cond (Nat.blt hi p) true (a_bN (p + s.1) (fun p' => (Nat.ble p' lo || a_accsN lo hi v vl vh s.2 p) && a_accsC lo hi v vl vh l p')) = true := h
    cases hb : Nat.blt hi p with
    | true =>
      have hb : hi + 1 ≤ p := Nat.le_of_ble_eq_true hb
      exact atyC_congr (l := s :: l) (fun j hj => by show (if j = k then z else g j) = g j; rw [if_neg (by omega)]) ⟨ha, hw, hl⟩
    | false =>
    rw [hb, cond_false, a_bN_eq, Bool.and_eq_true, Bool.or_eq_true] at h
    refine ⟨?_, hw, a_accsC_ok hk h1 h2 k1 k2 h.2 hl⟩
    rcases h.1 with e | e
    · have e := Nat.le_of_ble_eq_true e
      exact atyOK_in (fun j j1 j2 => by show (if j = k then z else g j) = g j; rw [if_neg (by omega)]) ha
    · rw [a_accsN_eq] at e
      exact a_accs_ok hk h1 h2 (by omega) (by omega) e ha
theorem a_accsF_ok {lo hi : Int} {v : aV} {z : zV} {vl vh : Int} {g : Nat → zV} {k : Nat} {l : aTc} (hk : z.1 = v.1) (h1 : vl ≤ z.2) (h2 : z.2 ≤ vh) (k1 : lo ≤ (k : Int)) (k2 : (k : Int) ≤ hi) (h : a_accsF lo hi v vl vh l = true) (hl : atyC g l 0) : atyC (fun b => if b = k then z else g b) l 0 := by
  unfold a_accsF at h
  rw [a_decT (show 0 ≤ hi by omega), cond_true] at h
  cases h2' : @decide (0 ≤ lo) (a_decLe _ _) with
  | true =>
    have h0 := a_ofDec h2'
    rw [h2', cond_true, a_bN_eq, a_bN_eq] at h
    exact a_accsC_ok hk h1 h2 (by omega) (by omega) h hl
  | false =>
    rw [h2'] at h
    cases h
theorem a_mod_ok {r : Nat} {lo hi : Int} {k : Nat} (k1 : lo ≤ (k : Int)) (k2 : (k : Int) ≤ hi) : ∀ {m : aM}, a_mod m r lo hi = true → aIn m r k
  | [], h => by cases h
  | q :: m, h => by
    have h : ((Nat.beq q.1 r && (@decide (Int.ofNat q.2.1 ≤ lo) (a_decLe _ _) && @decide (hi ≤ Int.ofNat q.2.2) (a_decLe _ _))) || a_mod m r lo hi) = true := h
    simp only [Bool.or_eq_true, Bool.and_eq_true, a_dec_eq] at h
    rcases h with ⟨e1, e2, e3⟩ | h
    · have e2 : (q.2.1 : Int) ≤ lo := e2
      have e3 : hi ≤ (q.2.2 : Int) := e3
      exact ⟨q, List.mem_cons_self, Nat.eq_of_beq_eq_true e1, by omega, by omega⟩
    · obtain ⟨x, h1, h2⟩ := a_mod_ok k1 k2 h
      exact ⟨x, List.mem_cons_of_mem _ h1, h2⟩
theorem a_hits_ok {r : Nat} {lo hi : Int} {k : Nat} (k1 : lo ≤ (k : Int)) (k2 : (k : Int) ≤ hi) : ∀ {m : aM}, a_hits m r lo hi = false → ¬ aIn m r k
  | [], _, ⟨q, hq, _⟩ => by cases hq
  | q :: m, h, ⟨x, hx, e1, e2, e3⟩ => by
    have h : ((Nat.beq q.1 r && (@decide (lo ≤ Int.ofNat q.2.2) (a_decLe _ _) && @decide (Int.ofNat q.2.1 ≤ hi) (a_decLe _ _))) || a_hits m r lo hi) = false := h
    rw [Bool.or_eq_false_iff] at h
    rcases List.mem_cons.mp hx with e | e
    · subst e
      have h := h.1
      have c1 : lo ≤ Int.ofNat x.2.2 := by show lo ≤ (x.2.2 : Int); omega
      have c2 : Int.ofNat x.2.1 ≤ hi := by show (x.2.1 : Int) ≤ hi; omega
      rw [a_decT c1, a_decT c2, e1] at h
      have h : Nat.beq r r = false := by simpa using h
      rw [Nat.beq_refl] at h
      cases h
    · exact a_hits_ok k1 k2 h.2 ⟨x, e, e1, e2, e3⟩
theorem a_flt_mem {α : Type} {f : α → Bool} {x : α} : ∀ {l : List α}, x ∈ a_flt f l → x ∈ l ∧ f x = true
  | [], h => by cases h
  | a :: l, h => by
    have h : x ∈ cond (f a) (a :: a_flt f l) (a_flt f l) := h
    cases hf : f a with
    | true =>
      rw [hf] at h
      rcases List.mem_cons.mp h with e | e
      · rw [e]; exact ⟨List.mem_cons_self, hf⟩
      · exact ⟨List.mem_cons_of_mem _ (a_flt_mem e).1, (a_flt_mem e).2⟩
    | false =>
      rw [hf] at h
      exact ⟨List.mem_cons_of_mem _ (a_flt_mem h).1, (a_flt_mem h).2⟩
section AH
variable {X : aX} {ρ : Nat → Int} {q : aQ} {h : zH}
/-- the flags that stay behind a change -/
theorem a_fkeep1 (hX : aOK X) {r : Nat} {lo hi : Int} {h' : zH} (hh : ∀ a k : Nat, ¬ (a = r ∧ lo ≤ (k : Int) ∧ (k : Int) ≤ hi) → h' a k = h a k) {j : Nat} (h1 : X.2.2.1 j h) (h2 : a_fkeep X.1.2.1 r lo hi j = true) : X.2.2.1 j h' := by
  unfold a_fkeep at h2
  split at h2
  · rename_i m hm
    refine hX.1.1 j m hm h h' (fun a k hk => hh a k (fun ⟨e1, e2, e3⟩ => ?_)) h1
    subst e1
    have h2 : a_hits m a lo hi = false := by simpa using h2
    exact a_hits_ok e2 e3 h2 hk
  · cases h2
theorem a_fkeep_ok (hX : aOK X) (g : aDen X ρ q h) {r : Nat} {lo hi : Int} {h' : zH} (hh : ∀ a k : Nat, ¬ (a = r ∧ lo ≤ (k : Int) ∧ (k : Int) ≤ hi) → h' a k = h a k) : ∀ j ∈ a_flt (a_fkeep X.1.2.1 r lo hi) q.2.2.2.2, X.2.2.1 j h' := by
  intro j hj
  obtain ⟨h1, h2⟩ := a_flt_mem hj
  exact a_fkeep1 hX hh (g.2.2.2.1 j h1) h2
theorem a_anyO_ok {p : (Nat × Nat × Int) × aV → Bool} : ∀ {O : aO}, a_anyO p O = true → ∃ e ∈ O, p e = true
  | [], h => by cases h
  | e :: O, h => by
    have h : (p e || a_anyO p O) = true := h
    rw [Bool.or_eq_true] at h
    rcases h with h | h
    · exact ⟨e, List.mem_cons_self, h⟩
    · obtain ⟨x, h1, h2⟩ := a_anyO_ok h
      exact ⟨x, List.mem_cons_of_mem _ h1, h2⟩
theorem a_memF_ok {j : Nat} : ∀ {l : List Nat}, a_memF j l = true → j ∈ l
  | [], h => by cases h
  | a :: l, h => by
    have h : (Nat.beq a j || a_memF j l) = true := h
    rw [Bool.or_eq_true] at h
    rcases h with h | h
    · rw [Nat.eq_of_beq_eq_true h]; exact List.mem_cons_self
    · exact List.mem_cons_of_mem _ (a_memF_ok h)
theorem a_sameV_ok {v w : aV} (h : a_sameV v w = true) : v = w := by
  unfold a_sameV at h
  simp only [Bool.and_eq_true, a_dec_eq] at h
  exact Prod.ext (Nat.eq_of_beq_eq_true h.1) (Prod.ext (Nat.eq_of_beq_eq_true h.2.1) h.2.2)
theorem a_soI_ok {B : Nat} {lo hi : Int} {k : Nat} (h : a_soI B lo hi = true) (h1 : lo ≤ (k : Int)) (h2 : (k : Int) ≤ hi) : rIn B k := by
  unfold a_soI at h
  simp only [Bool.or_eq_true, Bool.and_eq_true, a_dec_eq] at h
  have e1 : Int.ofNat (B + 245) = ((B + 245 : Nat) : Int) := rfl
  have e2 : Int.ofNat (B + 250) = ((B + 250 : Nat) : Int) := rfl
  have e3 : Int.ofNat (B + 257) = ((B + 257 : Nat) : Int) := rfl
  have e4 : Int.ofNat (B + 262) = ((B + 262 : Nat) : Int) := rfl
  rw [e1, e2, e3, e4] at h
  unfold rIn
  omega
theorem a_soA_ok (g : aDen X ρ q h) {B : Nat} {vh z : Int} (hz : z ≤ vh) (hb : a_soA q B vh = true) : rCb h 126 B z := by
  unfold a_soA at hb
  split at hb
  · rename_i c d hc hd
    have rc := (a_oget_ok g.2.2.1 hc).2
    have rd := (a_oget_ok g.2.2.1 hd).2
    split at hb
    · rename_i b hk
      obtain ⟨cl, ch, hk, c1, c2⟩ := a_rng_den hk g rc
      obtain ⟨dl, dh, hk, d1, d2⟩ := a_rng_den hk g rd
      have hk := Option.some.inj hk
      rw [hb, Bool.and_eq_true, Bool.and_eq_true, a_dec_eq, a_dec_eq, a_dec_eq] at hk
      obtain ⟨k1, k2, k3⟩ := hk
      right
      have c1 : cl ≤ (h 126 B).2 := c1
      have d1 : dl ≤ (h 126 (B + 1)).2 := d1
      have := Int.mul_le_mul c1 d1 k2 (by omega)
      omega
    · cases hb
  · cases hb
theorem a_soB_ok (g : aDen X ρ q h) {B : Nat} {v : aV} {zv : zV} (hv : aR ρ q.1 v zv) (hA : rAl h 126 B) (hb : a_soB q B v = true) : rCb h 126 B zv.2 := by
  unfold a_soB at hb
  obtain ⟨e, he, hb⟩ := a_anyO_ok hb
  rw [Bool.and_eq_true, Bool.and_eq_true] at hb
  obtain ⟨b1, b2, b3⟩ := hb
  obtain ⟨g1, g2, g3⟩ := g.2.2.1 e he
  rw [Nat.eq_of_beq_eq_true b1, a_sameV_ok b2] at g3
  split at b3
  · rename_i b hk
    obtain ⟨l, u, hk, k1, k2⟩ := a_rngK_ok hk g.1.1
    have hk := Option.some.inj hk
    rw [b3] at hk
    have k1 : l ≤ aev ρ e.1.2.1 e.1.2.2 := k1
    have k2 : aev ρ e.1.2.1 e.1.2.2 ≤ u := k2
    have := hA _ (a_soI_ok (k := (aev ρ e.1.2.1 e.1.2.2).toNat) hk (by omega) (by omega))
    rw [g3.2] at this
    rw [hv.2]
    exact this
  · cases b3
theorem a_soC_ok (hX : aOK X) (g : aDen X ρ q h) {B : Nat} {v : aV} {zv : zV} (hv : aR ρ q.1 v zv) (hb : a_soC q B v = true) : rCb h 126 B zv.2 := by
  unfold a_soC at hb
  rw [Bool.and_eq_true, Bool.and_eq_true] at hb
  obtain ⟨b1, b2, b3⟩ := hb
  rw [Nat.eq_of_beq_eq_true b1]
  have hR : rRow h := (hX.2.2 351 h (by omega) (by omega)).mp (g.2.2.2.1 351 (a_memF_ok b2))
  split at b3
  · rename_i w hw
    have rw_ := (a_oget_ok g.2.2.1 hw).2
    obtain ⟨e, he, b3⟩ := a_anyO_ok b3
    rw [Bool.and_eq_true, Bool.and_eq_true, Bool.and_eq_true] at b3
    obtain ⟨c1, c2, c3, c4⟩ := b3
    obtain ⟨g1, g2, g3⟩ := g.2.2.1 e he
    rw [Nat.eq_of_beq_eq_true c1, a_sameV_ok c2] at g3
    have hl := a_leq_ok g c4
    have hl : aev ρ e.1.2.1 e.1.2.2 ≤ aev ρ w.2.1 w.2.2 + -1 := hl
    rw [← aR_val rw_] at hl
    split at c3
    · rename_i b hk
      obtain ⟨l, u, hk, k1, k2⟩ := a_rngK_ok hk g.1.1
      have hk := Option.some.inj hk
      rw [c3, a_dec_eq] at hk
      have k2 : aev ρ e.1.2.1 e.1.2.2 ≤ u := k2
      have hl : aev ρ e.1.2.1 e.1.2.2 ≤ (h 121 31).2 + -1 := hl
      have := hR (aev ρ e.1.2.1 e.1.2.2).toNat (by omega) (by omega)
      rw [g3.2] at this
      rw [hv.2]
      exact this
    · cases c3
  · cases b3
/-- a write of a good cell keeps the flags of those that stand -/
theorem a_soft_ok (hX : aOK X) (g : aDen X ρ q h) {r : Nat} {lo hi : Int} {v : aV} {zv : zV} {vh : Int} {j k : Nat} (hj : X.2.2.1 j h) (hv : aR ρ q.1 v zv) (hz : zv.2 ≤ vh) (h1 : lo ≤ (k : Int)) (h2 : (k : Int) ≤ hi) (hb : a_soft q r lo hi v vh j = true) : X.2.2.1 j (zset h r k zv) := by
  unfold a_soft at hb
  rw [Bool.and_eq_true, Bool.and_eq_true, Bool.and_eq_true, Bool.and_eq_true, a_bN_eq, Bool.and_eq_true, Bool.or_eq_true, Bool.or_eq_true] at hb
  obtain ⟨b1, b2, b3, -, b5, b6⟩ := hb
  have b1 : 344 < j := Nat.le_of_ble_eq_true b1
  have b2 : j < 350 := Nat.le_of_ble_eq_true b2
  have b3 := Nat.eq_of_beq_eq_true b3
  subst b3
  have e : ∀ h, rFx j h ↔ rAl h 126 (550 * (j - 345)) := fun h => by unfold rFx; rw [if_pos b2]
  have hA := (e h).mp ((hX.2.2 j h (by omega) (by omega)).mp hj)
  have hg : rCb h 126 (550 * (j - 345)) zv.2 := by
    rcases b6 with b | b | b
    · exact a_soA_ok g hz b
    · exact a_soB_ok g hv hA b
    · exact a_soC_ok hX g hv b
  have hin := a_soI_ok b5 h1 h2
  refine (hX.2.2 j _ (by omega) (by omega)).mpr ((e _).mpr fun k' hk' => ?_)
  have e0 : zset h 126 k zv 126 (550 * (j - 345)) = h 126 (550 * (j - 345)) := if_neg (fun c => by unfold rIn at hin; omega)
  have e1 : zset h 126 k zv 126 (550 * (j - 345) + 1) = h 126 (550 * (j - 345) + 1) := if_neg (fun c => by unfold rIn at hin; omega)
  unfold rCb
  rw [e0, e1]
  by_cases c : k' = k
  · have e2 : zset h 126 k zv 126 k' = zv := if_pos ⟨rfl, c⟩
    rw [e2]; exact hg
  · have e2 : zset h 126 k zv 126 k' = h 126 k' := if_neg (fun d => c d.2)
    rw [e2]; exact hA k' hk'
theorem a_okeep_ok {E : aB} {n : Nat} (he : ∀ x ∈ E, x.1 < n ∧ x.2.1 ≤ ρ x.1 ∧ ρ x.1 ≤ x.2.2) {r s : Nat} {o lo hi : Int} {e : (Nat × Nat × Int) × aV} (hk : a_okeep E r s o lo hi e = true) (he0 : 0 ≤ aev ρ e.1.2.1 e.1.2.2) : e.1.1 ≠ r ∨ (e.1.2.1 = s ∧ e.1.2.2 ≠ o) ∨ aev ρ e.1.2.1 e.1.2.2 < lo ∨ hi < aev ρ e.1.2.1 e.1.2.2 := by
  unfold a_okeep at hk
  rw [Bool.or_eq_true, Bool.or_eq_true, Bool.and_eq_true] at hk
  rcases hk with hk | ⟨h1, h2⟩ | hk
  · left
    intro e1
    rw [e1, Nat.beq_refl] at hk
    cases hk
  · right; left
    refine ⟨Nat.eq_of_beq_eq_true h1, fun e1 => ?_⟩
    rw [a_decT e1] at h2
    cases h2
  · right; right
    split at hk
    · rename_i b hb
      obtain ⟨l, u, hf, h1, h2⟩ := a_rngK_ok (ρ := ρ) hb he
      have hf := Option.some.inj hf
      rw [hk, Bool.or_eq_true, a_dec_eq, a_dec_eq] at hf
      have h1 : l ≤ aev ρ e.1.2.1 e.1.2.2 := h1
      have h2 : aev ρ e.1.2.1 e.1.2.2 ≤ u := h2
      omega
    · cases hk
theorem aev_inj {s : Nat} {o o' : Int} (h : aev ρ s o = aev ρ s o') : o = o' := by
  cases s with
  | zero => exact h
  | succ i => have h : ρ i + o = ρ i + o' := h; omega
theorem a_wrK_ok {β : Type} (hX : aOK X) {r s : Nat} {o lo hi : Int} {v : aV} {zv : zV} {l : aTc} {f : aQ → Option β} {res : β} (hr : a_wrK X.1 X.2.2.2.2 q r s o lo hi v l f = some res) (g : aDen X ρ q h) (hl : a_at X.1.1 r = some l) (hs : s ≤ q.1) (h0 : 0 ≤ lo) (h1 : lo ≤ aev ρ s o) (h2 : aev ρ s o ≤ hi) (hv : aR ρ q.1 v zv) : ∃ q', f q' = some res ∧ q'.1 = q.1 ∧ aDen X ρ q' (zset h r (aev ρ s o).toNat zv) := by
  unfold a_wrK at hr
  obtain ⟨vl, vh, hr, b1, b2⟩ := a_rng_den hr g hv
  rcases x_condT hr with ⟨hc, hr⟩ | ⟨-, hr⟩
  · rw [Bool.and_eq_true] at hc
    rw [x_spine_eq, x_spine_eq] at hr
    have hk : zv.1 = v.1 := by rw [hv.2]
    have hz : ((aev ρ s o).toNat : Int) = aev ρ s o := by omega
    have hh : ∀ a k : Nat, ¬ (a = r ∧ lo ≤ (k : Int) ∧ (k : Int) ≤ hi) → zset h r (aev ρ s o).toNat zv a k = h a k := by
      intro a k hn
      show (if a = r ∧ k = (aev ρ s o).toNat then zv else h a k) = h a k
      rw [if_neg (fun e => hn ⟨e.1, by omega, by omega⟩)]
    refine ⟨_, hr, rfl, g.1, fun a l' hl' => ?_, fun e he => ?_, fun j hj => ?_, fun a k hn => ?_, g.2.2.2.2.2⟩
    · by_cases e : a = r
      · subst e
        rw [hl] at hl'
        cases hl'
        rw [zset_self]
        exact a_accsF_ok (k := (aev ρ s o).toNat) hk b1 b2 (by omega) (by omega) hc.1 (g.2.1 a l hl)
      · rw [zset_other h r (aev ρ s o).toNat zv a e]
        exact g.2.1 a l' hl'
    · rcases List.mem_cons.mp he with e1 | e1
      · rw [e1]
        refine ⟨hs, by show 0 ≤ aev ρ s o; omega, ?_⟩
        show aR ρ q.1 v (if r = r ∧ (aev ρ s o).toNat = (aev ρ s o).toNat then zv else _)
        rw [if_pos ⟨rfl, rfl⟩]
        exact hv
      · obtain ⟨m1, m2⟩ := a_flt_mem e1
        obtain ⟨g1, g2, g3⟩ := g.2.2.1 e m1
        refine ⟨g1, g2, ?_⟩
        have := a_okeep_ok g.1.1 m2 g2
        show aR ρ q.1 e.2 (if e.1.1 = r ∧ (aev ρ e.1.2.1 e.1.2.2).toNat = (aev ρ s o).toNat then zv else h e.1.1 (aev ρ e.1.2.1 e.1.2.2).toNat)
        rw [if_neg (fun c => ?_)]
        · exact g3
        · rcases this with d | ⟨d1, d2⟩ | d
          · exact d c.1
          · apply d2
            have : aev ρ e.1.2.1 e.1.2.2 = aev ρ s o := by omega
            rw [d1] at this
            exact aev_inj this
          · omega
    · obtain ⟨m1, m2⟩ := a_flt_mem hj
      rw [Bool.or_eq_true] at m2
      rcases m2 with m2 | m2
      · exact a_fkeep1 hX hh (g.2.2.2.1 j m1) m2
      · exact a_soft_ok hX g (g.2.2.2.1 j m1) hv b2 (by omega) (by omega) m2
    · rw [hh a k (fun ⟨e1, e2, e3⟩ => ?_)]
      · exact g.2.2.2.2.1 a k hn
      · subst e1
        exact hn (a_mod_ok e2 e3 hc.2)
  · cases hr
theorem aDen.addO (g : aDen X ρ q h) {e : (Nat × Nat × Int) × aV} (h1 : e.1.2.1 ≤ q.1) (h2 : 0 ≤ aev ρ e.1.2.1 e.1.2.2) (h3 : aR ρ q.1 e.2 (h e.1.1 (aev ρ e.1.2.1 e.1.2.2).toNat)) : aDen X ρ (a_addO q e) h := by
  refine ⟨g.1, g.2.1, fun x hx => ?_, g.2.2.2.1, g.2.2.2.2.1, g.2.2.2.2.2⟩
  rcases List.mem_cons.mp hx with e1 | e1
  · rw [e1]; exact ⟨h1, h2, h3⟩
  · exact g.2.2.1 x e1
theorem a_readK_ok {t : aT} {r s : Nat} {o : Int} {f : aQ → aV → Option (List aOut)} {outs : List aOut} (hr : a_readK t q (r, s, o) f = some outs) (g : aDen X ρ q h) (hs : s ≤ q.1) (h0 : 0 ≤ aev ρ s o) (ht : atin t (h r (aev ρ s o).toNat)) : ∃ outs', (∀ x ∈ outs', x ∈ outs) ∧ aMk X ρ q h (h r (aev ρ s o).toNat) f outs' := by
  obtain ⟨k, l, u, rs⟩ := t
  obtain ⟨zv, hzv⟩ : ∃ zv, zv = h r (aev ρ s o).toNat := ⟨_, rfl⟩
  rw [← hzv] at ht ⊢
  have num : ∀ k : Nat, zv.1 = k → l ≤ zv.2 → zv.2 ≤ u → a_newK k l u q (fun q v => f (a_addO q ((r, s, o), v)) v) = some outs → ∃ outs', (∀ x ∈ outs', x ∈ outs) ∧ aMk X ρ q h zv f outs' := by
    intro k e1 e2 e3 hr
    obtain ⟨q', v, ρ', hf, ha, hn, g', hv⟩ := a_newK_ok hr g e2 e3
    have hv2 : aR ρ' q'.1 v zv := by rw [← e1] at hv; exact hv
    have hs' := aev_ag ha (o := o) hs
    exact ⟨outs, fun _ hx => hx, _, v, ρ', hf, ha, hn, g'.addO (e := ((r, s, o), v)) (by show s ≤ q'.1; omega) (by show 0 ≤ aev ρ' s o; rw [hs']; exact h0) (by show aR ρ' q'.1 v (h r (aev ρ' s o).toNat); rw [hs', ← hzv]; exact hv2), hv2⟩
  match k, ht, hr with
  | 0, ⟨e1, e2, e3⟩, hr => exact num 0 e1 e2 e3 hr
  | 1, ⟨e1, e2, e3⟩, hr => exact num 1 e1 e2 e3 hr
  | 2, ⟨z, e1, e2⟩, hr =>
    have go : ∀ (rs : List Int) (outs : List aOut), List.rec (motive := fun _ => Option (List aOut)) (some []) (fun z _ ih => a_app (cond (@decide (z = -1) (a_decEqZ _ _)) (f (a_addO q ((r, s, o), (4, 0, 0))) (4, 0, 0)) (f (a_addO q ((r, s, o), (2, 0, z))) (2, 0, z))) ih) rs = some outs → z ∈ rs → ∃ outs', (∀ x ∈ outs', x ∈ outs) ∧ aMk X ρ q h zv f outs' := by
      intro rs
      induction rs with
      | nil => exact fun outs _ hm => by cases hm
      | cons a rs ih =>
        intro outs hr hm
        obtain ⟨ra, rb, ha, hb, rfl⟩ := a_app_ok hr
        by_cases haz : z = a
        · subst haz
          by_cases hz : z = -1
          · rw [a_decT hz] at ha
            rw [if_pos hz] at e2
            have hv : aR ρ q.1 (4, 0, 0) zv := ⟨Nat.zero_le _, e2⟩
            exact ⟨ra, fun x hx => List.mem_append_left _ hx, ⟨a_addO q ((r, s, o), (4, 0, 0)), (4, 0, 0), ρ, ha, aAg.refl _ _, Nat.le_refl _, g.addO (e := ((r, s, o), (4, 0, 0))) hs h0 (by show aR ρ q.1 (4, 0, 0) (h r (aev ρ s o).toNat); rw [← hzv]; exact hv), hv⟩⟩
          · rw [a_decN hz] at ha
            rw [if_neg hz] at e2
            have hv : aR ρ q.1 (2, 0, z) zv := ⟨Nat.zero_le _, e2⟩
            exact ⟨ra, fun x hx => List.mem_append_left _ hx, ⟨a_addO q ((r, s, o), (2, 0, z)), (2, 0, z), ρ, ha, aAg.refl _ _, Nat.le_refl _, g.addO (e := ((r, s, o), (2, 0, z))) hs h0 (by show aR ρ q.1 (2, 0, z) (h r (aev ρ s o).toNat); rw [← hzv]; exact hv), hv⟩⟩
        · obtain ⟨outs', i1, i2⟩ := ih rb hb ((List.mem_cons.mp hm).resolve_left haz)
          exact ⟨outs', fun x hx => List.mem_append_right _ (i1 x hx), i2⟩
    exact go rs outs hr e1
  | n + 3, _, hr => cases hr
end AH
