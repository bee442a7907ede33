/-! RUNS COMPUTED (zEv); WHAT ANY RUN COMES TO (vP): partial correctness, whose runs' being there others show -/
noncomputable def zEvB (f : Nat → Nat → zS → Option zR) (mi : Nat) (o : Option zO) : Option zR := match o with
  | none => none
  | some (.inl r) => some r
  | some (.inr (.inl q)) => f mi q.1 q.2
  | some (.inr (.inr q)) => match f q.1 0 (q.2.2.2.1, zargs 0 q.2.1, []) with
    | none => none
    | some r1 => f mi q.2.2.1 (r1.1, q.2.2.2.2.1, zpush r1.2 q.2.2.2.2.2)
noncomputable def zEvA (D : zD) (T : zT) (f : Nat → Nat → zS → Option zR) (mi pc : Nat) (st : zS) : Option zR := match T mi pc with
  | none => none
  | some i => zEvB f mi (zi D i st)
noncomputable def zEv (D : zD) (T : zT) (n : Nat) : Nat → Nat → zS → Option zR := Nat.rec (motive := fun _ => Nat → Nat → zS → Option zR) (fun _ _ _ => none) (fun _ f mi pc st => zEvA D T f mi pc st) n
theorem zEv_s {D : zD} {T : zT} {n mi pc : Nat} {st : zS} {i : zX} (hi : T mi pc = some i) : zEv D T (n + 1) mi pc st = zEvB (zEv D T n) mi (zi D i st) := by
  show zEvA D T (zEv D T n) mi pc st = _
  unfold zEvA
  rw [hi]
theorem zEvB_mono {f g : Nat → Nat → zS → Option zR} (hfg : ∀ mi pc st r, f mi pc st = some r → g mi pc st = some r) {mi : Nat} {o : Option zO} {r : zR} (h : zEvB f mi o = some r) : zEvB g mi o = some r := by
  match o, h with
  | none, h => cases h
  | some (.inl q), h => exact h
  | some (.inr (.inl q)), h => exact hfg _ _ _ _ h
  | some (.inr (.inr q)), h =>
    have h : (match f q.1 0 (q.2.2.2.1, zargs 0 q.2.1, []) with
      | none => none
      | some r1 => f mi q.2.2.1 (r1.1, q.2.2.2.2.1, zpush r1.2 q.2.2.2.2.2)) = some r := h
    show (match g q.1 0 (q.2.2.2.1, zargs 0 q.2.1, []) with
      | none => none
      | some r1 => g mi q.2.2.1 (r1.1, q.2.2.2.2.1, zpush r1.2 q.2.2.2.2.2)) = some r
    cases hc : f q.1 0 (q.2.2.2.1, zargs 0 q.2.1, []) with
    | none => rw [hc] at h; cases h
    | some r1 =>
      rw [hc] at h
      rw [hfg _ _ _ _ hc]
      exact hfg _ _ _ _ h
theorem zEv_up {D : zD} {T : zT} : ∀ {n mi pc : Nat} {st : zS} {r : zR}, zEv D T n mi pc st = some r → zEv D T (n + 1) mi pc st = some r := by
  intro n
  induction n with
  | zero => intro mi pc st r h; cases h
  | succ n ih =>
    intro mi pc st r h
    cases hi : T mi pc with
    | none =>
      have h : zEvA D T (zEv D T n) mi pc st = some r := h
      unfold zEvA at h
      rw [hi] at h
      cases h
    | some i =>
      rw [zEv_s hi] at h ⊢
      exact zEvB_mono (fun _ _ _ _ => ih) h
theorem zEv_le {D : zD} {T : zT} {n m mi pc : Nat} {st : zS} {r : zR} (h : zEv D T n mi pc st = some r) (hm : n ≤ m) : zEv D T m mi pc st = some r := by
  obtain ⟨k, rfl⟩ := Nat.le.dest hm
  clear hm
  induction k with
  | zero => exact h
  | succ k ih => exact zEv_up ih
theorem zRun_ev {D : zD} {T : zT} {d mi pc : Nat} {st : zS} {r : zR} (h : zRun D T d mi pc st r) : ∃ n, zEv D T n mi pc st = some r := by
  refine h (fun _ mi pc st r => ∃ n, zEv D T n mi pc st = some r) ?_
  intro d mi pc st r ⟨i, hi, hF⟩
  cases hz : zi D i st with
  | none => rw [hz] at hF; exact hF.elim
  | some o =>
    rw [hz] at hF
    match o, hF, hz with
    | .inl q, hF, hz =>
      have hF : r = q := hF
      exact ⟨1, by rw [zEv_s hi, hz, hF]; rfl⟩
    | .inr (.inl q), ⟨n, hn⟩, hz => exact ⟨n + 1, by rw [zEv_s hi, hz]; exact hn⟩
    | .inr (.inr q), ⟨d', r1, _, ⟨n1, h2⟩, ⟨n2, h3⟩⟩, hz =>
      refine ⟨max n1 n2 + 1, ?_⟩
      rw [zEv_s hi, hz]
      show (match zEv D T (max n1 n2) q.1 0 (q.2.2.2.1, zargs 0 q.2.1, []) with
        | none => none
        | some r1 => zEv D T (max n1 n2) mi q.2.2.1 (r1.1, q.2.2.2.2.1, zpush r1.2 q.2.2.2.2.2)) = some r
      rw [zEv_le h2 (Nat.le_max_left _ _)]
      exact zEv_le h3 (Nat.le_max_right _ _)
theorem zRun_det {D : zD} {T : zT} {d d' mi pc : Nat} {st : zS} {r r' : zR} (h : zRun D T d mi pc st r) (h' : zRun D T d' mi pc st r') : r = r' := by
  obtain ⟨n, h1⟩ := zRun_ev h
  obtain ⟨m, h2⟩ := zRun_ev h'
  have e1 := zEv_le h1 (Nat.le_max_left n m)
  have e2 := zEv_le h2 (Nat.le_max_right n m)
  rw [e1] at e2
  cases e2
  rfl
/-! the heap's tags, and the references that no method writes -/
def vFt : List (List Nat) := [[4, 4, 0, 0, 1, 4, 4, 4, 0], [4, 4, 1, 4, 4, 4, 4, 0, 0, 0, 0], [0, 0, 0, 0, 0, 4, 4, 4, 4, 4, 4, 4, 4, 4, 4], [4, 4, 3], [4, 4], [0, 0, 4, 4, 4, 4], [4, 4, 4, 4, 0], [4, 4, 4, 4, 0, 0, 3, 0, 0, 0, 0, 3], [4, 0, 4, 4, 4, 4, 0, 0, 0, 0, 0], [4, 0, 0], [4, 4, 4, 1, 0, 0, 4, 0, 1], [0, 1, 1, 4, 4, 4, 4, 4, 4, 4, 0, 4, 4, 4, 4, 4, 4, 0, 0, 4], [0, 0, 1, 1, 4, 4, 4, 4, 0, 0, 0, 0, 0, 0, 0, 0, 0, 0, 0, 1, 4, 4, 4, 0, 3, 0, 4, 4, 4, 0, 4, 0, 0, 0, 0, 0, 4, 4, 4, 4, 3, 3, 0, 0, 0, 0, 0, 0]]
def vMut : List (Nat × Nat) := [(0, 0), (0, 1), (1, 1), (3, 1), (4, 0), (4, 1), (6, 2), (7, 2), (7, 3), (11, 7), (11, 8)]
def vRefs : List (Nat × Nat × Int) := [(0, 3, 1), (0, 4, 10), (0, 5, 16), (0, 6, 17), (0, 9, 54), (0, 11, 100), (0, 12, 105), (0, 13, 110), (0, 14, 114), (0, 15, 117), (0, 16, 119), (0, 19, 120), (1, 0, 2), (1, 1, 4), (1, 2, 6), (1, 3, 8), (2, 0, 3), (4, 0, 5), (6, 0, 7), (8, 0, 9), (10, 0, 11), (10, 2, 12), (10, 3, 13), (10, 4, 14), (10, 5, 15), (16, 0, 10), (17, 0, 10), (17, 1, 18), (17, 3, 23), (18, 2, 19), (18, 3, 20), (18, 4, 21), (18, 5, 22), (24, 5, 25), (24, 6, 26), (24, 7, 27), (24, 8, 28), (24, 9, 29), (24, 10, 30), (24, 11, 31), (24, 12, 32), (24, 13, 33), (24, 14, 34), (34, 2, 35), (34, 3, 36), (34, 4, 37), (34, 5, 38), (39, 5, 40), (39, 6, 41), (39, 7, 42), (39, 8, 43), (39, 9, 44), (39, 10, 45), (39, 11, 46), (39, 12, 47), (39, 13, 48), (39, 14, 49), (49, 2, 50), (49, 3, 51), (49, 4, 52), (49, 5, 53), (54, 0, 55), (54, 1, 70), (54, 2, 85), (55, 5, 56), (55, 6, 57), (55, 7, 58), (55, 8, 59), (55, 9, 60), (55, 10, 61), (55, 11, 62), (55, 12, 63), (55, 13, 64), (55, 14, 65), (65, 2, 66), (65, 3, 67), (65, 4, 68), (65, 5, 69), (70, 5, 71), (70, 6, 72), (70, 7, 73), (70, 8, 74), (70, 9, 75), (70, 10, 76), (70, 11, 77), (70, 12, 78), (70, 13, 79), (70, 14, 80), (80, 2, 81), (80, 3, 82), (80, 4, 83), (80, 5, 84), (85, 5, 86), (85, 6, 87), (85, 7, 88), (85, 8, 89), (85, 9, 90), (85, 10, 91), (85, 11, 92), (85, 12, 93), (85, 13, 94), (85, 14, 95), (95, 2, 96), (95, 3, 97), (95, 4, 98), (95, 5, 99), (100, 0, 101), (100, 1, 102), (100, 2, 103), (100, 6, 104), (105, 0, 100), (105, 3, 106), (105, 4, 107), (105, 5, 108), (105, 6, 109), (110, 5, 111), (110, 6, 112), (110, 7, 113), (117, 0, 100), (117, 1, 118), (121, 4, 122), (121, 5, 123), (121, 6, 124), (121, 7, 125), (121, 20, 126), (121, 21, 127), (121, 22, 128), (121, 26, 129), (121, 27, 130), (121, 28, 131), (121, 30, 132), (121, 36, 133), (121, 37, 134), (121, 38, 135), (121, 39, 136)]
def vCode (r k : Nat) : Option Nat := match zShape[r]? with
  | some (.inl q) => if k < q.2 then some (zcode q.1) else none
  | some (.inr q) => match vFt[q.1]? with
    | some l => l[k]?
    | none => none
  | none => none
def vTag (c : Nat) : Nat := if c = 1 then 1 else 0
def zHv (h : zH) : Prop := (∀ r k c, vCode r k = some c → c ≠ 4 → (h r k).1 = vTag c) ∧ ∀ x ∈ vRefs, h x.1 x.2.1 = (2, x.2.2)
def vOKi (i : zX) : Bool := match i with
  | (21, _, ci, k, c, _) => (match vFt[ci]? with
    | some l => l[k]? == some c.toNat
    | none => false) && (c.toNat != 4 || vMut.contains (ci, k))
  | _ => true
def vOK (T : zT) : Prop := ∀ mi pc i, T mi pc = some i → vOKi i = true
theorem vRefs_ok : (vRefs.all fun x => vCode x.1 x.2.1 == some 4 && (match zShape[x.1]? with
  | some (.inr q) => !vMut.contains (q.1, x.2.1)
  | _ => true)) = true := by decide +kernel
theorem vRefs_at {x : Nat × Nat × Int} (hx : x ∈ vRefs) : vCode x.1 x.2.1 = some 4 ∧ ∀ q, zShape[x.1]? = some (.inr q) → vMut.contains (q.1, x.2.1) = false := by
  have h := List.all_eq_true.mp vRefs_ok x hx
  rw [Bool.and_eq_true] at h
  refine ⟨eq_of_beq h.1, fun q hq => ?_⟩
  have h2 := h.2
  rw [hq] at h2
  have h2 : (!vMut.contains (q.1, x.2.1)) = true := h2
  rw [Bool.not_eq_true'] at h2
  exact h2
theorem zfit_tag {c : Nat} {v : zV} (h : zfit c v = true) (hc : c ≠ 4) : v.1 = vTag c := by
  unfold zfit at h
  split at h
  · exact of_decide_eq_true h
  · exact of_decide_eq_true h
  · rw [Bool.and_eq_true] at h; exact of_decide_eq_true h.1
  · rw [Bool.and_eq_true] at h; exact of_decide_eq_true h.1
  · exact absurd rfl hc
  · cases h
theorem zset_same {h : zH} {r k : Nat} {v : zV} : zset h r k v r k = v := if_pos ⟨rfl, rfl⟩
theorem zset_ne {h : zH} {r k r' k' : Nat} {v : zV} (hn : ¬ (r' = r ∧ k' = k)) : zset h r k v r' k' = h r' k' := if_neg hn
theorem zHv.set {h : zH} (hv : zHv h) {r k c : Nat} {v : zV} (hc : vCode r k = some c) (hf : c ≠ 4 → v.1 = vTag c) (hr : ∀ x ∈ vRefs, ¬ (x.1 = r ∧ x.2.1 = k)) : zHv (zset h r k v) := by
  refine ⟨fun r' k' c' h1 h2 => ?_, fun x hx => ?_⟩
  · by_cases e : r' = r ∧ k' = k
    · obtain ⟨rfl, rfl⟩ := e
      rw [hc] at h1
      cases h1
      rw [zset_same]
      exact hf h2
    · rw [zset_ne e]
      exact hv.1 _ _ _ h1 h2
  · rw [zset_ne (hr x hx)]
    exact hv.2 x hx
theorem zHv.putf {h : zH} (hv : zHv h) {nx ci k r : Nat} {c : Int} {cs : List (Int × Nat)} {v : zV} (hO : vOKi (21, nx, ci, k, c, cs) = true) (hr : zisO ci (r : Int) = true) (hf : zfit c.toNat v = true) : zHv (zset h r k v) := by
  have hO : ((match vFt[ci]? with
    | some l => l[k]? == some c.toNat
    | none => false) && (c.toNat != 4 || vMut.contains (ci, k))) = true := hO
  rw [Bool.and_eq_true] at hO
  unfold zisO at hr
  rw [Int.toNat_natCast] at hr
  split at hr
  · rename_i q hq
    have hq1 : q.1 = ci := eq_of_beq hr
    have hcode : vCode r k = some c.toNat := by
      unfold vCode
      rw [hq]
      show (match vFt[q.1]? with
        | some l => l[k]?
        | none => none) = _
      rw [hq1]
      cases hl : vFt[ci]? with
      | none => rw [hl] at hO; exact absurd hO.1 Bool.false_ne_true
      | some l => rw [hl] at hO; exact eq_of_beq hO.1
    refine hv.set hcode (fun hne => zfit_tag hf hne) (fun x hx e => ?_)
    obtain ⟨e1, e2⟩ := e
    obtain ⟨x1, x2⟩ := vRefs_at hx
    rw [e1, e2, hcode] at x1
    have x1 : c.toNat = 4 := Option.some.inj x1
    rw [e1] at x2
    have := x2 q hq
    rw [hq1, e2] at this
    have h4 := hO.2
    rw [this, Bool.or_false, x1] at h4
    exact absurd h4 (by decide)
  · cases hr
theorem zHv.ast {h : zH} (hv : zHv h) {c : Nat} {r i : Int} {v : zV} (hr : zarr c r i = true) (hf : zfit c v = true) (h4 : c < 4) : zHv (zset h r.toNat i.toNat v) := by
  unfold zarr at hr
  split at hr
  · rename_i q hq
    rw [Bool.and_eq_true, Bool.and_eq_true] at hr
    have e1 : zcode q.1 = c := eq_of_beq hr.1
    have e2 : 0 ≤ i := of_decide_eq_true hr.2.1
    have e3 : i < (q.2 : Int) := of_decide_eq_true hr.2.2
    have hcode : vCode r.toNat i.toNat = some c := by
      unfold vCode
      rw [hq]
      show (if i.toNat < q.2 then some (zcode q.1) else none) = _
      rw [if_pos (by omega), e1]
    refine hv.set hcode (fun hne => zfit_tag hf hne) (fun x hx e => ?_)
    have := (vRefs_at hx).1
    rw [e.1, e.2, hcode] at this
    cases this
    omega
  · cases hr
theorem zHv.copy {h : zH} (hv : zHv h) {c : Nat} {r0 sp r1 dp n : Int} (h0 : zroom c r0 sp n = true) (h1 : zroom c r1 dp n = true) (h2 : c < 2) : zHv (zcopy h r0.toNat sp.toNat r1.toNat dp.toNat n.toNat) := by
  unfold zroom at h0 h1
  split at h0
  · rename_i q hq
    split at h1
    · rename_i p hp
      rw [Bool.and_eq_true, Bool.and_eq_true, Bool.and_eq_true] at h0 h1
      have a1 : zcode q.1 = c := eq_of_beq h0.1
      have a2 : 0 ≤ sp := of_decide_eq_true h0.2.1
      have a3 : 0 ≤ n := of_decide_eq_true h0.2.2.1
      have a4 : sp + n ≤ (q.2 : Int) := of_decide_eq_true h0.2.2.2
      have b1 : zcode p.1 = c := eq_of_beq h1.1
      have b2 : 0 ≤ dp := of_decide_eq_true h1.2.1
      have b4 : dp + n ≤ (p.2 : Int) := of_decide_eq_true h1.2.2.2
      have src : ∀ k, k < n.toNat → vCode r0.toNat (sp.toNat + k) = some c := fun k hk => by
        unfold vCode
        rw [hq]
        show (if sp.toNat + k < q.2 then some (zcode q.1) else none) = _
        rw [if_pos (by omega), a1]
      have dst : ∀ k, k < n.toNat → vCode r1.toNat (dp.toNat + k) = some c := fun k hk => by
        unfold vCode
        rw [hp]
        show (if dp.toNat + k < p.2 then some (zcode p.1) else none) = _
        rw [if_pos (by omega), b1]
      refine ⟨fun r' k' c' x1 x2 => ?_, fun x hx => ?_⟩
      · show (if r' = r1.toNat ∧ dp.toNat ≤ k' ∧ k' < dp.toNat + n.toNat then h r0.toNat (sp.toNat + (k' - dp.toNat)) else h r' k').1 = _
        by_cases e : r' = r1.toNat ∧ dp.toNat ≤ k' ∧ k' < dp.toNat + n.toNat
        · rw [if_pos e]
          obtain ⟨rfl, e2, e3⟩ := e
          have d := dst (k' - dp.toNat) (by omega)
          rw [show dp.toNat + (k' - dp.toNat) = k' by omega, x1] at d
          cases d
          exact hv.1 _ _ _ (src (k' - dp.toNat) (by omega)) x2
        · rw [if_neg e]
          exact hv.1 _ _ _ x1 x2
      · show (if x.1 = r1.toNat ∧ dp.toNat ≤ x.2.1 ∧ x.2.1 < dp.toNat + n.toNat then h r0.toNat (sp.toNat + (x.2.1 - dp.toNat)) else h x.1 x.2.1) = _
        rw [if_neg (fun e => ?_)]
        · exact hv.2 x hx
        · have d := dst (x.2.1 - dp.toNat) (by omega)
          rw [show dp.toNat + (x.2.1 - dp.toNat) = x.2.1 by omega, ← e.1, (vRefs_at hx).1] at d
          cases d
          omega
    · cases h1
  · cases h0
def zOh (o : zO) : zH := match o with
  | .inl r => r.1
  | .inr (.inl q) => q.2.1
  | .inr (.inr q) => q.2.2.2.1
section ZH
variable {D : zD} {st : zS} {o : zO} {nx a b : Nat} {z : Int} {cs : List (Int × Nat)}
theorem zh_load (h : z_load nx a b st = some o) : zOh o = st.1 := by
  unfold z_load znx at h
  repeat' split at h
  all_goals first | (cases h; rfl) | cases h
theorem zh_store1 (h : z_store1 nx a b st = some o) : zOh o = st.1 := by
  unfold z_store1 znx at h
  repeat' split at h
  all_goals first | (cases h; rfl) | cases h
theorem zh_store2 (h : z_store2 nx a st = some o) : zOh o = st.1 := by
  unfold z_store2 znx at h
  repeat' split at h
  all_goals first | (cases h; rfl) | cases h
theorem zh_iinc (h : z_iinc nx a z st = some o) : zOh o = st.1 := by
  unfold z_iinc znx at h
  repeat' split at h
  all_goals first | (cases h; rfl) | cases h
theorem zh_un32 (h : z_un32 nx b st = some o) : zOh o = st.1 := by
  unfold z_un32 znx at h
  repeat' split at h
  all_goals first | (cases h; rfl) | cases h
theorem zh_bin32 (h : z_bin32 nx b st = some o) : zOh o = st.1 := by
  unfold z_bin32 znx at h
  repeat' split at h
  all_goals first | (cases h; rfl) | cases h
theorem zh_div32 (h : z_div32 nx b st = some o) : zOh o = st.1 := by
  unfold z_div32 znx at h
  repeat' split at h
  all_goals first | (cases h; rfl) | cases h
theorem zh_neg64 (h : z_neg64 nx st = some o) : zOh o = st.1 := by
  unfold z_neg64 znx at h
  repeat' split at h
  all_goals first | (cases h; rfl) | cases h
theorem zh_bin64 (h : z_bin64 nx b st = some o) : zOh o = st.1 := by
  unfold z_bin64 znx at h
  repeat' split at h
  all_goals first | (cases h; rfl) | cases h
theorem zh_div64 (h : z_div64 nx b st = some o) : zOh o = st.1 := by
  unfold z_div64 znx at h
  repeat' split at h
  all_goals first | (cases h; rfl) | cases h
theorem zh_sh64 (h : z_sh64 nx b st = some o) : zOh o = st.1 := by
  unfold z_sh64 znx at h
  repeat' split at h
  all_goals first | (cases h; rfl) | cases h
theorem zh_i2l (h : z_i2l nx st = some o) : zOh o = st.1 := by
  unfold z_i2l znx at h
  repeat' split at h
  all_goals first | (cases h; rfl) | cases h
theorem zh_l2i (h : z_l2i nx st = some o) : zOh o = st.1 := by
  unfold z_l2i znx at h
  repeat' split at h
  all_goals first | (cases h; rfl) | cases h
theorem zh_lcmp (h : z_lcmp nx st = some o) : zOh o = st.1 := by
  unfold z_lcmp at h
  split at h
  · have h : znx nx _ = some o := h
    unfold znx at h
    cases h
    rfl
  · cases h
theorem zh_stk (h : z_stk nx b st = some o) : zOh o = st.1 := by
  unfold z_stk znx at h
  repeat' split at h
  all_goals first | (cases h; rfl) | cases h
theorem zh_if (h : z_if nx a b st = some o) : zOh o = st.1 := by
  unfold z_if at h
  split at h
  · have h : znx _ _ = some o := h
    unfold znx at h
    cases h
    rfl
  · cases h
theorem zh_icmp (h : z_icmp nx a b st = some o) : zOh o = st.1 := by
  unfold z_icmp at h
  split at h
  · have h : znx _ _ = some o := h
    unfold znx at h
    cases h
    rfl
  · cases h
theorem zh_sw (h : z_sw nx cs st = some o) : zOh o = st.1 := by
  unfold z_sw at h
  split at h
  · have h : znx _ _ = some o := h
    unfold znx at h
    cases h
    rfl
  · cases h
theorem zh_getf (h : z_getf nx a b st = some o) : zOh o = st.1 := by
  unfold z_getf znx at h
  repeat' split at h
  all_goals first | (cases h; rfl) | cases h
theorem zh_ald (h : z_ald D nx a st = some o) : zOh o = st.1 := by
  unfold z_ald znx at h
  repeat' split at h
  all_goals first | (cases h; rfl) | cases h
theorem zh_alen (h : z_alen D nx st = some o) : zOh o = st.1 := by
  unfold z_alen znx at h
  repeat' split at h
  all_goals first | (cases h; rfl) | cases h
theorem zh_slen (h : z_slen D nx st = some o) : zOh o = st.1 := by
  unfold z_slen znx at h
  repeat' split at h
  all_goals first | (cases h; rfl) | cases h
theorem zh_char (h : z_char D nx st = some o) : zOh o = st.1 := by
  unfold z_char znx at h
  repeat' split at h
  all_goals first | (cases h; rfl) | cases h
theorem zh_math (h : z_math nx b st = some o) : zOh o = st.1 := by
  unfold z_math at h
  split at h
  · split at h
    · unfold znx at h; cases h; rfl
    · cases h
  · split at h
    · unfold znx at h; cases h; rfl
    · cases h
  · split at h
    · unfold znx at h; cases h; rfl
    · cases h
  · split at h
    · have h : znx _ _ = some o := h
      unfold znx at h; cases h; rfl
    · cases h
  · cases h
theorem zh_call {c : Int} {w mj n : Nat} (h : z_call nx mj n c w st = some o) : zOh o = st.1 := by
  unfold z_call at h
  repeat' split at h
  all_goals first | (cases h; rfl) | cases h
theorem zh_ret (h : z_ret b a st = some o) : zOh o = st.1 := by
  unfold z_ret at h
  repeat' split at h
  all_goals first | (cases h; rfl) | cases h
theorem zh_putf (hO : vOKi (21, nx, a, b, z, cs) = true) (hv : zHv st.1) (h : z_putf nx a b z st = some o) : zHv (zOh o) := by
  unfold z_putf znx at h
  split at h
  · rename_i v r S hS
    split at h
    · rename_i hc
      cases h
      show zHv (zset st.1 r.toNat b v)
      have hr : zisO a (r.toNat : Int) = true := by
        have := hc.1
        unfold zisO at this ⊢
        rw [Int.toNat_natCast]
        exact this
      exact hv.putf hO hr hc.2
    · cases h
  · cases h
theorem zh_ast (hv : zHv st.1) (h : z_ast nx a st = some o) : zHv (zOh o) := by
  unfold z_ast znx at h
  split at h
  · split at h
    · rename_i hc
      cases h
      exact hv.ast hc.1 hc.2.1 hc.2.2
    · cases h
  · cases h
theorem zh_copy (hv : zHv st.1) (h : z_copy nx a st = some o) : zHv (zOh o) := by
  unfold z_copy znx at h
  split at h
  · split at h
    · rename_i hc
      cases h
      exact hv.copy hc.1 hc.2.1 hc.2.2.2
    · cases h
  · cases h
end ZH
theorem zi_hv {D : zD} {st : zS} {o : zO} : ∀ {i : zX}, vOKi i = true → zHv st.1 → zi D i st = some o → zHv (zOh o)
  | (0, nx, a, b, z, cs), _, hv, h => by cases h; exact hv
  | (1, nx, a, b, z, cs), _, hv, h => by cases h; exact hv
  | (2, nx, a, b, z, cs), _, hv, h => by rw [zh_load h]; exact hv
  | (3, nx, a, b, z, cs), _, hv, h => by rw [zh_store1 h]; exact hv
  | (4, nx, a, b, z, cs), _, hv, h => by rw [zh_store2 h]; exact hv
  | (5, nx, a, b, z, cs), _, hv, h => by rw [zh_iinc h]; exact hv
  | (6, nx, a, b, z, cs), _, hv, h => by rw [zh_un32 h]; exact hv
  | (7, nx, a, b, z, cs), _, hv, h => by rw [zh_bin32 h]; exact hv
  | (8, nx, a, b, z, cs), _, hv, h => by rw [zh_div32 h]; exact hv
  | (9, nx, a, b, z, cs), _, hv, h => by rw [zh_neg64 h]; exact hv
  | (10, nx, a, b, z, cs), _, hv, h => by rw [zh_bin64 h]; exact hv
  | (11, nx, a, b, z, cs), _, hv, h => by rw [zh_div64 h]; exact hv
  | (12, nx, a, b, z, cs), _, hv, h => by rw [zh_sh64 h]; exact hv
  | (13, nx, a, b, z, cs), _, hv, h => by rw [zh_i2l h]; exact hv
  | (14, nx, a, b, z, cs), _, hv, h => by rw [zh_l2i h]; exact hv
  | (15, nx, a, b, z, cs), _, hv, h => by rw [zh_stk h]; exact hv
  | (16, nx, a, b, z, cs), _, hv, h => by rw [zh_if h]; exact hv
  | (17, nx, a, b, z, cs), _, hv, h => by rw [zh_icmp h]; exact hv
  | (18, nx, a, b, z, cs), _, hv, h => by rw [zh_lcmp h]; exact hv
  | (19, nx, a, b, z, cs), _, hv, h => by rw [zh_sw h]; exact hv
  | (20, nx, a, b, z, cs), _, hv, h => by rw [zh_getf h]; exact hv
  | (21, nx, a, b, z, cs), hO, hv, h => zh_putf hO hv h
  | (22, nx, a, b, z, cs), _, hv, h => by rw [zh_ald h]; exact hv
  | (23, nx, a, b, z, cs), _, hv, h => zh_ast hv h
  | (24, nx, a, b, z, cs), _, hv, h => by rw [zh_alen h]; exact hv
  | (25, nx, a, b, z, cs), _, hv, h => by rw [zh_slen h]; exact hv
  | (26, nx, a, b, z, cs), _, hv, h => by rw [zh_char h]; exact hv
  | (27, nx, a, b, z, cs), _, hv, h => by rw [zh_math h]; exact hv
  | (28, nx, a, b, z, cs), _, hv, h => zh_copy hv h
  | (29, nx, a, b, z, cs), _, hv, h => by rw [zh_call h]; exact hv
  | (30, nx, a, b, z, cs), _, hv, h => by rw [zh_ret h]; exact hv
  | (n + 31, nx, a, b, z, cs), _, hv, h => by cases h
theorem zEv_hv {D : zD} {T : zT} (hO : vOK T) : ∀ {n mi pc : Nat} {st : zS} {r : zR}, zEv D T n mi pc st = some r → zHv st.1 → zHv r.1 := by
  intro n
  induction n with
  | zero => intro mi pc st r h; cases h
  | succ n ih =>
    intro mi pc st r h hv
    cases hi : T mi pc with
    | none =>
      have h : zEvA D T (zEv D T n) mi pc st = some r := h
      unfold zEvA at h
      rw [hi] at h
      cases h
    | some i =>
      rw [zEv_s hi] at h
      cases hz : zi D i st with
      | none => rw [hz] at h; cases h
      | some o =>
        have g := zi_hv (hO _ _ _ hi) hv hz
        rw [hz] at h
        match o, h, g with
        | .inl q, h, g => cases h; exact g
        | .inr (.inl q), h, g => exact ih h g
        | .inr (.inr q), h, g =>
          have h : (match zEv D T n q.1 0 (q.2.2.2.1, zargs 0 q.2.1, []) with
            | none => none
            | some r1 => zEv D T n mi q.2.2.1 (r1.1, q.2.2.2.2.1, zpush r1.2 q.2.2.2.2.2)) = some r := h
          cases hc : zEv D T n q.1 0 (q.2.2.2.1, zargs 0 q.2.1, []) with
          | none => rw [hc] at h; cases h
          | some r1 => rw [hc] at h; exact ih h (ih hc g)
