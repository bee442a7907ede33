/-! ROWS OF STEPS: flags 30 b + r a row of the reference's block b, 150 + b all of them, 155 the rows of block 4 below newSteps; 160 + 60 o + i a row of the class's o-th Orders, 520 + o all of them -/
def a_ord (o : Nat) : Nat := match o with
  | 0 => 18
  | 1 => 34
  | 2 => 49
  | 3 => 65
  | 4 => 80
  | _ => 95
noncomputable def a_ordI (r : Nat) : Option Nat := cond (Nat.beq r 18) (some 0) (cond (Nat.beq r 34) (some 1) (cond (Nat.beq r 49) (some 2) (cond (Nat.beq r 65) (some 3) (cond (Nat.beq r 80) (some 4) (cond (Nat.beq r 95) (some 5) none)))))
theorem a_ordI_ok {r o : Nat} (h : a_ordI r = some o) : o < 6 ∧ a_ord o = r := by
  unfold a_ordI at h
  rcases x_condT h with ⟨e, h⟩ | ⟨-, h⟩
  · cases h; exact ⟨by omega, (Nat.eq_of_beq_eq_true e).symm⟩
  rcases x_condT h with ⟨e, h⟩ | ⟨-, h⟩
  · cases h; exact ⟨by omega, (Nat.eq_of_beq_eq_true e).symm⟩
  rcases x_condT h with ⟨e, h⟩ | ⟨-, h⟩
  · cases h; exact ⟨by omega, (Nat.eq_of_beq_eq_true e).symm⟩
  rcases x_condT h with ⟨e, h⟩ | ⟨-, h⟩
  · cases h; exact ⟨by omega, (Nat.eq_of_beq_eq_true e).symm⟩
  rcases x_condT h with ⟨e, h⟩ | ⟨-, h⟩
  · cases h; exact ⟨by omega, (Nat.eq_of_beq_eq_true e).symm⟩
  rcases x_condT h with ⟨e, h⟩ | ⟨-, h⟩
  · cases h; exact ⟨by omega, (Nat.eq_of_beq_eq_true e).symm⟩
  · cases h
-- cell and place of what decides, place of the other that decides, cell and place of the first and the second
def rPl (j : Nat) : Nat × Nat × Nat × Nat × Nat × Nat × Nat := if j < 150 then (126, 550 * (j / 30) + 277 + 9 * (j % 30), 550 * (j / 30) + 277 + 9 * (j % 30) + 6, 126, 550 * (j / 30) + 277 + 9 * (j % 30) + 1, 126, 550 * (j / 30) + 277 + 9 * (j % 30) + 2) else (a_ord ((j - 160) / 60) + 1, (j - 160) % 60, (j - 160) % 60, a_ord ((j - 160) / 60) + 2, (j - 160) % 60, a_ord ((j - 160) / 60) + 3, (j - 160) % 60)
def rTau (j : Nat) : Nat := if j < 150 then 0 else 1
noncomputable def a_rowK {β : Type} (j : Nat) (f : Nat → Nat → Nat → Nat → Nat → Nat → Nat → Option β) : Option β := cond (Nat.blt j 150) (x_kN (550 * (j / 30) + 277 + 9 * (j % 30)) (fun w => f 126 w (w + 6) 126 (w + 1) 126 (w + 2))) (x_kN ((j - 160) % 60) (fun i => x_kN (a_ord ((j - 160) / 60)) (fun r => f (r + 1) i i (r + 2) i (r + 3) i)))
theorem a_rowK_eq {β : Type} {j : Nat} {f : Nat → Nat → Nat → Nat → Nat → Nat → Nat → Option β} : a_rowK j f = f (rPl j).1 (rPl j).2.1 (rPl j).2.2.1 (rPl j).2.2.2.1 (rPl j).2.2.2.2.1 (rPl j).2.2.2.2.2.1 (rPl j).2.2.2.2.2.2 := by
  unfold a_rowK
  by_cases h : j < 150
  · have e : rPl j = (126, 550 * (j / 30) + 277 + 9 * (j % 30), 550 * (j / 30) + 277 + 9 * (j % 30) + 6, 126, 550 * (j / 30) + 277 + 9 * (j % 30) + 1, 126, 550 * (j / 30) + 277 + 9 * (j % 30) + 2) := if_pos h
    rw [show Nat.blt j 150 = true from Nat.ble_eq_true_of_le h, e, cond_true, x_kN_eq]
  · have e : rPl j = (a_ord ((j - 160) / 60) + 1, (j - 160) % 60, (j - 160) % 60, a_ord ((j - 160) / 60) + 2, (j - 160) % 60, a_ord ((j - 160) / 60) + 3, (j - 160) % 60) := if_neg h
    rw [show Nat.blt j 150 = false from Bool.eq_false_iff.mpr (fun e => h (Nat.le_of_ble_eq_true e)), e, cond_false, x_kN_eq, x_kN_eq]
-- what the two that decide ask of first and second; -1: nothing
noncomputable def a_nd0 (k t : Int) : Int × Int := cond (decide (k = 0) || decide (k = 2)) (2, 47) (cond (decide (k = 1)) (2, -1) (cond (decide (k = 3)) (2, 2) (cond (decide (k = 4)) (2, 12) (cond (decide (k = 5)) (5, -1) (cond (decide (k = 7)) (cond (decide (t = 0)) (2, 47) (cond (decide (t = 1)) (5, -1) (-1, -1))) (cond (decide (k = 8)) (99, -1) (-1, -1)))))))
noncomputable def a_nd1 (k : Int) : Int × Int := cond (decide (k = 8) || (decide (k = 10) || decide (k = 16))) (2, 47) (cond (decide (k = 9)) (2, -1) (cond (decide (k = 11)) (2, 2) (cond (decide (k = 12)) (2, 12) (cond (decide (k = 13) || decide (k = 17)) (5, -1) (cond (decide (k = 19)) (99, -1) (-1, -1))))))
noncomputable def a_nd (τ : Nat) (k t : Int) : Int × Int := match τ with
  | 0 => a_nd0 k t
  | _ => a_nd1 k
theorem a_nd_t {τ : Nat} {k t : Int} (h : τ ≠ 0 ∨ k ≠ 7) : a_nd τ k t = a_nd τ k 0 := by
  cases τ with
  | succ n => rfl
  | zero =>
    have h : k ≠ 7 := h.resolve_left (fun h => h rfl)
    show a_nd0 k t = a_nd0 k 0
    unfold a_nd0
    rw [decide_eq_false h]
    rfl
def rB (m x : Int) : Prop := 0 ≤ m → 0 ≤ x ∧ x ≤ m
def rOK (j : Nat) (h : zH) : Prop := rB (a_nd (rTau j) (h (rPl j).1 (rPl j).2.1).2 (h (rPl j).1 (rPl j).2.2.1).2).1 (h (rPl j).2.2.2.1 (rPl j).2.2.2.2.1).2 ∧ rB (a_nd (rTau j) (h (rPl j).1 (rPl j).2.1).2 (h (rPl j).1 (rPl j).2.2.1).2).2 (h (rPl j).2.2.2.2.2.1 (rPl j).2.2.2.2.2.2).2
def rFl (j : Nat) (h : zH) : Prop :=
  if j < 150 then rOK j h
  else if j < 155 then ∀ i, i < 30 → rOK (30 * (j - 150) + i) h
  else if j = 155 then ∀ i : Nat, i < 30 → (i : Int) < (h 121 25).2 → rOK (120 + i) h
  else if j < 160 then True
  else if j < 520 then rOK j h
  else if j < 526 then ∀ i, i < 60 → rOK (160 + 60 * (j - 520) + i) h
  else True
/-! the steps of the hints -/
noncomputable def a_okb (q : aQ) (r o : Nat) (m : Int) : Bool := cond (decide (m < 0)) true (match a_oget q.2.2.2.1 r 0 (Int.ofNat o) with
  | some v => (match a_rngK q.2.1 v (fun lo hi => some (decide (0 ≤ lo) && decide (hi ≤ m))) with
    | some b => b
    | none => false)
  | none => false)
noncomputable def a_okR (q : aQ) (ra oa rb ob : Nat) (nd : Int × Int) : Bool := a_okb q ra oa nd.1 && a_okb q rb ob nd.2
noncomputable def a_rgood (q : aQ) (j : Nat) : Bool := match a_rowK j (fun rk ok ot ra oa rb ob => match a_oget q.2.2.2.1 rk 0 (Int.ofNat ok) with
  | none => none
  | some vk => a_rngK q.2.1 vk (fun lo hi => cond (decide (lo = hi)) (cond (Nat.blt j 150) (cond (decide (lo = 7)) (match a_oget q.2.2.2.1 rk 0 (Int.ofNat ot) with
    | none => none
    | some vt => a_rngK q.2.1 vt (fun l2 h2 => cond (decide (l2 = h2)) (some (a_okR q ra oa rb ob (a_nd0 7 l2))) none)) (some (a_okR q ra oa rb ob (a_nd0 lo 0)))) (some (a_okR q ra oa rb ob (a_nd1 lo)))) none)) with
  | some b => b
  | none => false
noncomputable def a_eqV (v w : Option aV) : Bool := match v, w with
  | some v, some w => Nat.beq v.1 w.1 && (Nat.beq v.2.1 w.2.1 && decide (v.2.2 = w.2.2))
  | _, _ => false
noncomputable def a_alike (q : aQ) (a b : Nat) : Bool := match a_rowK a (fun rk ok ot ra oa rb ob => a_rowK b (fun rk' ok' ot' ra' oa' rb' ob' => some (a_eqV (a_oget q.2.2.2.1 rk 0 (Int.ofNat ok)) (a_oget q.2.2.2.1 rk' 0 (Int.ofNat ok')) && (a_eqV (a_oget q.2.2.2.1 rk 0 (Int.ofNat ot)) (a_oget q.2.2.2.1 rk' 0 (Int.ofNat ot')) && (a_eqV (a_oget q.2.2.2.1 ra 0 (Int.ofNat oa)) (a_oget q.2.2.2.1 ra' 0 (Int.ofNat oa')) && a_eqV (a_oget q.2.2.2.1 rb 0 (Int.ofNat ob)) (a_oget q.2.2.2.1 rb' 0 (Int.ofNat ob'))))))) with
  | some b => b
  | none => false
-- more flags: those of j0 .. + n that p takes
noncomputable def a_newRK {β : Type} (p : Nat → Bool) (fl : List Nat) (f : List Nat → Option β) (j0 n : Nat) : List Nat → Option β := Nat.rec (motive := fun _ => List Nat → Option β) f (fun i ih acc => x_kN (j0 + i) (fun j => cond (a_memN j fl) (ih acc) (cond (p j) (ih (j :: acc)) (ih acc)))) n
def a_setF (q : aQ) (fl : List Nat) : aQ := (q.1, q.2.1, q.2.2.1, q.2.2.2.1, fl)
def a_setO (q : aQ) (O : aO) : aQ := (q.1, q.2.1, q.2.2.1, O, q.2.2.2.2)
noncomputable def a_addR {β : Type} (p : Nat → Bool) (j0 n : Nat) (q : aQ) (f : aQ → Option β) : Option β := a_newRK p q.2.2.2.2 (fun fl => f (a_setF q fl)) j0 n q.2.2.2.2
noncomputable def a_checkR {β : Type} (j0 n : Nat) (q : aQ) (f : aQ → Option β) : Option β := a_addR (a_rgood q) j0 n q f
noncomputable def a_moveR {β : Type} (a b n : Nat) (q : aQ) (f : aQ → Option β) : Option β := a_addR (fun j => a_memN (a + (j - b)) q.2.2.2.2 && (Nat.beq (rTau (a + (j - b))) (rTau j) && a_alike q (a + (j - b)) j)) b n q f
noncomputable def a_allN (p : Nat → Bool) (j0 n : Nat) : Bool := Nat.rec (motive := fun _ => Bool) true (fun i ih => p (j0 + i) && ih) n
noncomputable def a_bOK (g j0 n : Nat) : Bool := cond (Nat.blt g 155) (Nat.ble 150 g && (Nat.beq j0 (30 * (g - 150)) && Nat.beq n 30)) (Nat.ble 520 g && (Nat.blt g 526 && (Nat.beq j0 (160 + 60 * (g - 520)) && Nat.beq n 60)))
noncomputable def a_bundle {β : Type} (g j0 n : Nat) (q : aQ) (f : aQ → Option β) : Option β := cond (a_bOK g j0 n) (cond (a_memN g q.2.2.2.2) (a_addR (fun _ => true) j0 n q f) (cond (a_allN (fun j => a_memN j q.2.2.2.2) j0 n) (f (a_setF q (g :: q.2.2.2.2))) (f q))) none
noncomputable def a_bundleN {β : Type} (q : aQ) (f : aQ → Option β) : Option β := match a_oget q.2.2.2.1 121 0 25 with
  | none => f q
  | some v => a_rngK q.2.1 v (fun lo hi => cond (decide (lo = hi) && (decide (0 ≤ lo) && decide (lo ≤ 30))) (cond (a_memN 155 q.2.2.2.2) (x_kN lo.toNat (fun n => a_addR (fun _ => true) 120 n q f)) (cond (a_allN (fun j => a_memN j q.2.2.2.2) 120 lo.toNat) (f (a_setF q (155 :: q.2.2.2.2))) (f q))) (f q))
noncomputable def a_dropF {β : Type} (j0 n : Nat) (q : aQ) (f : aQ → Option β) : Option β := x_spine (a_flt (fun j => Nat.blt j j0 || Nat.ble (j0 + n) j) q.2.2.2.2) (fun fl => f (a_setF q fl))
noncomputable def a_dropO {β : Type} (p : (Nat × Nat × Int) × aV → Bool) (q : aQ) (f : aQ → Option β) : Option β := x_spine (a_flt p q.2.2.2.1) (fun O => f (a_setO q O))
-- all places of an int cell, read
noncomputable def a_readAK {β : Type} (r : Nat) (f : aQ → Option β) (n : Nat) : aQ → Option β := Nat.rec (motive := fun _ => aQ → Option β) f (fun i ih q => match a_oget q.2.2.2.1 r 0 (Int.ofNat i) with
  | some _ => ih q
  | none => x_kN (q.1 + 1) (fun n => x_kN i (fun i => ih (n, q.2.1, q.2.2.1, ((r, 0, Int.ofNat i), (0, n, 0)) :: q.2.2.2.1, q.2.2.2.2)))) n
noncomputable def a_ofR {β : Type} (L : aL) (loc : Nat) (f : Nat → Option β) : Option β := match a_lget L loc with
  | some v => cond (Nat.beq v.1 2 && (a_isC v && decide (0 ≤ v.2.2))) (match a_ordI v.2.2.toNat with
    | some o => f o
    | none => none) none
  | none => none
noncomputable def a_openC {β : Type} (L : aL) (loc : Nat) (q : aQ) (f : aQ → Option β) : Option β := a_ofR L loc (fun o => cond (a_memN (520 + o) q.2.2.2.2) (a_addR (fun _ => true) (160 + 60 * o) 60 q (fun q => a_readAK (a_ord o + 1) (a_readAK (a_ord o + 2) (a_readAK (a_ord o + 3) f 60) 60) 60 q)) (f q))
noncomputable def a_moveC {β : Type} (L : aL) (l0 l1 : Nat) (q : aQ) (f : aQ → Option β) : Option β := a_ofR L l0 (fun a => a_ofR L l1 (fun b => a_moveR (160 + 60 * a) (160 + 60 * b) 60 q (fun q => a_bundle (520 + b) (160 + 60 * b) 60 q (fun q => a_dropF 160 360 q (fun q => a_dropO (fun e => !(Nat.beq e.1.1 (a_ord a + 1) || (Nat.beq e.1.1 (a_ord a + 2) || (Nat.beq e.1.1 (a_ord a + 3) || (Nat.beq e.1.1 (a_ord b + 1) || (Nat.beq e.1.1 (a_ord b + 2) || Nat.beq e.1.1 (a_ord b + 3))))))) q f)))))
noncomputable def a_bundleL {β : Type} (L : aL) (loc g j0 n : Nat) (q : aQ) (f : aQ → Option β) : Option β := match a_lget L loc with
  | some v => a_rngK q.2.1 v (fun lo hi => cond (decide (lo = hi) && decide (0 ≤ lo)) (x_kN lo.toNat (fun v => a_bundle (g + v) (j0 + n * v) n q f)) none)
  | none => none
noncomputable def a_derive {β : Type} (L : aL) (l0 l1 : Nat) (c : Int) (q : aQ) (f : aQ → Option β) : Option β := match a_lget L l0, a_lget L l1 with
  | some (_, i + 1, o), some (_, i' + 1, o') => cond (!Nat.beq i i' && a_ent q.2.1 q.2.2.1 3 [(1, i), (1, i')] (c - o - o')) (x_kZ (c - o - o') (fun b => f (a_fact q ([(1, i), (1, i')], b)))) (f q)
  | some _, some _ => f q
  | _, _ => none
noncomputable def a_rebase {β : Type} (r : Nat) (o : Int) (q : aQ) (f : aQ → Option β) (js : List Int) : Option β := match a_oget q.2.2.2.1 r 0 o with
  | some (_, i + 1, c) => List.rec (motive := fun _ => aQ → Option β) f (fun j _ ih q => x_kN j.toNat (fun j => cond (Nat.beq j i || !Nat.blt j q.1) (ih q) (cond (a_ent q.2.1 q.2.2.1 3 [(1, j), (-1, i)] (-1 + c)) (x_kZ (-1 + c) (fun b => ih (a_fact q ([(1, j), (-1, i)], b)))) (cond (a_ent q.2.1 q.2.2.1 3 [(1, j), (-1, i)] (0 + c)) (x_kZ (0 + c) (fun b => ih (a_fact q ([(1, j), (-1, i)], b)))) (ih q))))) js q
  | _ => f q
-- a copying of blocks, behind each row
noncomputable def a_rowstep {β : Type} (L : aL) (loc : Nat) (off : Int) (q : aQ) (f : aQ → Option β) : Option β := match a_lget L loc with
  | some v => a_rngK q.2.1 v (fun lo hi => cond (decide (lo = hi) && decide (0 ≤ lo + off)) (x_kN (lo + off).toNat (fun k => cond (Nat.blt k 14 || (Nat.blt 547 k || !Nat.beq ((k + 1) % 9) ((277 + 1) % 9))) (f q) (cond (Nat.blt 277 k) (x_kN ((k - 277) / 9 - 1) (fun i =>
      a_addR (fun j => a_rgood q j || a_any (fun b => a_memN (30 * b + i) q.2.2.2.2 && a_alike q (30 * b + i) j) [0, 1, 2, 3, 4]) i 1 q (fun q1 => a_addR (fun j => a_rgood q j || a_any (fun b => a_memN (30 * b + i) q.2.2.2.2 && a_alike q (30 * b + i) j) [0, 1, 2, 3, 4]) (30 + i) 1 q1 (fun q2 => a_addR (fun j => a_rgood q j || a_any (fun b => a_memN (30 * b + i) q.2.2.2.2 && a_alike q (30 * b + i) j) [0, 1, 2, 3, 4]) (60 + i) 1 q2 (fun q3 => a_addR (fun j => a_rgood q j || a_any (fun b => a_memN (30 * b + i) q.2.2.2.2 && a_alike q (30 * b + i) j) [0, 1, 2, 3, 4]) (90 + i) 1 q3 (fun q4 => a_addR (fun j => a_rgood q j || a_any (fun b => a_memN (30 * b + i) q.2.2.2.2 && a_alike q (30 * b + i) j) [0, 1, 2, 3, 4]) (120 + i) 1 q4 (a_dropO (fun e => !Nat.beq e.1.1 126) · f))))))) (a_dropO (fun e => !Nat.beq e.1.1 126) q f)))) none)
  | none => none
-- a row is read: its kinds apart
noncomputable def a_kinds (vk : aV) (pay : Int → aQ → Option (List aS)) (L : aL) (S : List aV) (ks : List Int) : aQ → Option (List aS) := List.rec (motive := fun _ => aQ → Option (List aS)) (fun q => some [(q, L, S)]) (fun k _ ih q => a_br 2 q vk (0, 0, k) (pay k) ih) ks
noncomputable def a_rowb1 {β : Type} (r o : Nat) (m : Int) (q : aQ) (f : aQ → Option β) : Option β := cond (decide (m < 0)) (f q) (a_newK 0 0 m q (fun q v => x_kN o (fun o => f (a_addO q ((r, 0, Int.ofNat o), v)))))
noncomputable def a_rowread (loc : Nat) (st : aS) : Option (List aS) := match a_lget st.2.1 loc with
  | some vw => a_rngK st.1.2.1 vw (fun lo hi => cond (decide (lo = hi) && decide (277 ≤ lo)) (x_kN ((lo.toNat - 277) / 9) (fun j => cond (Nat.beq lo.toNat (277 + 9 * j) && (Nat.blt j 30 && (a_memN j st.1.2.2.2.2 || a_memN 150 st.1.2.2.2.2))) (x_kN lo.toNat (fun w => match a_oget st.1.2.2.2.1 126 0 (Int.ofNat w) with
    | some vk => a_kinds vk (fun k q => cond (decide (k = 7)) (match a_oget q.2.2.2.1 126 0 (Int.ofNat (w + 6)) with
        | some vt => a_kinds vt (fun t q => a_rowb1 126 (w + 1) (a_nd0 7 t).1 q (fun q => a_rowb1 126 (w + 2) (a_nd0 7 t).2 q (fun q => some [(q, st.2.1, st.2.2)]))) st.2.1 st.2.2 [-1, 0, 1, 2] q
        | none => some [(q, st.2.1, st.2.2)]) (a_rowb1 126 (w + 1) (a_nd0 k 0).1 q (fun q => a_rowb1 126 (w + 2) (a_nd0 k 0).2 q (fun q => some [(q, st.2.1, st.2.2)])))) st.2.1 st.2.2 [0, 1, 2, 3, 4, 5, 6, 7, 8, 9] st.1
    | none => none)) none)) none)
  | none => none
noncomputable def a_bdK {β : Type} (v : aV) (m : Int) (q : aQ) (f : aQ → Option (List β)) : Option (List β) := cond (decide (m < 0)) (f q) (a_leK q v (0, 0, m) 0 (fun q => a_leK q (0, 0, 0) v 0 f))
noncomputable def a_rowreadC (loc r0 : Nat) (o0 : Int) (st : aS) : Option (List aS) := match a_lget st.2.1 loc, a_oget st.1.2.2.2.1 r0 0 o0 with
  | some vi, some vo => cond (a_isC vo && decide (0 ≤ vo.2.2)) (match a_ordI vo.2.2.toNat with
    | some o => cond (a_memN (520 + o) st.1.2.2.2.2) (a_rngK st.1.2.1 vi (fun lo hi => cond (decide (0 ≤ lo) && decide (hi < 60)) (a_idxK vi lo hi (fun s of => match a_oget st.1.2.2.2.1 (a_ord o + 1) s of, a_oget st.1.2.2.2.1 (a_ord o + 2) s of, a_oget st.1.2.2.2.1 (a_ord o + 3) s of with
      | some vk, some va, some vb => a_kinds vk (fun k q => a_bdK va (a_nd1 k).1 q (fun q => a_bdK vb (a_nd1 k).2 q (fun q => some [(q, st.2.1, st.2.2)]))) st.2.1 st.2.2 [0, 1, 2, 3, 4, 5, 6, 7, 8, 9, 10, 11, 12, 13, 14, 15, 16, 17, 18, 19, 20, 21] st.1
      | _, _, _ => none)) none)) none
    | none => none) none
  | _, _ => none
noncomputable def a_one1 (st : aS) (g : (aQ → Option (List aS)) → Option (List aS)) : Option (List aS) := g (fun q => some [(q, st.2.1, st.2.2)])
noncomputable def aLmR : aLm := fun k w bs st => match k, bs with
  | 2, [l] => a_rowread l.toNat st
  | 3, [j, n] => cond (Nat.ble (j.toNat + n.toNat) 150 || (Nat.ble 160 j.toNat && Nat.ble (j.toNat + n.toNat) 520)) (a_one1 st (a_checkR j.toNat n.toNat st.1)) none
  | 5, [g, j, n] => a_one1 st (a_bundle g.toNat j.toNat n.toNat st.1)
  | 6, _ => a_one1 st (a_bundleN st.1)
  | 8, [l, r, o] => a_rowreadC l.toNat r.toNat o st
  | 10, [l, o] => a_one1 st (a_rowstep st.2.1 l.toNat o st.1)
  | 11, [j, n] => a_one1 st (a_dropF j.toNat n.toNat st.1)
  | 12, [l] => a_one1 st (a_openC st.2.1 l.toNat st.1)
  | 13, [a, b] => a_one1 st (a_moveC st.2.1 a.toNat b.toNat st.1)
  | 14, [l, g, j, n] => a_one1 st (a_bundleL st.2.1 l.toNat g.toNat j.toNat n.toNat st.1)
  | 15, [a, b, c] => a_one1 st (a_derive st.2.1 a.toNat b.toNat c st.1)
  | 16, [r, lo, hi] => a_one1 st (a_dropO (fun e => !(Nat.beq e.1.1 r.toNat && (!Nat.beq e.1.2.1 0 || (decide (lo ≤ e.1.2.2) && decide (e.1.2.2 ≤ hi))))) st.1)
  | 17, r :: o :: js => a_one1 st (fun f => a_rebase r.toNat o st.1 f js)
  | 0, _ => aLmS k w bs st
  | 1, _ => aLmS k w bs st
  | _, _ => none
