/-! ROWS OF STEPS. A flag speaks of a range of rows (30 b + i: the reference's; 160 + 60 o + i: those of the class's o-th Orders), 155 of the rows of block 4 below newSteps -/
def a_ord (o : Nat) : Nat := match o with
  | 0 => 18
  | 1 => 34
  | 2 => 49
  | 3 => 65
  | 4 => 80
  | _ => 95
noncomputable def a_ordI (r : Nat) : Option Nat := cond (Nat.beq r 18) (some 0) (cond (Nat.beq r 34) (some 1) (cond (Nat.beq r 49) (some 2) (cond (Nat.beq r 65) (some 3) (cond (Nat.beq r 80) (some 4) (cond (Nat.beq r 95) (some 5) none)))))
theorem a_ordI_ok {r o : Nat} (h : a_ordI r = some o) : o < 6 ∧ a_ord o = r := by
  unfold a_ordI at h
  rcases x_condT h with ⟨e, h⟩ | ⟨-, h⟩
  · cases h; exact ⟨by omega, (Nat.eq_of_beq_eq_true e).symm⟩
  rcases x_condT h with ⟨e, h⟩ | ⟨-, h⟩
  · cases h; exact ⟨by omega, (Nat.eq_of_beq_eq_true e).symm⟩
  rcases x_condT h with ⟨e, h⟩ | ⟨-, h⟩
  · cases h; exact ⟨by omega, (Nat.eq_of_beq_eq_true e).symm⟩
  rcases x_condT h with ⟨e, h⟩ | ⟨-, h⟩
  · cases h; exact ⟨by omega, (Nat.eq_of_beq_eq_true e).symm⟩
  rcases x_condT h with ⟨e, h⟩ | ⟨-, h⟩
  · cases h; exact ⟨by omega, (Nat.eq_of_beq_eq_true e).symm⟩
  rcases x_condT h with ⟨e, h⟩ | ⟨-, h⟩
  · cases h; exact ⟨by omega, (Nat.eq_of_beq_eq_true e).symm⟩
  · cases h
-- cell and place of what decides, place of the other that decides, cell and place of the first and the second
def rPl (j : Nat) : Nat × Nat × Nat × Nat × Nat × Nat × Nat := if j < 150 then (126, 550 * (j / 30) + 277 + 9 * (j % 30), 550 * (j / 30) + 277 + 9 * (j % 30) + 6, 126, 550 * (j / 30) + 277 + 9 * (j % 30) + 1, 126, 550 * (j / 30) + 277 + 9 * (j % 30) + 2) else (a_ord ((j - 160) / 60) + 1, (j - 160) % 60, (j - 160) % 60, a_ord ((j - 160) / 60) + 2, (j - 160) % 60, a_ord ((j - 160) / 60) + 3, (j - 160) % 60)
def rTau (j : Nat) : Nat := if j < 150 then 0 else 1
noncomputable def a_rowK {β : Type} (j : Nat) (f : Nat → Nat → Nat → Nat → Nat → Nat → Nat → Option β) : Option β := cond (Nat.blt j 150) (x_kN (550 * (j / 30) + 277 + 9 * (j % 30)) (fun w => f 126 w (w + 6) 126 (w + 1) 126 (w + 2))) (x_kN ((j - 160) % 60) (fun i => x_kN (a_ord ((j - 160) / 60)) (fun r => f (r + 1) i i (r + 2) i (r + 3) i)))
theorem a_rowK_eq {β : Type} {j : Nat} {f : Nat → Nat → Nat → Nat → Nat → Nat → Nat → Option β} : a_rowK j f = f (rPl j).1 (rPl j).2.1 (rPl j).2.2.1 (rPl j).2.2.2.1 (rPl j).2.2.2.2.1 (rPl j).2.2.2.2.2.1 (rPl j).2.2.2.2.2.2 := by
  unfold a_rowK
  by_cases h : j < 150
  · have e : rPl j = (126, 550 * (j / 30) + 277 + 9 * (j % 30), 550 * (j / 30) + 277 + 9 * (j % 30) + 6, 126, 550 * (j / 30) + 277 + 9 * (j % 30) + 1, 126, 550 * (j / 30) + 277 + 9 * (j % 30) + 2) := if_pos h
    rw [show Nat.blt j 150 = true from Nat.ble_eq_true_of_le h, e, cond_true, x_kN_eq]
  · have e : rPl j = (a_ord ((j - 160) / 60) + 1, (j - 160) % 60, (j - 160) % 60, a_ord ((j - 160) / 60) + 2, (j - 160) % 60, a_ord ((j - 160) / 60) + 3, (j - 160) % 60) := if_neg h
    rw [show Nat.blt j 150 = false from Bool.eq_false_iff.mpr (fun e => h (Nat.le_of_ble_eq_true e)), e, cond_false, x_kN_eq, x_kN_eq]
-- what the two that decide ask of first and second; -1: nothing
noncomputable def a_nd0 (k t : Int) : Int × Int := cond (@decide (k = 0) (a_decEqZ _ _) || @decide (k = 2) (a_decEqZ _ _)) (2, 47) (cond (@decide (k = 1) (a_decEqZ _ _)) (2, -1) (cond (@decide (k = 3) (a_decEqZ _ _)) (2, 2) (cond (@decide (k = 4) (a_decEqZ _ _)) (2, 12) (cond (@decide (k = 5) (a_decEqZ _ _)) (5, -1) (cond (@decide (k = 7) (a_decEqZ _ _)) (cond (@decide (t = 0) (a_decEqZ _ _)) (2, 47) (cond (@decide (t = 1) (a_decEqZ _ _)) (5, -1) (-1, -1))) (cond (@decide (k = 8) (a_decEqZ _ _)) (99, -1) (-1, -1)))))))
noncomputable def a_nd1 (k : Int) : Int × Int := cond (@decide (k = 8) (a_decEqZ _ _) || (@decide (k = 10) (a_decEqZ _ _) || @decide (k = 16) (a_decEqZ _ _))) (2, 47) (cond (@decide (k = 9) (a_decEqZ _ _)) (2, -1) (cond (@decide (k = 11) (a_decEqZ _ _)) (2, 2) (cond (@decide (k = 12) (a_decEqZ _ _)) (2, 12) (cond (@decide (k = 13) (a_decEqZ _ _) || @decide (k = 17) (a_decEqZ _ _)) (5, -1) (cond (@decide (k = 19) (a_decEqZ _ _)) (99, -1) (-1, -1))))))
noncomputable def a_nd (τ : Nat) (k t : Int) : Int × Int := match τ with
  | 0 => a_nd0 k t
  | _ => a_nd1 k
theorem a_nd_t {τ : Nat} {k t : Int} (h : τ ≠ 0 ∨ k ≠ 7) : a_nd τ k t = a_nd τ k 0 := by
  cases τ with
  | succ n => rfl
  | zero =>
    have h : k ≠ 7 := h.resolve_left (fun h => h rfl)
    show a_nd0 k t = a_nd0 k 0
    unfold a_nd0
    rw [a_decN h]
    rfl
def rB (m x : Int) : Prop := 0 ≤ m → 0 ≤ x ∧ x ≤ m
def rOK (j : Nat) (h : zH) : Prop := rB (a_nd (rTau j) (h (rPl j).1 (rPl j).2.1).2 (h (rPl j).1 (rPl j).2.2.1).2).1 (h (rPl j).2.2.2.1 (rPl j).2.2.2.2.1).2 ∧ rB (a_nd (rTau j) (h (rPl j).1 (rPl j).2.1).2 (h (rPl j).1 (rPl j).2.2.1).2).2 (h (rPl j).2.2.2.2.2.1 (rPl j).2.2.2.2.2.2).2
noncomputable def a_fr (j : Nat) : Nat × Nat := cond (Nat.blt j 155) (30 * (j / 31), 30 * (j / 31) + j % 31) (cond (Nat.blt j 156) (0, 0) (cond (Nat.blt j 187) (j - 156, 30) (cond (Nat.blt j 217) (120 + (j - 187), 121 + (j - 187)) (cond (Nat.blt j 223) (160 + 60 * (j - 217), 220 + 60 * (j - 217)) (cond (Nat.blt j 284) (160, 160 + (j - 223)) (cond (Nat.blt j 345) (160 + (j - 284), 220) (0, 0)))))))
def rFl (j : Nat) (h : zH) : Prop := if j = 155 then ∀ x : Nat, 120 ≤ x → x < 150 → (x : Int) - 120 < (h 121 25).2 → rOK x h else ∀ x, (a_fr j).1 ≤ x → x < (a_fr j).2 → rOK x h
/-! the steps of the hints -/
noncomputable def a_okb (q : aQ) (r o : Nat) (m : Int) : Bool := cond (@decide (m < 0) (a_decLt _ _)) true (match a_oget q.2.2.2.1 r 0 (Int.ofNat o) with
  | some v => (match a_rngK q.2.1 v (fun lo hi => some (@decide (0 ≤ lo) (a_decLe _ _) && @decide (hi ≤ m) (a_decLe _ _))) with
    | some b => b
    | none => false)
  | none => false)
noncomputable def a_okR (q : aQ) (ra oa rb ob : Nat) (nd : Int × Int) : Bool := a_okb q ra oa nd.1 && a_okb q rb ob nd.2
noncomputable def a_rgood (q : aQ) (j : Nat) : Bool := match a_rowK j (fun rk ok ot ra oa rb ob => match a_oget q.2.2.2.1 rk 0 (Int.ofNat ok) with
  | none => none
  | some vk => a_rngK q.2.1 vk (fun lo hi => cond (@decide (lo = hi) (a_decEqZ _ _)) (cond (Nat.blt j 150) (cond (@decide (lo = 7) (a_decEqZ _ _)) (match a_oget q.2.2.2.1 rk 0 (Int.ofNat ot) with
    | none => none
    | some vt => a_rngK q.2.1 vt (fun l2 h2 => cond (@decide (l2 = h2) (a_decEqZ _ _)) (some (a_okR q ra oa rb ob (a_nd0 7 l2))) none)) (some (a_okR q ra oa rb ob (a_nd0 lo 0)))) (some (a_okR q ra oa rb ob (a_nd1 lo)))) none)) with
  | some b => b
  | none => false
noncomputable def a_eqV (v w : Option aV) : Bool := match v, w with
  | some v, some w => Nat.beq v.1 w.1 && (Nat.beq v.2.1 w.2.1 && @decide (v.2.2 = w.2.2) (a_decEqZ _ _))
  | _, _ => false
noncomputable def a_alike (q : aQ) (a b : Nat) : Bool := match a_rowK a (fun rk ok ot ra oa rb ob => a_rowK b (fun rk' ok' ot' ra' oa' rb' ob' => some (a_eqV (a_oget q.2.2.2.1 rk 0 (Int.ofNat ok)) (a_oget q.2.2.2.1 rk' 0 (Int.ofNat ok')) && (a_eqV (a_oget q.2.2.2.1 rk 0 (Int.ofNat ot)) (a_oget q.2.2.2.1 rk' 0 (Int.ofNat ot')) && (a_eqV (a_oget q.2.2.2.1 ra 0 (Int.ofNat oa)) (a_oget q.2.2.2.1 ra' 0 (Int.ofNat oa')) && a_eqV (a_oget q.2.2.2.1 rb 0 (Int.ofNat ob)) (a_oget q.2.2.2.1 rb' 0 (Int.ofNat ob'))))))) with
  | some b => b
  | none => false
def a_setF (q : aQ) (fl : List Nat) : aQ := (q.1, q.2.1, q.2.2.1, q.2.2.2.1, fl)
def a_setO (q : aQ) (O : aO) : aQ := (q.1, q.2.1, q.2.2.1, O, q.2.2.2.2)
noncomputable def a_has (q : aQ) (x : Nat) : Bool := a_any (fun j => Nat.ble (a_fr j).1 x && Nat.blt x (a_fr j).2) q.2.2.2.2 || (a_memN 155 q.2.2.2.2 && (Nat.ble 120 x && (Nat.blt x 150 && (match a_oget q.2.2.2.1 121 0 25 with
  | some v => (match a_rngK q.2.1 v (fun lo _ => some (@decide ((x : Int) - 120 < lo) (a_decLt _ _))) with
    | some b => b
    | none => false)
  | none => false))))
noncomputable def a_allN (p : Nat → Bool) (j0 n : Nat) : Bool := Nat.rec (motive := fun _ => Bool) true (fun i ih => p (j0 + i) && ih) n
-- each of the rows lo .. + n follows; sr: the first of those that may be alike
noncomputable def a_covR (q : aQ) (sr lo n : Nat) : Bool := a_allN (fun x => a_has q x || (a_rgood q x || (Nat.beq (rTau (sr + (x - lo))) (rTau x) && (a_has q (sr + (x - lo)) && a_alike q (sr + (x - lo)) x)))) lo n
noncomputable def a_cov {β : Type} (sr t : Nat) (q : aQ) (f : aQ → Option β) : Option β := cond (a_memN t q.2.2.2.2) (f q) (cond (Nat.beq t 155) (match a_oget q.2.2.2.1 121 0 25 with
    | some v => a_rngK q.2.1 v (fun _ hi => cond (@decide (hi ≤ 30) (a_decLe _ _) && a_covR q 120 120 hi.toNat) (f (a_setF q (155 :: q.2.2.2.2))) (f q))
    | none => f q) (cond (Nat.blt t 345) (x_kN (a_fr t).1 (fun lo => x_kN ((a_fr t).2 - lo) (fun n => cond (a_covR q sr lo n) (x_kN t (fun t => f (a_setF q (t :: q.2.2.2.2)))) (f q)))) (f q)))
noncomputable def a_cover {β : Type} (f : aQ → Option β) (ts : List Int) : aQ → Option β := List.rec (motive := fun _ => aQ → Option β) f (fun t _ ih q => a_cov (a_fr t.toNat).1 t.toNat q ih) ts
noncomputable def a_coverP {β : Type} (t r : Nat) (o : Int) (q : aQ) (f : aQ → Option β) : Option β := match a_oget q.2.2.2.1 r 0 o with
  | some v => a_rngK q.2.1 v (fun lo hi => cond (@decide (lo = hi) (a_decEqZ _ _) && @decide (0 ≤ lo) (a_decLe _ _)) (x_kN (t + lo.toNat) (fun t => a_cov (a_fr t).1 t q f)) (f q))
  | none => f q
noncomputable def a_coverL {β : Type} (L : aL) (t loc m d : Nat) (q : aQ) (f : aQ → Option β) : Option β := match a_lget L loc with
  | some v => a_rngK q.2.1 v (fun lo hi => cond (@decide (lo = hi) (a_decEqZ _ _) && @decide (0 ≤ lo) (a_decLe _ _)) (x_kN (t + (lo.toNat - m) / d) (fun t => a_cov (a_fr t).1 t q f)) (f q))
  | none => f q
noncomputable def a_dropF {β : Type} (j0 n : Nat) (q : aQ) (f : aQ → Option β) : Option β := x_spine (a_flt (fun j => Nat.blt j j0 || Nat.ble (j0 + n) j) q.2.2.2.2) (fun fl => f (a_setF q fl))
noncomputable def a_dropO {β : Type} (p : (Nat × Nat × Int) × aV → Bool) (q : aQ) (f : aQ → Option β) : Option β := x_spine (a_flt p q.2.2.2.1) (fun O => f (a_setO q O))
-- all places of an int cell, read
noncomputable def a_readAK {β : Type} (r : Nat) (f : aQ → Option β) (n : Nat) : aQ → Option β := Nat.rec (motive := fun _ => aQ → Option β) f (fun i ih q => match a_oget q.2.2.2.1 r 0 (Int.ofNat i) with
  | some _ => ih q
  | none => x_kN (q.1 + 1) (fun n => x_kN i (fun i => ih (n, q.2.1, q.2.2.1, ((r, 0, Int.ofNat i), (0, n, 0)) :: q.2.2.2.1, q.2.2.2.2)))) n
noncomputable def a_ofR {β : Type} (L : aL) (loc : Nat) (f : Nat → Option β) : Option β := match a_lget L loc with
  | some v => cond (Nat.beq v.1 2 && (a_isC v && @decide (0 ≤ v.2.2) (a_decLe _ _))) (match a_ordI v.2.2.toNat with
    | some o => f o
    | none => none) none
  | none => none
noncomputable def a_openC {β : Type} (L : aL) (loc : Nat) (q : aQ) (f : aQ → Option β) : Option β := a_ofR L loc (fun o => cond (a_memN (217 + o) q.2.2.2.2) (a_readAK (a_ord o + 1) (a_readAK (a_ord o + 2) (a_readAK (a_ord o + 3) f 60) 60) 60 q) (f q))
noncomputable def a_moveC {β : Type} (L : aL) (l0 l1 : Nat) (q : aQ) (f : aQ → Option β) : Option β := a_ofR L l0 (fun a => a_ofR L l1 (fun b => a_cov (160 + 60 * a) (217 + b) q (fun q => a_dropO (fun e => !(Nat.beq e.1.1 (a_ord a + 1) || (Nat.beq e.1.1 (a_ord a + 2) || (Nat.beq e.1.1 (a_ord a + 3) || (Nat.beq e.1.1 (a_ord b + 1) || (Nat.beq e.1.1 (a_ord b + 2) || Nat.beq e.1.1 (a_ord b + 3))))))) q f)))
noncomputable def a_derive {β : Type} (L : aL) (l0 l1 : Nat) (c : Int) (q : aQ) (f : aQ → Option β) : Option β := match a_lget L l0, a_lget L l1 with
  | some (_, i + 1, o), some (_, i' + 1, o') => cond (!Nat.beq i i' && a_ent q.2.1 q.2.2.1 3 [(1, i), (1, i')] (c - o - o')) (x_kZ (c - o - o') (fun b => f (a_fact q ([(1, i), (1, i')], b)))) (f q)
  | some _, some _ => f q
  | _, _ => none
noncomputable def a_rebase {β : Type} (r : Nat) (o : Int) (q : aQ) (f : aQ → Option β) (js : List Int) : Option β := match a_oget q.2.2.2.1 r 0 o with
  | some (_, i + 1, c) => List.rec (motive := fun _ => aQ → Option β) f (fun j _ ih q => x_kN j.toNat (fun j => cond (Nat.beq j i || !Nat.blt j q.1) (ih q) (cond (a_ent q.2.1 q.2.2.1 3 [(1, j), (-1, i)] (-1 + c)) (x_kZ (-1 + c) (fun b => ih (a_fact q ([(1, j), (-1, i)], b)))) (cond (a_ent q.2.1 q.2.2.1 3 [(1, j), (-1, i)] (0 + c)) (x_kZ (0 + c) (fun b => ih (a_fact q ([(1, j), (-1, i)], b)))) (ih q))))) js q
  | _ => f q
-- a copying of blocks, behind each row
noncomputable def a_blk {β : Type} (q : aQ) (L : aL) (x : Int) (f : Nat → Option β) : Option β := cond (@decide (x < 0) (a_decLt _ _)) (x_kN (-1 - x).toNat f) (match a_lget L x.toNat with
  | some v => a_rngK q.2.1 v (fun lo hi => cond (@decide (lo = hi) (a_decEqZ _ _) && @decide (0 ≤ lo) (a_decLe _ _)) (x_kN lo.toNat f) none)
  | none => none)
noncomputable def a_keep126 (e : (Nat × Nat × Int) × aV) : Bool := !Nat.beq e.1.1 126 || (Nat.beq e.1.2.1 0 && Nat.blt (e.1.2.2.toNat % 550) 4)
noncomputable def a_keepA (e : (Nat × Nat × Int) × aV) : Bool := !Nat.beq e.1.1 126 || (Nat.beq e.1.2.1 0 && (Nat.blt (e.1.2.2.toNat % 550) 4 || (Nat.ble 245 (e.1.2.2.toNat % 550) && Nat.ble (e.1.2.2.toNat % 550) 262)))
noncomputable def a_rowstep {β : Type} (L : aL) (loc : Nat) (off a b : Int) (q : aQ) (f : aQ → Option β) : Option β := match a_lget L loc with
  | some v => a_rngK q.2.1 v (fun lo hi => cond (@decide (lo = hi) (a_decEqZ _ _) && @decide (0 ≤ lo + off) (a_decLe _ _)) (x_kN (lo + off).toNat (fun k => cond (Nat.blt k 277) (cond (Nat.beq (k % 16) 15) (a_dropO a_keepA q f) (f q)) (cond (Nat.blt 547 k || !Nat.beq ((k - 277) % 9) 0) (f q) (a_blk q L a (fun a => a_blk q L b (fun b => x_kN ((k - 277) / 9) (fun i => a_cov (30 * a) (31 * b + i) q (fun q => a_cov 0 (cond (Nat.beq b 0) (156 + cond (Nat.ble 30 i) 30 (i + 1)) 600) q (fun q => x_spine (a_flt (fun j => Nat.blt j (31 * b) || Nat.ble (31 * b + i) j) q.2.2.2.2) (fun fl => a_dropO a_keep126 (a_setF q fl) f)))))))))) none)
  | none => none
-- where companies stand: a copying of it; all 0; and so on the ground
def a_alR (b : Nat) : Nat := match b with
  | 5 => 127
  | _ => 126
def a_alB (b : Nat) : Nat := match b with
  | 5 => 0
  | b => 550 * b
def a_alP : List Nat := [0, 1, 245, 246, 247, 248, 249, 250, 257, 258, 259, 260, 261, 262]
def a_zeP : List Nat := [2445, 2446, 2447, 2448, 2449, 2450, 2457, 2458, 2459, 2460, 2461, 2462]
noncomputable def a_alls (p : Nat → Bool) (l : List Nat) : Bool := List.rec (motive := fun _ => Bool) true (fun i _ ih => p i && ih) l
noncomputable def a_atK {β : Type} (L : aL) (q : aQ) (loc : Nat) (k : Int) (f g : Unit → Option β) : Option β := match a_lget L loc with
  | some v => a_rngK q.2.1 v (fun lo hi => cond (@decide (lo = k) (a_decEqZ _ _) && @decide (hi = k) (a_decEqZ _ _)) (f ()) (g ()))
  | none => none
noncomputable def a_moveA {β : Type} (L : aL) (loc : Nat) (k a b : Int) (q : aQ) (f : aQ → Option β) : Option β := a_atK L q loc k (fun _ => a_blk q L a (fun a => a_blk q L b (fun b => cond (Nat.ble a 5 && (Nat.ble b 5 && (a_memN (345 + a) q.2.2.2.2 && (!a_memN (345 + b) q.2.2.2.2 && a_alls (fun i => a_eqV (a_oget q.2.2.2.1 (a_alR a) 0 (Int.ofNat (a_alB a + i))) (a_oget q.2.2.2.1 (a_alR b) 0 (Int.ofNat (a_alB b + i)))) a_alP)))) (x_kN (345 + b) (fun t => f (a_setF q (t :: q.2.2.2.2)))) (f q)))) (fun _ => f q)
noncomputable def a_zeroA {β : Type} (L : aL) (loc : Nat) (k : Int) (q : aQ) (f : aQ → Option β) : Option β := a_atK L q loc k (fun _ => cond (a_alls (fun i => match a_oget q.2.2.2.1 126 0 (Int.ofNat i) with
  | some v => a_isC v && @decide (v.2.2 = 0) (a_decEqZ _ _)
  | none => false) a_zeP) (f (a_setF q (352 :: q.2.2.2.2))) (f q)) (fun _ => f q)
noncomputable def a_zeA {β : Type} (q : aQ) (f : aQ → Option β) : Option β := cond (a_memN 352 q.2.2.2.2 && !a_memN 349 q.2.2.2.2) (f (a_setF q (349 :: q.2.2.2.2))) (f q)
-- up to place k: what is known of cell r is let go, but for what stands; behind it: all from place m on
noncomputable def a_keepR {β : Type} (L : aL) (loc : Nat) (k : Int) (r : Nat) (m : Int) (q : aQ) (f : aQ → Option β) : Option β := match a_lget L loc with
  | some v => a_rngK q.2.1 v (fun lo _ => cond (@decide (lo ≤ k) (a_decLe _ _)) (a_dropO (fun e => !Nat.beq e.1.1 r || (Nat.beq e.1.2.1 0 && (@decide (e.1.2.2 < 4) (a_decLt _ _) || (@decide (245 ≤ e.1.2.2) (a_decLe _ _) && @decide (e.1.2.2 ≤ 262) (a_decLe _ _))))) q f) (a_dropO (fun e => !Nat.beq e.1.1 r || (Nat.beq e.1.2.1 0 && @decide (e.1.2.2 < m) (a_decLt _ _))) q f))
  | none => none
-- a row is read: its kinds apart
noncomputable def a_kinds (vk : aV) (pay : Int → aQ → Option (List aS)) (L : aL) (S : List aV) (ks : List Int) : aQ → Option (List aS) := List.rec (motive := fun _ => aQ → Option (List aS)) (fun q => some [(q, L, S)]) (fun k _ ih q => a_br 2 q vk (0, 0, k) (pay k) ih) ks
noncomputable def a_rowb1 {β : Type} (r o : Nat) (m : Int) (q : aQ) (f : aQ → Option β) : Option β := cond (@decide (m < 0) (a_decLt _ _)) (f q) (a_newK 0 0 m q (fun q v => x_kN o (fun o => f (a_addO q ((r, 0, Int.ofNat o), v)))))
noncomputable def a_rowread (loc : Nat) (st : aS) : Option (List aS) := match a_lget st.2.1 loc with
  | some vw => a_rngK st.1.2.1 vw (fun lo hi => cond (@decide (lo = hi) (a_decEqZ _ _) && @decide (277 ≤ lo) (a_decLe _ _)) (x_kN ((lo.toNat - 277) / 9) (fun j => cond (Nat.beq lo.toNat (277 + 9 * j) && (Nat.blt j 30 && a_has st.1 j)) (x_kN lo.toNat (fun w => match a_oget st.1.2.2.2.1 126 0 (Int.ofNat w) with
    | some vk => a_kinds vk (fun k q => cond (@decide (k = 7) (a_decEqZ _ _)) (match a_oget q.2.2.2.1 126 0 (Int.ofNat (w + 6)) with
        | some vt => a_kinds vt (fun t q => a_rowb1 126 (w + 1) (a_nd0 7 t).1 q (fun q => a_rowb1 126 (w + 2) (a_nd0 7 t).2 q (fun q => some [(q, st.2.1, st.2.2)]))) st.2.1 st.2.2 [-1, 0, 1, 2] q
        | none => some [(q, st.2.1, st.2.2)]) (a_rowb1 126 (w + 1) (a_nd0 k 0).1 q (fun q => a_rowb1 126 (w + 2) (a_nd0 k 0).2 q (fun q => some [(q, st.2.1, st.2.2)])))) st.2.1 st.2.2 [0, 1, 2, 3, 4, 5, 6, 7, 8, 9] st.1
    | none => none)) none)) none)
  | none => none
noncomputable def a_bdK {β : Type} (v : aV) (m : Int) (q : aQ) (f : aQ → Option (List β)) : Option (List β) := cond (@decide (m < 0) (a_decLt _ _)) (f q) (a_leK q v (0, 0, m) 0 (fun q => a_leK q (0, 0, 0) v 0 f))
noncomputable def a_rowreadC (loc r0 : Nat) (o0 : Int) (st : aS) : Option (List aS) := match a_lget st.2.1 loc, a_oget st.1.2.2.2.1 r0 0 o0 with
  | some vi, some vo => cond (a_isC vo && @decide (0 ≤ vo.2.2) (a_decLe _ _)) (match a_ordI vo.2.2.toNat with
    | some o => cond (a_memN (217 + o) st.1.2.2.2.2) (a_rngK st.1.2.1 vi (fun lo hi => cond (@decide (0 ≤ lo) (a_decLe _ _) && @decide (hi < 60) (a_decLt _ _)) (a_idxK vi lo hi (fun s of => match a_oget st.1.2.2.2.1 (a_ord o + 1) s of, a_oget st.1.2.2.2.1 (a_ord o + 2) s of, a_oget st.1.2.2.2.1 (a_ord o + 3) s of with
      | some vk, some va, some vb => a_kinds vk (fun k q => a_bdK va (a_nd1 k).1 q (fun q => a_bdK vb (a_nd1 k).2 q (fun q => some [(q, st.2.1, st.2.2)]))) st.2.1 st.2.2 [0, 1, 2, 3, 4, 5, 6, 7, 8, 9, 10, 11, 12, 13, 14, 15, 16, 17, 18, 19, 20, 21] st.1
      | _, _, _ => none)) none)) none
    | none => none) none
  | _, _ => none
noncomputable def a_one1 (st : aS) (g : (aQ → Option (List aS)) → Option (List aS)) : Option (List aS) := g (fun q => some [(q, st.2.1, st.2.2)])
noncomputable def a_splitL (loc r0 : Nat) (o0 : Int) (d : Nat) (st : aS) : Option (List aS) := match a_lget st.2.1 loc, a_oget st.1.2.2.2.1 r0 0 o0 with
  | some vi, some v => a_rngK st.1.2.1 vi (fun lo hi => cond (@decide (lo = hi) (a_decEqZ _ _) && (@decide (0 ≤ lo) (a_decLe _ _) && Nat.beq v.1 0)) (x_kN lo.toNat (fun k => cond (Nat.beq (k % d) 0) (x_kZ (Int.ofNat (k / d + 1)) (fun b => a_splitR v st.2.1 st.2.2 [b] st.1)) (some [st]))) none)
  | _, _ => none
noncomputable def aLmR : aLm := fun k w bs st => match k, bs with
  | 2, [l] => a_rowread l.toNat st
  | 3, ts => a_one1 st (fun f => a_cover f ts st.1)
  | 4, [t, r, o] => a_one1 st (a_coverP t.toNat r.toNat o st.1)
  | 5, [t, l, m, d] => a_one1 st (a_coverL st.2.1 t.toNat l.toNat m.toNat d.toNat st.1)
  | 8, [l, r, o] => a_rowreadC l.toNat r.toNat o st
  | 10, [l, o, a, b] => a_one1 st (a_rowstep st.2.1 l.toNat o a b st.1)
  | 11, [j, n] => a_one1 st (a_dropF j.toNat n.toNat st.1)
  | 12, [l] => a_one1 st (a_openC st.2.1 l.toNat st.1)
  | 13, [a, b] => a_one1 st (a_moveC st.2.1 a.toNat b.toNat st.1)
  | 15, [a, b, c] => a_one1 st (a_derive st.2.1 a.toNat b.toNat c st.1)
  | 16, [r, lo, hi] => a_one1 st (a_dropO (fun e => !(Nat.beq e.1.1 r.toNat && (!Nat.beq e.1.2.1 0 || (@decide (lo ≤ e.1.2.2) (a_decLe _ _) && @decide (e.1.2.2 ≤ hi) (a_decLe _ _))))) st.1)
  | 17, r :: o :: js => a_one1 st (fun f => a_rebase r.toNat o st.1 f js)
  | 18, [l, k, a, b] => a_one1 st (a_moveA st.2.1 l.toNat k a b st.1)
  | 19, [l, k] => a_one1 st (a_zeroA st.2.1 l.toNat k st.1)
  | 20, [_] => a_one1 st (a_zeA st.1)
  | 21, [l, k, r, m] => a_one1 st (a_keepR st.2.1 l.toNat k r.toNat m st.1)
  | 29, [l, r, o, d] => a_splitL l.toNat r.toNat o d.toNat st
  | 0, _ => aLmS k w bs st
  | 1, _ => aLmS k w bs st
  | _, _ => none
/-! the walk once more, without cond and Decidable (wip/z/genq.py); that it comes to the same -/
noncomputable def aq_ordI (r : Nat) : Option Nat := (Bool.rec (motive := fun _ => _) ((Bool.rec (motive := fun _ => _) ((Bool.rec (motive := fun _ => _) ((Bool.rec (motive := fun _ => _) ((Bool.rec (motive := fun _ => _) ((Bool.rec (motive := fun _ => _) none (some 5) (Nat.beq r 95))) (some 4) (Nat.beq r 80))) (some 3) (Nat.beq r 65))) (some 2) (Nat.beq r 49))) (some 1) (Nat.beq r 34))) (some 0) (Nat.beq r 18))
theorem aq_ordI_e : @aq_ordI = @a_ordI := by
  delta aq_ordI
  try simp only [a_cqx]
  rfl
noncomputable def aq_rowK {β : Type} (j : Nat) (f : Nat → Nat → Nat → Nat → Nat → Nat → Nat → Option β) : Option β := (Bool.rec (motive := fun _ => _) (x_kN ((j - 160) % 60) (fun i => x_kN (a_ord ((j - 160) / 60)) (fun r => f (r + 1) i i (r + 2) i (r + 3) i))) (x_kN (550 * (j / 30) + 277 + 9 * (j % 30)) (fun w => f 126 w (w + 6) 126 (w + 1) 126 (w + 2))) (Nat.blt j 150))
theorem aq_rowK_e : @aq_rowK = @a_rowK := by
  delta aq_rowK
  try simp only [a_cqx]
  rfl
noncomputable def aq_nd0 (k t : Int) : Int × Int := (Bool.rec (motive := fun _ => _) ((Bool.rec (motive := fun _ => _) ((Bool.rec (motive := fun _ => _) ((Bool.rec (motive := fun _ => _) ((Bool.rec (motive := fun _ => _) ((Bool.rec (motive := fun _ => _) ((Bool.rec (motive := fun _ => _) (-1, -1) (99, -1) ((a_eqZ (k) (8))))) ((Bool.rec (motive := fun _ => _) ((Bool.rec (motive := fun _ => _) (-1, -1) (5, -1) ((a_eqZ (t) (1))))) (2, 47) ((a_eqZ (t) (0))))) ((a_eqZ (k) (7))))) (5, -1) ((a_eqZ (k) (5))))) (2, 12) ((a_eqZ (k) (4))))) (2, 2) ((a_eqZ (k) (3))))) (2, -1) ((a_eqZ (k) (1))))) (2, 47) ((Bool.rec (motive := fun _ => Bool) ((a_eqZ (k) (2))) true ((a_eqZ (k) (0))))))
theorem aq_nd0_e : @aq_nd0 = @a_nd0 := by
  delta aq_nd0
  simp only [a_eqZ_q, a_aq, a_oq, a_nq]
  try simp only [a_cqx]
  rfl
noncomputable def aq_nd1 (k : Int) : Int × Int := (Bool.rec (motive := fun _ => _) ((Bool.rec (motive := fun _ => _) ((Bool.rec (motive := fun _ => _) ((Bool.rec (motive := fun _ => _) ((Bool.rec (motive := fun _ => _) ((Bool.rec (motive := fun _ => _) (-1, -1) (99, -1) ((a_eqZ (k) (19))))) (5, -1) ((Bool.rec (motive := fun _ => Bool) ((a_eqZ (k) (17))) true ((a_eqZ (k) (13))))))) (2, 12) ((a_eqZ (k) (12))))) (2, 2) ((a_eqZ (k) (11))))) (2, -1) ((a_eqZ (k) (9))))) (2, 47) ((Bool.rec (motive := fun _ => Bool) (((Bool.rec (motive := fun _ => Bool) ((a_eqZ (k) (16))) true ((a_eqZ (k) (10)))))) true ((a_eqZ (k) (8))))))
theorem aq_nd1_e : @aq_nd1 = @a_nd1 := by
  delta aq_nd1
  simp only [a_eqZ_q, a_aq, a_oq, a_nq]
  try simp only [a_cqx]
  rfl
noncomputable def aq_fr (j : Nat) : Nat × Nat := (Bool.rec (motive := fun _ => _) ((Bool.rec (motive := fun _ => _) ((Bool.rec (motive := fun _ => _) ((Bool.rec (motive := fun _ => _) ((Bool.rec (motive := fun _ => _) ((Bool.rec (motive := fun _ => _) ((Bool.rec (motive := fun _ => _) (0, 0) (160 + (j - 284), 220) (Nat.blt j 345))) (160, 160 + (j - 223)) (Nat.blt j 284))) (160 + 60 * (j - 217), 220 + 60 * (j - 217)) (Nat.blt j 223))) (120 + (j - 187), 121 + (j - 187)) (Nat.blt j 217))) (j - 156, 30) (Nat.blt j 187))) (0, 0) (Nat.blt j 156))) (30 * (j / 31), 30 * (j / 31) + j % 31) (Nat.blt j 155))
theorem aq_fr_e : @aq_fr = @a_fr := by
  delta aq_fr
  try simp only [a_cqx]
  rfl
noncomputable def aq_okb (q : aQ) (r o : Nat) (m : Int) : Bool := cond ((a_ltZ (m) (0))) true (match aq_oget q.2.2.2.1 r 0 (Int.ofNat o) with
  | some v => (match aq_rngK q.2.1 v (fun lo hi => some ((Bool.rec (motive := fun _ => Bool) false ((a_leZ (hi) (m))) ((a_leZ (0) (lo)))))) with
    | some b => b
    | none => false)
  | none => false)
theorem aq_okb_e : @aq_okb = @a_okb := by
  delta aq_okb
  simp only [aq_rngK_e, aq_oget_e, a_leZ_q, a_ltZ_q, a_aq, a_oq, a_nq]
  rfl
noncomputable def aq_okR (q : aQ) (ra oa rb ob : Nat) (nd : Int × Int) : Bool := (Bool.rec (motive := fun _ => Bool) false (aq_okb q rb ob nd.2) (aq_okb q ra oa nd.1))
theorem aq_okR_e : @aq_okR = @a_okR := by
  delta aq_okR
  simp only [aq_okb_e, a_aq, a_oq, a_nq]
  rfl
noncomputable def aq_rgood (q : aQ) (j : Nat) : Bool := match aq_rowK j (fun rk ok ot ra oa rb ob => match aq_oget q.2.2.2.1 rk 0 (Int.ofNat ok) with
  | none => none
  | some vk => aq_rngK q.2.1 vk (fun lo hi => cond ((a_eqZ (lo) (hi))) (cond (Nat.blt j 150) (cond ((a_eqZ (lo) (7))) (match aq_oget q.2.2.2.1 rk 0 (Int.ofNat ot) with
    | none => none
    | some vt => aq_rngK q.2.1 vt (fun l2 h2 => cond ((a_eqZ (l2) (h2))) (some (aq_okR q ra oa rb ob (aq_nd0 7 l2))) none)) (some (aq_okR q ra oa rb ob (aq_nd0 lo 0)))) (some (aq_okR q ra oa rb ob (aq_nd1 lo)))) none)) with
  | some b => b
  | none => false
theorem aq_rgood_e : @aq_rgood = @a_rgood := by
  delta aq_rgood
  simp only [aq_rngK_e, aq_oget_e, aq_rowK_e, aq_nd0_e, aq_nd1_e, aq_okR_e, a_eqZ_q]
  rfl
noncomputable def aq_eqV (v w : Option aV) : Bool := match v, w with
  | some v, some w => (Bool.rec (motive := fun _ => Bool) false (((Bool.rec (motive := fun _ => Bool) false ((a_eqZ (v.2.2) (w.2.2))) (Nat.beq v.2.1 w.2.1)))) (Nat.beq v.1 w.1))
  | _, _ => false
theorem aq_eqV_e : @aq_eqV = @a_eqV := by
  delta aq_eqV
  simp only [a_eqZ_q, a_aq, a_oq, a_nq]
  rfl
noncomputable def aq_alike (q : aQ) (a b : Nat) : Bool := match aq_rowK a (fun rk ok ot ra oa rb ob => aq_rowK b (fun rk' ok' ot' ra' oa' rb' ob' => some ((Bool.rec (motive := fun _ => Bool) false (((Bool.rec (motive := fun _ => Bool) false (((Bool.rec (motive := fun _ => Bool) false (aq_eqV (aq_oget q.2.2.2.1 rb 0 (Int.ofNat ob)) (aq_oget q.2.2.2.1 rb' 0 (Int.ofNat ob'))) (aq_eqV (aq_oget q.2.2.2.1 ra 0 (Int.ofNat oa)) (aq_oget q.2.2.2.1 ra' 0 (Int.ofNat oa')))))) (aq_eqV (aq_oget q.2.2.2.1 rk 0 (Int.ofNat ot)) (aq_oget q.2.2.2.1 rk' 0 (Int.ofNat ot')))))) (aq_eqV (aq_oget q.2.2.2.1 rk 0 (Int.ofNat ok)) (aq_oget q.2.2.2.1 rk' 0 (Int.ofNat ok'))))))) with
  | some b => b
  | none => false
theorem aq_alike_e : @aq_alike = @a_alike := by
  delta aq_alike
  simp only [aq_oget_e, aq_rowK_e, aq_eqV_e, a_aq, a_oq, a_nq]
  rfl
noncomputable def aq_has (q : aQ) (x : Nat) : Bool := (Bool.rec (motive := fun _ => Bool) (((Bool.rec (motive := fun _ => Bool) false (((Bool.rec (motive := fun _ => Bool) false (((Bool.rec (motive := fun _ => Bool) false ((match aq_oget q.2.2.2.1 121 0 25 with
  | some v => (match aq_rngK q.2.1 v (fun lo _ => some ((a_ltZ ((x : Int) - 120) (lo)))) with
    | some b => b
    | none => false)
  | none => false)) (Nat.blt x 150)))) (Nat.ble 120 x)))) (aq_memN 155 q.2.2.2.2)))) true (aq_any (fun j => (Bool.rec (motive := fun _ => Bool) false (Nat.blt x (aq_fr j).2) (Nat.ble (aq_fr j).1 x))) q.2.2.2.2))
theorem aq_has_e : @aq_has = @a_has := by
  delta aq_has
  simp only [aq_rngK_e, aq_oget_e, aq_any_e, aq_memN_e, aq_fr_e, a_ltZ_q, a_aq, a_oq, a_nq]
  rfl
noncomputable def aq_allN (p : Nat → Bool) (j0 n : Nat) : Bool := Nat.rec (motive := fun _ => Bool) true (fun i ih => (Bool.rec (motive := fun _ => Bool) false (ih) (p (j0 + i)))) n
theorem aq_allN_e : @aq_allN = @a_allN := by
  delta aq_allN
  simp only [a_aq, a_oq, a_nq]
  rfl
noncomputable def aq_covR (q : aQ) (sr lo n : Nat) : Bool := aq_allN (fun x => (Bool.rec (motive := fun _ => Bool) (((Bool.rec (motive := fun _ => Bool) (((Bool.rec (motive := fun _ => Bool) false (((Bool.rec (motive := fun _ => Bool) false (aq_alike q (sr + (x - lo)) x) (aq_has q (sr + (x - lo)))))) (Nat.beq (rTau (sr + (x - lo))) (rTau x))))) true (aq_rgood q x)))) true (aq_has q x))) lo n
theorem aq_covR_e : @aq_covR = @a_covR := by
  delta aq_covR
  simp only [aq_rgood_e, aq_alike_e, aq_has_e, aq_allN_e, a_aq, a_oq, a_nq]
  rfl
noncomputable def aq_cov {β : Type} (sr t : Nat) (q : aQ) (f : aQ → Option β) : Option β := (Bool.rec (motive := fun _ => _) ((Bool.rec (motive := fun _ => _) ((Bool.rec (motive := fun _ => _) (f q) (x_kN (aq_fr t).1 (fun lo => x_kN ((aq_fr t).2 - lo) (fun n => (Bool.rec (motive := fun _ => _) (f q) (x_kN t (fun t => f (a_setF q (t :: q.2.2.2.2)))) (aq_covR q sr lo n))))) (Nat.blt t 345))) (match aq_oget q.2.2.2.1 121 0 25 with
    | some v => aq_rngK q.2.1 v (fun _ hi => (Bool.rec (motive := fun _ => _) (f q) (f (a_setF q (155 :: q.2.2.2.2))) ((Bool.rec (motive := fun _ => Bool) false (aq_covR q 120 120 hi.toNat) ((a_leZ (hi) (30)))))))
    | none => f q) (Nat.beq t 155))) (f q) (aq_memN t q.2.2.2.2))
theorem aq_cov_e : @aq_cov = @a_cov := by
  delta aq_cov
  simp only [aq_rngK_e, aq_oget_e, aq_memN_e, aq_fr_e, aq_covR_e, a_leZ_q, a_aq, a_oq, a_nq]
  try simp only [a_cqx]
  rfl
noncomputable def aq_cover {β : Type} (f : aQ → Option β) (ts : List Int) : aQ → Option β := List.rec (motive := fun _ => aQ → Option β) f (fun t _ ih q => aq_cov (aq_fr t.toNat).1 t.toNat q ih) ts
theorem aq_cover_e : @aq_cover = @a_cover := by
  delta aq_cover
  simp only [aq_fr_e, aq_cov_e]
  rfl
noncomputable def aq_coverP {β : Type} (t r : Nat) (o : Int) (q : aQ) (f : aQ → Option β) : Option β := match aq_oget q.2.2.2.1 r 0 o with
  | some v => aq_rngK q.2.1 v (fun lo hi => (Bool.rec (motive := fun _ => _) (f q) (x_kN (t + lo.toNat) (fun t => aq_cov (aq_fr t).1 t q f)) ((Bool.rec (motive := fun _ => Bool) false ((a_leZ (0) (lo))) ((a_eqZ (lo) (hi)))))))
  | none => f q
theorem aq_coverP_e : @aq_coverP = @a_coverP := by
  delta aq_coverP
  simp only [aq_rngK_e, aq_oget_e, aq_fr_e, aq_cov_e, a_leZ_q, a_eqZ_q, a_aq, a_oq, a_nq]
  try simp only [a_cqx]
  rfl
noncomputable def aq_coverL {β : Type} (L : aL) (t loc m d : Nat) (q : aQ) (f : aQ → Option β) : Option β := match aq_lget L loc with
  | some v => aq_rngK q.2.1 v (fun lo hi => (Bool.rec (motive := fun _ => _) (f q) (x_kN (t + (lo.toNat - m) / d) (fun t => aq_cov (aq_fr t).1 t q f)) ((Bool.rec (motive := fun _ => Bool) false ((a_leZ (0) (lo))) ((a_eqZ (lo) (hi)))))))
  | none => f q
theorem aq_coverL_e : @aq_coverL = @a_coverL := by
  delta aq_coverL
  simp only [aq_rngK_e, aq_lget_e, aq_fr_e, aq_cov_e, a_leZ_q, a_eqZ_q, a_aq, a_oq, a_nq]
  try simp only [a_cqx]
  rfl
noncomputable def aq_dropF {β : Type} (j0 n : Nat) (q : aQ) (f : aQ → Option β) : Option β := x_spine (aq_flt (fun j => (Bool.rec (motive := fun _ => Bool) (Nat.ble (j0 + n) j) true (Nat.blt j j0))) q.2.2.2.2) (fun fl => f (a_setF q fl))
theorem aq_dropF_e : @aq_dropF = @a_dropF := by
  delta aq_dropF
  simp only [aq_flt_e, a_aq, a_oq, a_nq]
  rfl
noncomputable def aq_dropO {β : Type} (p : (Nat × Nat × Int) × aV → Bool) (q : aQ) (f : aQ → Option β) : Option β := x_spine (aq_flt p q.2.2.2.1) (fun O => f (a_setO q O))
theorem aq_dropO_e : @aq_dropO = @a_dropO := by
  delta aq_dropO
  simp only [aq_flt_e]
  rfl
noncomputable def aq_readAK {β : Type} (r : Nat) (f : aQ → Option β) (n : Nat) : aQ → Option β := Nat.rec (motive := fun _ => aQ → Option β) f (fun i ih q => match aq_oget q.2.2.2.1 r 0 (Int.ofNat i) with
  | some _ => ih q
  | none => x_kN (q.1 + 1) (fun n => x_kN i (fun i => ih (n, q.2.1, q.2.2.1, ((r, 0, Int.ofNat i), (0, n, 0)) :: q.2.2.2.1, q.2.2.2.2)))) n
theorem aq_readAK_e : @aq_readAK = @a_readAK := by
  delta aq_readAK
  simp only [aq_oget_e]
  rfl
noncomputable def aq_ofR {β : Type} (L : aL) (loc : Nat) (f : Nat → Option β) : Option β := match aq_lget L loc with
  | some v => (Bool.rec (motive := fun _ => _) none (match aq_ordI v.2.2.toNat with
    | some o => f o
    | none => none) ((Bool.rec (motive := fun _ => Bool) false (((Bool.rec (motive := fun _ => Bool) false ((a_leZ (0) (v.2.2))) (a_isC v)))) (Nat.beq v.1 2))))
  | none => none
theorem aq_ofR_e : @aq_ofR = @a_ofR := by
  delta aq_ofR
  simp only [aq_lget_e, aq_ordI_e, a_leZ_q, a_aq, a_oq, a_nq]
  try simp only [a_cqx]
  rfl
noncomputable def aq_openC {β : Type} (L : aL) (loc : Nat) (q : aQ) (f : aQ → Option β) : Option β := aq_ofR L loc (fun o => (Bool.rec (motive := fun _ => _) (f q) (aq_readAK (a_ord o + 1) (aq_readAK (a_ord o + 2) (aq_readAK (a_ord o + 3) f 60) 60) 60 q) (aq_memN (217 + o) q.2.2.2.2)))
theorem aq_openC_e : @aq_openC = @a_openC := by
  delta aq_openC
  simp only [aq_memN_e, aq_readAK_e, aq_ofR_e]
  try simp only [a_cqx]
  rfl
noncomputable def aq_moveC {β : Type} (L : aL) (l0 l1 : Nat) (q : aQ) (f : aQ → Option β) : Option β := aq_ofR L l0 (fun a => aq_ofR L l1 (fun b => aq_cov (160 + 60 * a) (217 + b) q (fun q => aq_dropO (fun e => (Bool.rec (motive := fun _ => Bool) true false (((Bool.rec (motive := fun _ => Bool) (((Bool.rec (motive := fun _ => Bool) (((Bool.rec (motive := fun _ => Bool) (((Bool.rec (motive := fun _ => Bool) (((Bool.rec (motive := fun _ => Bool) (Nat.beq e.1.1 (a_ord b + 3)) true (Nat.beq e.1.1 (a_ord b + 2))))) true (Nat.beq e.1.1 (a_ord b + 1))))) true (Nat.beq e.1.1 (a_ord a + 3))))) true (Nat.beq e.1.1 (a_ord a + 2))))) true (Nat.beq e.1.1 (a_ord a + 1))))))) q f)))
theorem aq_moveC_e : @aq_moveC = @a_moveC := by
  delta aq_moveC
  simp only [aq_cov_e, aq_dropO_e, aq_ofR_e, a_aq, a_oq, a_nq]
  rfl
noncomputable def aq_derive {β : Type} (L : aL) (l0 l1 : Nat) (c : Int) (q : aQ) (f : aQ → Option β) : Option β := match aq_lget L l0, aq_lget L l1 with
  | some (_, i + 1, o), some (_, i' + 1, o') => (Bool.rec (motive := fun _ => _) (f q) (x_kZ (c - o - o') (fun b => f (a_fact q ([(1, i), (1, i')], b)))) ((Bool.rec (motive := fun _ => Bool) false (aq_ent q.2.1 q.2.2.1 3 [(1, i), (1, i')] (c - o - o')) ((Bool.rec (motive := fun _ => Bool) true false (Nat.beq i i'))))))
  | some _, some _ => f q
  | _, _ => none
theorem aq_derive_e : @aq_derive = @a_derive := by
  delta aq_derive
  simp only [aq_ent_e, aq_lget_e, a_aq, a_oq, a_nq]
  try simp only [a_cqx]
  rfl
noncomputable def aq_rebase {β : Type} (r : Nat) (o : Int) (q : aQ) (f : aQ → Option β) (js : List Int) : Option β := match aq_oget q.2.2.2.1 r 0 o with
  | some (_, i + 1, c) => List.rec (motive := fun _ => aQ → Option β) f (fun j _ ih q => x_kN j.toNat (fun j => (Bool.rec (motive := fun _ => _) ((Bool.rec (motive := fun _ => _) ((Bool.rec (motive := fun _ => _) (ih q) (x_kZ (0 + c) (fun b => ih (a_fact q ([(1, j), (-1, i)], b)))) (aq_ent q.2.1 q.2.2.1 3 [(1, j), (-1, i)] (0 + c)))) (x_kZ (-1 + c) (fun b => ih (a_fact q ([(1, j), (-1, i)], b)))) (aq_ent q.2.1 q.2.2.1 3 [(1, j), (-1, i)] (-1 + c)))) (ih q) ((Bool.rec (motive := fun _ => Bool) ((Bool.rec (motive := fun _ => Bool) true false (Nat.blt j q.1))) true (Nat.beq j i)))))) js q
  | _ => f q
theorem aq_rebase_e : @aq_rebase = @a_rebase := by
  delta aq_rebase
  simp only [aq_ent_e, aq_oget_e, a_aq, a_oq, a_nq]
  try simp only [a_cqx]
  rfl
noncomputable def aq_blk {β : Type} (q : aQ) (L : aL) (x : Int) (f : Nat → Option β) : Option β := (Bool.rec (motive := fun _ => _) (match aq_lget L x.toNat with
  | some v => aq_rngK q.2.1 v (fun lo hi => (Bool.rec (motive := fun _ => _) none (x_kN lo.toNat f) ((Bool.rec (motive := fun _ => Bool) false ((a_leZ (0) (lo))) ((a_eqZ (lo) (hi)))))))
  | none => none) (x_kN (-1 - x).toNat f) ((a_ltZ (x) (0))))
theorem aq_blk_e : @aq_blk = @a_blk := by
  delta aq_blk
  simp only [aq_rngK_e, aq_lget_e, a_leZ_q, a_ltZ_q, a_eqZ_q, a_aq, a_oq, a_nq]
  try simp only [a_cqx]
  rfl
noncomputable def aq_keep126 (e : (Nat × Nat × Int) × aV) : Bool := (Bool.rec (motive := fun _ => Bool) (((Bool.rec (motive := fun _ => Bool) false (Nat.blt (e.1.2.2.toNat % 550) 4) (Nat.beq e.1.2.1 0)))) true ((Bool.rec (motive := fun _ => Bool) true false (Nat.beq e.1.1 126))))
theorem aq_keep126_e : @aq_keep126 = @a_keep126 := by
  delta aq_keep126
  simp only [a_aq, a_oq, a_nq]
  rfl
noncomputable def aq_keepA (e : (Nat × Nat × Int) × aV) : Bool := (Bool.rec (motive := fun _ => Bool) (((Bool.rec (motive := fun _ => Bool) false (((Bool.rec (motive := fun _ => Bool) (((Bool.rec (motive := fun _ => Bool) false (Nat.ble (e.1.2.2.toNat % 550) 262) (Nat.ble 245 (e.1.2.2.toNat % 550))))) true (Nat.blt (e.1.2.2.toNat % 550) 4)))) (Nat.beq e.1.2.1 0)))) true ((Bool.rec (motive := fun _ => Bool) true false (Nat.beq e.1.1 126))))
theorem aq_keepA_e : @aq_keepA = @a_keepA := by
  delta aq_keepA
  simp only [a_aq, a_oq, a_nq]
  rfl
noncomputable def aq_rowstep {β : Type} (L : aL) (loc : Nat) (off a b : Int) (q : aQ) (f : aQ → Option β) : Option β := match aq_lget L loc with
  | some v => aq_rngK q.2.1 v (fun lo hi => (Bool.rec (motive := fun _ => _) none (x_kN (lo + off).toNat (fun k => (Bool.rec (motive := fun _ => _) ((Bool.rec (motive := fun _ => _) (aq_blk q L a (fun a => aq_blk q L b (fun b => x_kN ((k - 277) / 9) (fun i => aq_cov (30 * a) (31 * b + i) q (fun q => aq_cov 0 ((Bool.rec (motive := fun _ => _) 600 (156 + cond (Nat.ble 30 i) 30 (i + 1)) (Nat.beq b 0))) q (fun q => x_spine (aq_flt (fun j => (Bool.rec (motive := fun _ => Bool) (Nat.ble (31 * b + i) j) true (Nat.blt j (31 * b)))) q.2.2.2.2) (fun fl => aq_dropO aq_keep126 (a_setF q fl) f))))))) (f q) ((Bool.rec (motive := fun _ => Bool) ((Bool.rec (motive := fun _ => Bool) true false (Nat.beq ((k - 277) % 9) 0))) true (Nat.blt 547 k))))) ((Bool.rec (motive := fun _ => _) (f q) (aq_dropO aq_keepA q f) (Nat.beq (k % 16) 15))) (Nat.blt k 277)))) ((Bool.rec (motive := fun _ => Bool) false ((a_leZ (0) (lo + off))) ((a_eqZ (lo) (hi)))))))
  | none => none
theorem aq_rowstep_e : @aq_rowstep = @a_rowstep := by
  delta aq_rowstep
  simp only [aq_rngK_e, aq_flt_e, aq_lget_e, aq_cov_e, aq_dropO_e, aq_blk_e, aq_keep126_e, aq_keepA_e, a_leZ_q, a_eqZ_q, a_aq, a_oq, a_nq]
  try simp only [a_cqx]
  rfl
noncomputable def aq_alls (p : Nat → Bool) (l : List Nat) : Bool := List.rec (motive := fun _ => Bool) true (fun i _ ih => (Bool.rec (motive := fun _ => Bool) false (ih) (p i))) l
theorem aq_alls_e : @aq_alls = @a_alls := by
  delta aq_alls
  simp only [a_aq, a_oq, a_nq]
  rfl
noncomputable def aq_atK {β : Type} (L : aL) (q : aQ) (loc : Nat) (k : Int) (f g : Unit → Option β) : Option β := match aq_lget L loc with
  | some v => aq_rngK q.2.1 v (fun lo hi => (Bool.rec (motive := fun _ => _) (g ()) (f ()) ((Bool.rec (motive := fun _ => Bool) false ((a_eqZ (hi) (k))) ((a_eqZ (lo) (k)))))))
  | none => none
theorem aq_atK_e : @aq_atK = @a_atK := by
  delta aq_atK
  simp only [aq_rngK_e, aq_lget_e, a_eqZ_q, a_aq, a_oq, a_nq]
  try simp only [a_cqx]
  rfl
noncomputable def aq_moveA {β : Type} (L : aL) (loc : Nat) (k a b : Int) (q : aQ) (f : aQ → Option β) : Option β := aq_atK L q loc k (fun _ => aq_blk q L a (fun a => aq_blk q L b (fun b => (Bool.rec (motive := fun _ => _) (f q) (x_kN (345 + b) (fun t => f (a_setF q (t :: q.2.2.2.2)))) ((Bool.rec (motive := fun _ => Bool) false (((Bool.rec (motive := fun _ => Bool) false (((Bool.rec (motive := fun _ => Bool) false (((Bool.rec (motive := fun _ => Bool) false (aq_alls (fun i => aq_eqV (aq_oget q.2.2.2.1 (a_alR a) 0 (Int.ofNat (a_alB a + i))) (aq_oget q.2.2.2.1 (a_alR b) 0 (Int.ofNat (a_alB b + i)))) a_alP) ((Bool.rec (motive := fun _ => Bool) true false (aq_memN (345 + b) q.2.2.2.2)))))) (aq_memN (345 + a) q.2.2.2.2)))) (Nat.ble b 5)))) (Nat.ble a 5))))))) (fun _ => f q)
theorem aq_moveA_e : @aq_moveA = @a_moveA := by
  delta aq_moveA
  simp only [aq_oget_e, aq_memN_e, aq_eqV_e, aq_blk_e, aq_alls_e, aq_atK_e, a_aq, a_oq, a_nq]
  try simp only [a_cqx]
  rfl
noncomputable def aq_zeroA {β : Type} (L : aL) (loc : Nat) (k : Int) (q : aQ) (f : aQ → Option β) : Option β := aq_atK L q loc k (fun _ => (Bool.rec (motive := fun _ => _) (f q) (f (a_setF q (352 :: q.2.2.2.2))) (aq_alls (fun i => match aq_oget q.2.2.2.1 126 0 (Int.ofNat i) with
  | some v => (Bool.rec (motive := fun _ => Bool) false ((a_eqZ (v.2.2) (0))) (a_isC v))
  | none => false) a_zeP))) (fun _ => f q)
theorem aq_zeroA_e : @aq_zeroA = @a_zeroA := by
  delta aq_zeroA
  simp only [aq_oget_e, aq_alls_e, aq_atK_e, a_eqZ_q, a_aq, a_oq, a_nq]
  try simp only [a_cqx]
  rfl
noncomputable def aq_zeA {β : Type} (q : aQ) (f : aQ → Option β) : Option β := (Bool.rec (motive := fun _ => _) (f q) (f (a_setF q (349 :: q.2.2.2.2))) ((Bool.rec (motive := fun _ => Bool) false ((Bool.rec (motive := fun _ => Bool) true false (aq_memN 349 q.2.2.2.2))) (aq_memN 352 q.2.2.2.2))))
theorem aq_zeA_e : @aq_zeA = @a_zeA := by
  delta aq_zeA
  simp only [aq_memN_e, a_aq, a_oq, a_nq]
  try simp only [a_cqx]
  rfl
noncomputable def aq_keepR {β : Type} (L : aL) (loc : Nat) (k : Int) (r : Nat) (m : Int) (q : aQ) (f : aQ → Option β) : Option β := match aq_lget L loc with
  | some v => aq_rngK q.2.1 v (fun lo _ => (Bool.rec (motive := fun _ => _) (aq_dropO (fun e => (Bool.rec (motive := fun _ => Bool) (((Bool.rec (motive := fun _ => Bool) false ((a_ltZ (e.1.2.2) (m))) (Nat.beq e.1.2.1 0)))) true ((Bool.rec (motive := fun _ => Bool) true false (Nat.beq e.1.1 r))))) q f) (aq_dropO (fun e => (Bool.rec (motive := fun _ => Bool) (((Bool.rec (motive := fun _ => Bool) false (((Bool.rec (motive := fun _ => Bool) (((Bool.rec (motive := fun _ => Bool) false ((a_leZ (e.1.2.2) (262))) ((a_leZ (245) (e.1.2.2)))))) true ((a_ltZ (e.1.2.2) (4)))))) (Nat.beq e.1.2.1 0)))) true ((Bool.rec (motive := fun _ => Bool) true false (Nat.beq e.1.1 r))))) q f) ((a_leZ (lo) (k)))))
  | none => none
theorem aq_keepR_e : @aq_keepR = @a_keepR := by
  delta aq_keepR
  simp only [aq_rngK_e, aq_lget_e, aq_dropO_e, a_leZ_q, a_ltZ_q, a_aq, a_oq, a_nq]
  try simp only [a_cqx]
  rfl
noncomputable def aq_kinds (vk : aV) (pay : Int → aQ → Option (List aS)) (L : aL) (S : List aV) (ks : List Int) : aQ → Option (List aS) := List.rec (motive := fun _ => aQ → Option (List aS)) (fun q => some [(q, L, S)]) (fun k _ ih q => aq_br 2 q vk (0, 0, k) (pay k) ih) ks
theorem aq_kinds_e : @aq_kinds = @a_kinds := by
  delta aq_kinds
  simp only [aq_br_e]
  rfl
noncomputable def aq_rowb1 {β : Type} (r o : Nat) (m : Int) (q : aQ) (f : aQ → Option β) : Option β := (Bool.rec (motive := fun _ => _) (a_newK 0 0 m q (fun q v => x_kN o (fun o => f (a_addO q ((r, 0, Int.ofNat o), v))))) (f q) ((a_ltZ (m) (0))))
theorem aq_rowb1_e : @aq_rowb1 = @a_rowb1 := by
  delta aq_rowb1
  simp only [a_ltZ_q]
  try simp only [a_cqx]
  rfl
noncomputable def aq_rowread (loc : Nat) (st : aS) : Option (List aS) := match aq_lget st.2.1 loc with
  | some vw => aq_rngK st.1.2.1 vw (fun lo hi => (Bool.rec (motive := fun _ => _) none (x_kN ((lo.toNat - 277) / 9) (fun j => (Bool.rec (motive := fun _ => _) none (x_kN lo.toNat (fun w => match aq_oget st.1.2.2.2.1 126 0 (Int.ofNat w) with
    | some vk => aq_kinds vk (fun k q => (Bool.rec (motive := fun _ => _) (aq_rowb1 126 (w + 1) (aq_nd0 k 0).1 q (fun q => aq_rowb1 126 (w + 2) (aq_nd0 k 0).2 q (fun q => some [(q, st.2.1, st.2.2)]))) (match aq_oget q.2.2.2.1 126 0 (Int.ofNat (w + 6)) with
        | some vt => aq_kinds vt (fun t q => aq_rowb1 126 (w + 1) (aq_nd0 7 t).1 q (fun q => aq_rowb1 126 (w + 2) (aq_nd0 7 t).2 q (fun q => some [(q, st.2.1, st.2.2)]))) st.2.1 st.2.2 [-1, 0, 1, 2] q
        | none => some [(q, st.2.1, st.2.2)]) ((a_eqZ (k) (7))))) st.2.1 st.2.2 [0, 1, 2, 3, 4, 5, 6, 7, 8, 9] st.1
    | none => none)) ((Bool.rec (motive := fun _ => Bool) false (((Bool.rec (motive := fun _ => Bool) false (aq_has st.1 j) (Nat.blt j 30)))) (Nat.beq lo.toNat (277 + 9 * j))))))) ((Bool.rec (motive := fun _ => Bool) false ((a_leZ (277) (lo))) ((a_eqZ (lo) (hi)))))))
  | none => none
theorem aq_rowread_e : @aq_rowread = @a_rowread := by
  delta aq_rowread
  simp only [aq_rngK_e, aq_oget_e, aq_lget_e, aq_nd0_e, aq_has_e, aq_kinds_e, aq_rowb1_e, a_leZ_q, a_eqZ_q, a_aq, a_oq, a_nq]
  try simp only [a_cqx]
  rfl
noncomputable def aq_bdK {β : Type} (v : aV) (m : Int) (q : aQ) (f : aQ → Option (List β)) : Option (List β) := (Bool.rec (motive := fun _ => _) (aq_leK q v (0, 0, m) 0 (fun q => aq_leK q (0, 0, 0) v 0 f)) (f q) ((a_ltZ (m) (0))))
theorem aq_bdK_e : @aq_bdK = @a_bdK := by
  delta aq_bdK
  simp only [aq_leK_e, a_ltZ_q]
  try simp only [a_cqx]
  rfl
noncomputable def aq_rowreadC (loc r0 : Nat) (o0 : Int) (st : aS) : Option (List aS) := match aq_lget st.2.1 loc, aq_oget st.1.2.2.2.1 r0 0 o0 with
  | some vi, some vo => (Bool.rec (motive := fun _ => _) none (match aq_ordI vo.2.2.toNat with
    | some o => (Bool.rec (motive := fun _ => _) none (aq_rngK st.1.2.1 vi (fun lo hi => (Bool.rec (motive := fun _ => _) none (aq_idxK vi lo hi (fun s of => match aq_oget st.1.2.2.2.1 (a_ord o + 1) s of, aq_oget st.1.2.2.2.1 (a_ord o + 2) s of, aq_oget st.1.2.2.2.1 (a_ord o + 3) s of with
      | some vk, some va, some vb => aq_kinds vk (fun k q => aq_bdK va (aq_nd1 k).1 q (fun q => aq_bdK vb (aq_nd1 k).2 q (fun q => some [(q, st.2.1, st.2.2)]))) st.2.1 st.2.2 [0, 1, 2, 3, 4, 5, 6, 7, 8, 9, 10, 11, 12, 13, 14, 15, 16, 17, 18, 19, 20, 21] st.1
      | _, _, _ => none)) ((Bool.rec (motive := fun _ => Bool) false ((a_ltZ (hi) (60))) ((a_leZ (0) (lo)))))))) (aq_memN (217 + o) st.1.2.2.2.2))
    | none => none) ((Bool.rec (motive := fun _ => Bool) false ((a_leZ (0) (vo.2.2))) (a_isC vo))))
  | _, _ => none
theorem aq_rowreadC_e : @aq_rowreadC = @a_rowreadC := by
  delta aq_rowreadC
  simp only [aq_rngK_e, aq_oget_e, aq_lget_e, aq_idxK_e, aq_memN_e, aq_ordI_e, aq_nd1_e, aq_kinds_e, aq_bdK_e, a_leZ_q, a_ltZ_q, a_aq, a_oq, a_nq]
  try simp only [a_cqx]
  rfl
noncomputable def aq_splitL (loc r0 : Nat) (o0 : Int) (d : Nat) (st : aS) : Option (List aS) := match aq_lget st.2.1 loc, aq_oget st.1.2.2.2.1 r0 0 o0 with
  | some vi, some v => aq_rngK st.1.2.1 vi (fun lo hi => (Bool.rec (motive := fun _ => _) none (x_kN lo.toNat (fun k => (Bool.rec (motive := fun _ => _) (some [st]) (x_kZ (Int.ofNat (k / d + 1)) (fun b => aq_splitR v st.2.1 st.2.2 [b] st.1)) (Nat.beq (k % d) 0)))) ((Bool.rec (motive := fun _ => Bool) false (((Bool.rec (motive := fun _ => Bool) false (Nat.beq v.1 0) ((a_leZ (0) (lo)))))) ((a_eqZ (lo) (hi)))))))
  | _, _ => none
theorem aq_splitL_e : @aq_splitL = @a_splitL := by
  delta aq_splitL
  simp only [aq_rngK_e, aq_oget_e, aq_lget_e, aq_splitR_e, a_leZ_q, a_eqZ_q, a_aq, a_oq, a_nq]
  try simp only [a_cqx]
  rfl
noncomputable def aqLmR : aLm := fun k w bs st => match k, bs with
  | 2, [l] => aq_rowread l.toNat st
  | 3, ts => a_one1 st (fun f => aq_cover f ts st.1)
  | 4, [t, r, o] => a_one1 st (aq_coverP t.toNat r.toNat o st.1)
  | 5, [t, l, m, d] => a_one1 st (aq_coverL st.2.1 t.toNat l.toNat m.toNat d.toNat st.1)
  | 8, [l, r, o] => aq_rowreadC l.toNat r.toNat o st
  | 10, [l, o, a, b] => a_one1 st (aq_rowstep st.2.1 l.toNat o a b st.1)
  | 11, [j, n] => a_one1 st (aq_dropF j.toNat n.toNat st.1)
  | 12, [l] => a_one1 st (aq_openC st.2.1 l.toNat st.1)
  | 13, [a, b] => a_one1 st (aq_moveC st.2.1 a.toNat b.toNat st.1)
  | 15, [a, b, c] => a_one1 st (aq_derive st.2.1 a.toNat b.toNat c st.1)
  | 16, [r, lo, hi] => a_one1 st (aq_dropO (fun e => (Bool.rec (motive := fun _ => Bool) true false (((Bool.rec (motive := fun _ => Bool) false (((Bool.rec (motive := fun _ => Bool) (((Bool.rec (motive := fun _ => Bool) false ((a_leZ (e.1.2.2) (hi))) ((a_leZ (lo) (e.1.2.2)))))) true ((Bool.rec (motive := fun _ => Bool) true false (Nat.beq e.1.2.1 0)))))) (Nat.beq e.1.1 r.toNat)))))) st.1)
  | 17, r :: o :: js => a_one1 st (fun f => aq_rebase r.toNat o st.1 f js)
  | 18, [l, k, a, b] => a_one1 st (aq_moveA st.2.1 l.toNat k a b st.1)
  | 19, [l, k] => a_one1 st (aq_zeroA st.2.1 l.toNat k st.1)
  | 20, [_] => a_one1 st (aq_zeA st.1)
  | 21, [l, k, r, m] => a_one1 st (aq_keepR st.2.1 l.toNat k r.toNat m st.1)
  | 29, [l, r, o, d] => aq_splitL l.toNat r.toNat o d.toNat st
  | 0, _ => aLmS k w bs st
  | 1, _ => aLmS k w bs st
  | _, _ => none
theorem aqLmR_e : @aqLmR = @aLmR := by
  delta aqLmR
  simp only [aq_cover_e, aq_coverP_e, aq_coverL_e, aq_dropF_e, aq_dropO_e, aq_openC_e, aq_moveC_e, aq_derive_e, aq_rebase_e, aq_rowstep_e, aq_moveA_e, aq_zeroA_e, aq_zeA_e, aq_keepR_e, aq_rowread_e, aq_rowreadC_e, aq_splitL_e, a_leZ_q, a_aq, a_oq, a_nq]
  rfl
