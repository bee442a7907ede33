noncomputable def a_negK {β : Type} (t : Nat) (q : aQ) (x : aV) (f : aQ → aV → Option β) : Option β := a_rngK q.2.1 x (fun lx hx => cond (a_in t (-hx) (-lx)) (a_newK t (-hx) (-lx) q f) (a_anyK t q f))
noncomputable def a_cutK {β : Type} (lo hi : Int) (q : aQ) (x : aV) (f : aQ → aV → Option β) : Option β := a_rngK q.2.1 x (fun lx hx => cond (@decide (lo ≤ lx) (a_decLe _ _) && @decide (hx ≤ hi) (a_decLe _ _)) (f q (0, x.2.1, x.2.2)) (a_newK 0 lo hi q f))
noncomputable def a_nrmK {β : Type} (E : aB) (v : aV) (f : aV → Option β) : Option β := a_rngK E v (fun lo hi => cond (@decide (lo = hi) (a_decEqZ _ _)) (f (v.1, 0, lo)) (x_kN v.2.1 (fun s => x_kZ v.2.2 (fun o => f (v.1, s, o)))))
noncomputable def a_ins (c : Int) (i : Nat) (l : List (Int × Nat)) : List (Int × Nat) := List.rec (motive := fun _ => List (Int × Nat)) [(c, i)] (fun p t ih => cond (Nat.beq p.2 i) (cond (@decide (p.1 + c = 0) (a_decEqZ _ _)) t ((p.1 + c, i) :: t)) (p :: ih)) l
noncomputable def a_less (ts : List (Int × Nat)) (fs : List (Int × Nat)) : List (Int × Nat) := List.rec (motive := fun _ => List (Int × Nat)) ts (fun p _ ih => a_ins (-p.1) p.2 ih) fs
noncomputable def a_sup (E : aB) (ts : List (Int × Nat)) : Option Int := List.rec (motive := fun _ => Option Int) (some 0) (fun p _ ih => match a_get E p.2 with
  | some q => match ih with
    | some s => some (cond (@decide ((0 : Int) ≤ p.1) (a_decLe _ _)) (p.1 * q.2 + s) (p.1 * q.1 + s) : Int)
    | none => none
  | none => none) ts
noncomputable def a_hasT (ts : List (Int × Nat)) (fs : List (Int × Nat)) : Bool := List.rec (motive := fun _ => Bool) false (fun p _ ih => List.rec (motive := fun _ => Bool) false (fun r _ ih2 => (Nat.beq p.2 r.2 && @decide (p.1 = r.1) (a_decEqZ _ _)) || ih2) ts || ih) fs
noncomputable def a_ent (E : aB) (Fs : List aF) (n : Nat) : List (Int × Nat) → Int → Bool := Nat.rec (motive := fun _ => List (Int × Nat) → Int → Bool) (fun ts b => match a_sup E ts with
  | some s => @decide (s ≤ b) (a_decLe _ _)
  | none => false) (fun _ ih ts b => (match a_sup E ts with
  | some s => @decide (s ≤ b) (a_decLe _ _)
  | none => false) || List.rec (motive := fun _ => Bool) false (fun x _ ih2 => (a_hasT ts x.1 && ih (a_less ts x.1) (b - x.2)) || ih2) Fs) n
noncomputable def a_leq (q : aQ) (x y : aV) (c : Int) : Bool := a_ent q.2.1 q.2.2.1 3 (a_less (a_tm 1 x) (a_tm 1 y)) (y.2.2 + c - x.2.2)
noncomputable def a_app {α : Type} (a b : Option (List α)) : Option (List α) := match a with
  | some a => match b with
    | some b => some (a ++ b)
    | none => none
  | none => none
noncomputable def a_nhi {β : Type} (E : aB) (x : aV) (lx hx b : Int) (f : aB → Option β) : Option β := Nat.rec (motive := fun _ => Option β) (f E) (fun i _ => cond (@decide (b < hx) (a_decLt _ _)) (x_kZ (lx - x.2.2) (fun l => x_kZ (b - x.2.2) (fun u => f ((i, l, u) :: E)))) (f E)) x.2.1
noncomputable def a_nlo {β : Type} (E : aB) (x : aV) (lx hx b : Int) (f : aB → Option β) : Option β := Nat.rec (motive := fun _ => Option β) (f E) (fun i _ => cond (@decide (lx < b) (a_decLt _ _)) (x_kZ (b - x.2.2) (fun l => x_kZ (hx - x.2.2) (fun u => f ((i, l, u) :: E)))) (f E)) x.2.1
noncomputable def a_memF (j : Nat) (l : List Nat) : Bool := List.rec (motive := fun _ => Bool) false (fun a _ ih => Nat.beq a j || ih) l
noncomputable def a_leK {β : Type} (q : aQ) (x y : aV) (c : Int) (f : aQ → Option (List β)) : Option (List β) := cond (Nat.beq x.2.1 y.2.1) (cond (@decide (x.2.2 ≤ y.2.2 + c) (a_decLe _ _)) (f q) (some [])) (cond (a_memF 360 q.2.2.2.2 && a_leq q y x (-c - 1)) (some []) (a_rngK q.2.1 x (fun lx hx => a_rngK q.2.1 y (fun ly hy => cond (@decide (lx ≤ hy + c) (a_decLe _ _)) (a_nhi q.2.1 x lx hx (hy + c) (fun E => a_nlo E y ly hy (lx - c) (fun E => cond (a_isC x || (a_isC y || Nat.beq x.2.1 y.2.1)) (f (q.1, E, q.2.2)) (x_kZ (c + y.2.2 - x.2.2) (fun b => x_spine (a_tm 1 x ++ a_tm (-1) y) (fun ts => f (q.1, E, (ts, b) :: q.2.2.1, q.2.2.2))))))) (some [])))))
noncomputable def a_neK {β : Type} (q : aQ) (x y : aV) (f : aQ → Option (List β)) : Option (List β) := cond (Nat.beq x.2.1 y.2.1) (cond (@decide (x.2.2 = y.2.2) (a_decEqZ _ _)) (some []) (f q)) (cond (a_memF 360 q.2.2.2.2) (cond (a_leq q x y 0 && a_leq q y x 0) (some []) (a_app (a_leK q x y (-1) f) (a_leK q y x (-1) f))) (a_rngK q.2.1 x (fun lx hx => a_rngK q.2.1 y (fun ly hy => cond (@decide (ly = hy) (a_decEqZ _ _)) (cond (@decide (lx = ly) (a_decEqZ _ _)) (a_leK q y x (-1) f) (cond (@decide (hx = ly) (a_decEqZ _ _)) (a_leK q x y (-1) f) (f q))) (cond (@decide (lx = hx) (a_decEqZ _ _)) (cond (@decide (ly = lx) (a_decEqZ _ _)) (a_leK q x y (-1) f) (cond (@decide (hy = lx) (a_decEqZ _ _)) (a_leK q y x (-1) f) (f q))) (f q))))))
noncomputable def a_br {β : Type} (b : Nat) (q : aQ) (x y : aV) (T F : aQ → Option (List β)) : Option (List β) := match b with
  | 0 => a_app (a_leK q x y (-1) T) (a_leK q y x 0 F)
  | 1 => a_app (a_leK q y x (-1) T) (a_leK q x y 0 F)
  | _ => a_app (a_leK q x y 0 (fun q => a_leK q y x 0 T)) (a_neK q x y F)
noncomputable def a_isO (ci : Nat) (r : Int) : Bool := match a_shp r.toNat with
  | some (.inr q) => Nat.beq q.1 ci
  | _ => false
noncomputable def a_oget (O : aO) (r s : Nat) (o : Int) : Option aV := List.rec (motive := fun _ => Option aV) none (fun e _ ih => cond (Nat.beq e.1.1 r && (Nat.beq e.1.2.1 s && @decide (e.1.2.2 = o) (a_decEqZ _ _))) (some e.2) ih) O
noncomputable def a_join (a b : aT) : aT := cond (Nat.beq a.1 b.1) (a.1, a_min a.2.1 b.2.1, a_max a.2.2.1 b.2.2.1, a.2.2.2 ++ b.2.2.2) (9, 0, 0, [])
noncomputable def a_uni (lo hi : Int) (l : List (Nat × aT)) : Int → Option aT := List.rec (motive := fun _ => Int → Option aT) (fun p => cond (@decide (hi < p) (a_decLt _ _)) none (some (9, 0, 0, []))) (fun s _ ih p => x_kZ (p + Int.ofNat s.1) (fun p' => cond (@decide (p' ≤ lo) (a_decLe _ _)) (ih p') (cond (@decide (hi < p) (a_decLt _ _)) none (match ih p' with
  | some b => some (a_join s.2 b)
  | none => some s.2)))) l
