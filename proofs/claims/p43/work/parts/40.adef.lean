/-! THE WATCHER (a): what calls can do, by bounds: closed data, computed by the kernel -/
-- a value: its kind; 0 and a number, or n + 1 and a number: the n-th unknown and the number
abbrev aV : Type := Nat × Nat × Int
abbrev aB : Type := List (Nat × Int × Int)
-- a sum of unknowns is at most
abbrev aF : Type := List (Int × Nat) × Int
-- what is known of the heap: cell, index, value
abbrev aO : Type := List ((Nat × Nat × Int) × aV)
-- how many unknowns, their bounds, facts, the heap, flags
abbrev aQ : Type := Nat × aB × List aF × aO × List Nat
abbrev aL : Type := List (Nat × aV)
abbrev aS : Type := aQ × aL × List aV
abbrev aRs : Type := aQ × Option aV
abbrev aOut : Type := aRs ⊕ ((Nat × aS) ⊕ (Nat × List aV × Nat × aS))
-- a type: 0, 1 ints, longs within bounds; 2 these cells (-1: null)
abbrev aT : Type := Nat × Int × Int × List Int
-- a cell's type, in chunks: how many places, their stretches; cells by twelve
abbrev aTc : Type := List (Nat × List (Nat × aT))
abbrev aTy : Type := List (List aTc)
-- cells' stretches: from, to
abbrev aM : Type := List (Nat × Nat × Nat)
-- the types of all cells, the flags' supports, whether the first unknown is the script's length
abbrev aG : Type := aTy × List (List aM) × Bool
noncomputable def a_at {α : Type} (ll : List (List α)) (k : Nat) : Option α := match x_nth ll (Nat.div k 12) with
  | some l => x_nth l (Nat.mod k 12)
  | none => none
def zShape2 : List (List zC) := [
  [.inr (11, 20), .inl ((.object "BreadMap$Tray"), 4), .inr (9, 3), .inl (.long, 60), .inr (9, 3), .inl (.long, 60), .inr (9, 3), .inl (.long, 60), .inr (9, 3), .inl (.long, 60), .inr (8, 11), .inl (.byte, 900)],
  [.inl (.int, 901), .inl (.int, 901), .inl (.int, 901), .inl (.int, 901), .inr (3, 3), .inr (6, 5), .inr (5, 6), .inl (.int, 60), .inl (.int, 60), .inl (.int, 60), .inl (.int, 60), .inl (.int, 3)],
  [.inr (2, 15), .inl (.int, 48), .inl (.int, 48), .inl (.int, 144), .inl (.long, 6), .inl (.int, 6), .inl (.int, 6), .inl (.int, 6), .inl (.int, 6), .inl (.int, 6), .inr (5, 6), .inl (.int, 60)],
  [.inl (.int, 60), .inl (.int, 60), .inl (.int, 60), .inr (2, 15), .inl (.int, 48), .inl (.int, 48), .inl (.int, 144), .inl (.long, 6), .inl (.int, 6), .inl (.int, 6), .inl (.int, 6), .inl (.int, 6)],
  [.inl (.int, 6), .inr (5, 6), .inl (.int, 60), .inl (.int, 60), .inl (.int, 60), .inl (.int, 60), .inl ((.object "BreadMap$Land"), 3), .inr (2, 15), .inl (.int, 48), .inl (.int, 48), .inl (.int, 144), .inl (.long, 6)],
  [.inl (.int, 6), .inl (.int, 6), .inl (.int, 6), .inl (.int, 6), .inl (.int, 6), .inr (5, 6), .inl (.int, 60), .inl (.int, 60), .inl (.int, 60), .inl (.int, 60), .inr (2, 15), .inl (.int, 48)],
  [.inl (.int, 48), .inl (.int, 144), .inl (.long, 6), .inl (.int, 6), .inl (.int, 6), .inl (.int, 6), .inl (.int, 6), .inl (.int, 6), .inr (5, 6), .inl (.int, 60), .inl (.int, 60), .inl (.int, 60)],
  [.inl (.int, 60), .inr (2, 15), .inl (.int, 48), .inl (.int, 48), .inl (.int, 144), .inl (.long, 6), .inl (.int, 6), .inl (.int, 6), .inl (.int, 6), .inl (.int, 6), .inl (.int, 6), .inr (5, 6)],
  [.inl (.int, 60), .inl (.int, 60), .inl (.int, 60), .inl (.int, 60), .inr (10, 9), .inl (.int, 48), .inl (.int, 48), .inl (.int, 64), .inl (.int, 48), .inr (1, 11), .inl (.int, 6), .inl (.long, 6)],
  [.inl (.int, 288), .inl (.long, 288), .inr (0, 9), .inl (.int, 48), .inl (.int, 96), .inl (.int, 96), .inr (4, 2), .inl (.long, 48), .inl (.long, 48), .inr (7, 12), .inl (.int, 60), .inl (.int, 48)],
  [.inl (.int, 4), .inr (12, 48), .inl (.int, 4), .inl (.int, 4), .inl (.long, 240), .inl (.byte, 900), .inl (.int, 2750), .inl (.int, 275), .inl (.long, 30), .inl (.boolean, 48), .inl (.int, 48), .inl (.int, 49)],
  [.inl (.int, 49), .inl (.int, 4), .inl (.long, 48), .inl (.long, 48), .inl (.int, 4)]]
noncomputable def a_shp (k : Nat) : Option zC := a_at zShape2 k
def a_lo (t : Nat) : Int := match t with
  | 0 => -2147483648
  | _ => -9223372036854775808
def a_hi (t : Nat) : Int := match t with
  | 0 => 2147483647
  | _ => 9223372036854775807
noncomputable def a_min (a b : Int) : Int := cond (@decide (a ≤ b) (a_decLe _ _)) a b
noncomputable def a_max (a b : Int) : Int := cond (@decide (a ≤ b) (a_decLe _ _)) b a
noncomputable def a_get (E : aB) (i : Nat) : Option (Int × Int) := List.rec (motive := fun _ => Option (Int × Int)) none (fun q _ ih => cond (Nat.beq q.1 i) (some q.2) ih) E
noncomputable def a_rngK {β : Type} (E : aB) (v : aV) (f : Int → Int → Option β) : Option β := Nat.rec (motive := fun _ => Option β) (f v.2.2 v.2.2) (fun i _ => match a_get E i with
  | some q => x_kZ (q.1 + v.2.2) (fun lo => x_kZ (q.2 + v.2.2) (fun hi => f lo hi))
  | none => none) v.2.1
noncomputable def a_newK {β : Type} (t : Nat) (lo hi : Int) (q : aQ) (f : aQ → aV → Option β) : Option β := x_kZ lo (fun lo => x_kZ hi (fun hi => x_kN (q.1 + 1) (fun n => f (n, (q.1, lo, hi) :: q.2.1, q.2.2) (t, n, 0))))
def a_fact (q : aQ) (x : aF) : aQ := (q.1, q.2.1, x :: q.2.2.1, q.2.2.2)
def a_tm (c : Int) (v : aV) : List (Int × Nat) := match v.2.1 with
  | 0 => []
  | i + 1 => [(c, i)]
-- a new unknown that is a sum: ts, their contraries ns, and a number
noncomputable def a_linK {β : Type} (t : Nat) (lo hi : Int) (q : aQ) (ts ns : List (Int × Nat)) (b : Int) (f : aQ → aV → Option β) : Option β := x_spine ts (fun ts => x_spine ns (fun ns => x_kZ b (fun b => x_kZ (-b) (fun nb => a_newK t lo hi q (fun q' v => f (a_fact (a_fact q' ((-1, q.1) :: ts, nb)) ((1, q.1) :: ns, b)) v)))))
noncomputable def a_anyK {β : Type} (t : Nat) (q : aQ) (f : aQ → aV → Option β) : Option β := a_newK t (a_lo t) (a_hi t) q f
noncomputable def a_in (t : Nat) (lo hi : Int) : Bool := @decide (a_lo t ≤ lo) (a_decLe _ _) && @decide (hi ≤ a_hi t) (a_decLe _ _)
noncomputable def a_shiftK {β : Type} (t : Nat) (q : aQ) (x : aV) (c : Int) (f : aQ → aV → Option β) : Option β := a_rngK q.2.1 x (fun lo hi => cond (a_in t (lo + c) (hi + c)) (x_kZ (x.2.2 + c) (fun o => f q (t, x.2.1, o))) (a_anyK t q f))
noncomputable def a_isC (v : aV) : Bool := Nat.beq v.2.1 0
noncomputable def a_addK {β : Type} (t : Nat) (q : aQ) (x y : aV) (f : aQ → aV → Option β) : Option β := cond (a_isC y) (a_shiftK t q x y.2.2 f) (cond (a_isC x) (a_shiftK t q y x.2.2 f) (a_rngK q.2.1 x (fun lx hx => a_rngK q.2.1 y (fun ly hy => cond (a_in t (lx + ly) (hx + hy)) (a_linK t (lx + ly) (hx + hy) q (a_tm 1 x ++ a_tm 1 y) (a_tm (-1) x ++ a_tm (-1) y) (x.2.2 + y.2.2) f) (a_anyK t q f)))))
noncomputable def a_subK {β : Type} (t : Nat) (q : aQ) (x y : aV) (f : aQ → aV → Option β) : Option β := cond (a_isC y) (a_shiftK t q x (-y.2.2) f) (cond (Nat.beq x.2.1 y.2.1) (a_shiftK t q (t, 0, x.2.2) (-y.2.2) f) (a_rngK q.2.1 x (fun lx hx => a_rngK q.2.1 y (fun ly hy => cond (a_in t (lx - hy) (hx - ly)) (a_linK t (lx - hy) (hx - ly) q (a_tm 1 x ++ a_tm (-1) y) (a_tm (-1) x ++ a_tm 1 y) (x.2.2 - y.2.2) f) (a_anyK t q f)))))
noncomputable def a_scaleK {β : Type} (t : Nat) (q : aQ) (x : aV) (c : Int) (f : aQ → aV → Option β) : Option β := cond (a_isC x && a_in t (x.2.2 * c) (x.2.2 * c)) (x_kZ (x.2.2 * c) (fun w => f q (t, 0, w))) (a_rngK q.2.1 x (fun lo hi => cond (@decide (0 ≤ c) (a_decLe _ _) && a_in t (lo * c) (hi * c)) (x_kZ (-c) (fun nc => a_linK t (lo * c) (hi * c) q (a_tm c x) (a_tm nc x) (c * x.2.2) f)) (a_anyK t q f)))
noncomputable def a_mulK {β : Type} (t : Nat) (q : aQ) (x y : aV) (f : aQ → aV → Option β) : Option β := cond (a_isC y) (a_scaleK t q x y.2.2 f) (cond (a_isC x) (a_scaleK t q y x.2.2 f) (a_rngK q.2.1 x (fun lx hx => a_rngK q.2.1 y (fun ly hy => cond (@decide (0 ≤ lx) (a_decLe _ _) && (@decide (0 ≤ ly) (a_decLe _ _) && a_in t 0 (hx * hy))) (a_newK t (lx * ly) (hx * hy) q f) (a_anyK t q f)))))
noncomputable def a_andK {β : Type} (t : Nat) (q : aQ) (x y : aV) (f : aQ → aV → Option β) : Option β := a_rngK q.2.1 x (fun lx hx => a_rngK q.2.1 y (fun ly hy => cond (a_in t lx hx && a_in t ly hy) (cond (@decide (0 ≤ ly) (a_decLe _ _)) (cond (@decide (0 ≤ lx) (a_decLe _ _)) (cond (@decide (lx = hx) (a_decEqZ _ _) && @decide (ly = hy) (a_decEqZ _ _)) (x_kN (Nat.land lx.toNat ly.toNat) (fun w => f q (t, 0, Int.ofNat w))) (a_newK t 0 (a_min hx hy) q f)) (a_newK t 0 hy q f)) (cond (@decide (0 ≤ lx) (a_decLe _ _)) (a_newK t 0 hx q f) (a_anyK t q f))) (a_anyK t q f)))
noncomputable def a_shrK {β : Type} (q : aQ) (x y : aV) (f : aQ → aV → Option β) : Option β := a_rngK q.2.1 x (fun lx hx => cond (a_isC y && (@decide (0 ≤ y.2.2) (a_decLe _ _) && (@decide (y.2.2 < 32) (a_decLt _ _) && (@decide (0 ≤ lx) (a_decLe _ _) && a_in 0 lx hx)))) (a_newK 0 (lx / Int.ofNat (Nat.pow 2 y.2.2.toNat)) (hx / Int.ofNat (Nat.pow 2 y.2.2.toNat)) q f) (a_anyK 0 q f))
noncomputable def a_divK {β : Type} (t : Nat) (q : aQ) (x y : aV) (f : aQ → aV → Option β) : Option β := a_rngK q.2.1 x (fun lx hx => a_rngK q.2.1 y (fun ly hy => cond (@decide (1 ≤ ly) (a_decLe _ _) && (@decide (0 ≤ lx) (a_decLe _ _) && (a_in t lx hx && a_in t ly hy))) (a_newK t (lx / hy) (hx / ly) q f) (cond (@decide (1 ≤ ly) (a_decLe _ _) || @decide (hy ≤ -1) (a_decLe _ _)) (a_anyK t q f) none)))
noncomputable def a_rem32K {β : Type} (q : aQ) (x y : aV) (f : aQ → aV → Option β) : Option β := a_rngK q.2.1 x (fun lx hx => a_rngK q.2.1 y (fun ly hy => cond (@decide (1 ≤ ly) (a_decLe _ _) && (a_in 0 lx hx && a_in 0 ly hy)) (cond (@decide (0 ≤ lx) (a_decLe _ _)) (cond (@decide (lx = hx) (a_decEqZ _ _) && @decide (ly = hy) (a_decEqZ _ _)) (x_kZ (lx % ly) (fun w => f q (0, 0, w))) (a_newK 0 0 (a_min hx (hy - 1)) q f)) (a_newK 0 (1 - hy) (hy - 1) q f)) (cond (@decide (1 ≤ ly) (a_decLe _ _) || @decide (hy ≤ -1) (a_decLe _ _)) (a_anyK 0 q f) none)))
-- with the facts that the rest lies nearer to 0 than the divisor
noncomputable def a_rem64K {β : Type} (q : aQ) (x y : aV) (f : aQ → aV → Option β) : Option β := a_rngK q.2.1 x (fun lx hx => a_rngK q.2.1 y (fun ly hy => cond (a_in 1 lx hx && a_in 1 ly hy) (cond (@decide (1 ≤ ly) (a_decLe _ _)) (x_spine (a_tm (-1) y) (fun ty => x_kZ (y.2.2 - 1) (fun b => a_newK 1 (cond (@decide (0 ≤ lx) (a_decLe _ _)) 0 (1 - hy)) (cond (@decide (hx ≤ 0) (a_decLe _ _)) 0 (hy - 1)) q (fun q' v => f (a_fact (a_fact q' ((1, q.1) :: ty, b)) ((-1, q.1) :: ty, b)) v)))) (cond (@decide (hy ≤ -1) (a_decLe _ _)) (x_spine (a_tm 1 y) (fun ty => x_kZ (-y.2.2 - 1) (fun b => a_newK 1 (cond (@decide (0 ≤ lx) (a_decLe _ _)) 0 (ly + 1)) (cond (@decide (hx ≤ 0) (a_decLe _ _)) 0 (-ly - 1)) q (fun q' v => f (a_fact (a_fact q' ((1, q.1) :: ty, b)) ((-1, q.1) :: ty, b)) v)))) none)) none))
noncomputable def a_negK {β : Type} (t : Nat) (q : aQ) (x : aV) (f : aQ → aV → Option β) : Option β := a_rngK q.2.1 x (fun lx hx => cond (a_in t (-hx) (-lx)) (a_newK t (-hx) (-lx) q f) (a_anyK t q f))
-- cut to a range
noncomputable def a_cutK {β : Type} (lo hi : Int) (q : aQ) (x : aV) (f : aQ → aV → Option β) : Option β := a_rngK q.2.1 x (fun lx hx => cond (@decide (lo ≤ lx) (a_decLe _ _) && @decide (hx ≤ hi) (a_decLe _ _)) (f q (0, x.2.1, x.2.2)) (a_newK 0 lo hi q f))
noncomputable def a_nrmK {β : Type} (E : aB) (v : aV) (f : aV → Option β) : Option β := a_rngK E v (fun lo hi => cond (@decide (lo = hi) (a_decEqZ _ _)) (f (v.1, 0, lo)) (x_kN v.2.1 (fun s => x_kZ v.2.2 (fun o => f (v.1, s, o)))))
/-! what follows from bounds and facts -/
noncomputable def a_ins (c : Int) (i : Nat) (l : List (Int × Nat)) : List (Int × Nat) := List.rec (motive := fun _ => List (Int × Nat)) [(c, i)] (fun p t ih => cond (Nat.beq p.2 i) (cond (@decide (p.1 + c = 0) (a_decEqZ _ _)) t ((p.1 + c, i) :: t)) (p :: ih)) l
-- ts less those of a fact
noncomputable def a_less (ts : List (Int × Nat)) (fs : List (Int × Nat)) : List (Int × Nat) := List.rec (motive := fun _ => List (Int × Nat)) ts (fun p _ ih => a_ins (-p.1) p.2 ih) fs
noncomputable def a_sup (E : aB) (ts : List (Int × Nat)) : Option Int := List.rec (motive := fun _ => Option Int) (some 0) (fun p _ ih => match a_get E p.2 with
  | some q => match ih with
    | some s => some (cond (@decide ((0 : Int) ≤ p.1) (a_decLe _ _)) (p.1 * q.2 + s) (p.1 * q.1 + s) : Int)
    | none => none
  | none => none) ts
noncomputable def a_hasT (ts : List (Int × Nat)) (fs : List (Int × Nat)) : Bool := List.rec (motive := fun _ => Bool) false (fun p _ ih => List.rec (motive := fun _ => Bool) false (fun r _ ih2 => (Nat.beq p.2 r.2 && @decide (p.1 = r.1) (a_decEqZ _ _)) || ih2) ts || ih) fs
noncomputable def a_ent (E : aB) (Fs : List aF) (n : Nat) : List (Int × Nat) → Int → Bool := Nat.rec (motive := fun _ => List (Int × Nat) → Int → Bool) (fun ts b => match a_sup E ts with
  | some s => @decide (s ≤ b) (a_decLe _ _)
  | none => false) (fun _ ih ts b => (match a_sup E ts with
  | some s => @decide (s ≤ b) (a_decLe _ _)
  | none => false) || List.rec (motive := fun _ => Bool) false (fun x _ ih2 => (a_hasT ts x.1 && ih (a_less ts x.1) (b - x.2)) || ih2) Fs) n
-- x is at most y and c
noncomputable def a_leq (q : aQ) (x y : aV) (c : Int) : Bool := a_ent q.2.1 q.2.2.1 3 (a_less (a_tm 1 x) (a_tm 1 y)) (y.2.2 + c - x.2.2)
/-! branches -/
noncomputable def a_app {α : Type} (a b : Option (List α)) : Option (List α) := match a with
  | some a => match b with
    | some b => some (a ++ b)
    | none => none
  | none => none
noncomputable def a_nhi {β : Type} (E : aB) (x : aV) (lx hx b : Int) (f : aB → Option β) : Option β := Nat.rec (motive := fun _ => Option β) (f E) (fun i _ => cond (@decide (b < hx) (a_decLt _ _)) (x_kZ (lx - x.2.2) (fun l => x_kZ (b - x.2.2) (fun u => f ((i, l, u) :: E)))) (f E)) x.2.1
noncomputable def a_nlo {β : Type} (E : aB) (x : aV) (lx hx b : Int) (f : aB → Option β) : Option β := Nat.rec (motive := fun _ => Option β) (f E) (fun i _ => cond (@decide (lx < b) (a_decLt _ _)) (x_kZ (b - x.2.2) (fun l => x_kZ (hx - x.2.2) (fun u => f ((i, l, u) :: E)))) (f E)) x.2.1
-- x is at most y and c: nothing where that can't be
noncomputable def a_memF (j : Nat) (l : List Nat) : Bool := List.rec (motive := fun _ => Bool) false (fun a _ ih => Nat.beq a j || ih) l
noncomputable def a_leK {β : Type} (q : aQ) (x y : aV) (c : Int) (f : aQ → Option (List β)) : Option (List β) := cond (Nat.beq x.2.1 y.2.1) (cond (@decide (x.2.2 ≤ y.2.2 + c) (a_decLe _ _)) (f q) (some [])) (cond (a_memF 360 q.2.2.2.2 && a_leq q y x (-c - 1)) (some []) (a_rngK q.2.1 x (fun lx hx => a_rngK q.2.1 y (fun ly hy => cond (@decide (lx ≤ hy + c) (a_decLe _ _)) (a_nhi q.2.1 x lx hx (hy + c) (fun E => a_nlo E y ly hy (lx - c) (fun E => cond (a_isC x || (a_isC y || Nat.beq x.2.1 y.2.1)) (f (q.1, E, q.2.2)) (x_kZ (c + y.2.2 - x.2.2) (fun b => x_spine (a_tm 1 x ++ a_tm (-1) y) (fun ts => f (q.1, E, (ts, b) :: q.2.2.1, q.2.2.2))))))) (some [])))))
noncomputable def a_neK {β : Type} (q : aQ) (x y : aV) (f : aQ → Option (List β)) : Option (List β) := cond (Nat.beq x.2.1 y.2.1) (cond (@decide (x.2.2 = y.2.2) (a_decEqZ _ _)) (some []) (f q)) (cond (a_memF 360 q.2.2.2.2) (cond (a_leq q x y 0 && a_leq q y x 0) (some []) (a_app (a_leK q x y (-1) f) (a_leK q y x (-1) f))) (a_rngK q.2.1 x (fun lx hx => a_rngK q.2.1 y (fun ly hy => cond (@decide (ly = hy) (a_decEqZ _ _)) (cond (@decide (lx = ly) (a_decEqZ _ _)) (a_leK q y x (-1) f) (cond (@decide (hx = ly) (a_decEqZ _ _)) (a_leK q x y (-1) f) (f q))) (cond (@decide (lx = hx) (a_decEqZ _ _)) (cond (@decide (ly = lx) (a_decEqZ _ _)) (a_leK q x y (-1) f) (cond (@decide (hy = lx) (a_decEqZ _ _)) (a_leK q y x (-1) f) (f q))) (f q))))))
noncomputable def a_br {β : Type} (b : Nat) (q : aQ) (x y : aV) (T F : aQ → Option (List β)) : Option (List β) := match b with
  | 0 => a_app (a_leK q x y (-1) T) (a_leK q y x 0 F)
  | 1 => a_app (a_leK q y x (-1) T) (a_leK q x y 0 F)
  | _ => a_app (a_leK q x y 0 (fun q => a_leK q y x 0 T)) (a_neK q x y F)
/-! the heap -/
noncomputable def a_isO (ci : Nat) (r : Int) : Bool := match a_shp r.toNat with
  | some (.inr q) => Nat.beq q.1 ci
  | _ => false
noncomputable def a_oget (O : aO) (r s : Nat) (o : Int) : Option aV := List.rec (motive := fun _ => Option aV) none (fun e _ ih => cond (Nat.beq e.1.1 r && (Nat.beq e.1.2.1 s && @decide (e.1.2.2 = o) (a_decEqZ _ _))) (some e.2) ih) O
noncomputable def a_join (a b : aT) : aT := cond (Nat.beq a.1 b.1) (a.1, a_min a.2.1 b.2.1, a_max a.2.2.1 b.2.2.1, a.2.2.2 ++ b.2.2.2) (9, 0, 0, [])
-- what may stand in the places from lo to hi
noncomputable def a_uni (lo hi : Int) (l : List (Nat × aT)) : Int → Option aT := List.rec (motive := fun _ => Int → Option aT) (fun p => cond (@decide (hi < p) (a_decLt _ _)) none (some (9, 0, 0, []))) (fun s _ ih p => x_kZ (p + Int.ofNat s.1) (fun p' => cond (@decide (p' ≤ lo) (a_decLe _ _)) (ih p') (cond (@decide (hi < p) (a_decLt _ _)) none (match ih p' with
  | some b => some (a_join s.2 b)
  | none => some s.2)))) l
noncomputable def a_memI (z : Int) (l : List Int) : Bool := List.rec (motive := fun _ => Bool) false (fun a _ ih => @decide (a = z) (a_decEqZ _ _) || ih) l
noncomputable def a_acc (t : aT) (v : aV) (lo hi : Int) : Bool := match t.1 with
  | 0 => Nat.beq v.1 0 && (@decide (t.2.1 ≤ lo) (a_decLe _ _) && @decide (hi ≤ t.2.2.1) (a_decLe _ _))
  | 1 => Nat.beq v.1 1 && (@decide (t.2.1 ≤ lo) (a_decLe _ _) && @decide (hi ≤ t.2.2.1) (a_decLe _ _))
  | 2 => @decide (lo = hi) (a_decEqZ _ _) && ((Nat.beq v.1 2 && (@decide (0 ≤ lo) (a_decLe _ _) && a_memI lo t.2.2.2)) || (Nat.beq v.1 4 && (@decide (lo = 0) (a_decEqZ _ _) && a_memI (-1) t.2.2.2)))
  | _ => false
noncomputable def a_bZ (z : Int) (f : Int → Bool) : Bool := match x_kZ z (fun z => some (f z)) with
  | some b => b
  | none => false
noncomputable def a_accs (lo hi : Int) (v : aV) (vl vh : Int) (l : List (Nat × aT)) : Int → Bool := List.rec (motive := fun _ => Int → Bool) (fun _ => true) (fun s _ ih p => cond (@decide (hi < p) (a_decLt _ _)) true (a_bZ (p + Int.ofNat s.1) (fun p' => (@decide (p' ≤ lo) (a_decLe _ _) || a_acc s.2 v vl vh) && ih p'))) l
-- the same two, in Nat
noncomputable def a_uniN (lo hi : Nat) (l : List (Nat × aT)) : Nat → Option aT := List.rec (motive := fun _ => Nat → Option aT) (fun p => cond (Nat.blt hi p) none (some (9, 0, 0, []))) (fun s _ ih p => x_kN (p + s.1) (fun p' => cond (Nat.ble p' lo) (ih p') (cond (Nat.blt hi p) none (match ih p' with
  | some b => some (a_join s.2 b)
  | none => some s.2)))) l
noncomputable def a_joinO (a b : Option aT) : Option aT := match a with
  | some x => match b with
    | some y => some (a_join x y)
    | none => some x
  | none => b
noncomputable def a_uniC (lo hi : Nat) (l : aTc) : Nat → Option aT := List.rec (motive := fun _ => Nat → Option aT) (fun p => cond (Nat.blt hi p) none (some (9, 0, 0, []))) (fun s _ ih p => x_kN (p + s.1) (fun p' => cond (Nat.ble p' lo) (ih p') (cond (Nat.blt hi p) none (cond (Nat.blt hi p') (a_uniN lo hi s.2 p) (a_joinO (x_kN (p' - 1) (fun u => a_uniN lo u s.2 p)) (ih p')))))) l
noncomputable def a_uniF (lo hi : Int) (l : aTc) : Option aT := cond (@decide (0 ≤ lo) (a_decLe _ _) && @decide (0 ≤ hi) (a_decLe _ _)) (x_kN lo.toNat (fun lo => x_kN hi.toNat (fun hi => a_uniC lo hi l 0))) none
noncomputable def a_bN (n : Nat) (f : Nat → Bool) : Bool := Nat.rec (motive := fun _ => Bool) (f 0) (fun m _ => f (Nat.succ m)) n
noncomputable def a_accsN (lo hi : Nat) (v : aV) (vl vh : Int) (l : List (Nat × aT)) : Nat → Bool := List.rec (motive := fun _ => Nat → Bool) (fun _ => true) (fun s _ ih p => cond (Nat.blt hi p) true (a_bN (p + s.1) (fun p' => (Nat.ble p' lo || a_acc s.2 v vl vh) && ih p'))) l
noncomputable def a_accsC (lo hi : Nat) (v : aV) (vl vh : Int) (l : aTc) : Nat → Bool := List.rec (motive := fun _ => Nat → Bool) (fun _ => true) (fun s _ ih p => cond (Nat.blt hi p) true (a_bN (p + s.1) (fun p' => (Nat.ble p' lo || a_accsN lo hi v vl vh s.2 p) && ih p'))) l
noncomputable def a_accsF (lo hi : Int) (v : aV) (vl vh : Int) (l : aTc) : Bool := cond (@decide (0 ≤ hi) (a_decLe _ _)) (cond (@decide (0 ≤ lo) (a_decLe _ _)) (a_bN lo.toNat (fun lo => a_bN hi.toNat (fun hi => a_accsC lo hi v vl vh l 0))) false) true
noncomputable def a_mod (m : aM) (r : Nat) (lo hi : Int) : Bool := List.rec (motive := fun _ => Bool) false (fun q _ ih => (Nat.beq q.1 r && (@decide (Int.ofNat q.2.1 ≤ lo) (a_decLe _ _) && @decide (hi ≤ Int.ofNat q.2.2) (a_decLe _ _))) || ih) m
noncomputable def a_hits (m : aM) (r : Nat) (lo hi : Int) : Bool := List.rec (motive := fun _ => Bool) false (fun q _ ih => (Nat.beq q.1 r && (@decide (lo ≤ Int.ofNat q.2.2) (a_decLe _ _) && @decide (Int.ofNat q.2.1 ≤ hi) (a_decLe _ _))) || ih) m
noncomputable def a_flt {α : Type} (f : α → Bool) (l : List α) : List α := List.rec (motive := fun _ => List α) [] (fun a _ ih => cond (f a) (a :: ih) ih) l
noncomputable def a_fkeep (sup : List (List aM)) (r : Nat) (lo hi : Int) (j : Nat) : Bool := match a_at sup j with
  | some m => !(a_hits m r lo hi)
  | none => false
noncomputable def a_okeep (E : aB) (r s : Nat) (o lo hi : Int) (e : (Nat × Nat × Int) × aV) : Bool := !(Nat.beq e.1.1 r) || ((Nat.beq e.1.2.1 s && !(@decide (e.1.2.2 = o) (a_decEqZ _ _))) || (match a_rngK E (0, e.1.2) (fun l h => some (@decide (h < lo) (a_decLt _ _) || @decide (hi < l) (a_decLt _ _))) with
  | some b => b
  | none => false))
noncomputable def a_okeepR (E : aB) (r : Nat) (lo hi : Int) (e : (Nat × Nat × Int) × aV) : Bool := !(Nat.beq e.1.1 r) || (match a_rngK E (0, e.1.2) (fun l h => some (@decide (h < lo) (a_decLt _ _) || @decide (hi < l) (a_decLt _ _))) with
  | some b => b
  | none => false)
noncomputable def a_addO (q : aQ) (e : (Nat × Nat × Int) × aV) : aQ := (q.1, q.2.1, q.2.2.1, e :: q.2.2.2.1, q.2.2.2.2)
-- a place is read for the first time
noncomputable def a_readK (t : aT) (q : aQ) (k : Nat × Nat × Int) (f : aQ → aV → Option (List aOut)) : Option (List aOut) := match t.1 with
  | 0 => a_newK 0 t.2.1 t.2.2.1 q (fun q v => f (a_addO q (k, v)) v)
  | 1 => a_newK 1 t.2.1 t.2.2.1 q (fun q v => f (a_addO q (k, v)) v)
  | 2 => List.rec (motive := fun _ => Option (List aOut)) (some []) (fun z _ ih => a_app (cond (@decide (z = -1) (a_decEqZ _ _)) (f (a_addO q (k, (4, 0, 0))) (4, 0, 0)) (f (a_addO q (k, (2, 0, z))) (2, 0, z))) ih) t.2.2.2
  | _ => none
-- flags 345 + b: where companies stand and came from, in block b, lies on its ground (351: so do the cells of row): a write of such a cell keeps them
noncomputable def a_anyO (p : (Nat × Nat × Int) × aV → Bool) (O : aO) : Bool := List.rec (motive := fun _ => Bool) false (fun e _ ih => p e || ih) O
noncomputable def a_sameV (v w : aV) : Bool := Nat.beq v.1 w.1 && (Nat.beq v.2.1 w.2.1 && @decide (v.2.2 = w.2.2) (a_decEqZ _ _))
noncomputable def a_soI (B : Nat) (lo hi : Int) : Bool := (@decide (Int.ofNat (B + 245) ≤ lo) (a_decLe _ _) && @decide (hi ≤ Int.ofNat (B + 250)) (a_decLe _ _)) || (@decide (Int.ofNat (B + 257) ≤ lo) (a_decLe _ _) && @decide (hi ≤ Int.ofNat (B + 262)) (a_decLe _ _))
noncomputable def a_soA (q : aQ) (B : Nat) (vh : Int) : Bool := match a_oget q.2.2.2.1 126 0 (Int.ofNat B), a_oget q.2.2.2.1 126 0 (Int.ofNat (B + 1)) with
  | some c, some d => (match a_rngK q.2.1 c (fun cl _ => a_rngK q.2.1 d (fun dl _ => some (@decide (0 ≤ cl) (a_decLe _ _) && (@decide (0 ≤ dl) (a_decLe _ _) && @decide (vh < cl * dl) (a_decLt _ _))))) with
    | some b => b
    | none => false)
  | _, _ => false
noncomputable def a_soB (q : aQ) (B : Nat) (v : aV) : Bool := a_anyO (fun e => Nat.beq e.1.1 126 && (a_sameV e.2 v && (match a_rngK q.2.1 (0, e.1.2) (fun l h => some (a_soI B l h)) with
  | some b => b
  | none => false))) q.2.2.2.1
noncomputable def a_soC (q : aQ) (B : Nat) (v : aV) : Bool := Nat.beq B 0 && (a_memF 351 q.2.2.2.2 && (match a_oget q.2.2.2.1 121 0 31 with
  | some w => a_anyO (fun e => Nat.beq e.1.1 132 && (a_sameV e.2 v && ((match a_rngK q.2.1 (0, e.1.2) (fun _ h => some (@decide (h < 49) (a_decLt _ _))) with
    | some b => b
    | none => false) && a_leq q (0, e.1.2) w (-1)))) q.2.2.2.1
  | none => false))
noncomputable def a_soft (q : aQ) (r : Nat) (lo hi : Int) (v : aV) (vh : Int) (j : Nat) : Bool := Nat.blt 344 j && (Nat.blt j 350 && (Nat.beq r 126 && (Nat.beq v.1 0 && a_bN (550 * (j - 345)) (fun B => a_soI B lo hi && (a_soA q B vh || (a_soB q B v || a_soC q B v))))))
-- a place is written
noncomputable def a_wrK {β : Type} (G : aG) (m : aM) (q : aQ) (r s : Nat) (o lo hi : Int) (v : aV) (l : aTc) (f : aQ → Option β) : Option β := a_rngK q.2.1 v (fun vl vh => cond (a_accsF lo hi v vl vh l && a_mod m r lo hi) (x_spine (a_flt (a_okeep q.2.1 r s o lo hi) q.2.2.2.1) (fun O => x_spine (a_flt (fun j => a_fkeep G.2.1 r lo hi j || a_soft q r lo hi v vh j) q.2.2.2.2) (fun fl => f (q.1, q.2.1, q.2.2.1, ((r, s, o), v) :: O, fl)))) none)
/-! instructions -/
noncomputable def a_push (nx : Nat) (L : aL) (S : List aV) (q : aQ) (v : aV) : Option (List aOut) := some [.inr (.inl (nx, q, L, v :: S))]
noncomputable def a_lget (L : aL) (i : Nat) : Option aV := List.rec (motive := fun _ => Option aV) none (fun q _ ih => cond (Nat.beq q.1 i) (some q.2) ih) L
noncomputable def a_kind (v : aV) : Nat := cond (Nat.beq v.1 3) 2 v.1
noncomputable def a_keep1 (i : Nat) (q : Nat × aV) : Bool := !(Nat.beq q.1 i) && !(Nat.beq (q.1 + 1) i && Nat.beq q.2.1 1)
noncomputable def a_keep2 (i : Nat) (q : Nat × aV) : Bool := !(Nat.beq q.1 i) && (!(Nat.beq q.1 (i + 1)) && !(Nat.beq (q.1 + 1) i && Nat.beq q.2.1 1))
noncomputable def a_cat (v : aV) : Nat := cond (Nat.beq v.1 1) 2 1
noncomputable def a_sum (l : List aV) : Nat := List.rec (motive := fun _ => Nat) 0 (fun v _ ih => a_cat v + ih) l
noncomputable def a_load (nx i t : Nat) (q : aQ) (L : aL) (S : List aV) : Option (List aOut) := match a_lget L i with
  | some v => cond (Nat.beq (a_kind v) t) (a_nrmK q.2.1 v (a_push nx L S q)) none
  | none => none
noncomputable def a_st1 (nx i : Nat) (v : aV) (q : aQ) (L : aL) (S : List aV) : Option (List aOut) := x_spine (a_flt (a_keep1 i) L) (fun L => some [.inr (.inl (nx, q, (i, v) :: L, S))])
noncomputable def a_store1 (nx i t : Nat) (q : aQ) (L : aL) (S : List aV) : Option (List aOut) := match S with
  | v :: S => cond (Nat.beq (a_kind v) t && !(Nat.beq t 1)) (a_st1 nx i v q L S) none
  | _ => none
noncomputable def a_store2 (nx i : Nat) (q : aQ) (L : aL) (S : List aV) : Option (List aOut) := match S with
  | v :: S => cond (Nat.beq v.1 1) (x_spine (a_flt (a_keep2 i) L) (fun L => some [.inr (.inl (nx, q, (i, v) :: L, S))])) none
  | _ => none
noncomputable def a_iinc (nx i : Nat) (z : Int) (q : aQ) (L : aL) (S : List aV) : Option (List aOut) := match a_lget L i with
  | some v => cond (Nat.beq v.1 0) (a_shiftK 0 q v z (fun q v => a_st1 nx i v q L S)) none
  | _ => none
noncomputable def a_two (t : Nat) (S : List aV) (f : aV → aV → List aV → Option (List aOut)) : Option (List aOut) := match S with
  | y :: x :: S => cond (Nat.beq y.1 t && Nat.beq x.1 t) (f x y S) none
  | _ => none
noncomputable def a_one (t : Nat) (S : List aV) (f : aV → List aV → Option (List aOut)) : Option (List aOut) := match S with
  | x :: S => cond (Nat.beq x.1 t) (f x S) none
  | _ => none
noncomputable def a_un32 (nx b : Nat) (q : aQ) (L : aL) (S : List aV) : Option (List aOut) := a_one 0 S (fun x S => match b with
  | 0 => a_negK 0 q x (a_push nx L S)
  | 1 => a_cutK (-128) 127 q x (a_push nx L S)
  | _ => a_cutK (-32768) 32767 q x (a_push nx L S))
noncomputable def a_bin32 (nx b : Nat) (q : aQ) (L : aL) (S : List aV) : Option (List aOut) := a_two 0 S (fun x y S => match b with
  | 0 => a_addK 0 q x y (a_push nx L S)
  | 1 => a_subK 0 q x y (a_push nx L S)
  | 2 => a_mulK 0 q x y (a_push nx L S)
  | 3 => a_andK 0 q x y (a_push nx L S)
  | 7 => a_shrK q x y (a_push nx L S)
  | _ => a_anyK 0 q (a_push nx L S))
noncomputable def a_div32 (nx b : Nat) (q : aQ) (L : aL) (S : List aV) : Option (List aOut) := a_two 0 S (fun x y S => match b with
  | 0 => a_divK 0 q x y (a_push nx L S)
  | _ => a_rem32K q x y (a_push nx L S))
noncomputable def a_neg64 (nx : Nat) (q : aQ) (L : aL) (S : List aV) : Option (List aOut) := a_one 1 S (fun x S => a_negK 1 q x (a_push nx L S))
noncomputable def a_bin64 (nx b : Nat) (q : aQ) (L : aL) (S : List aV) : Option (List aOut) := a_two 1 S (fun x y S => match b with
  | 0 => a_addK 1 q x y (a_push nx L S)
  | 1 => a_subK 1 q x y (a_push nx L S)
  | 2 => a_mulK 1 q x y (a_push nx L S)
  | 3 => a_andK 1 q x y (a_push nx L S)
  | _ => a_anyK 1 q (a_push nx L S))
noncomputable def a_div64 (nx b : Nat) (q : aQ) (L : aL) (S : List aV) : Option (List aOut) := a_two 1 S (fun x y S => match b with
  | 0 => a_divK 1 q x y (a_push nx L S)
  | _ => a_rem64K q x y (a_push nx L S))
noncomputable def a_sh64 (nx : Nat) (q : aQ) (L : aL) (S : List aV) : Option (List aOut) := match S with
  | y :: x :: S => cond (Nat.beq y.1 0 && Nat.beq x.1 1) (a_anyK 1 q (a_push nx L S)) none
  | _ => none
noncomputable def a_i2l (nx : Nat) (q : aQ) (L : aL) (S : List aV) : Option (List aOut) := a_one 0 S (fun x S => a_push nx L S q (1, x.2))
noncomputable def a_l2i (nx : Nat) (q : aQ) (L : aL) (S : List aV) : Option (List aOut) := a_one 1 S (fun x S => a_rngK q.2.1 x (fun lo hi => cond (a_in 0 lo hi) (a_push nx L S q (0, x.2)) (a_anyK 0 q (a_push nx L S))))
noncomputable def a_stk (nx b : Nat) (q : aQ) (L : aL) (S : List aV) : Option (List aOut) := match S with
  | v :: S => match b with
    | 0 => cond (Nat.beq (a_cat v) 1) (some [.inr (.inl (nx, q, L, S))]) none
    | 1 => cond (Nat.beq (a_cat v) 2) (some [.inr (.inl (nx, q, L, S))]) none
    | 2 => cond (Nat.beq (a_cat v) 1) (some [.inr (.inl (nx, q, L, v :: v :: S))]) none
    | 3 => match S with
      | w :: S => cond (Nat.beq (a_cat v) 1 && Nat.beq (a_cat w) 1) (some [.inr (.inl (nx, q, L, v :: w :: v :: w :: S))]) none
      | [] => none
    | 4 => cond (Nat.beq (a_cat v) 2) (some [.inr (.inl (nx, q, L, v :: v :: S))]) none
    | _ => none
  | [] => none
noncomputable def a_go (nx : Nat) (L : aL) (S : List aV) (q : aQ) : Option (List aOut) := some [.inr (.inl (nx, q, L, S))]
noncomputable def a_if (nx a b : Nat) (q : aQ) (L : aL) (S : List aV) : Option (List aOut) := a_one 0 S (fun x S => a_br b q x (0, 0, 0) (a_go a L S) (a_go nx L S))
noncomputable def a_icmp (nx a b : Nat) (q : aQ) (L : aL) (S : List aV) : Option (List aOut) := a_two 0 S (fun x y S => a_br b q x y (a_go a L S) (a_go nx L S))
noncomputable def a_lcmp (nx : Nat) (q : aQ) (L : aL) (S : List aV) : Option (List aOut) := a_two 1 S (fun x y S => a_br 0 q x y (a_go nx L ((0, 0, -1) :: S)) (fun q => a_br 1 q x y (a_go nx L ((0, 0, 1) :: S)) (a_go nx L ((0, 0, 0) :: S))))
noncomputable def a_swR (nx : Nat) (L : aL) (S : List aV) (x : aV) (cs : List (Int × Nat)) : aQ → Option (List aOut) := List.rec (motive := fun _ => aQ → Option (List aOut)) (fun q => a_go nx L S q) (fun c _ ih q => a_br 0 q x (0, 0, c.1) ih (fun q => a_br 1 q x (0, 0, c.1) ih (fun q => a_go c.2 L S q))) cs
noncomputable def a_sw (nx : Nat) (cs : List (Int × Nat)) (q : aQ) (L : aL) (S : List aV) : Option (List aOut) := a_one 0 S (fun x S => a_swR nx L S x cs q)
noncomputable def a_getf (G : aG) (nx ci k : Nat) (q : aQ) (L : aL) (S : List aV) : Option (List aOut) := a_one 2 S (fun x S => cond (a_isC x && (@decide (0 ≤ x.2.2) (a_decLe _ _) && a_isO ci x.2.2)) (match a_oget q.2.2.2.1 x.2.2.toNat 0 (Int.ofNat k) with
  | some v => a_nrmK q.2.1 v (a_push nx L S q)
  | none => match a_at G.1 x.2.2.toNat with
    | some l => match a_uniF (Int.ofNat k) (Int.ofNat k) l with
      | some t => x_kN x.2.2.toNat (fun r => a_readK t q (r, 0, Int.ofNat k) (a_push nx L S))
      | none => none
    | none => none) none)
noncomputable def a_fitc (c : Nat) (v : aV) (lo hi : Int) : Bool := match c with
  | 0 => Nat.beq v.1 0
  | 1 => Nat.beq v.1 1
  | 2 => Nat.beq v.1 0 && (@decide (-128 ≤ lo) (a_decLe _ _) && @decide (hi ≤ 127) (a_decLe _ _))
  | 3 => Nat.beq v.1 0 && (@decide (0 ≤ lo) (a_decLe _ _) && @decide (hi ≤ 1) (a_decLe _ _))
  | 4 => Nat.beq (a_kind v) 2
  | _ => false
noncomputable def a_putf (G : aG) (m : aM) (nx ci k : Nat) (c : Int) (q : aQ) (L : aL) (S : List aV) : Option (List aOut) := match S with
  | v :: x :: S => cond (Nat.beq x.1 2 && (a_isC x && (@decide (0 ≤ x.2.2) (a_decLe _ _) && a_isO ci x.2.2))) (a_rngK q.2.1 v (fun lo hi => cond (a_fitc c.toNat v lo hi) (match a_at G.1 x.2.2.toNat with
    | some l => x_kN x.2.2.toNat (fun r => a_wrK G m q r 0 (Int.ofNat k) (Int.ofNat k) (Int.ofNat k) v l (a_go nx L S))
    | none => none) none)) none
  | _ => none
noncomputable def a_arr (c : Nat) (r lo hi : Int) : Bool := match a_shp r.toNat with
  | some (.inl q) => Nat.beq (zcode q.1) c && (@decide (0 ≤ lo) (a_decLe _ _) && @decide (hi < Int.ofNat q.2) (a_decLt _ _))
  | _ => false
-- an index by its bounds: itself where it is known
noncomputable def a_idxK {β : Type} (i : aV) (lo hi : Int) (f : Nat → Int → Option β) : Option β := cond (@decide (lo = hi) (a_decEqZ _ _)) (f 0 lo) (x_kN i.2.1 (fun s => x_kZ i.2.2 (fun o => f s o)))
noncomputable def a_minL (l : List Int) : Option (Int × Int) := List.rec (motive := fun _ => Option (Int × Int)) none (fun a _ ih => match ih with
  | some q => some (a_min a q.1, a_max a q.2)
  | none => some (a, a)) l
noncomputable def a_ald (G : aG) (nx c : Nat) (q : aQ) (L : aL) (S : List aV) : Option (List aOut) := match S with
  | i :: x :: S => cond (Nat.beq i.1 0 && a_isC x) (cond (Nat.beq x.1 2) (a_rngK q.2.1 i (fun lo hi => cond (@decide (0 ≤ x.2.2) (a_decLe _ _) && a_arr c x.2.2 lo hi) (a_idxK i lo hi (fun s o => match a_oget q.2.2.2.1 x.2.2.toNat s o with
      | some v => a_nrmK q.2.1 v (a_push nx L S q)
      | none => match a_at G.1 x.2.2.toNat with
        | some l => match a_uniF lo hi l with
          | some t => x_kN x.2.2.toNat (fun r => a_readK t q (r, s, o) (a_push nx L S))
          | none => none
        | none => none)) none)) (cond (Nat.beq x.1 3 && Nat.beq c 0) (cond (@decide (x.2.2 = 0) (a_decEqZ _ _)) (cond (G.2.2 && (a_leq q (0, 0, 0) i 0 && a_leq q i (0, 1, 0) (-1))) (x_kN i.2.1 (fun s => x_kZ i.2.2 (fun o => match a_oget q.2.2.2.1 1000 s o with
      | some v => a_nrmK q.2.1 v (a_push nx L S q)
      | none => a_anyK 0 q (fun q v => a_push nx L S (a_addO q ((1000, s, o), v)) v)))) none) (cond (@decide (0 < x.2.2) (a_decLt _ _) && @decide (x.2.2 < 3) (a_decLt _ _)) (a_rngK q.2.1 i (fun lo hi => cond (@decide (0 ≤ lo) (a_decLe _ _) && @decide (hi < Int.ofNat (zTx x.2.2.toNat).length) (a_decLt _ _)) (cond (@decide (lo = hi) (a_decEqZ _ _)) (x_kZ ((zTx x.2.2.toNat).getD lo.toNat 0) (fun z => a_push nx L S q (0, 0, z))) (match a_minL (zTx x.2.2.toNat) with
        | some w => a_newK 0 w.1 w.2 q (a_push nx L S)
        | none => none)) none)) none)) none)) none
  | _ => none
noncomputable def a_ast (G : aG) (m : aM) (nx c : Nat) (q : aQ) (L : aL) (S : List aV) : Option (List aOut) := match S with
  | v :: i :: x :: S => cond (Nat.beq i.1 0 && (Nat.beq x.1 2 && (a_isC x && (@decide (0 ≤ x.2.2) (a_decLe _ _) && Nat.blt c 4)))) (a_rngK q.2.1 i (fun lo hi => a_rngK q.2.1 v (fun vl vh => cond (a_arr c x.2.2 lo hi && a_fitc c v vl vh) (match a_at G.1 x.2.2.toNat with
      | some l => a_idxK i lo hi (fun s o => x_kN x.2.2.toNat (fun r => a_wrK G m q r s o lo hi v l (a_go nx L S)))
      | none => none) none))) none
  | _ => none
noncomputable def a_alen (G : aG) (nx : Nat) (q : aQ) (L : aL) (S : List aV) : Option (List aOut) := match S with
  | x :: S => cond (a_isC x) (cond (Nat.beq x.1 2) (match a_shp x.2.2.toNat with
      | some (.inl w) => x_kN w.2 (fun n => a_push nx L S q (0, 0, Int.ofNat n))
      | _ => none) (cond (Nat.beq x.1 3) (cond (@decide (x.2.2 = 0) (a_decEqZ _ _)) (cond G.2.2 (a_push nx L S q (0, 1, 0)) none) (cond (@decide (0 < x.2.2) (a_decLt _ _) && @decide (x.2.2 < 3) (a_decLt _ _)) (a_push nx L S q (0, 0, 5)) none)) none)) none
  | _ => none
noncomputable def a_slen (nx : Nat) (q : aQ) (L : aL) (S : List aV) : Option (List aOut) := match S with
  | x :: S => cond (Nat.beq x.1 3 && (a_isC x && Nat.ble (a_sum S) 8)) (cond (@decide (x.2.2 = 3) (a_decEqZ _ _)) (a_push nx L S q (0, 0, Int.ofNat (zTx 3).length)) (cond (@decide (x.2.2 = 4) (a_decEqZ _ _)) (a_push nx L S q (0, 0, 5)) none)) none
  | _ => none
noncomputable def a_char (nx : Nat) (q : aQ) (L : aL) (S : List aV) : Option (List aOut) := match S with
  | i :: x :: S => cond (Nat.beq i.1 0 && (Nat.beq x.1 3 && (a_isC x && (Nat.ble (a_sum S) 8 && (@decide (x.2.2 = 3) (a_decEqZ _ _) || @decide (x.2.2 = 4) (a_decEqZ _ _)))))) (a_rngK q.2.1 i (fun lo hi => cond (@decide (0 ≤ lo) (a_decLe _ _) && @decide (hi < Int.ofNat (zTx x.2.2.toNat).length) (a_decLt _ _)) (a_newK 0 32 122 q (a_push nx L S)) none)) none
  | _ => none
noncomputable def a_math (nx b : Nat) (q : aQ) (L : aL) (S : List aV) : Option (List aOut) := match b with
  | 0 => a_two 0 S (fun x y S => cond (Nat.ble (a_sum S) 8) (a_rngK q.2.1 x (fun lx hx => a_rngK q.2.1 y (fun ly hy => a_newK 0 (a_max lx ly) (a_max hx hy) q (a_push nx L S)))) none)
  | 1 => a_two 0 S (fun x y S => cond (Nat.ble (a_sum S) 8) (a_rngK q.2.1 x (fun lx hx => a_rngK q.2.1 y (fun ly hy => a_newK 0 (a_min lx ly) (a_min hx hy) q (a_push nx L S)))) none)
  | 2 => a_two 1 S (fun x y S => cond (Nat.ble (a_sum S) 8) (a_rngK q.2.1 x (fun lx hx => a_rngK q.2.1 y (fun ly hy => a_newK 1 (a_min lx ly) (a_min hx hy) q (a_push nx L S)))) none)
  | 3 => a_one 1 S (fun x S => cond (Nat.ble (a_sum S) 8) (a_rngK q.2.1 x (fun lx hx => cond (@decide (0 ≤ lx) (a_decLe _ _)) (a_push nx L S q x) (cond (@decide (a_lo 1 < lx) (a_decLt _ _) && @decide (hx ≤ a_hi 1) (a_decLe _ _)) (a_newK 1 0 (a_max (-lx) hx) q (a_push nx L S)) (cond (a_in 1 lx hx) (a_anyK 1 q (a_push nx L S)) none)))) none)
  | _ => none
-- what is known of the places that are copied
noncomputable def a_carry (r0 r1 : Nat) (sl dl nl : Int) (O : aO) : aO := List.rec (motive := fun _ => aO) [] (fun e _ ih => cond (Nat.beq e.1.1 r0 && (Nat.beq e.1.2.1 0 && (@decide (sl ≤ e.1.2.2) (a_decLe _ _) && @decide (e.1.2.2 < sl + nl) (a_decLt _ _)))) (((r1, 0, e.1.2.2 - sl + dl), e.2) :: ih) ih) O
noncomputable def a_carryK {β : Type} (r0 r1 : Nat) (sl dl nl : Int) (O : aO) (f : aO → Option β) : Option β := List.rec (motive := fun _ => (aO → Option β) → Option β) (fun f => f []) (fun e _ ih f => ih (fun l => cond (Nat.beq e.1.1 r0 && (Nat.beq e.1.2.1 0 && (@decide (sl ≤ e.1.2.2) (a_decLe _ _) && @decide (e.1.2.2 < sl + nl) (a_decLt _ _)))) (x_kZ (e.1.2.2 - sl + dl) (fun o => f (((r1, 0, o), e.2) :: l))) (f l))) O f
-- System.arraycopy: what may stand in the one fits all that it may come to in the other
noncomputable def a_copy (G : aG) (m : aM) (nx c : Nat) (q : aQ) (L : aL) (S : List aV) : Option (List aOut) := match S with
  | n :: dp :: x1 :: sp :: x0 :: S => cond (Nat.beq n.1 0 && (Nat.beq dp.1 0 && (Nat.beq sp.1 0 && (Nat.beq x1.1 2 && (Nat.beq x0.1 2 && (a_isC x1 && (a_isC x0 && (Nat.ble (a_sum S) 8 && (Nat.blt c 2 && (@decide (0 ≤ x1.2.2) (a_decLe _ _) && @decide (0 ≤ x0.2.2) (a_decLe _ _)))))))))))
    (a_rngK q.2.1 n (fun nl nh => a_rngK q.2.1 dp (fun dl dh => a_rngK q.2.1 sp (fun sl sh => match a_shp x0.2.2.toNat, a_shp x1.2.2.toNat with
      | some (.inl w0), some (.inl w1) => cond (Nat.beq (zcode w0.1) c && (Nat.beq (zcode w1.1) c && (@decide (0 ≤ nl) (a_decLe _ _) && (@decide (0 ≤ dl) (a_decLe _ _) && (@decide (0 ≤ sl) (a_decLe _ _) && ((@decide (sh + nh ≤ Int.ofNat w0.2) (a_decLe _ _) || a_ent q.2.1 q.2.2.1 3 (a_less (a_tm 1 n) (a_tm (-1) sp)) (Int.ofNat w0.2 - n.2.2 - sp.2.2)) && (@decide (dh + nh ≤ Int.ofNat w1.2) (a_decLe _ _) || a_ent q.2.1 q.2.2.1 3 (a_less (a_tm 1 n) (a_tm (-1) dp)) (Int.ofNat w1.2 - n.2.2 - dp.2.2))))))))
        (cond (Nat.beq x0.2.2.toNat x1.2.2.toNat && (@decide (sl = sh) (a_decEqZ _ _) && (@decide (dl = dh) (a_decEqZ _ _) && @decide (sl = dl) (a_decEqZ _ _)))) (some [.inr (.inl (nx, q, L, S))]) (match a_at G.1 x0.2.2.toNat, a_at G.1 x1.2.2.toNat with
        | some l0, some l1 => x_kZ (a_min (dh + nh) (Int.ofNat w1.2) - 1) (fun hi => x_kN x1.2.2.toNat (fun r => match a_uniF sl (a_min (sh + nh) (Int.ofNat w0.2) - 1) l0 with
          | some t => cond (Nat.blt t.1 2 && (a_accsF dl hi (t.1, 0, 0) t.2.1 t.2.2.1 l1 && a_mod m r dl hi)) (x_spine (a_flt (a_okeepR q.2.1 r dl hi) q.2.2.2.1) (fun O => x_spine (a_flt (a_fkeep G.2.1 r dl hi) q.2.2.2.2) (fun fl => cond (@decide (nl = nh) (a_decEqZ _ _) && (@decide (dl = dh) (a_decEqZ _ _) && @decide (sl = sh) (a_decEqZ _ _))) (a_carryK x0.2.2.toNat x1.2.2.toNat sl dl nl q.2.2.2.1 (fun C => x_spine (C ++ O) (fun O => some [.inr (.inl (nx, (q.1, q.2.1, q.2.2.1, O, fl), L, S))]))) (some [.inr (.inl (nx, (q.1, q.2.1, q.2.2.1, O, fl), L, S))])))) none
          | none => none))
        | _, _ => none)) none
      | _, _ => none)))) none
  | _ => none
noncomputable def a_take (n : Nat) : List aV → List aV → Option (List aV × List aV) := Nat.rec (motive := fun _ => List aV → List aV → Option (List aV × List aV)) (fun S acc => some (acc, S)) (fun _ ih S acc => match S with
  | v :: S => ih S (v :: acc)
  | [] => none) n
noncomputable def a_call (nx mi n : Nat) (c : Int) (w : Nat) (q : aQ) (L : aL) (S : List aV) : Option (List aOut) := match a_take n S [] with
  | some (as, S) => cond (Nat.ble (a_sum S) 8 && (Nat.ble (a_sum as) w && (@decide (c < 0) (a_decLt _ _) || (match as with
    | v :: _ => Nat.beq v.1 2 && (a_isC v && a_isO c.toNat v.2.2)
    | [] => false)))) (some [.inr (.inr (mi, as, nx, q, L, S))]) none
  | none => none
noncomputable def a_ret (b c : Nat) (q : aQ) (S : List aV) : Option (List aOut) := match b, S with
  | 0, [] => some [.inl (q, none)]
  | 1, [v] => a_rngK q.2.1 v (fun lo hi => cond (a_fitc c v lo hi && Nat.beq v.1 0) (some [.inl (q, some v)]) none)
  | 2, [v] => cond (Nat.beq v.1 1) (some [.inl (q, some v)]) none
  | _, _ => none
noncomputable def aiR (G : aG) (m : aM) (i : zX) (q : aQ) (L : aL) (S : List aV) : Option (List aOut) := match i with
  | (0, nx, a, _, z, _) => a_push nx L S q (a, 0, z)
  | (1, nx, _, _, _, _) => a_go nx L S q
  | (2, nx, a, b, _, _) => a_load nx a b q L S
  | (3, nx, a, b, _, _) => a_store1 nx a b q L S
  | (4, nx, a, _, _, _) => a_store2 nx a q L S
  | (5, nx, a, _, z, _) => a_iinc nx a z q L S
  | (6, nx, _, b, _, _) => a_un32 nx b q L S
  | (7, nx, _, b, _, _) => a_bin32 nx b q L S
  | (8, nx, _, b, _, _) => a_div32 nx b q L S
  | (9, nx, _, _, _, _) => a_neg64 nx q L S
  | (10, nx, _, b, _, _) => a_bin64 nx b q L S
  | (11, nx, _, b, _, _) => a_div64 nx b q L S
  | (12, nx, _, _, _, _) => a_sh64 nx q L S
  | (13, nx, _, _, _, _) => a_i2l nx q L S
  | (14, nx, _, _, _, _) => a_l2i nx q L S
  | (15, nx, _, b, _, _) => a_stk nx b q L S
  | (16, nx, a, b, _, _) => a_if nx a b q L S
  | (17, nx, a, b, _, _) => a_icmp nx a b q L S
  | (18, nx, _, _, _, _) => a_lcmp nx q L S
  | (19, nx, _, _, _, cs) => a_sw nx cs q L S
  | (20, nx, a, b, _, _) => a_getf G nx a b q L S
  | (21, nx, a, b, z, _) => a_putf G m nx a b z q L S
  | (22, nx, a, _, _, _) => a_ald G nx a q L S
  | (23, nx, a, _, _, _) => a_ast G m nx a q L S
  | (24, nx, _, _, _, _) => a_alen G nx q L S
  | (25, nx, _, _, _, _) => a_slen nx q L S
  | (26, nx, _, _, _, _) => a_char nx q L S
  | (27, nx, _, b, _, _) => a_math nx b q L S
  | (28, nx, a, _, _, _) => a_copy G m nx a q L S
  | (29, nx, a, b, z, cs) => a_call nx a b z (cs.head?.elim 0 (fun q => q.2)) q L S
  | (30, _, a, b, _, _) => a_ret b a q S
  | _ => none
-- the most frequent ones first
noncomputable def ai3 (G : aG) (m : aM) (i : zX) (q : aQ) (L : aL) (S : List aV) : Option (List aOut) := cond (Nat.beq i.1 17) (a_icmp i.2.1 i.2.2.1 i.2.2.2.1 q L S) (cond (Nat.beq i.1 22) (a_ald G i.2.1 i.2.2.1 q L S) (cond (Nat.beq i.1 16) (a_if i.2.1 i.2.2.1 i.2.2.2.1 q L S) (aiR G m i q L S)))
noncomputable def ai2 (G : aG) (m : aM) (i : zX) (q : aQ) (L : aL) (S : List aV) : Option (List aOut) := cond (Nat.beq i.1 30) (a_ret i.2.2.2.1 i.2.2.1 q S) (cond (Nat.beq i.1 23) (a_ast G m i.2.1 i.2.2.1 q L S) (cond (Nat.beq i.1 1) (a_go i.2.1 L S q) (ai3 G m i q L S)))
noncomputable def ai1 (G : aG) (m : aM) (i : zX) (q : aQ) (L : aL) (S : List aV) : Option (List aOut) := cond (Nat.beq i.1 20) (a_getf G i.2.1 i.2.2.1 i.2.2.2.1 q L S) (cond (Nat.beq i.1 7) (a_bin32 i.2.1 i.2.2.2.1 q L S) (ai2 G m i q L S))
noncomputable def ai (G : aG) (m : aM) (i : zX) (q : aQ) (L : aL) (S : List aV) : Option (List aOut) := cond (Nat.beq i.1 2) (a_load i.2.1 i.2.2.1 i.2.2.2.1 q L S) (cond (Nat.beq i.1 0) (a_push i.2.1 L S q (i.2.2.1, 0, i.2.2.2.2.1)) (ai1 G m i q L S))
/-! the walk once more, without cond and Decidable (wip/z/genq.py); that it comes to the same -/
theorem a_cqx {α : Type} (b : Bool) (x y : α) : (Bool.rec (motive := fun _ => α) y x b) = cond b x y := by cases b <;> rfl
theorem a_aq (a b : Bool) : (Bool.rec (motive := fun _ => Bool) false b a) = (a && b) := by cases a <;> rfl
theorem a_oq (a b : Bool) : (Bool.rec (motive := fun _ => Bool) b true a) = (a || b) := by cases a <;> rfl
theorem a_nq (a : Bool) : (Bool.rec (motive := fun _ => Bool) true false a) = !a := by cases a <;> rfl
noncomputable def a_ltZ (a b : Int) : Bool := Bool.rec (motive := fun _ => Bool) true false (a_leZ b a)
theorem a_leZ_q (a b : Int) : a_leZ a b = @decide (a ≤ b) (a_decLe a b) := by
  cases e : a_leZ a b with
  | true => exact (@decide_eq_true _ (a_decLe a b) (a_leZ_true e)).symm
  | false => exact (@decide_eq_false _ (a_decLe a b) (a_leZ_false e)).symm
theorem a_eqZ_q (a b : Int) : a_eqZ a b = @decide (a = b) (a_decEqZ a b) := by
  cases e : a_eqZ a b with
  | true => exact (@decide_eq_true _ (a_decEqZ a b) (a_eqZ_true e)).symm
  | false => exact (@decide_eq_false _ (a_decEqZ a b) (fun c => by rw [c, a_eqZ_self] at e; cases e)).symm
theorem a_ltZ_q (a b : Int) : a_ltZ a b = @decide (a < b) (a_decLt a b) := by
  unfold a_ltZ
  cases e : a_leZ b a with
  | true => exact (@decide_eq_false _ (a_decLt a b) (fun c => absurd (a_leZ_true e) (Int.not_le.mpr c))).symm
  | false => exact (@decide_eq_true _ (a_decLt a b) (Int.not_le.mp (a_leZ_false e))).symm
noncomputable def aq_min (a b : Int) : Int := (Bool.rec (motive := fun _ => _) b a ((a_leZ (a) (b))))
theorem aq_min_e : @aq_min = @a_min := by
  delta aq_min
  simp only [a_leZ_q]
  try simp only [a_cqx]
  rfl
noncomputable def aq_max (a b : Int) : Int := (Bool.rec (motive := fun _ => _) a b ((a_leZ (a) (b))))
theorem aq_max_e : @aq_max = @a_max := by
  delta aq_max
  simp only [a_leZ_q]
  try simp only [a_cqx]
  rfl
noncomputable def aq_get (E : aB) (i : Nat) : Option (Int × Int) := List.rec (motive := fun _ => Option (Int × Int)) none (fun q _ ih => (Bool.rec (motive := fun _ => _) ih (some q.2) (Nat.beq q.1 i))) E
theorem aq_get_e : @aq_get = @a_get := by
  delta aq_get
  try simp only [a_cqx]
  rfl
noncomputable def aq_rngK {β : Type} (E : aB) (v : aV) (f : Int → Int → Option β) : Option β := Nat.rec (motive := fun _ => Option β) (f v.2.2 v.2.2) (fun i _ => match aq_get E i with
  | some q => x_kZ (q.1 + v.2.2) (fun lo => x_kZ (q.2 + v.2.2) (fun hi => f lo hi))
  | none => none) v.2.1
theorem aq_rngK_e : @aq_rngK = @a_rngK := by
  delta aq_rngK
  simp only [aq_get_e]
  rfl
noncomputable def aq_in (t : Nat) (lo hi : Int) : Bool := (Bool.rec (motive := fun _ => Bool) false ((a_leZ (hi) (a_hi t))) ((a_leZ (a_lo t) (lo))))
theorem aq_in_e : @aq_in = @a_in := by
  delta aq_in
  simp only [a_leZ_q, a_aq, a_oq, a_nq]
  rfl
noncomputable def aq_shiftK {β : Type} (t : Nat) (q : aQ) (x : aV) (c : Int) (f : aQ → aV → Option β) : Option β := aq_rngK q.2.1 x (fun lo hi => (Bool.rec (motive := fun _ => _) (a_anyK t q f) (x_kZ (x.2.2 + c) (fun o => f q (t, x.2.1, o))) (aq_in t (lo + c) (hi + c))))
theorem aq_shiftK_e : @aq_shiftK = @a_shiftK := by
  delta aq_shiftK
  simp only [aq_rngK_e, aq_in_e]
  try simp only [a_cqx]
  rfl
noncomputable def aq_addK {β : Type} (t : Nat) (q : aQ) (x y : aV) (f : aQ → aV → Option β) : Option β := (Bool.rec (motive := fun _ => _) ((Bool.rec (motive := fun _ => _) (aq_rngK q.2.1 x (fun lx hx => aq_rngK q.2.1 y (fun ly hy => (Bool.rec (motive := fun _ => _) (a_anyK t q f) (a_linK t (lx + ly) (hx + hy) q (a_tm 1 x ++ a_tm 1 y) (a_tm (-1) x ++ a_tm (-1) y) (x.2.2 + y.2.2) f) (aq_in t (lx + ly) (hx + hy)))))) (aq_shiftK t q y x.2.2 f) (a_isC x))) (aq_shiftK t q x y.2.2 f) (a_isC y))
theorem aq_addK_e : @aq_addK = @a_addK := by
  delta aq_addK
  simp only [aq_rngK_e, aq_in_e, aq_shiftK_e]
  try simp only [a_cqx]
  rfl
noncomputable def aq_subK {β : Type} (t : Nat) (q : aQ) (x y : aV) (f : aQ → aV → Option β) : Option β := (Bool.rec (motive := fun _ => _) ((Bool.rec (motive := fun _ => _) (aq_rngK q.2.1 x (fun lx hx => aq_rngK q.2.1 y (fun ly hy => (Bool.rec (motive := fun _ => _) (a_anyK t q f) (a_linK t (lx - hy) (hx - ly) q (a_tm 1 x ++ a_tm (-1) y) (a_tm (-1) x ++ a_tm 1 y) (x.2.2 - y.2.2) f) (aq_in t (lx - hy) (hx - ly)))))) (aq_shiftK t q (t, 0, x.2.2) (-y.2.2) f) (Nat.beq x.2.1 y.2.1))) (aq_shiftK t q x (-y.2.2) f) (a_isC y))
theorem aq_subK_e : @aq_subK = @a_subK := by
  delta aq_subK
  simp only [aq_rngK_e, aq_in_e, aq_shiftK_e]
  try simp only [a_cqx]
  rfl
noncomputable def aq_scaleK {β : Type} (t : Nat) (q : aQ) (x : aV) (c : Int) (f : aQ → aV → Option β) : Option β := (Bool.rec (motive := fun _ => _) (aq_rngK q.2.1 x (fun lo hi => (Bool.rec (motive := fun _ => _) (a_anyK t q f) (x_kZ (-c) (fun nc => a_linK t (lo * c) (hi * c) q (a_tm c x) (a_tm nc x) (c * x.2.2) f)) ((Bool.rec (motive := fun _ => Bool) false (aq_in t (lo * c) (hi * c)) ((a_leZ (0) (c)))))))) (x_kZ (x.2.2 * c) (fun w => f q (t, 0, w))) ((Bool.rec (motive := fun _ => Bool) false (aq_in t (x.2.2 * c) (x.2.2 * c)) (a_isC x))))
theorem aq_scaleK_e : @aq_scaleK = @a_scaleK := by
  delta aq_scaleK
  simp only [aq_rngK_e, aq_in_e, a_leZ_q, a_aq, a_oq, a_nq]
  try simp only [a_cqx]
  rfl
noncomputable def aq_mulK {β : Type} (t : Nat) (q : aQ) (x y : aV) (f : aQ → aV → Option β) : Option β := (Bool.rec (motive := fun _ => _) ((Bool.rec (motive := fun _ => _) (aq_rngK q.2.1 x (fun lx hx => aq_rngK q.2.1 y (fun ly hy => (Bool.rec (motive := fun _ => _) (a_anyK t q f) (a_newK t (lx * ly) (hx * hy) q f) ((Bool.rec (motive := fun _ => Bool) false (((Bool.rec (motive := fun _ => Bool) false (aq_in t 0 (hx * hy)) ((a_leZ (0) (ly)))))) ((a_leZ (0) (lx))))))))) (aq_scaleK t q y x.2.2 f) (a_isC x))) (aq_scaleK t q x y.2.2 f) (a_isC y))
theorem aq_mulK_e : @aq_mulK = @a_mulK := by
  delta aq_mulK
  simp only [aq_rngK_e, aq_in_e, aq_scaleK_e, a_leZ_q, a_aq, a_oq, a_nq]
  try simp only [a_cqx]
  rfl
noncomputable def aq_andK {β : Type} (t : Nat) (q : aQ) (x y : aV) (f : aQ → aV → Option β) : Option β := aq_rngK q.2.1 x (fun lx hx => aq_rngK q.2.1 y (fun ly hy => (Bool.rec (motive := fun _ => _) (a_anyK t q f) ((Bool.rec (motive := fun _ => _) ((Bool.rec (motive := fun _ => _) (a_anyK t q f) (a_newK t 0 hx q f) ((a_leZ (0) (lx))))) ((Bool.rec (motive := fun _ => _) (a_newK t 0 hy q f) ((Bool.rec (motive := fun _ => _) (a_newK t 0 (aq_min hx hy) q f) (x_kN (Nat.land lx.toNat ly.toNat) (fun w => f q (t, 0, Int.ofNat w))) ((Bool.rec (motive := fun _ => Bool) false ((a_eqZ (ly) (hy))) ((a_eqZ (lx) (hx))))))) ((a_leZ (0) (lx))))) ((a_leZ (0) (ly))))) ((Bool.rec (motive := fun _ => Bool) false (aq_in t ly hy) (aq_in t lx hx))))))
theorem aq_andK_e : @aq_andK = @a_andK := by
  delta aq_andK
  simp only [aq_min_e, aq_rngK_e, aq_in_e, a_leZ_q, a_eqZ_q, a_aq, a_oq, a_nq]
  try simp only [a_cqx]
  rfl
noncomputable def aq_shrK {β : Type} (q : aQ) (x y : aV) (f : aQ → aV → Option β) : Option β := aq_rngK q.2.1 x (fun lx hx => (Bool.rec (motive := fun _ => _) (a_anyK 0 q f) (a_newK 0 (lx / Int.ofNat (Nat.pow 2 y.2.2.toNat)) (hx / Int.ofNat (Nat.pow 2 y.2.2.toNat)) q f) ((Bool.rec (motive := fun _ => Bool) false (((Bool.rec (motive := fun _ => Bool) false (((Bool.rec (motive := fun _ => Bool) false (((Bool.rec (motive := fun _ => Bool) false (aq_in 0 lx hx) ((a_leZ (0) (lx)))))) ((a_ltZ (y.2.2) (32)))))) ((a_leZ (0) (y.2.2)))))) (a_isC y)))))
theorem aq_shrK_e : @aq_shrK = @a_shrK := by
  delta aq_shrK
  simp only [aq_rngK_e, aq_in_e, a_leZ_q, a_ltZ_q, a_aq, a_oq, a_nq]
  try simp only [a_cqx]
  rfl
noncomputable def aq_divK {β : Type} (t : Nat) (q : aQ) (x y : aV) (f : aQ → aV → Option β) : Option β := aq_rngK q.2.1 x (fun lx hx => aq_rngK q.2.1 y (fun ly hy => (Bool.rec (motive := fun _ => _) ((Bool.rec (motive := fun _ => _) none (a_anyK t q f) ((Bool.rec (motive := fun _ => Bool) ((a_leZ (hy) (-1))) true ((a_leZ (1) (ly))))))) (a_newK t (lx / hy) (hx / ly) q f) ((Bool.rec (motive := fun _ => Bool) false (((Bool.rec (motive := fun _ => Bool) false (((Bool.rec (motive := fun _ => Bool) false (aq_in t ly hy) (aq_in t lx hx)))) ((a_leZ (0) (lx)))))) ((a_leZ (1) (ly))))))))
theorem aq_divK_e : @aq_divK = @a_divK := by
  delta aq_divK
  simp only [aq_rngK_e, aq_in_e, a_leZ_q, a_aq, a_oq, a_nq]
  try simp only [a_cqx]
  rfl
noncomputable def aq_rem32K {β : Type} (q : aQ) (x y : aV) (f : aQ → aV → Option β) : Option β := aq_rngK q.2.1 x (fun lx hx => aq_rngK q.2.1 y (fun ly hy => (Bool.rec (motive := fun _ => _) ((Bool.rec (motive := fun _ => _) none (a_anyK 0 q f) ((Bool.rec (motive := fun _ => Bool) ((a_leZ (hy) (-1))) true ((a_leZ (1) (ly))))))) ((Bool.rec (motive := fun _ => _) (a_newK 0 (1 - hy) (hy - 1) q f) ((Bool.rec (motive := fun _ => _) (a_newK 0 0 (aq_min hx (hy - 1)) q f) (x_kZ (lx % ly) (fun w => f q (0, 0, w))) ((Bool.rec (motive := fun _ => Bool) false ((a_eqZ (ly) (hy))) ((a_eqZ (lx) (hx))))))) ((a_leZ (0) (lx))))) ((Bool.rec (motive := fun _ => Bool) false (((Bool.rec (motive := fun _ => Bool) false (aq_in 0 ly hy) (aq_in 0 lx hx)))) ((a_leZ (1) (ly))))))))
theorem aq_rem32K_e : @aq_rem32K = @a_rem32K := by
  delta aq_rem32K
  simp only [aq_min_e, aq_rngK_e, aq_in_e, a_leZ_q, a_eqZ_q, a_aq, a_oq, a_nq]
  try simp only [a_cqx]
  rfl
noncomputable def aq_rem64K {β : Type} (q : aQ) (x y : aV) (f : aQ → aV → Option β) : Option β := aq_rngK q.2.1 x (fun lx hx => aq_rngK q.2.1 y (fun ly hy => (Bool.rec (motive := fun _ => _) none ((Bool.rec (motive := fun _ => _) ((Bool.rec (motive := fun _ => _) none (x_spine (a_tm 1 y) (fun ty => x_kZ (-y.2.2 - 1) (fun b => a_newK 1 ((Bool.rec (motive := fun _ => _) (ly + 1) 0 ((a_leZ (0) (lx))))) ((Bool.rec (motive := fun _ => _) (-ly - 1) 0 ((a_leZ (hx) (0))))) q (fun q' v => f (a_fact (a_fact q' ((1, q.1) :: ty, b)) ((-1, q.1) :: ty, b)) v)))) ((a_leZ (hy) (-1))))) (x_spine (a_tm (-1) y) (fun ty => x_kZ (y.2.2 - 1) (fun b => a_newK 1 ((Bool.rec (motive := fun _ => _) (1 - hy) 0 ((a_leZ (0) (lx))))) ((Bool.rec (motive := fun _ => _) (hy - 1) 0 ((a_leZ (hx) (0))))) q (fun q' v => f (a_fact (a_fact q' ((1, q.1) :: ty, b)) ((-1, q.1) :: ty, b)) v)))) ((a_leZ (1) (ly))))) ((Bool.rec (motive := fun _ => Bool) false (aq_in 1 ly hy) (aq_in 1 lx hx))))))
theorem aq_rem64K_e : @aq_rem64K = @a_rem64K := by
  delta aq_rem64K
  simp only [aq_rngK_e, aq_in_e, a_leZ_q, a_aq, a_oq, a_nq]
  try simp only [a_cqx]
  rfl
noncomputable def aq_negK {β : Type} (t : Nat) (q : aQ) (x : aV) (f : aQ → aV → Option β) : Option β := aq_rngK q.2.1 x (fun lx hx => (Bool.rec (motive := fun _ => _) (a_anyK t q f) (a_newK t (-hx) (-lx) q f) (aq_in t (-hx) (-lx))))
theorem aq_negK_e : @aq_negK = @a_negK := by
  delta aq_negK
  simp only [aq_rngK_e, aq_in_e]
  try simp only [a_cqx]
  rfl
noncomputable def aq_cutK {β : Type} (lo hi : Int) (q : aQ) (x : aV) (f : aQ → aV → Option β) : Option β := aq_rngK q.2.1 x (fun lx hx => (Bool.rec (motive := fun _ => _) (a_newK 0 lo hi q f) (f q (0, x.2.1, x.2.2)) ((Bool.rec (motive := fun _ => Bool) false ((a_leZ (hx) (hi))) ((a_leZ (lo) (lx)))))))
theorem aq_cutK_e : @aq_cutK = @a_cutK := by
  delta aq_cutK
  simp only [aq_rngK_e, a_leZ_q, a_aq, a_oq, a_nq]
  try simp only [a_cqx]
  rfl
noncomputable def aq_nrmK {β : Type} (E : aB) (v : aV) (f : aV → Option β) : Option β := aq_rngK E v (fun lo hi => (Bool.rec (motive := fun _ => _) (x_kN v.2.1 (fun s => x_kZ v.2.2 (fun o => f (v.1, s, o)))) (f (v.1, 0, lo)) ((a_eqZ (lo) (hi)))))
theorem aq_nrmK_e : @aq_nrmK = @a_nrmK := by
  delta aq_nrmK
  simp only [aq_rngK_e, a_eqZ_q]
  try simp only [a_cqx]
  rfl
noncomputable def aq_ins (c : Int) (i : Nat) (l : List (Int × Nat)) : List (Int × Nat) := List.rec (motive := fun _ => List (Int × Nat)) [(c, i)] (fun p t ih => (Bool.rec (motive := fun _ => _) (p :: ih) ((Bool.rec (motive := fun _ => _) ((p.1 + c, i) :: t) t ((a_eqZ (p.1 + c) (0))))) (Nat.beq p.2 i))) l
theorem aq_ins_e : @aq_ins = @a_ins := by
  delta aq_ins
  simp only [a_eqZ_q]
  try simp only [a_cqx]
  rfl
noncomputable def aq_less (ts : List (Int × Nat)) (fs : List (Int × Nat)) : List (Int × Nat) := List.rec (motive := fun _ => List (Int × Nat)) ts (fun p _ ih => aq_ins (-p.1) p.2 ih) fs
theorem aq_less_e : @aq_less = @a_less := by
  delta aq_less
  simp only [aq_ins_e]
  rfl
noncomputable def aq_sup (E : aB) (ts : List (Int × Nat)) : Option Int := List.rec (motive := fun _ => Option Int) (some 0) (fun p _ ih => match aq_get E p.2 with
  | some q => match ih with
    | some s => some ((Bool.rec (motive := fun _ => _) (p.1 * q.1 + s) (p.1 * q.2 + s) ((a_leZ ((0 : Int)) (p.1)))) : Int)
    | none => none
  | none => none) ts
theorem aq_sup_e : @aq_sup = @a_sup := by
  delta aq_sup
  simp only [aq_get_e, a_leZ_q]
  try simp only [a_cqx]
  rfl
noncomputable def aq_hasT (ts : List (Int × Nat)) (fs : List (Int × Nat)) : Bool := List.rec (motive := fun _ => Bool) false (fun p _ ih => (Bool.rec (motive := fun _ => Bool) (ih) true (List.rec (motive := fun _ => Bool) false (fun r _ ih2 => (Bool.rec (motive := fun _ => Bool) (ih2) true (((Bool.rec (motive := fun _ => Bool) false ((a_eqZ (p.1) (r.1))) (Nat.beq p.2 r.2)))))) ts))) fs
theorem aq_hasT_e : @aq_hasT = @a_hasT := by
  delta aq_hasT
  simp only [a_eqZ_q, a_aq, a_oq, a_nq]
  rfl
noncomputable def aq_ent (E : aB) (Fs : List aF) (n : Nat) : List (Int × Nat) → Int → Bool := Nat.rec (motive := fun _ => List (Int × Nat) → Int → Bool) (fun ts b => match aq_sup E ts with
  | some s => (a_leZ (s) (b))
  | none => false) (fun _ ih ts b => (Bool.rec (motive := fun _ => Bool) (List.rec (motive := fun _ => Bool) false (fun x _ ih2 => (Bool.rec (motive := fun _ => Bool) (ih2) true (((Bool.rec (motive := fun _ => Bool) false (ih (aq_less ts x.1) (b - x.2)) (aq_hasT ts x.1)))))) Fs) true ((match aq_sup E ts with
  | some s => (a_leZ (s) (b))
  | none => false)))) n
theorem aq_ent_e : @aq_ent = @a_ent := by
  delta aq_ent
  simp only [aq_less_e, aq_sup_e, aq_hasT_e, a_leZ_q, a_aq, a_oq, a_nq]
  rfl
noncomputable def aq_leq (q : aQ) (x y : aV) (c : Int) : Bool := aq_ent q.2.1 q.2.2.1 3 (aq_less (a_tm 1 x) (a_tm 1 y)) (y.2.2 + c - x.2.2)
theorem aq_leq_e : @aq_leq = @a_leq := by
  delta aq_leq
  simp only [aq_less_e, aq_ent_e]
  rfl
noncomputable def aq_nhi {β : Type} (E : aB) (x : aV) (lx hx b : Int) (f : aB → Option β) : Option β := Nat.rec (motive := fun _ => Option β) (f E) (fun i _ => (Bool.rec (motive := fun _ => _) (f E) (x_kZ (lx - x.2.2) (fun l => x_kZ (b - x.2.2) (fun u => f ((i, l, u) :: E)))) ((a_ltZ (b) (hx))))) x.2.1
theorem aq_nhi_e : @aq_nhi = @a_nhi := by
  delta aq_nhi
  simp only [a_ltZ_q]
  try simp only [a_cqx]
  rfl
noncomputable def aq_nlo {β : Type} (E : aB) (x : aV) (lx hx b : Int) (f : aB → Option β) : Option β := Nat.rec (motive := fun _ => Option β) (f E) (fun i _ => (Bool.rec (motive := fun _ => _) (f E) (x_kZ (b - x.2.2) (fun l => x_kZ (hx - x.2.2) (fun u => f ((i, l, u) :: E)))) ((a_ltZ (lx) (b))))) x.2.1
theorem aq_nlo_e : @aq_nlo = @a_nlo := by
  delta aq_nlo
  simp only [a_ltZ_q]
  try simp only [a_cqx]
  rfl
noncomputable def aq_memF (j : Nat) (l : List Nat) : Bool := List.rec (motive := fun _ => Bool) false (fun a _ ih => (Bool.rec (motive := fun _ => Bool) (ih) true (Nat.beq a j))) l
theorem aq_memF_e : @aq_memF = @a_memF := by
  delta aq_memF
  simp only [a_aq, a_oq, a_nq]
  rfl
noncomputable def aq_leK {β : Type} (q : aQ) (x y : aV) (c : Int) (f : aQ → Option (List β)) : Option (List β) := (Bool.rec (motive := fun _ => _) ((Bool.rec (motive := fun _ => _) (aq_rngK q.2.1 x (fun lx hx => aq_rngK q.2.1 y (fun ly hy => (Bool.rec (motive := fun _ => _) (some []) (aq_nhi q.2.1 x lx hx (hy + c) (fun E => aq_nlo E y ly hy (lx - c) (fun E => (Bool.rec (motive := fun _ => _) (x_kZ (c + y.2.2 - x.2.2) (fun b => x_spine (a_tm 1 x ++ a_tm (-1) y) (fun ts => f (q.1, E, (ts, b) :: q.2.2.1, q.2.2.2)))) (f (q.1, E, q.2.2)) ((Bool.rec (motive := fun _ => Bool) (((Bool.rec (motive := fun _ => Bool) (Nat.beq x.2.1 y.2.1) true (a_isC y)))) true (a_isC x))))))) ((a_leZ (lx) (hy + c))))))) (some []) ((Bool.rec (motive := fun _ => Bool) false (aq_leq q y x (-c - 1)) (aq_memF 360 q.2.2.2.2))))) ((Bool.rec (motive := fun _ => _) (some []) (f q) ((a_leZ (x.2.2) (y.2.2 + c))))) (Nat.beq x.2.1 y.2.1))
theorem aq_leK_e : @aq_leK = @a_leK := by
  delta aq_leK
  simp only [aq_rngK_e, aq_leq_e, aq_nhi_e, aq_nlo_e, aq_memF_e, a_leZ_q, a_aq, a_oq, a_nq]
  try simp only [a_cqx]
  rfl
noncomputable def aq_neK {β : Type} (q : aQ) (x y : aV) (f : aQ → Option (List β)) : Option (List β) := (Bool.rec (motive := fun _ => _) ((Bool.rec (motive := fun _ => _) (aq_rngK q.2.1 x (fun lx hx => aq_rngK q.2.1 y (fun ly hy => (Bool.rec (motive := fun _ => _) ((Bool.rec (motive := fun _ => _) (f q) ((Bool.rec (motive := fun _ => _) ((Bool.rec (motive := fun _ => _) (f q) (aq_leK q y x (-1) f) ((a_eqZ (hy) (lx))))) (aq_leK q x y (-1) f) ((a_eqZ (ly) (lx))))) ((a_eqZ (lx) (hx))))) ((Bool.rec (motive := fun _ => _) ((Bool.rec (motive := fun _ => _) (f q) (aq_leK q x y (-1) f) ((a_eqZ (hx) (ly))))) (aq_leK q y x (-1) f) ((a_eqZ (lx) (ly))))) ((a_eqZ (ly) (hy))))))) ((Bool.rec (motive := fun _ => _) (a_app (aq_leK q x y (-1) f) (aq_leK q y x (-1) f)) (some []) ((Bool.rec (motive := fun _ => Bool) false (aq_leq q y x 0) (aq_leq q x y 0))))) (aq_memF 360 q.2.2.2.2))) ((Bool.rec (motive := fun _ => _) (f q) (some []) ((a_eqZ (x.2.2) (y.2.2))))) (Nat.beq x.2.1 y.2.1))
theorem aq_neK_e : @aq_neK = @a_neK := by
  delta aq_neK
  simp only [aq_rngK_e, aq_leq_e, aq_memF_e, aq_leK_e, a_eqZ_q, a_aq, a_oq, a_nq]
  try simp only [a_cqx]
  rfl
noncomputable def aq_br {β : Type} (b : Nat) (q : aQ) (x y : aV) (T F : aQ → Option (List β)) : Option (List β) := match b with
  | 0 => a_app (aq_leK q x y (-1) T) (aq_leK q y x 0 F)
  | 1 => a_app (aq_leK q y x (-1) T) (aq_leK q x y 0 F)
  | _ => a_app (aq_leK q x y 0 (fun q => aq_leK q y x 0 T)) (aq_neK q x y F)
theorem aq_br_e : @aq_br = @a_br := by
  delta aq_br
  simp only [aq_leK_e, aq_neK_e]
  rfl
noncomputable def aq_oget (O : aO) (r s : Nat) (o : Int) : Option aV := List.rec (motive := fun _ => Option aV) none (fun e _ ih => (Bool.rec (motive := fun _ => _) ih (some e.2) ((Bool.rec (motive := fun _ => Bool) false (((Bool.rec (motive := fun _ => Bool) false ((a_eqZ (e.1.2.2) (o))) (Nat.beq e.1.2.1 s)))) (Nat.beq e.1.1 r))))) O
theorem aq_oget_e : @aq_oget = @a_oget := by
  delta aq_oget
  simp only [a_eqZ_q, a_aq, a_oq, a_nq]
  try simp only [a_cqx]
  rfl
noncomputable def aq_join (a b : aT) : aT := (Bool.rec (motive := fun _ => _) (9, 0, 0, []) (a.1, aq_min a.2.1 b.2.1, aq_max a.2.2.1 b.2.2.1, a.2.2.2 ++ b.2.2.2) (Nat.beq a.1 b.1))
theorem aq_join_e : @aq_join = @a_join := by
  delta aq_join
  simp only [aq_min_e, aq_max_e]
  try simp only [a_cqx]
  rfl
noncomputable def aq_memI (z : Int) (l : List Int) : Bool := List.rec (motive := fun _ => Bool) false (fun a _ ih => (Bool.rec (motive := fun _ => Bool) (ih) true ((a_eqZ (a) (z))))) l
theorem aq_memI_e : @aq_memI = @a_memI := by
  delta aq_memI
  simp only [a_eqZ_q, a_aq, a_oq, a_nq]
  rfl
noncomputable def aq_acc (t : aT) (v : aV) (lo hi : Int) : Bool := match t.1 with
  | 0 => (Bool.rec (motive := fun _ => Bool) false (((Bool.rec (motive := fun _ => Bool) false ((a_leZ (hi) (t.2.2.1))) ((a_leZ (t.2.1) (lo)))))) (Nat.beq v.1 0))
  | 1 => (Bool.rec (motive := fun _ => Bool) false (((Bool.rec (motive := fun _ => Bool) false ((a_leZ (hi) (t.2.2.1))) ((a_leZ (t.2.1) (lo)))))) (Nat.beq v.1 1))
  | 2 => (Bool.rec (motive := fun _ => Bool) false (((Bool.rec (motive := fun _ => Bool) (((Bool.rec (motive := fun _ => Bool) false (((Bool.rec (motive := fun _ => Bool) false (aq_memI (-1) t.2.2.2) ((a_eqZ (lo) (0)))))) (Nat.beq v.1 4)))) true (((Bool.rec (motive := fun _ => Bool) false (((Bool.rec (motive := fun _ => Bool) false (aq_memI lo t.2.2.2) ((a_leZ (0) (lo)))))) (Nat.beq v.1 2))))))) ((a_eqZ (lo) (hi))))
  | _ => false
theorem aq_acc_e : @aq_acc = @a_acc := by
  delta aq_acc
  simp only [aq_memI_e, a_leZ_q, a_eqZ_q, a_aq, a_oq, a_nq]
  rfl
noncomputable def aq_uniN (lo hi : Nat) (l : List (Nat × aT)) : Nat → Option aT := List.rec (motive := fun _ => Nat → Option aT) (fun p => (Bool.rec (motive := fun _ => _) (some (9, 0, 0, [])) none (Nat.blt hi p))) (fun s _ ih p => x_kN (p + s.1) (fun p' => (Bool.rec (motive := fun _ => _) ((Bool.rec (motive := fun _ => _) (match ih p' with
  | some b => some (aq_join s.2 b)
  | none => some s.2) none (Nat.blt hi p))) (ih p') (Nat.ble p' lo)))) l
theorem aq_uniN_e : @aq_uniN = @a_uniN := by
  delta aq_uniN
  simp only [aq_join_e]
  try simp only [a_cqx]
  rfl
noncomputable def aq_joinO (a b : Option aT) : Option aT := match a with
  | some x => match b with
    | some y => some (aq_join x y)
    | none => some x
  | none => b
theorem aq_joinO_e : @aq_joinO = @a_joinO := by
  delta aq_joinO
  simp only [aq_join_e]
  rfl
noncomputable def aq_uniC (lo hi : Nat) (l : aTc) : Nat → Option aT := List.rec (motive := fun _ => Nat → Option aT) (fun p => (Bool.rec (motive := fun _ => _) (some (9, 0, 0, [])) none (Nat.blt hi p))) (fun s _ ih p => x_kN (p + s.1) (fun p' => (Bool.rec (motive := fun _ => _) ((Bool.rec (motive := fun _ => _) ((Bool.rec (motive := fun _ => _) (aq_joinO (x_kN (p' - 1) (fun u => aq_uniN lo u s.2 p)) (ih p')) (aq_uniN lo hi s.2 p) (Nat.blt hi p'))) none (Nat.blt hi p))) (ih p') (Nat.ble p' lo)))) l
theorem aq_uniC_e : @aq_uniC = @a_uniC := by
  delta aq_uniC
  simp only [aq_uniN_e, aq_joinO_e]
  try simp only [a_cqx]
  rfl
noncomputable def aq_uniF (lo hi : Int) (l : aTc) : Option aT := (Bool.rec (motive := fun _ => _) none (x_kN lo.toNat (fun lo => x_kN hi.toNat (fun hi => aq_uniC lo hi l 0))) ((Bool.rec (motive := fun _ => Bool) false ((a_leZ (0) (hi))) ((a_leZ (0) (lo))))))
theorem aq_uniF_e : @aq_uniF = @a_uniF := by
  delta aq_uniF
  simp only [aq_uniC_e, a_leZ_q, a_aq, a_oq, a_nq]
  try simp only [a_cqx]
  rfl
noncomputable def aq_accsN (lo hi : Nat) (v : aV) (vl vh : Int) (l : List (Nat × aT)) : Nat → Bool := List.rec (motive := fun _ => Nat → Bool) (fun _ => true) (fun s _ ih p => (Bool.rec (motive := fun _ => _) (a_bN (p + s.1) (fun p' => (Bool.rec (motive := fun _ => Bool) false (ih p') (((Bool.rec (motive := fun _ => Bool) (aq_acc s.2 v vl vh) true (Nat.ble p' lo))))))) true (Nat.blt hi p))) l
theorem aq_accsN_e : @aq_accsN = @a_accsN := by
  delta aq_accsN
  simp only [aq_acc_e, a_aq, a_oq, a_nq]
  try simp only [a_cqx]
  rfl
noncomputable def aq_accsC (lo hi : Nat) (v : aV) (vl vh : Int) (l : aTc) : Nat → Bool := List.rec (motive := fun _ => Nat → Bool) (fun _ => true) (fun s _ ih p => (Bool.rec (motive := fun _ => _) (a_bN (p + s.1) (fun p' => (Bool.rec (motive := fun _ => Bool) false (ih p') (((Bool.rec (motive := fun _ => Bool) (aq_accsN lo hi v vl vh s.2 p) true (Nat.ble p' lo))))))) true (Nat.blt hi p))) l
theorem aq_accsC_e : @aq_accsC = @a_accsC := by
  delta aq_accsC
  simp only [aq_accsN_e, a_aq, a_oq, a_nq]
  try simp only [a_cqx]
  rfl
noncomputable def aq_accsF (lo hi : Int) (v : aV) (vl vh : Int) (l : aTc) : Bool := cond ((a_leZ (0) (hi))) (cond ((a_leZ (0) (lo))) (a_bN lo.toNat (fun lo => a_bN hi.toNat (fun hi => aq_accsC lo hi v vl vh l 0))) false) true
theorem aq_accsF_e : @aq_accsF = @a_accsF := by
  delta aq_accsF
  simp only [aq_accsC_e, a_leZ_q]
  rfl
noncomputable def aq_mod (m : aM) (r : Nat) (lo hi : Int) : Bool := List.rec (motive := fun _ => Bool) false (fun q _ ih => (Bool.rec (motive := fun _ => Bool) (ih) true (((Bool.rec (motive := fun _ => Bool) false (((Bool.rec (motive := fun _ => Bool) false ((a_leZ (hi) (Int.ofNat q.2.2))) ((a_leZ (Int.ofNat q.2.1) (lo)))))) (Nat.beq q.1 r)))))) m
theorem aq_mod_e : @aq_mod = @a_mod := by
  delta aq_mod
  simp only [a_leZ_q, a_aq, a_oq, a_nq]
  rfl
noncomputable def aq_hits (m : aM) (r : Nat) (lo hi : Int) : Bool := List.rec (motive := fun _ => Bool) false (fun q _ ih => (Bool.rec (motive := fun _ => Bool) (ih) true (((Bool.rec (motive := fun _ => Bool) false (((Bool.rec (motive := fun _ => Bool) false ((a_leZ (Int.ofNat q.2.1) (hi))) ((a_leZ (lo) (Int.ofNat q.2.2)))))) (Nat.beq q.1 r)))))) m
theorem aq_hits_e : @aq_hits = @a_hits := by
  delta aq_hits
  simp only [a_leZ_q, a_aq, a_oq, a_nq]
  rfl
noncomputable def aq_flt {α : Type} (f : α → Bool) (l : List α) : List α := List.rec (motive := fun _ => List α) [] (fun a _ ih => (Bool.rec (motive := fun _ => _) ih (a :: ih) (f a))) l
theorem aq_flt_e : @aq_flt = @a_flt := by
  delta aq_flt
  try simp only [a_cqx]
  rfl
noncomputable def aq_fkeep (sup : List (List aM)) (r : Nat) (lo hi : Int) (j : Nat) : Bool := match a_at sup j with
  | some m => (Bool.rec (motive := fun _ => Bool) true false ((aq_hits m r lo hi)))
  | none => false
theorem aq_fkeep_e : @aq_fkeep = @a_fkeep := by
  delta aq_fkeep
  simp only [aq_hits_e, a_aq, a_oq, a_nq]
  rfl
noncomputable def aq_okeep (E : aB) (r s : Nat) (o lo hi : Int) (e : (Nat × Nat × Int) × aV) : Bool := (Bool.rec (motive := fun _ => Bool) (((Bool.rec (motive := fun _ => Bool) ((match aq_rngK E (0, e.1.2) (fun l h => some ((Bool.rec (motive := fun _ => Bool) ((a_ltZ (hi) (l))) true ((a_ltZ (h) (lo)))))) with
  | some b => b
  | none => false)) true (((Bool.rec (motive := fun _ => Bool) false ((Bool.rec (motive := fun _ => Bool) true false (((a_eqZ (e.1.2.2) (o)))))) (Nat.beq e.1.2.1 s))))))) true ((Bool.rec (motive := fun _ => Bool) true false ((Nat.beq e.1.1 r)))))
theorem aq_okeep_e : @aq_okeep = @a_okeep := by
  delta aq_okeep
  simp only [aq_rngK_e, a_ltZ_q, a_eqZ_q, a_aq, a_oq, a_nq]
  rfl
noncomputable def aq_okeepR (E : aB) (r : Nat) (lo hi : Int) (e : (Nat × Nat × Int) × aV) : Bool := (Bool.rec (motive := fun _ => Bool) ((match aq_rngK E (0, e.1.2) (fun l h => some ((Bool.rec (motive := fun _ => Bool) ((a_ltZ (hi) (l))) true ((a_ltZ (h) (lo)))))) with
  | some b => b
  | none => false)) true ((Bool.rec (motive := fun _ => Bool) true false ((Nat.beq e.1.1 r)))))
theorem aq_okeepR_e : @aq_okeepR = @a_okeepR := by
  delta aq_okeepR
  simp only [aq_rngK_e, a_ltZ_q, a_aq, a_oq, a_nq]
  rfl
noncomputable def aq_readK (t : aT) (q : aQ) (k : Nat × Nat × Int) (f : aQ → aV → Option (List aOut)) : Option (List aOut) := match t.1 with
  | 0 => a_newK 0 t.2.1 t.2.2.1 q (fun q v => f (a_addO q (k, v)) v)
  | 1 => a_newK 1 t.2.1 t.2.2.1 q (fun q v => f (a_addO q (k, v)) v)
  | 2 => List.rec (motive := fun _ => Option (List aOut)) (some []) (fun z _ ih => a_app ((Bool.rec (motive := fun _ => _) (f (a_addO q (k, (2, 0, z))) (2, 0, z)) (f (a_addO q (k, (4, 0, 0))) (4, 0, 0)) ((a_eqZ (z) (-1))))) ih) t.2.2.2
  | _ => none
theorem aq_readK_e : @aq_readK = @a_readK := by
  delta aq_readK
  simp only [a_eqZ_q]
  try simp only [a_cqx]
  rfl
noncomputable def aq_anyO (p : (Nat × Nat × Int) × aV → Bool) (O : aO) : Bool := List.rec (motive := fun _ => Bool) false (fun e _ ih => (Bool.rec (motive := fun _ => Bool) (ih) true (p e))) O
theorem aq_anyO_e : @aq_anyO = @a_anyO := by
  delta aq_anyO
  simp only [a_aq, a_oq, a_nq]
  rfl
noncomputable def aq_sameV (v w : aV) : Bool := (Bool.rec (motive := fun _ => Bool) false (((Bool.rec (motive := fun _ => Bool) false ((a_eqZ (v.2.2) (w.2.2))) (Nat.beq v.2.1 w.2.1)))) (Nat.beq v.1 w.1))
theorem aq_sameV_e : @aq_sameV = @a_sameV := by
  delta aq_sameV
  simp only [a_eqZ_q, a_aq, a_oq, a_nq]
  rfl
noncomputable def aq_soI (B : Nat) (lo hi : Int) : Bool := (Bool.rec (motive := fun _ => Bool) (((Bool.rec (motive := fun _ => Bool) false ((a_leZ (hi) (Int.ofNat (B + 262)))) ((a_leZ (Int.ofNat (B + 257)) (lo)))))) true (((Bool.rec (motive := fun _ => Bool) false ((a_leZ (hi) (Int.ofNat (B + 250)))) ((a_leZ (Int.ofNat (B + 245)) (lo)))))))
theorem aq_soI_e : @aq_soI = @a_soI := by
  delta aq_soI
  simp only [a_leZ_q, a_aq, a_oq, a_nq]
  rfl
noncomputable def aq_soA (q : aQ) (B : Nat) (vh : Int) : Bool := match aq_oget q.2.2.2.1 126 0 (Int.ofNat B), aq_oget q.2.2.2.1 126 0 (Int.ofNat (B + 1)) with
  | some c, some d => (match aq_rngK q.2.1 c (fun cl _ => aq_rngK q.2.1 d (fun dl _ => some ((Bool.rec (motive := fun _ => Bool) false (((Bool.rec (motive := fun _ => Bool) false ((a_ltZ (vh) (cl * dl))) ((a_leZ (0) (dl)))))) ((a_leZ (0) (cl))))))) with
    | some b => b
    | none => false)
  | _, _ => false
theorem aq_soA_e : @aq_soA = @a_soA := by
  delta aq_soA
  simp only [aq_rngK_e, aq_oget_e, a_leZ_q, a_ltZ_q, a_aq, a_oq, a_nq]
  rfl
noncomputable def aq_soB (q : aQ) (B : Nat) (v : aV) : Bool := aq_anyO (fun e => (Bool.rec (motive := fun _ => Bool) false (((Bool.rec (motive := fun _ => Bool) false ((match aq_rngK q.2.1 (0, e.1.2) (fun l h => some (aq_soI B l h)) with
  | some b => b
  | none => false)) (aq_sameV e.2 v)))) (Nat.beq e.1.1 126))) q.2.2.2.1
theorem aq_soB_e : @aq_soB = @a_soB := by
  delta aq_soB
  simp only [aq_rngK_e, aq_anyO_e, aq_sameV_e, aq_soI_e, a_aq, a_oq, a_nq]
  rfl
noncomputable def aq_soC (q : aQ) (B : Nat) (v : aV) : Bool := (Bool.rec (motive := fun _ => Bool) false (((Bool.rec (motive := fun _ => Bool) false ((match aq_oget q.2.2.2.1 121 0 31 with
  | some w => aq_anyO (fun e => (Bool.rec (motive := fun _ => Bool) false (((Bool.rec (motive := fun _ => Bool) false (((Bool.rec (motive := fun _ => Bool) false (aq_leq q (0, e.1.2) w (-1)) ((match aq_rngK q.2.1 (0, e.1.2) (fun _ h => some ((a_ltZ (h) (49)))) with
    | some b => b
    | none => false))))) (aq_sameV e.2 v)))) (Nat.beq e.1.1 132))) q.2.2.2.1
  | none => false)) (aq_memF 351 q.2.2.2.2)))) (Nat.beq B 0))
theorem aq_soC_e : @aq_soC = @a_soC := by
  delta aq_soC
  simp only [aq_rngK_e, aq_leq_e, aq_memF_e, aq_oget_e, aq_anyO_e, aq_sameV_e, a_ltZ_q, a_aq, a_oq, a_nq]
  rfl
noncomputable def aq_soft (q : aQ) (r : Nat) (lo hi : Int) (v : aV) (vh : Int) (j : Nat) : Bool := (Bool.rec (motive := fun _ => Bool) false (((Bool.rec (motive := fun _ => Bool) false (((Bool.rec (motive := fun _ => Bool) false (((Bool.rec (motive := fun _ => Bool) false (a_bN (550 * (j - 345)) (fun B => (Bool.rec (motive := fun _ => Bool) false (((Bool.rec (motive := fun _ => Bool) (((Bool.rec (motive := fun _ => Bool) (aq_soC q B v) true (aq_soB q B v)))) true (aq_soA q B vh)))) (aq_soI B lo hi)))) (Nat.beq v.1 0)))) (Nat.beq r 126)))) (Nat.blt j 350)))) (Nat.blt 344 j))
theorem aq_soft_e : @aq_soft = @a_soft := by
  delta aq_soft
  simp only [aq_soI_e, aq_soA_e, aq_soB_e, aq_soC_e, a_aq, a_oq, a_nq]
  rfl
noncomputable def aq_wrK {β : Type} (G : aG) (m : aM) (q : aQ) (r s : Nat) (o lo hi : Int) (v : aV) (l : aTc) (f : aQ → Option β) : Option β := aq_rngK q.2.1 v (fun vl vh => (Bool.rec (motive := fun _ => _) none (x_spine (aq_flt (aq_okeep q.2.1 r s o lo hi) q.2.2.2.1) (fun O => x_spine (aq_flt (fun j => (Bool.rec (motive := fun _ => Bool) (aq_soft q r lo hi v vh j) true (aq_fkeep G.2.1 r lo hi j))) q.2.2.2.2) (fun fl => f (q.1, q.2.1, q.2.2.1, ((r, s, o), v) :: O, fl)))) ((Bool.rec (motive := fun _ => Bool) false (aq_mod m r lo hi) (aq_accsF lo hi v vl vh l)))))
theorem aq_wrK_e : @aq_wrK = @a_wrK := by
  delta aq_wrK
  simp only [aq_rngK_e, aq_accsF_e, aq_mod_e, aq_flt_e, aq_fkeep_e, aq_okeep_e, aq_soft_e, a_aq, a_oq, a_nq]
  try simp only [a_cqx]
  rfl
noncomputable def aq_lget (L : aL) (i : Nat) : Option aV := List.rec (motive := fun _ => Option aV) none (fun q _ ih => (Bool.rec (motive := fun _ => _) ih (some q.2) (Nat.beq q.1 i))) L
theorem aq_lget_e : @aq_lget = @a_lget := by
  delta aq_lget
  try simp only [a_cqx]
  rfl
noncomputable def aq_kind (v : aV) : Nat := (Bool.rec (motive := fun _ => _) v.1 2 (Nat.beq v.1 3))
theorem aq_kind_e : @aq_kind = @a_kind := by
  delta aq_kind
  try simp only [a_cqx]
  rfl
noncomputable def aq_keep1 (i : Nat) (q : Nat × aV) : Bool := (Bool.rec (motive := fun _ => Bool) false ((Bool.rec (motive := fun _ => Bool) true false (((Bool.rec (motive := fun _ => Bool) false (Nat.beq q.2.1 1) (Nat.beq (q.1 + 1) i)))))) ((Bool.rec (motive := fun _ => Bool) true false ((Nat.beq q.1 i)))))
theorem aq_keep1_e : @aq_keep1 = @a_keep1 := by
  delta aq_keep1
  simp only [a_aq, a_oq, a_nq]
  rfl
noncomputable def aq_keep2 (i : Nat) (q : Nat × aV) : Bool := (Bool.rec (motive := fun _ => Bool) false (((Bool.rec (motive := fun _ => Bool) false ((Bool.rec (motive := fun _ => Bool) true false (((Bool.rec (motive := fun _ => Bool) false (Nat.beq q.2.1 1) (Nat.beq (q.1 + 1) i)))))) ((Bool.rec (motive := fun _ => Bool) true false ((Nat.beq q.1 (i + 1)))))))) ((Bool.rec (motive := fun _ => Bool) true false ((Nat.beq q.1 i)))))
theorem aq_keep2_e : @aq_keep2 = @a_keep2 := by
  delta aq_keep2
  simp only [a_aq, a_oq, a_nq]
  rfl
noncomputable def aq_cat (v : aV) : Nat := (Bool.rec (motive := fun _ => _) 1 2 (Nat.beq v.1 1))
theorem aq_cat_e : @aq_cat = @a_cat := by
  delta aq_cat
  try simp only [a_cqx]
  rfl
noncomputable def aq_sum (l : List aV) : Nat := List.rec (motive := fun _ => Nat) 0 (fun v _ ih => aq_cat v + ih) l
theorem aq_sum_e : @aq_sum = @a_sum := by
  delta aq_sum
  simp only [aq_cat_e]
  rfl
noncomputable def aq_load (nx i t : Nat) (q : aQ) (L : aL) (S : List aV) : Option (List aOut) := match aq_lget L i with
  | some v => (Bool.rec (motive := fun _ => _) none (aq_nrmK q.2.1 v (a_push nx L S q)) (Nat.beq (aq_kind v) t))
  | none => none
theorem aq_load_e : @aq_load = @a_load := by
  delta aq_load
  simp only [aq_nrmK_e, aq_lget_e, aq_kind_e]
  try simp only [a_cqx]
  rfl
noncomputable def aq_st1 (nx i : Nat) (v : aV) (q : aQ) (L : aL) (S : List aV) : Option (List aOut) := x_spine (aq_flt (aq_keep1 i) L) (fun L => some [.inr (.inl (nx, q, (i, v) :: L, S))])
theorem aq_st1_e : @aq_st1 = @a_st1 := by
  delta aq_st1
  simp only [aq_flt_e, aq_keep1_e]
  rfl
noncomputable def aq_store1 (nx i t : Nat) (q : aQ) (L : aL) (S : List aV) : Option (List aOut) := match S with
  | v :: S => (Bool.rec (motive := fun _ => _) none (aq_st1 nx i v q L S) ((Bool.rec (motive := fun _ => Bool) false ((Bool.rec (motive := fun _ => Bool) true false ((Nat.beq t 1)))) (Nat.beq (aq_kind v) t))))
  | _ => none
theorem aq_store1_e : @aq_store1 = @a_store1 := by
  delta aq_store1
  simp only [aq_kind_e, aq_st1_e, a_aq, a_oq, a_nq]
  try simp only [a_cqx]
  rfl
noncomputable def aq_store2 (nx i : Nat) (q : aQ) (L : aL) (S : List aV) : Option (List aOut) := match S with
  | v :: S => (Bool.rec (motive := fun _ => _) none (x_spine (aq_flt (aq_keep2 i) L) (fun L => some [.inr (.inl (nx, q, (i, v) :: L, S))])) (Nat.beq v.1 1))
  | _ => none
theorem aq_store2_e : @aq_store2 = @a_store2 := by
  delta aq_store2
  simp only [aq_flt_e, aq_keep2_e]
  try simp only [a_cqx]
  rfl
noncomputable def aq_iinc (nx i : Nat) (z : Int) (q : aQ) (L : aL) (S : List aV) : Option (List aOut) := match aq_lget L i with
  | some v => (Bool.rec (motive := fun _ => _) none (aq_shiftK 0 q v z (fun q v => aq_st1 nx i v q L S)) (Nat.beq v.1 0))
  | _ => none
theorem aq_iinc_e : @aq_iinc = @a_iinc := by
  delta aq_iinc
  simp only [aq_shiftK_e, aq_lget_e, aq_st1_e]
  try simp only [a_cqx]
  rfl
noncomputable def aq_two (t : Nat) (S : List aV) (f : aV → aV → List aV → Option (List aOut)) : Option (List aOut) := match S with
  | y :: x :: S => (Bool.rec (motive := fun _ => _) none (f x y S) ((Bool.rec (motive := fun _ => Bool) false (Nat.beq x.1 t) (Nat.beq y.1 t))))
  | _ => none
theorem aq_two_e : @aq_two = @a_two := by
  delta aq_two
  simp only [a_aq, a_oq, a_nq]
  try simp only [a_cqx]
  rfl
noncomputable def aq_one (t : Nat) (S : List aV) (f : aV → List aV → Option (List aOut)) : Option (List aOut) := match S with
  | x :: S => (Bool.rec (motive := fun _ => _) none (f x S) (Nat.beq x.1 t))
  | _ => none
theorem aq_one_e : @aq_one = @a_one := by
  delta aq_one
  try simp only [a_cqx]
  rfl
noncomputable def aq_un32 (nx b : Nat) (q : aQ) (L : aL) (S : List aV) : Option (List aOut) := aq_one 0 S (fun x S => match b with
  | 0 => aq_negK 0 q x (a_push nx L S)
  | 1 => aq_cutK (-128) 127 q x (a_push nx L S)
  | _ => aq_cutK (-32768) 32767 q x (a_push nx L S))
theorem aq_un32_e : @aq_un32 = @a_un32 := by
  delta aq_un32
  simp only [aq_negK_e, aq_cutK_e, aq_one_e]
  rfl
noncomputable def aq_bin32 (nx b : Nat) (q : aQ) (L : aL) (S : List aV) : Option (List aOut) := aq_two 0 S (fun x y S => match b with
  | 0 => aq_addK 0 q x y (a_push nx L S)
  | 1 => aq_subK 0 q x y (a_push nx L S)
  | 2 => aq_mulK 0 q x y (a_push nx L S)
  | 3 => aq_andK 0 q x y (a_push nx L S)
  | 7 => aq_shrK q x y (a_push nx L S)
  | _ => a_anyK 0 q (a_push nx L S))
theorem aq_bin32_e : @aq_bin32 = @a_bin32 := by
  delta aq_bin32
  simp only [aq_addK_e, aq_subK_e, aq_mulK_e, aq_andK_e, aq_shrK_e, aq_two_e]
  rfl
noncomputable def aq_div32 (nx b : Nat) (q : aQ) (L : aL) (S : List aV) : Option (List aOut) := aq_two 0 S (fun x y S => match b with
  | 0 => aq_divK 0 q x y (a_push nx L S)
  | _ => aq_rem32K q x y (a_push nx L S))
theorem aq_div32_e : @aq_div32 = @a_div32 := by
  delta aq_div32
  simp only [aq_divK_e, aq_rem32K_e, aq_two_e]
  rfl
noncomputable def aq_neg64 (nx : Nat) (q : aQ) (L : aL) (S : List aV) : Option (List aOut) := aq_one 1 S (fun x S => aq_negK 1 q x (a_push nx L S))
theorem aq_neg64_e : @aq_neg64 = @a_neg64 := by
  delta aq_neg64
  simp only [aq_negK_e, aq_one_e]
  rfl
noncomputable def aq_bin64 (nx b : Nat) (q : aQ) (L : aL) (S : List aV) : Option (List aOut) := aq_two 1 S (fun x y S => match b with
  | 0 => aq_addK 1 q x y (a_push nx L S)
  | 1 => aq_subK 1 q x y (a_push nx L S)
  | 2 => aq_mulK 1 q x y (a_push nx L S)
  | 3 => aq_andK 1 q x y (a_push nx L S)
  | _ => a_anyK 1 q (a_push nx L S))
theorem aq_bin64_e : @aq_bin64 = @a_bin64 := by
  delta aq_bin64
  simp only [aq_addK_e, aq_subK_e, aq_mulK_e, aq_andK_e, aq_two_e]
  rfl
noncomputable def aq_div64 (nx b : Nat) (q : aQ) (L : aL) (S : List aV) : Option (List aOut) := aq_two 1 S (fun x y S => match b with
  | 0 => aq_divK 1 q x y (a_push nx L S)
  | _ => aq_rem64K q x y (a_push nx L S))
theorem aq_div64_e : @aq_div64 = @a_div64 := by
  delta aq_div64
  simp only [aq_divK_e, aq_rem64K_e, aq_two_e]
  rfl
noncomputable def aq_sh64 (nx : Nat) (q : aQ) (L : aL) (S : List aV) : Option (List aOut) := match S with
  | y :: x :: S => (Bool.rec (motive := fun _ => _) none (a_anyK 1 q (a_push nx L S)) ((Bool.rec (motive := fun _ => Bool) false (Nat.beq x.1 1) (Nat.beq y.1 0))))
  | _ => none
theorem aq_sh64_e : @aq_sh64 = @a_sh64 := by
  delta aq_sh64
  simp only [a_aq, a_oq, a_nq]
  try simp only [a_cqx]
  rfl
noncomputable def aq_i2l (nx : Nat) (q : aQ) (L : aL) (S : List aV) : Option (List aOut) := aq_one 0 S (fun x S => a_push nx L S q (1, x.2))
theorem aq_i2l_e : @aq_i2l = @a_i2l := by
  delta aq_i2l
  simp only [aq_one_e]
  rfl
noncomputable def aq_l2i (nx : Nat) (q : aQ) (L : aL) (S : List aV) : Option (List aOut) := aq_one 1 S (fun x S => aq_rngK q.2.1 x (fun lo hi => (Bool.rec (motive := fun _ => _) (a_anyK 0 q (a_push nx L S)) (a_push nx L S q (0, x.2)) (aq_in 0 lo hi))))
theorem aq_l2i_e : @aq_l2i = @a_l2i := by
  delta aq_l2i
  simp only [aq_rngK_e, aq_in_e, aq_one_e]
  try simp only [a_cqx]
  rfl
noncomputable def aq_stk (nx b : Nat) (q : aQ) (L : aL) (S : List aV) : Option (List aOut) := match S with
  | v :: S => match b with
    | 0 => (Bool.rec (motive := fun _ => _) none (some [.inr (.inl (nx, q, L, S))]) (Nat.beq (aq_cat v) 1))
    | 1 => (Bool.rec (motive := fun _ => _) none (some [.inr (.inl (nx, q, L, S))]) (Nat.beq (aq_cat v) 2))
    | 2 => (Bool.rec (motive := fun _ => _) none (some [.inr (.inl (nx, q, L, v :: v :: S))]) (Nat.beq (aq_cat v) 1))
    | 3 => match S with
      | w :: S => (Bool.rec (motive := fun _ => _) none (some [.inr (.inl (nx, q, L, v :: w :: v :: w :: S))]) ((Bool.rec (motive := fun _ => Bool) false (Nat.beq (aq_cat w) 1) (Nat.beq (aq_cat v) 1))))
      | [] => none
    | 4 => (Bool.rec (motive := fun _ => _) none (some [.inr (.inl (nx, q, L, v :: v :: S))]) (Nat.beq (aq_cat v) 2))
    | _ => none
  | [] => none
theorem aq_stk_e : @aq_stk = @a_stk := by
  delta aq_stk
  simp only [aq_cat_e, a_aq, a_oq, a_nq]
  try simp only [a_cqx]
  rfl
noncomputable def aq_if (nx a b : Nat) (q : aQ) (L : aL) (S : List aV) : Option (List aOut) := aq_one 0 S (fun x S => aq_br b q x (0, 0, 0) (a_go a L S) (a_go nx L S))
theorem aq_if_e : @aq_if = @a_if := by
  delta aq_if
  simp only [aq_br_e, aq_one_e]
  rfl
noncomputable def aq_icmp (nx a b : Nat) (q : aQ) (L : aL) (S : List aV) : Option (List aOut) := aq_two 0 S (fun x y S => aq_br b q x y (a_go a L S) (a_go nx L S))
theorem aq_icmp_e : @aq_icmp = @a_icmp := by
  delta aq_icmp
  simp only [aq_br_e, aq_two_e]
  rfl
noncomputable def aq_lcmp (nx : Nat) (q : aQ) (L : aL) (S : List aV) : Option (List aOut) := aq_two 1 S (fun x y S => aq_br 0 q x y (a_go nx L ((0, 0, -1) :: S)) (fun q => aq_br 1 q x y (a_go nx L ((0, 0, 1) :: S)) (a_go nx L ((0, 0, 0) :: S))))
theorem aq_lcmp_e : @aq_lcmp = @a_lcmp := by
  delta aq_lcmp
  simp only [aq_br_e, aq_two_e]
  rfl
noncomputable def aq_swR (nx : Nat) (L : aL) (S : List aV) (x : aV) (cs : List (Int × Nat)) : aQ → Option (List aOut) := List.rec (motive := fun _ => aQ → Option (List aOut)) (fun q => a_go nx L S q) (fun c _ ih q => aq_br 0 q x (0, 0, c.1) ih (fun q => aq_br 1 q x (0, 0, c.1) ih (fun q => a_go c.2 L S q))) cs
theorem aq_swR_e : @aq_swR = @a_swR := by
  delta aq_swR
  simp only [aq_br_e]
  rfl
noncomputable def aq_sw (nx : Nat) (cs : List (Int × Nat)) (q : aQ) (L : aL) (S : List aV) : Option (List aOut) := aq_one 0 S (fun x S => aq_swR nx L S x cs q)
theorem aq_sw_e : @aq_sw = @a_sw := by
  delta aq_sw
  simp only [aq_one_e, aq_swR_e]
  rfl
noncomputable def aq_getf (G : aG) (nx ci k : Nat) (q : aQ) (L : aL) (S : List aV) : Option (List aOut) := aq_one 2 S (fun x S => (Bool.rec (motive := fun _ => _) none (match aq_oget q.2.2.2.1 x.2.2.toNat 0 (Int.ofNat k) with
  | some v => aq_nrmK q.2.1 v (a_push nx L S q)
  | none => match a_at G.1 x.2.2.toNat with
    | some l => match aq_uniF (Int.ofNat k) (Int.ofNat k) l with
      | some t => x_kN x.2.2.toNat (fun r => aq_readK t q (r, 0, Int.ofNat k) (a_push nx L S))
      | none => none
    | none => none) ((Bool.rec (motive := fun _ => Bool) false (((Bool.rec (motive := fun _ => Bool) false (a_isO ci x.2.2) ((a_leZ (0) (x.2.2)))))) (a_isC x)))))
theorem aq_getf_e : @aq_getf = @a_getf := by
  delta aq_getf
  simp only [aq_nrmK_e, aq_oget_e, aq_uniF_e, aq_readK_e, aq_one_e, a_leZ_q, a_aq, a_oq, a_nq]
  try simp only [a_cqx]
  rfl
noncomputable def aq_fitc (c : Nat) (v : aV) (lo hi : Int) : Bool := match c with
  | 0 => Nat.beq v.1 0
  | 1 => Nat.beq v.1 1
  | 2 => (Bool.rec (motive := fun _ => Bool) false (((Bool.rec (motive := fun _ => Bool) false ((a_leZ (hi) (127))) ((a_leZ (-128) (lo)))))) (Nat.beq v.1 0))
  | 3 => (Bool.rec (motive := fun _ => Bool) false (((Bool.rec (motive := fun _ => Bool) false ((a_leZ (hi) (1))) ((a_leZ (0) (lo)))))) (Nat.beq v.1 0))
  | 4 => Nat.beq (aq_kind v) 2
  | _ => false
theorem aq_fitc_e : @aq_fitc = @a_fitc := by
  delta aq_fitc
  simp only [aq_kind_e, a_leZ_q, a_aq, a_oq, a_nq]
  rfl
noncomputable def aq_putf (G : aG) (m : aM) (nx ci k : Nat) (c : Int) (q : aQ) (L : aL) (S : List aV) : Option (List aOut) := match S with
  | v :: x :: S => (Bool.rec (motive := fun _ => _) none (aq_rngK q.2.1 v (fun lo hi => (Bool.rec (motive := fun _ => _) none (match a_at G.1 x.2.2.toNat with
    | some l => x_kN x.2.2.toNat (fun r => aq_wrK G m q r 0 (Int.ofNat k) (Int.ofNat k) (Int.ofNat k) v l (a_go nx L S))
    | none => none) (aq_fitc c.toNat v lo hi)))) ((Bool.rec (motive := fun _ => Bool) false (((Bool.rec (motive := fun _ => Bool) false (((Bool.rec (motive := fun _ => Bool) false (a_isO ci x.2.2) ((a_leZ (0) (x.2.2)))))) (a_isC x)))) (Nat.beq x.1 2))))
  | _ => none
theorem aq_putf_e : @aq_putf = @a_putf := by
  delta aq_putf
  simp only [aq_rngK_e, aq_wrK_e, aq_fitc_e, a_leZ_q, a_aq, a_oq, a_nq]
  try simp only [a_cqx]
  rfl
noncomputable def aq_arr (c : Nat) (r lo hi : Int) : Bool := match a_shp r.toNat with
  | some (.inl q) => (Bool.rec (motive := fun _ => Bool) false (((Bool.rec (motive := fun _ => Bool) false ((a_ltZ (hi) (Int.ofNat q.2))) ((a_leZ (0) (lo)))))) (Nat.beq (zcode q.1) c))
  | _ => false
theorem aq_arr_e : @aq_arr = @a_arr := by
  delta aq_arr
  simp only [a_leZ_q, a_ltZ_q, a_aq, a_oq, a_nq]
  rfl
noncomputable def aq_idxK {β : Type} (i : aV) (lo hi : Int) (f : Nat → Int → Option β) : Option β := (Bool.rec (motive := fun _ => _) (x_kN i.2.1 (fun s => x_kZ i.2.2 (fun o => f s o))) (f 0 lo) ((a_eqZ (lo) (hi))))
theorem aq_idxK_e : @aq_idxK = @a_idxK := by
  delta aq_idxK
  simp only [a_eqZ_q]
  try simp only [a_cqx]
  rfl
noncomputable def aq_minL (l : List Int) : Option (Int × Int) := List.rec (motive := fun _ => Option (Int × Int)) none (fun a _ ih => match ih with
  | some q => some (aq_min a q.1, aq_max a q.2)
  | none => some (a, a)) l
theorem aq_minL_e : @aq_minL = @a_minL := by
  delta aq_minL
  simp only [aq_min_e, aq_max_e]
  rfl
noncomputable def aq_ald (G : aG) (nx c : Nat) (q : aQ) (L : aL) (S : List aV) : Option (List aOut) := match S with
  | i :: x :: S => (Bool.rec (motive := fun _ => _) none ((Bool.rec (motive := fun _ => _) ((Bool.rec (motive := fun _ => _) none ((Bool.rec (motive := fun _ => _) ((Bool.rec (motive := fun _ => _) none (aq_rngK q.2.1 i (fun lo hi => (Bool.rec (motive := fun _ => _) none ((Bool.rec (motive := fun _ => _) (match aq_minL (zTx x.2.2.toNat) with
        | some w => a_newK 0 w.1 w.2 q (a_push nx L S)
        | none => none) (x_kZ ((zTx x.2.2.toNat).getD lo.toNat 0) (fun z => a_push nx L S q (0, 0, z))) ((a_eqZ (lo) (hi))))) ((Bool.rec (motive := fun _ => Bool) false ((a_ltZ (hi) (Int.ofNat (zTx x.2.2.toNat).length))) ((a_leZ (0) (lo)))))))) ((Bool.rec (motive := fun _ => Bool) false ((a_ltZ (x.2.2) (3))) ((a_ltZ (0) (x.2.2))))))) ((Bool.rec (motive := fun _ => _) none (x_kN i.2.1 (fun s => x_kZ i.2.2 (fun o => match aq_oget q.2.2.2.1 1000 s o with
      | some v => aq_nrmK q.2.1 v (a_push nx L S q)
      | none => a_anyK 0 q (fun q v => a_push nx L S (a_addO q ((1000, s, o), v)) v)))) ((Bool.rec (motive := fun _ => Bool) false (((Bool.rec (motive := fun _ => Bool) false (aq_leq q i (0, 1, 0) (-1)) (aq_leq q (0, 0, 0) i 0)))) (G.2.2))))) ((a_eqZ (x.2.2) (0))))) ((Bool.rec (motive := fun _ => Bool) false (Nat.beq c 0) (Nat.beq x.1 3))))) (aq_rngK q.2.1 i (fun lo hi => (Bool.rec (motive := fun _ => _) none (aq_idxK i lo hi (fun s o => match aq_oget q.2.2.2.1 x.2.2.toNat s o with
      | some v => aq_nrmK q.2.1 v (a_push nx L S q)
      | none => match a_at G.1 x.2.2.toNat with
        | some l => match aq_uniF lo hi l with
          | some t => x_kN x.2.2.toNat (fun r => aq_readK t q (r, s, o) (a_push nx L S))
          | none => none
        | none => none)) ((Bool.rec (motive := fun _ => Bool) false (aq_arr c x.2.2 lo hi) ((a_leZ (0) (x.2.2)))))))) (Nat.beq x.1 2))) ((Bool.rec (motive := fun _ => Bool) false (a_isC x) (Nat.beq i.1 0))))
  | _ => none
theorem aq_ald_e : @aq_ald = @a_ald := by
  delta aq_ald
  simp only [aq_rngK_e, aq_nrmK_e, aq_leq_e, aq_oget_e, aq_uniF_e, aq_readK_e, aq_arr_e, aq_idxK_e, aq_minL_e, a_leZ_q, a_ltZ_q, a_eqZ_q, a_aq, a_oq, a_nq]
  try simp only [a_cqx]
  rfl
noncomputable def aq_ast (G : aG) (m : aM) (nx c : Nat) (q : aQ) (L : aL) (S : List aV) : Option (List aOut) := match S with
  | v :: i :: x :: S => (Bool.rec (motive := fun _ => _) none (aq_rngK q.2.1 i (fun lo hi => aq_rngK q.2.1 v (fun vl vh => (Bool.rec (motive := fun _ => _) none (match a_at G.1 x.2.2.toNat with
      | some l => aq_idxK i lo hi (fun s o => x_kN x.2.2.toNat (fun r => aq_wrK G m q r s o lo hi v l (a_go nx L S)))
      | none => none) ((Bool.rec (motive := fun _ => Bool) false (aq_fitc c v vl vh) (aq_arr c x.2.2 lo hi))))))) ((Bool.rec (motive := fun _ => Bool) false (((Bool.rec (motive := fun _ => Bool) false (((Bool.rec (motive := fun _ => Bool) false (((Bool.rec (motive := fun _ => Bool) false (Nat.blt c 4) ((a_leZ (0) (x.2.2)))))) (a_isC x)))) (Nat.beq x.1 2)))) (Nat.beq i.1 0))))
  | _ => none
theorem aq_ast_e : @aq_ast = @a_ast := by
  delta aq_ast
  simp only [aq_rngK_e, aq_wrK_e, aq_fitc_e, aq_arr_e, aq_idxK_e, a_leZ_q, a_aq, a_oq, a_nq]
  try simp only [a_cqx]
  rfl
noncomputable def aq_alen (G : aG) (nx : Nat) (q : aQ) (L : aL) (S : List aV) : Option (List aOut) := match S with
  | x :: S => (Bool.rec (motive := fun _ => _) none ((Bool.rec (motive := fun _ => _) ((Bool.rec (motive := fun _ => _) none ((Bool.rec (motive := fun _ => _) ((Bool.rec (motive := fun _ => _) none (a_push nx L S q (0, 0, 5)) ((Bool.rec (motive := fun _ => Bool) false ((a_ltZ (x.2.2) (3))) ((a_ltZ (0) (x.2.2))))))) ((Bool.rec (motive := fun _ => _) none (a_push nx L S q (0, 1, 0)) G.2.2)) ((a_eqZ (x.2.2) (0))))) (Nat.beq x.1 3))) (match a_shp x.2.2.toNat with
      | some (.inl w) => x_kN w.2 (fun n => a_push nx L S q (0, 0, Int.ofNat n))
      | _ => none) (Nat.beq x.1 2))) (a_isC x))
  | _ => none
theorem aq_alen_e : @aq_alen = @a_alen := by
  delta aq_alen
  simp only [a_ltZ_q, a_eqZ_q, a_aq, a_oq, a_nq]
  try simp only [a_cqx]
  rfl
noncomputable def aq_slen (nx : Nat) (q : aQ) (L : aL) (S : List aV) : Option (List aOut) := match S with
  | x :: S => (Bool.rec (motive := fun _ => _) none ((Bool.rec (motive := fun _ => _) ((Bool.rec (motive := fun _ => _) none (a_push nx L S q (0, 0, 5)) ((a_eqZ (x.2.2) (4))))) (a_push nx L S q (0, 0, Int.ofNat (zTx 3).length)) ((a_eqZ (x.2.2) (3))))) ((Bool.rec (motive := fun _ => Bool) false (((Bool.rec (motive := fun _ => Bool) false (Nat.ble (aq_sum S) 8) (a_isC x)))) (Nat.beq x.1 3))))
  | _ => none
theorem aq_slen_e : @aq_slen = @a_slen := by
  delta aq_slen
  simp only [aq_sum_e, a_eqZ_q, a_aq, a_oq, a_nq]
  try simp only [a_cqx]
  rfl
noncomputable def aq_char (nx : Nat) (q : aQ) (L : aL) (S : List aV) : Option (List aOut) := match S with
  | i :: x :: S => (Bool.rec (motive := fun _ => _) none (aq_rngK q.2.1 i (fun lo hi => (Bool.rec (motive := fun _ => _) none (a_newK 0 32 122 q (a_push nx L S)) ((Bool.rec (motive := fun _ => Bool) false ((a_ltZ (hi) (Int.ofNat (zTx x.2.2.toNat).length))) ((a_leZ (0) (lo)))))))) ((Bool.rec (motive := fun _ => Bool) false (((Bool.rec (motive := fun _ => Bool) false (((Bool.rec (motive := fun _ => Bool) false (((Bool.rec (motive := fun _ => Bool) false (((Bool.rec (motive := fun _ => Bool) ((a_eqZ (x.2.2) (4))) true ((a_eqZ (x.2.2) (3)))))) (Nat.ble (aq_sum S) 8)))) (a_isC x)))) (Nat.beq x.1 3)))) (Nat.beq i.1 0))))
  | _ => none
theorem aq_char_e : @aq_char = @a_char := by
  delta aq_char
  simp only [aq_rngK_e, aq_sum_e, a_leZ_q, a_ltZ_q, a_eqZ_q, a_aq, a_oq, a_nq]
  try simp only [a_cqx]
  rfl
noncomputable def aq_math (nx b : Nat) (q : aQ) (L : aL) (S : List aV) : Option (List aOut) := match b with
  | 0 => aq_two 0 S (fun x y S => (Bool.rec (motive := fun _ => _) none (aq_rngK q.2.1 x (fun lx hx => aq_rngK q.2.1 y (fun ly hy => a_newK 0 (aq_max lx ly) (aq_max hx hy) q (a_push nx L S)))) (Nat.ble (aq_sum S) 8)))
  | 1 => aq_two 0 S (fun x y S => (Bool.rec (motive := fun _ => _) none (aq_rngK q.2.1 x (fun lx hx => aq_rngK q.2.1 y (fun ly hy => a_newK 0 (aq_min lx ly) (aq_min hx hy) q (a_push nx L S)))) (Nat.ble (aq_sum S) 8)))
  | 2 => aq_two 1 S (fun x y S => (Bool.rec (motive := fun _ => _) none (aq_rngK q.2.1 x (fun lx hx => aq_rngK q.2.1 y (fun ly hy => a_newK 1 (aq_min lx ly) (aq_min hx hy) q (a_push nx L S)))) (Nat.ble (aq_sum S) 8)))
  | 3 => aq_one 1 S (fun x S => (Bool.rec (motive := fun _ => _) none (aq_rngK q.2.1 x (fun lx hx => (Bool.rec (motive := fun _ => _) ((Bool.rec (motive := fun _ => _) ((Bool.rec (motive := fun _ => _) none (a_anyK 1 q (a_push nx L S)) (aq_in 1 lx hx))) (a_newK 1 0 (aq_max (-lx) hx) q (a_push nx L S)) ((Bool.rec (motive := fun _ => Bool) false ((a_leZ (hx) (a_hi 1))) ((a_ltZ (a_lo 1) (lx))))))) (a_push nx L S q x) ((a_leZ (0) (lx)))))) (Nat.ble (aq_sum S) 8)))
  | _ => none
theorem aq_math_e : @aq_math = @a_math := by
  delta aq_math
  simp only [aq_min_e, aq_max_e, aq_rngK_e, aq_in_e, aq_sum_e, aq_two_e, aq_one_e, a_leZ_q, a_ltZ_q, a_aq, a_oq, a_nq]
  try simp only [a_cqx]
  rfl
noncomputable def aq_carryK {β : Type} (r0 r1 : Nat) (sl dl nl : Int) (O : aO) (f : aO → Option β) : Option β := List.rec (motive := fun _ => (aO → Option β) → Option β) (fun f => f []) (fun e _ ih f => ih (fun l => (Bool.rec (motive := fun _ => _) (f l) (x_kZ (e.1.2.2 - sl + dl) (fun o => f (((r1, 0, o), e.2) :: l))) ((Bool.rec (motive := fun _ => Bool) false (((Bool.rec (motive := fun _ => Bool) false (((Bool.rec (motive := fun _ => Bool) false ((a_ltZ (e.1.2.2) (sl + nl))) ((a_leZ (sl) (e.1.2.2)))))) (Nat.beq e.1.2.1 0)))) (Nat.beq e.1.1 r0)))))) O f
theorem aq_carryK_e : @aq_carryK = @a_carryK := by
  delta aq_carryK
  simp only [a_leZ_q, a_ltZ_q, a_aq, a_oq, a_nq]
  try simp only [a_cqx]
  rfl
noncomputable def aq_copy (G : aG) (m : aM) (nx c : Nat) (q : aQ) (L : aL) (S : List aV) : Option (List aOut) := match S with
  | n :: dp :: x1 :: sp :: x0 :: S => (Bool.rec (motive := fun _ => _) none (aq_rngK q.2.1 n (fun nl nh => aq_rngK q.2.1 dp (fun dl dh => aq_rngK q.2.1 sp (fun sl sh => match a_shp x0.2.2.toNat, a_shp x1.2.2.toNat with
      | some (.inl w0), some (.inl w1) => (Bool.rec (motive := fun _ => _) none ((Bool.rec (motive := fun _ => _) (match a_at G.1 x0.2.2.toNat, a_at G.1 x1.2.2.toNat with
        | some l0, some l1 => x_kZ (aq_min (dh + nh) (Int.ofNat w1.2) - 1) (fun hi => x_kN x1.2.2.toNat (fun r => match aq_uniF sl (aq_min (sh + nh) (Int.ofNat w0.2) - 1) l0 with
          | some t => (Bool.rec (motive := fun _ => _) none (x_spine (aq_flt (aq_okeepR q.2.1 r dl hi) q.2.2.2.1) (fun O => x_spine (aq_flt (aq_fkeep G.2.1 r dl hi) q.2.2.2.2) (fun fl => (Bool.rec (motive := fun _ => _) (some [.inr (.inl (nx, (q.1, q.2.1, q.2.2.1, O, fl), L, S))]) (aq_carryK x0.2.2.toNat x1.2.2.toNat sl dl nl q.2.2.2.1 (fun C => x_spine (C ++ O) (fun O => some [.inr (.inl (nx, (q.1, q.2.1, q.2.2.1, O, fl), L, S))]))) ((Bool.rec (motive := fun _ => Bool) false (((Bool.rec (motive := fun _ => Bool) false ((a_eqZ (sl) (sh))) ((a_eqZ (dl) (dh)))))) ((a_eqZ (nl) (nh))))))))) ((Bool.rec (motive := fun _ => Bool) false (((Bool.rec (motive := fun _ => Bool) false (aq_mod m r dl hi) (aq_accsF dl hi (t.1, 0, 0) t.2.1 t.2.2.1 l1)))) (Nat.blt t.1 2))))
          | none => none))
        | _, _ => none) (some [.inr (.inl (nx, q, L, S))]) ((Bool.rec (motive := fun _ => Bool) false (((Bool.rec (motive := fun _ => Bool) false (((Bool.rec (motive := fun _ => Bool) false ((a_eqZ (sl) (dl))) ((a_eqZ (dl) (dh)))))) ((a_eqZ (sl) (sh)))))) (Nat.beq x0.2.2.toNat x1.2.2.toNat))))) ((Bool.rec (motive := fun _ => Bool) false (((Bool.rec (motive := fun _ => Bool) false (((Bool.rec (motive := fun _ => Bool) false (((Bool.rec (motive := fun _ => Bool) false (((Bool.rec (motive := fun _ => Bool) false (((Bool.rec (motive := fun _ => Bool) false (((Bool.rec (motive := fun _ => Bool) (aq_ent q.2.1 q.2.2.1 3 (aq_less (a_tm 1 n) (a_tm (-1) dp)) (Int.ofNat w1.2 - n.2.2 - dp.2.2)) true ((a_leZ (dh + nh) (Int.ofNat w1.2)))))) (((Bool.rec (motive := fun _ => Bool) (aq_ent q.2.1 q.2.2.1 3 (aq_less (a_tm 1 n) (a_tm (-1) sp)) (Int.ofNat w0.2 - n.2.2 - sp.2.2)) true ((a_leZ (sh + nh) (Int.ofNat w0.2))))))))) ((a_leZ (0) (sl)))))) ((a_leZ (0) (dl)))))) ((a_leZ (0) (nl)))))) (Nat.beq (zcode w1.1) c)))) (Nat.beq (zcode w0.1) c))))
      | _, _ => none)))) ((Bool.rec (motive := fun _ => Bool) false (((Bool.rec (motive := fun _ => Bool) false (((Bool.rec (motive := fun _ => Bool) false (((Bool.rec (motive := fun _ => Bool) false (((Bool.rec (motive := fun _ => Bool) false (((Bool.rec (motive := fun _ => Bool) false (((Bool.rec (motive := fun _ => Bool) false (((Bool.rec (motive := fun _ => Bool) false (((Bool.rec (motive := fun _ => Bool) false (((Bool.rec (motive := fun _ => Bool) false ((a_leZ (0) (x0.2.2))) ((a_leZ (0) (x1.2.2)))))) (Nat.blt c 2)))) (Nat.ble (aq_sum S) 8)))) (a_isC x0)))) (a_isC x1)))) (Nat.beq x0.1 2)))) (Nat.beq x1.1 2)))) (Nat.beq sp.1 0)))) (Nat.beq dp.1 0)))) (Nat.beq n.1 0))))
  | _ => none
theorem aq_copy_e : @aq_copy = @a_copy := by
  delta aq_copy
  simp only [aq_min_e, aq_rngK_e, aq_less_e, aq_ent_e, aq_uniF_e, aq_accsF_e, aq_mod_e, aq_flt_e, aq_fkeep_e, aq_okeepR_e, aq_sum_e, aq_carryK_e, a_leZ_q, a_eqZ_q, a_aq, a_oq, a_nq]
  try simp only [a_cqx]
  rfl
noncomputable def aq_call (nx mi n : Nat) (c : Int) (w : Nat) (q : aQ) (L : aL) (S : List aV) : Option (List aOut) := match a_take n S [] with
  | some (as, S) => (Bool.rec (motive := fun _ => _) none (some [.inr (.inr (mi, as, nx, q, L, S))]) ((Bool.rec (motive := fun _ => Bool) false (((Bool.rec (motive := fun _ => Bool) false (((Bool.rec (motive := fun _ => Bool) ((match as with
    | v :: _ => (Bool.rec (motive := fun _ => Bool) false (((Bool.rec (motive := fun _ => Bool) false (a_isO c.toNat v.2.2) (a_isC v)))) (Nat.beq v.1 2))
    | [] => false)) true ((a_ltZ (c) (0)))))) (Nat.ble (aq_sum as) w)))) (Nat.ble (aq_sum S) 8))))
  | none => none
theorem aq_call_e : @aq_call = @a_call := by
  delta aq_call
  simp only [aq_sum_e, a_ltZ_q, a_aq, a_oq, a_nq]
  try simp only [a_cqx]
  rfl
noncomputable def aq_ret (b c : Nat) (q : aQ) (S : List aV) : Option (List aOut) := match b, S with
  | 0, [] => some [.inl (q, none)]
  | 1, [v] => aq_rngK q.2.1 v (fun lo hi => (Bool.rec (motive := fun _ => _) none (some [.inl (q, some v)]) ((Bool.rec (motive := fun _ => Bool) false (Nat.beq v.1 0) (aq_fitc c v lo hi)))))
  | 2, [v] => (Bool.rec (motive := fun _ => _) none (some [.inl (q, some v)]) (Nat.beq v.1 1))
  | _, _ => none
theorem aq_ret_e : @aq_ret = @a_ret := by
  delta aq_ret
  simp only [aq_rngK_e, aq_fitc_e, a_aq, a_oq, a_nq]
  try simp only [a_cqx]
  rfl
noncomputable def aqiR (G : aG) (m : aM) (i : zX) (q : aQ) (L : aL) (S : List aV) : Option (List aOut) := match i with
  | (0, nx, a, _, z, _) => a_push nx L S q (a, 0, z)
  | (1, nx, _, _, _, _) => a_go nx L S q
  | (2, nx, a, b, _, _) => aq_load nx a b q L S
  | (3, nx, a, b, _, _) => aq_store1 nx a b q L S
  | (4, nx, a, _, _, _) => aq_store2 nx a q L S
  | (5, nx, a, _, z, _) => aq_iinc nx a z q L S
  | (6, nx, _, b, _, _) => aq_un32 nx b q L S
  | (7, nx, _, b, _, _) => aq_bin32 nx b q L S
  | (8, nx, _, b, _, _) => aq_div32 nx b q L S
  | (9, nx, _, _, _, _) => aq_neg64 nx q L S
  | (10, nx, _, b, _, _) => aq_bin64 nx b q L S
  | (11, nx, _, b, _, _) => aq_div64 nx b q L S
  | (12, nx, _, _, _, _) => aq_sh64 nx q L S
  | (13, nx, _, _, _, _) => aq_i2l nx q L S
  | (14, nx, _, _, _, _) => aq_l2i nx q L S
  | (15, nx, _, b, _, _) => aq_stk nx b q L S
  | (16, nx, a, b, _, _) => aq_if nx a b q L S
  | (17, nx, a, b, _, _) => aq_icmp nx a b q L S
  | (18, nx, _, _, _, _) => aq_lcmp nx q L S
  | (19, nx, _, _, _, cs) => aq_sw nx cs q L S
  | (20, nx, a, b, _, _) => aq_getf G nx a b q L S
  | (21, nx, a, b, z, _) => aq_putf G m nx a b z q L S
  | (22, nx, a, _, _, _) => aq_ald G nx a q L S
  | (23, nx, a, _, _, _) => aq_ast G m nx a q L S
  | (24, nx, _, _, _, _) => aq_alen G nx q L S
  | (25, nx, _, _, _, _) => aq_slen nx q L S
  | (26, nx, _, _, _, _) => aq_char nx q L S
  | (27, nx, _, b, _, _) => aq_math nx b q L S
  | (28, nx, a, _, _, _) => aq_copy G m nx a q L S
  | (29, nx, a, b, z, cs) => aq_call nx a b z (cs.head?.elim 0 (fun q => q.2)) q L S
  | (30, _, a, b, _, _) => aq_ret b a q S
  | _ => none
theorem aqiR_e : @aqiR = @aiR := by
  delta aqiR
  simp only [aq_load_e, aq_store1_e, aq_store2_e, aq_iinc_e, aq_un32_e, aq_bin32_e, aq_div32_e, aq_neg64_e, aq_bin64_e, aq_div64_e, aq_sh64_e, aq_i2l_e, aq_l2i_e, aq_stk_e, aq_if_e, aq_icmp_e, aq_lcmp_e, aq_sw_e, aq_getf_e, aq_putf_e, aq_ald_e, aq_ast_e, aq_alen_e, aq_slen_e, aq_char_e, aq_math_e, aq_copy_e, aq_call_e, aq_ret_e]
  rfl
noncomputable def aqi3 (G : aG) (m : aM) (i : zX) (q : aQ) (L : aL) (S : List aV) : Option (List aOut) := (Bool.rec (motive := fun _ => _) ((Bool.rec (motive := fun _ => _) ((Bool.rec (motive := fun _ => _) (aqiR G m i q L S) (aq_if i.2.1 i.2.2.1 i.2.2.2.1 q L S) (Nat.beq i.1 16))) (aq_ald G i.2.1 i.2.2.1 q L S) (Nat.beq i.1 22))) (aq_icmp i.2.1 i.2.2.1 i.2.2.2.1 q L S) (Nat.beq i.1 17))
theorem aqi3_e : @aqi3 = @ai3 := by
  delta aqi3
  simp only [aq_if_e, aq_icmp_e, aq_ald_e, aqiR_e]
  try simp only [a_cqx]
  rfl
noncomputable def aqi2 (G : aG) (m : aM) (i : zX) (q : aQ) (L : aL) (S : List aV) : Option (List aOut) := (Bool.rec (motive := fun _ => _) ((Bool.rec (motive := fun _ => _) ((Bool.rec (motive := fun _ => _) (aqi3 G m i q L S) (a_go i.2.1 L S q) (Nat.beq i.1 1))) (aq_ast G m i.2.1 i.2.2.1 q L S) (Nat.beq i.1 23))) (aq_ret i.2.2.2.1 i.2.2.1 q S) (Nat.beq i.1 30))
theorem aqi2_e : @aqi2 = @ai2 := by
  delta aqi2
  simp only [aq_ast_e, aq_ret_e, aqi3_e]
  try simp only [a_cqx]
  rfl
noncomputable def aqi1 (G : aG) (m : aM) (i : zX) (q : aQ) (L : aL) (S : List aV) : Option (List aOut) := (Bool.rec (motive := fun _ => _) ((Bool.rec (motive := fun _ => _) (aqi2 G m i q L S) (aq_bin32 i.2.1 i.2.2.2.1 q L S) (Nat.beq i.1 7))) (aq_getf G i.2.1 i.2.2.1 i.2.2.2.1 q L S) (Nat.beq i.1 20))
theorem aqi1_e : @aqi1 = @ai1 := by
  delta aqi1
  simp only [aq_bin32_e, aq_getf_e, aqi2_e]
  try simp only [a_cqx]
  rfl
noncomputable def aqi (G : aG) (m : aM) (i : zX) (q : aQ) (L : aL) (S : List aV) : Option (List aOut) := (Bool.rec (motive := fun _ => _) ((Bool.rec (motive := fun _ => _) (aqi1 G m i q L S) (a_push i.2.1 L S q (i.2.2.1, 0, i.2.2.2.2.1)) (Nat.beq i.1 0))) (aq_load i.2.1 i.2.2.1 i.2.2.2.1 q L S) (Nat.beq i.1 2))
theorem aqi_e : @aqi = @ai := by
  delta aqi
  simp only [aq_load_e, aqi1_e]
  try simp only [a_cqx]
  rfl
