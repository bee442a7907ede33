noncomputable def a_memI (z : Int) (l : List Int) : Bool := List.rec (motive := fun _ => Bool) false (fun a _ ih => @decide (a = z) (a_decEqZ _ _) || ih) l
noncomputable def a_acc (t : aT) (v : aV) (lo hi : Int) : Bool := match t.1 with
  | 0 => Nat.beq v.1 0 && (@decide (t.2.1 ≤ lo) (a_decLe _ _) && @decide (hi ≤ t.2.2.1) (a_decLe _ _))
  | 1 => Nat.beq v.1 1 && (@decide (t.2.1 ≤ lo) (a_decLe _ _) && @decide (hi ≤ t.2.2.1) (a_decLe _ _))
  | 2 => @decide (lo = hi) (a_decEqZ _ _) && ((Nat.beq v.1 2 && (@decide (0 ≤ lo) (a_decLe _ _) && a_memI lo t.2.2.2)) || (Nat.beq v.1 4 && (@decide (lo = 0) (a_decEqZ _ _) && a_memI (-1) t.2.2.2)))
  | _ => false
noncomputable def a_bZ (z : Int) (f : Int → Bool) : Bool := match x_kZ z (fun z => some (f z)) with
  | some b => b
  | none => false
noncomputable def a_accs (lo hi : Int) (v : aV) (vl vh : Int) (l : List (Nat × aT)) : Int → Bool := List.rec (motive := fun _ => Int → Bool) (fun _ => true) (fun s _ ih p => cond (@decide (hi < p) (a_decLt _ _)) true (a_bZ (p + Int.ofNat s.1) (fun p' => (@decide (p' ≤ lo) (a_decLe _ _) || a_acc s.2 v vl vh) && ih p'))) l
noncomputable def a_uniN (lo hi : Nat) (l : List (Nat × aT)) : Nat → Option aT := List.rec (motive := fun _ => Nat → Option aT) (fun p => cond (Nat.blt hi p) none (some (9, 0, 0, []))) (fun s _ ih p => x_kN (p + s.1) (fun p' => cond (Nat.ble p' lo) (ih p') (cond (Nat.blt hi p) none (match ih p' with
  | some b => some (a_join s.2 b)
  | none => some s.2)))) l
noncomputable def a_joinO (a b : Option aT) : Option aT := match a with
  | some x => match b with
    | some y => some (a_join x y)
    | none => some x
  | none => b
noncomputable def a_uniC (lo hi : Nat) (l : aTc) : Nat → Option aT := List.rec (motive := fun _ => Nat → Option aT) (fun p => cond (Nat.blt hi p) none (some (9, 0, 0, []))) (fun s _ ih p => x_kN (p + s.1) (fun p' => cond (Nat.ble p' lo) (ih p') (cond (Nat.blt hi p) none (cond (Nat.blt hi p') (a_uniN lo hi s.2 p) (a_joinO (x_kN (p' - 1) (fun u => a_uniN lo u s.2 p)) (ih p')))))) l
noncomputable def a_uniF (lo hi : Int) (l : aTc) : Option aT := cond (@decide (0 ≤ lo) (a_decLe _ _) && @decide (0 ≤ hi) (a_decLe _ _)) (x_kN lo.toNat (fun lo => x_kN hi.toNat (fun hi => a_uniC lo hi l 0))) none
noncomputable def a_bN (n : Nat) (f : Nat → Bool) : Bool := Nat.rec (motive := fun _ => Bool) (f 0) (fun m _ => f (Nat.succ m)) n
noncomputable def a_accsN (lo hi : Nat) (v : aV) (vl vh : Int) (l : List (Nat × aT)) : Nat → Bool := List.rec (motive := fun _ => Nat → Bool) (fun _ => true) (fun s _ ih p => cond (Nat.blt hi p) true (a_bN (p + s.1) (fun p' => (Nat.ble p' lo || a_acc s.2 v vl vh) && ih p'))) l
noncomputable def a_accsC (lo hi : Nat) (v : aV) (vl vh : Int) (l : aTc) : Nat → Bool := List.rec (motive := fun _ => Nat → Bool) (fun _ => true) (fun s _ ih p => cond (Nat.blt hi p) true (a_bN (p + s.1) (fun p' => (Nat.ble p' lo || a_accsN lo hi v vl vh s.2 p) && ih p'))) l
noncomputable def a_accsF (lo hi : Int) (v : aV) (vl vh : Int) (l : aTc) : Bool := cond (@decide (0 ≤ hi) (a_decLe _ _)) (cond (@decide (0 ≤ lo) (a_decLe _ _)) (a_bN lo.toNat (fun lo => a_bN hi.toNat (fun hi => a_accsC lo hi v vl vh l 0))) false) true
noncomputable def a_mod (m : aM) (r : Nat) (lo hi : Int) : Bool := List.rec (motive := fun _ => Bool) false (fun q _ ih => (Nat.beq q.1 r && (@decide (Int.ofNat q.2.1 ≤ lo) (a_decLe _ _) && @decide (hi ≤ Int.ofNat q.2.2) (a_decLe _ _))) || ih) m
noncomputable def a_hits (m : aM) (r : Nat) (lo hi : Int) : Bool := List.rec (motive := fun _ => Bool) false (fun q _ ih => (Nat.beq q.1 r && (@decide (lo ≤ Int.ofNat q.2.2) (a_decLe _ _) && @decide (Int.ofNat q.2.1 ≤ hi) (a_decLe _ _))) || ih) m
noncomputable def a_flt {α : Type} (f : α → Bool) (l : List α) : List α := List.rec (motive := fun _ => List α) [] (fun a _ ih => cond (f a) (a :: ih) ih) l
noncomputable def a_fkeep (sup : List (List aM)) (r : Nat) (lo hi : Int) (j : Nat) : Bool := match a_at sup j with
  | some m => !(a_hits m r lo hi)
  | none => false
noncomputable def a_okeep (E : aB) (r s : Nat) (o lo hi : Int) (e : (Nat × Nat × Int) × aV) : Bool := !(Nat.beq e.1.1 r) || ((Nat.beq e.1.2.1 s && !(@decide (e.1.2.2 = o) (a_decEqZ _ _))) || (match a_rngK E (0, e.1.2) (fun l h => some (@decide (h < lo) (a_decLt _ _) || @decide (hi < l) (a_decLt _ _))) with
  | some b => b
  | none => false))
noncomputable def a_okeepR (E : aB) (r : Nat) (lo hi : Int) (e : (Nat × Nat × Int) × aV) : Bool := !(Nat.beq e.1.1 r) || (match a_rngK E (0, e.1.2) (fun l h => some (@decide (h < lo) (a_decLt _ _) || @decide (hi < l) (a_decLt _ _))) with
  | some b => b
  | none => false)
noncomputable def a_addO (q : aQ) (e : (Nat × Nat × Int) × aV) : aQ := (q.1, q.2.1, q.2.2.1, e :: q.2.2.2.1, q.2.2.2.2)
noncomputable def a_readK (t : aT) (q : aQ) (k : Nat × Nat × Int) (f : aQ → aV → Option (List aOut)) : Option (List aOut) := match t.1 with
  | 0 => a_newK 0 t.2.1 t.2.2.1 q (fun q v => f (a_addO q (k, v)) v)
  | 1 => a_newK 1 t.2.1 t.2.2.1 q (fun q v => f (a_addO q (k, v)) v)
  | 2 => List.rec (motive := fun _ => Option (List aOut)) (some []) (fun z _ ih => a_app (cond (@decide (z = -1) (a_decEqZ _ _)) (f (a_addO q (k, (4, 0, 0))) (4, 0, 0)) (f (a_addO q (k, (2, 0, z))) (2, 0, z))) ih) t.2.2.2
  | _ => none
