abbrev aV : Type := Nat × Nat × Int
abbrev aB : Type := List (Nat × Int × Int)
abbrev aF : Type := List (Int × Nat) × Int
abbrev aO : Type := List ((Nat × Nat × Int) × aV)
abbrev aQ : Type := Nat × aB × List aF × aO × List Nat
abbrev aL : Type := List (Nat × aV)
abbrev aS : Type := aQ × aL × List aV
abbrev aRs : Type := aQ × Option aV
abbrev aOut : Type := aRs ⊕ ((Nat × aS) ⊕ (Nat × List aV × Nat × aS))
abbrev aT : Type := Nat × Int × Int × List Int
abbrev aTc : Type := List (Nat × List (Nat × aT))
abbrev aTy : Type := List (List aTc)
abbrev aM : Type := List (Nat × Nat × Nat)
abbrev aG : Type := aTy × List (List aM) × Bool
noncomputable def a_at {α : Type} (ll : List (List α)) (k : Nat) : Option α := match x_nth ll (Nat.div k 12) with
  | some l => x_nth l (Nat.mod k 12)
  | none => none
def zShape2 : List (List zC) := [
  [.inr (11, 20), .inl ((.object "BreadMap$Tray"), 4), .inr (9, 3), .inl (.long, 60), .inr (9, 3), .inl (.long, 60), .inr (9, 3), .inl (.long, 60), .inr (9, 3), .inl (.long, 60), .inr (8, 11), .inl (.byte, 900)],
  [.inl (.int, 901), .inl (.int, 901), .inl (.int, 901), .inl (.int, 901), .inr (3, 3), .inr (6, 5), .inr (5, 6), .inl (.int, 60), .inl (.int, 60), .inl (.int, 60), .inl (.int, 60), .inl (.int, 3)],
  [.inr (2, 15), .inl (.int, 48), .inl (.int, 48), .inl (.int, 144), .inl (.long, 6), .inl (.int, 6), .inl (.int, 6), .inl (.int, 6), .inl (.int, 6), .inl (.int, 6), .inr (5, 6), .inl (.int, 60)],
  [.inl (.int, 60), .inl (.int, 60), .inl (.int, 60), .inr (2, 15), .inl (.int, 48), .inl (.int, 48), .inl (.int, 144), .inl (.long, 6), .inl (.int, 6), .inl (.int, 6), .inl (.int, 6), .inl (.int, 6)],
  [.inl (.int, 6), .inr (5, 6), .inl (.int, 60), .inl (.int, 60), .inl (.int, 60), .inl (.int, 60), .inl ((.object "BreadMap$Land"), 3), .inr (2, 15), .inl (.int, 48), .inl (.int, 48), .inl (.int, 144), .inl (.long, 6)],
  [.inl (.int, 6), .inl (.int, 6), .inl (.int, 6), .inl (.int, 6), .inl (.int, 6), .inr (5, 6), .inl (.int, 60), .inl (.int, 60), .inl (.int, 60), .inl (.int, 60), .inr (2, 15), .inl (.int, 48)],
  [.inl (.int, 48), .inl (.int, 144), .inl (.long, 6), .inl (.int, 6), .inl (.int, 6), .inl (.int, 6), .inl (.int, 6), .inl (.int, 6), .inr (5, 6), .inl (.int, 60), .inl (.int, 60), .inl (.int, 60)],
  [.inl (.int, 60), .inr (2, 15), .inl (.int, 48), .inl (.int, 48), .inl (.int, 144), .inl (.long, 6), .inl (.int, 6), .inl (.int, 6), .inl (.int, 6), .inl (.int, 6), .inl (.int, 6), .inr (5, 6)],
  [.inl (.int, 60), .inl (.int, 60), .inl (.int, 60), .inl (.int, 60), .inr (10, 9), .inl (.int, 48), .inl (.int, 48), .inl (.int, 64), .inl (.int, 48), .inr (1, 11), .inl (.int, 6), .inl (.long, 6)],
  [.inl (.int, 288), .inl (.long, 288), .inr (0, 9), .inl (.int, 48), .inl (.int, 96), .inl (.int, 96), .inr (4, 2), .inl (.long, 48), .inl (.long, 48), .inr (7, 12), .inl (.int, 60), .inl (.int, 48)],
  [.inl (.int, 4), .inr (12, 48), .inl (.int, 4), .inl (.int, 4), .inl (.long, 240), .inl (.byte, 900), .inl (.int, 2750), .inl (.int, 275), .inl (.long, 30), .inl (.boolean, 48), .inl (.int, 48), .inl (.int, 49)],
  [.inl (.int, 49), .inl (.int, 4), .inl (.long, 48), .inl (.long, 48), .inl (.int, 4)]]
noncomputable def a_shp (k : Nat) : Option zC := a_at zShape2 k
def a_lo (t : Nat) : Int := match t with
  | 0 => -2147483648
  | _ => -9223372036854775808
def a_hi (t : Nat) : Int := match t with
  | 0 => 2147483647
  | _ => 9223372036854775807
noncomputable def a_min (a b : Int) : Int := cond (@decide (a ≤ b) (a_decLe _ _)) a b
