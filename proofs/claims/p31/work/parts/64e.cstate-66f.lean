section
/-! printed by wip/c/genstate.py: the state behind both constructors -/
def x_eC (a b : xC) : Bool := match a, b with
  | .inl (t, n, d, o), .inl (t', n', d', o') => decide (t = t') && (decide (n = n') && (decide (d = d') && decide (o = o')))
  | .inr (c, f), .inr (c', f') => decide (c = c') && decide (f = f')
  | _, _ => false
theorem x_eC_eq {a b : xC} (h : x_eC a b = true) : a = b := by
  match a, b, h with
  | .inl (t, n, d, o), .inl (t', n', d', o'), h =>
    have h : (decide (t = t') && (decide (n = n') && (decide (d = d') && decide (o = o')))) = true := h
    simp only [Bool.and_eq_true, decide_eq_true_eq] at h
    obtain ⟨rfl, rfl, rfl, rfl⟩ := h
    rfl
  | .inr (c, f), .inr (c', f'), h =>
    have h : (decide (c = c') && decide (f = f')) = true := h
    simp only [Bool.and_eq_true, decide_eq_true_eq] at h
    obtain ⟨rfl, rfl⟩ := h
    rfl
def x_eH : xH → xH → Bool
  | [], [] => true
  | a :: s, b :: t => x_eC a b && x_eH s t
  | _, _ => false
theorem x_eH_eq : ∀ {a b : xH}, x_eH a b = true → a = b
  | [], [], _ => rfl
  | a :: s, b :: t, h => by
    have h : (x_eC a b && x_eH s t) = true := h
    rw [Bool.and_eq_true] at h
    rw [x_eC_eq h.1, x_eH_eq h.2]
def x_same (r : Option (Nat × xS)) (pc : Nat) (s : xS) : Bool := match r with
  | some (pc', e, cl, sl, h, L, S) => decide (pc' = pc) && (decide (e = s.1) && (decide (cl = s.2.1) && (decide (sl = s.2.2.1) && (x_eH h s.2.2.2.1 && (decide (L = s.2.2.2.2.1) && decide (S = s.2.2.2.2.2))))))
  | none => false
theorem x_same_eq {r : Option (Nat × xS)} {pc : Nat} {s : xS} (h : x_same r pc s = true) : r = some (pc, s) := by
  match r, h with
  | some (pc', e, cl, sl, hh, L, S), h =>
    have h : (decide (pc' = pc) && (decide (e = s.1) && (decide (cl = s.2.1) && (decide (sl = s.2.2.1) && (x_eH hh s.2.2.2.1 && (decide (L = s.2.2.2.2.1) && decide (S = s.2.2.2.2.2))))))) = true := h
    simp only [Bool.and_eq_true, decide_eq_true_eq] at h
    obtain ⟨rfl, rfl, rfl, rfl, h5, rfl, rfl⟩ := h
    rw [x_eH_eq h5]
def x_e0 (q : Int × Int) : xE := [(-2147483648, 2147483647), (-2147483648, 2147483647), (-2147483648, 2147483647), (-2147483648, 2147483647), (-2147483648, 2147483647), (-2147483648, 2147483647), q]
noncomputable def x_h1 : xH := [.inr (11, [.inl (.int (Int32.ofNat 0)), .inl (.long (Int64.ofNat 0)), .inl (.long (Int64.ofNat 1)), .inl (.ref 1), .inl (.ref 10), .inl (.ref 16), .inl (.ref 17), .inl (.ref 24), .inl (.ref 39), .inl (.ref 54), .inl (.int (Int32.ofNat 0)), .inl (.ref 100), .inl (.ref 105), .inl (.ref 110), .inl (.ref 114), .inl (.ref 117), .inl (.ref 119), .inl (.int (Int32.ofNat 0)), .inl (.int (Int32.ofNat 4294967295)), .inl (.ref 120)]),
  .inl ((.object "BreadMap$Tray"), 4, .inl .null, [(0, .inl (.ref 2)), (1, .inl (.ref 4)), (2, .inl (.ref 6)), (3, .inl (.ref 8))]),
  .inr (9, [.inl (.ref 3), .inl (.int (Int32.ofNat 4294967295)), .inl (.int (Int32.ofNat 0))]),
  .inl (.long, 60, .inl (.long (Int64.ofNat 0)), []),
  .inr (9, [.inl (.ref 5), .inl (.int (Int32.ofNat 4294967295)), .inl (.int (Int32.ofNat 0))]),
  .inl (.long, 60, .inl (.long (Int64.ofNat 0)), []),
  .inr (9, [.inl (.ref 7), .inl (.int (Int32.ofNat 4294967295)), .inl (.int (Int32.ofNat 0))]),
  .inl (.long, 60, .inl (.long (Int64.ofNat 0)), []),
  .inr (9, [.inl (.ref 9), .inl (.int (Int32.ofNat 4294967295)), .inl (.int (Int32.ofNat 0))]),
  .inl (.long, 60, .inl (.long (Int64.ofNat 0)), []),
  .inr (8, [.inl (.ref 11), .inl (.int (Int32.ofNat 0)), .inl (.ref 12), .inl (.ref 13), .inl (.ref 14), .inl (.ref 15), .inl (.int (Int32.ofNat 0)), .inl (.int (Int32.ofNat 0)), .inl (.int (Int32.ofNat 0)), .inl (.int (Int32.ofNat 4294967295)), .inl (.int (Int32.ofNat 4294967295))]),
  .inl (.byte, 900, .inl (.int (Int32.ofNat 0)), []),
  .inl (.int, 901, .inl (.int (Int32.ofNat 0)), []),
  .inl (.int, 901, .inl (.int (Int32.ofNat 0)), []),
  .inl (.int, 901, .inl (.int (Int32.ofNat 0)), []),
  .inl (.int, 901, .inl (.int (Int32.ofNat 0)), []),
  .inr (3, [.inl (.ref 10), .inl .null, .inl (.int (Int32.ofNat 0))]),
  .inr (6, [.inl (.ref 10), .inl (.ref 18), .inl .null, .inl (.ref 23), .inl (.int (Int32.ofNat 0))]),
  .inr (5, [.inl (.int (Int32.ofNat 4294967295)), .inl (.int (Int32.ofNat 0)), .inl (.ref 19), .inl (.ref 20), .inl (.ref 21), .inl (.ref 22)]),
  .inl (.int, 60, .inl (.int (Int32.ofNat 0)), []),
  .inl (.int, 60, .inl (.int (Int32.ofNat 0)), []),
  .inl (.int, 60, .inl (.int (Int32.ofNat 0)), []),
  .inl (.int, 60, .inl (.int (Int32.ofNat 0)), []),
  .inl (.int, 3, .inl (.int (Int32.ofNat 0)), []),
  .inr (2, [.inl (.int (Int32.ofNat 2)), .inl (.int (Int32.ofNat 1)), .inl (.int (Int32.ofNat 1)), .inl (.int (Int32.ofNat 0)), .inl (.int (Int32.ofNat 0)), .inl (.ref 25), .inl (.ref 26), .inl (.ref 27), .inl (.ref 28), .inl (.ref 29), .inl (.ref 30), .inl (.ref 31), .inl (.ref 32), .inl (.ref 33), .inl (.ref 34)]),
  .inl (.int, 48, .inl (.int (Int32.ofNat 0)), []),
  .inl (.int, 48, .inl (.int (Int32.ofNat 0)), []),
  .inl (.int, 144, .inl (.int (Int32.ofNat 0)), []),
  .inl (.long, 6, .inl (.long (Int64.ofNat 0)), []),
  .inl (.int, 6, .inl (.int (Int32.ofNat 0)), []),
  .inl (.int, 6, .inl (.int (Int32.ofNat 0)), []),
  .inl (.int, 6, .inl (.int (Int32.ofNat 0)), []),
  .inl (.int, 6, .inl (.int (Int32.ofNat 0)), []),
  .inl (.int, 6, .inl (.int (Int32.ofNat 0)), []),
  .inr (5, [.inl (.int (Int32.ofNat 4294967295)), .inl (.int (Int32.ofNat 0)), .inl (.ref 35), .inl (.ref 36), .inl (.ref 37), .inl (.ref 38)]),
  .inl (.int, 60, .inl (.int (Int32.ofNat 0)), []),
  .inl (.int, 60, .inl (.int (Int32.ofNat 0)), []),
  .inl (.int, 60, .inl (.int (Int32.ofNat 0)), []),
  .inl (.int, 60, .inl (.int (Int32.ofNat 0)), []),
  .inr (2, [.inl (.int (Int32.ofNat 0)), .inl (.int (Int32.ofNat 0)), .inl (.int (Int32.ofNat 0)), .inl (.int (Int32.ofNat 0)), .inl (.int (Int32.ofNat 0)), .inl (.ref 40), .inl (.ref 41), .inl (.ref 42), .inl (.ref 43), .inl (.ref 44), .inl (.ref 45), .inl (.ref 46), .inl (.ref 47), .inl (.ref 48), .inl (.ref 49)]),
  .inl (.int, 48, .inl (.int (Int32.ofNat 0)), []),
  .inl (.int, 48, .inl (.int (Int32.ofNat 0)), []),
  .inl (.int, 144, .inl (.int (Int32.ofNat 0)), []),
  .inl (.long, 6, .inl (.long (Int64.ofNat 0)), []),
  .inl (.int, 6, .inl (.int (Int32.ofNat 0)), []),
  .inl (.int, 6, .inl (.int (Int32.ofNat 0)), []),
  .inl (.int, 6, .inl (.int (Int32.ofNat 0)), []),
  .inl (.int, 6, .inl (.int (Int32.ofNat 0)), []),
  .inl (.int, 6, .inl (.int (Int32.ofNat 0)), []),
  .inr (5, [.inl (.int (Int32.ofNat 4294967295)), .inl (.int (Int32.ofNat 0)), .inl (.ref 50), .inl (.ref 51), .inl (.ref 52), .inl (.ref 53)]),
  .inl (.int, 60, .inl (.int (Int32.ofNat 0)), []),
  .inl (.int, 60, .inl (.int (Int32.ofNat 0)), []),
  .inl (.int, 60, .inl (.int (Int32.ofNat 0)), []),
  .inl (.int, 60, .inl (.int (Int32.ofNat 0)), []),
  .inl ((.object "BreadMap$Land"), 3, .inl .null, [(0, .inl (.ref 55)), (1, .inl (.ref 70)), (2, .inl (.ref 85))]),
  .inr (2, [.inl (.int (Int32.ofNat 0)), .inl (.int (Int32.ofNat 0)), .inl (.int (Int32.ofNat 0)), .inl (.int (Int32.ofNat 0)), .inl (.int (Int32.ofNat 0)), .inl (.ref 56), .inl (.ref 57), .inl (.ref 58), .inl (.ref 59), .inl (.ref 60), .inl (.ref 61), .inl (.ref 62), .inl (.ref 63), .inl (.ref 64), .inl (.ref 65)]),
  .inl (.int, 48, .inl (.int (Int32.ofNat 0)), []),
  .inl (.int, 48, .inl (.int (Int32.ofNat 0)), []),
  .inl (.int, 144, .inl (.int (Int32.ofNat 0)), []),
  .inl (.long, 6, .inl (.long (Int64.ofNat 0)), []),
  .inl (.int, 6, .inl (.int (Int32.ofNat 0)), []),
  .inl (.int, 6, .inl (.int (Int32.ofNat 0)), []),
  .inl (.int, 6, .inl (.int (Int32.ofNat 0)), []),
  .inl (.int, 6, .inl (.int (Int32.ofNat 0)), []),
  .inl (.int, 6, .inl (.int (Int32.ofNat 0)), []),
  .inr (5, [.inl (.int (Int32.ofNat 4294967295)), .inl (.int (Int32.ofNat 0)), .inl (.ref 66), .inl (.ref 67), .inl (.ref 68), .inl (.ref 69)]),
  .inl (.int, 60, .inl (.int (Int32.ofNat 0)), []),
  .inl (.int, 60, .inl (.int (Int32.ofNat 0)), []),
  .inl (.int, 60, .inl (.int (Int32.ofNat 0)), []),
  .inl (.int, 60, .inl (.int (Int32.ofNat 0)), []),
  .inr (2, [.inl (.int (Int32.ofNat 0)), .inl (.int (Int32.ofNat 0)), .inl (.int (Int32.ofNat 0)), .inl (.int (Int32.ofNat 0)), .inl (.int (Int32.ofNat 0)), .inl (.ref 71), .inl (.ref 72), .inl (.ref 73), .inl (.ref 74), .inl (.ref 75), .inl (.ref 76), .inl (.ref 77), .inl (.ref 78), .inl (.ref 79), .inl (.ref 80)]),
  .inl (.int, 48, .inl (.int (Int32.ofNat 0)), []),
  .inl (.int, 48, .inl (.int (Int32.ofNat 0)), []),
  .inl (.int, 144, .inl (.int (Int32.ofNat 0)), []),
  .inl (.long, 6, .inl (.long (Int64.ofNat 0)), []),
  .inl (.int, 6, .inl (.int (Int32.ofNat 0)), []),
  .inl (.int, 6, .inl (.int (Int32.ofNat 0)), []),
  .inl (.int, 6, .inl (.int (Int32.ofNat 0)), []),
  .inl (.int, 6, .inl (.int (Int32.ofNat 0)), []),
  .inl (.int, 6, .inl (.int (Int32.ofNat 0)), []),
  .inr (5, [.inl (.int (Int32.ofNat 4294967295)), .inl (.int (Int32.ofNat 0)), .inl (.ref 81), .inl (.ref 82), .inl (.ref 83), .inl (.ref 84)]),
  .inl (.int, 60, .inl (.int (Int32.ofNat 0)), []),
  .inl (.int, 60, .inl (.int (Int32.ofNat 0)), []),
  .inl (.int, 60, .inl (.int (Int32.ofNat 0)), []),
  .inl (.int, 60, .inl (.int (Int32.ofNat 0)), []),
  .inr (2, [.inl (.int (Int32.ofNat 0)), .inl (.int (Int32.ofNat 0)), .inl (.int (Int32.ofNat 0)), .inl (.int (Int32.ofNat 0)), .inl (.int (Int32.ofNat 0)), .inl (.ref 86), .inl (.ref 87), .inl (.ref 88), .inl (.ref 89), .inl (.ref 90), .inl (.ref 91), .inl (.ref 92), .inl (.ref 93), .inl (.ref 94), .inl (.ref 95)]),
  .inl (.int, 48, .inl (.int (Int32.ofNat 0)), []),
  .inl (.int, 48, .inl (.int (Int32.ofNat 0)), []),
  .inl (.int, 144, .inl (.int (Int32.ofNat 0)), []),
  .inl (.long, 6, .inl (.long (Int64.ofNat 0)), []),
  .inl (.int, 6, .inl (.int (Int32.ofNat 0)), []),
  .inl (.int, 6, .inl (.int (Int32.ofNat 0)), []),
  .inl (.int, 6, .inl (.int (Int32.ofNat 0)), []),
  .inl (.int, 6, .inl (.int (Int32.ofNat 0)), []),
  .inl (.int, 6, .inl (.int (Int32.ofNat 0)), []),
  .inr (5, [.inl (.int (Int32.ofNat 4294967295)), .inl (.int (Int32.ofNat 0)), .inl (.ref 96), .inl (.ref 97), .inl (.ref 98), .inl (.ref 99)]),
  .inl (.int, 60, .inl (.int (Int32.ofNat 0)), []),
  .inl (.int, 60, .inl (.int (Int32.ofNat 0)), []),
  .inl (.int, 60, .inl (.int (Int32.ofNat 0)), []),
  .inl (.int, 60, .inl (.int (Int32.ofNat 0)), []),
  .inr (10, [.inl (.ref 101), .inl (.ref 102), .inl (.ref 103), .inl (.long (Int64.ofNat 0)), .inl (.int (Int32.ofNat 0)), .inl (.int (Int32.ofNat 0)), .inl (.ref 104), .inl (.int (Int32.ofNat 0)), .inl (.long (Int64.ofNat 0))]),
  .inl (.int, 48, .inl (.int (Int32.ofNat 0)), []),
  .inl (.int, 48, .inl (.int (Int32.ofNat 0)), []),
  .inl (.int, 64, .inl (.int (Int32.ofNat 0)), []),
  .inl (.int, 48, .inl (.int (Int32.ofNat 0)), []),
  .inr (1, [.inl (.ref 100), .inl .null, .inl (.long (Int64.ofNat 0)), .inl (.ref 106), .inl (.ref 107), .inl (.ref 108), .inl (.ref 109), .inl (.int (Int32.ofNat 0)), .inl (.int (Int32.ofNat 0)), .inl (.int (Int32.ofNat 0)), .inl (.int (Int32.ofNat 0))]),
  .inl (.int, 6, .inl (.int (Int32.ofNat 0)), []),
  .inl (.long, 6, .inl (.long (Int64.ofNat 0)), []),
  .inl (.int, 288, .inl (.int (Int32.ofNat 0)), []),
  .inl (.long, 288, .inl (.long (Int64.ofNat 0)), []),
  .inr (0, [.inl .null, .inl .null, .inl (.int (Int32.ofNat 0)), .inl (.int (Int32.ofNat 0)), .inl (.long (Int64.ofNat 0)), .inl (.ref 111), .inl (.ref 112), .inl (.ref 113), .inl (.int (Int32.ofNat 0))]),
  .inl (.int, 48, .inl (.int (Int32.ofNat 0)), []),
  .inl (.int, 96, .inl (.int (Int32.ofNat 0)), []),
  .inl (.int, 96, .inl (.int (Int32.ofNat 0)), []),
  .inr (4, [.inl (.ref 115), .inl (.ref 116)]),
  .inl (.long, 48, .inl (.long (Int64.ofNat 0)), []),
  .inl (.long, 48, .inl (.long (Int64.ofNat 0)), []),
  .inr (7, [.inl (.ref 100), .inl (.ref 118), .inl .null, .inl .null, .inl (.int (Int32.ofNat 0)), .inl (.int (Int32.ofNat 0)), .inl (.int (Int32.ofNat 0)), .inl (.int (Int32.ofNat 0)), .inl (.int (Int32.ofNat 0)), .inl (.int (Int32.ofNat 0)), .inl (.int (Int32.ofNat 0)), .inl (.int (Int32.ofNat 0))]),
  .inl (.int, 60, .inl (.int (Int32.ofNat 0)), []),
  .inl (.int, 48, .inl (.int (Int32.ofNat 0)), []),
  .inl (.int, 4, .inl (.int (Int32.ofNat 0)), [(0, .inl (.int (Int32.ofNat 4294967295))), (1, .inl (.int (Int32.ofNat 4294967295))), (2, .inl (.int (Int32.ofNat 4294967295))), (3, .inl (.int (Int32.ofNat 4294967295)))]),
  .inr (12, [.inl (.int (Int32.ofNat 0)), .inl (.int (Int32.ofNat 0)), .inl (.long (Int64.ofNat 0)), .inl (.long (Int64.ofNat 1)), .inl (.ref 122), .inl (.ref 123), .inl (.ref 124), .inl (.ref 125), .inl (.int (Int32.ofNat 0)), .inl (.int (Int32.ofNat 0)), .inl (.int (Int32.ofNat 4294967295)), .inl (.int (Int32.ofNat 4294967295)), .inl (.int (Int32.ofNat 0)), .inl (.int (Int32.ofNat 0)), .inl (.int (Int32.ofNat 0)), .inl (.int (Int32.ofNat 0)), .inl (.int (Int32.ofNat 0)), .inl (.int (Int32.ofNat 0)), .inl (.int (Int32.ofNat 0)), .inl (.long (Int64.ofNat 0)), .inl (.ref 126), .inl (.ref 127), .inl (.ref 128), .inl (.int (Int32.ofNat 0)), .inl (.int (Int32.ofNat 0)), .inl (.int (Int32.ofNat 0)), .inl (.ref 129), .inl (.ref 130), .inl (.ref 131), .inl (.int (Int32.ofNat 0)), .inl (.ref 132), .inl (.int (Int32.ofNat 0)), .inl (.int (Int32.ofNat 4294967295)), .inl (.int (Int32.ofNat 0)), .inl (.int (Int32.ofNat 0)), .inl (.int (Int32.ofNat 0)), .inl (.ref 133), .inl (.ref 134), .inl (.ref 135), .inl (.ref 136), .inl (.int (Int32.ofNat 0)), .inl (.int (Int32.ofNat 0)), .inl (.int (Int32.ofNat 0)), .inl (.int (Int32.ofNat 0)), .inl (.int (Int32.ofNat 0)), .inl (.int (Int32.ofNat 0)), .inl (.int (Int32.ofNat 0)), .inl (.int (Int32.ofNat 0))]),
  .inl (.int, 4, .inl (.int (Int32.ofNat 0)), []),
  .inl (.int, 4, .inl (.int (Int32.ofNat 0)), [(0, .inl (.int (Int32.ofNat 4294967295))), (1, .inl (.int (Int32.ofNat 4294967295))), (2, .inl (.int (Int32.ofNat 4294967295))), (3, .inl (.int (Int32.ofNat 4294967295)))]),
  .inl (.long, 240, .inl (.long (Int64.ofNat 0)), []),
  .inl (.byte, 900, .inl (.int (Int32.ofNat 0)), []),
  .inl (.int, 2750, .inl (.int (Int32.ofNat 0)), [(0, .inl (.int (Int32.ofNat 2))), (1, .inl (.int (Int32.ofNat 1))), (2, .inl (.int (Int32.ofNat 1)))]),
  .inl (.int, 275, .inl (.int (Int32.ofNat 0)), []),
  .inl (.long, 30, .inl (.long (Int64.ofNat 0)), []),
  .inl (.boolean, 48, .inl (.int (Int32.ofNat 0)), []),
  .inl (.int, 48, .inl (.int (Int32.ofNat 0)), []),
  .inl (.int, 49, .inl (.int (Int32.ofNat 0)), []),
  .inl (.int, 49, .inl (.int (Int32.ofNat 0)), []),
  .inl (.int, 4, .inl (.int (Int32.ofNat 0)), []),
  .inl (.long, 48, .inl (.long (Int64.ofNat 0)), []),
  .inl (.long, 48, .inl (.long (Int64.ofNat 0)), []),
  .inl (.int, 4, .inl (.int (Int32.ofNat 0)), [])]
noncomputable def x_s1 (e : xE) : xS := (e, 0, 0, x_h1, [(3, .inl (.int (Int32.ofNat 0))), (2, .inl (.ref 121)), (1, .inl (.ref 0)), (0, .inr (4, 0))], [])
noncomputable def x_s0 (e : xE) : xS := (e, 137, 13572, [], [(0, .inr (4, 0))], [])
set_option maxRecDepth 100000 in
theorem x_phaseA : x_go xMT 1000000 10 te_L_law 0 (x_s0 (x_e0 (-2147483648, 2147483647))) = some (18, x_s1 (x_e0 (-2147483648, 2147483647))) := x_same_eq (by decide +kernel)
end
section
/-! WHERE THE CONSTRUCTORS HAVE COME, AS THE CONCRETE MACHINE READS IT -/
def iV (a : xV) : zV := match a with
  | .inl (.int x) => (0, x.toInt)
  | .inl (.long x) => (1, x.toInt)
  | .inl (.ref k) => (2, (k : Int))
  | _ => (4, 0)
def iLit (a : xV) : Bool := match a with
  | .inl (.int _) => true
  | .inl (.long _) => true
  | .inl (.ref _) => true
  | .inl .null => true
  | _ => false
def iLitC (c : xC) : Bool := match c with
  | .inl (_, _, d, o) => iLit d && o.all (fun q => iLit q.2)
  | .inr (_, fs) => fs.all iLit
noncomputable def iG (c : xC) : Nat → zV := match c with
  | .inl (_, _, d, o) => fun j => iV (x_lk o d j)
  | .inr (_, fs) => fun j => match x_nth fs j with
    | some a => iV a
    | none => (4, 0)
noncomputable def hIni : zH := fun r => match x_nth x_h1 r with
  | some c => iG c
  | none => fun _ => (4, 0)
def iZ (c : xC) : zC := match c with
  | .inl (ty, n, _, _) => .inl (ty, n)
  | .inr (ci, fs) => .inr (ci, fs.length)
theorem ini_shape : x_h1.map iZ = zShape := by decide +kernel
theorem ini_lit : x_h1.all iLitC = true := by decide +kernel
theorem iV_den {P : xP} {P' : zP} (hb : P'.1 = P.2.1) {a : xV} {v : Value} (hl : iLit a = true) (d : xden P a v) : zden P' (iV a) v := by
  match a, hl, d with
  | .inl (.int x), _, d => exact ⟨x, d, rfl⟩
  | .inl (.long x), _, d => exact ⟨x, d, rfl⟩
  | .inl (.ref k), _, d =>
    show v = .ref (P'.1 + ((k : Nat) : Int).toNat)
    rw [hb, Int.toNat_natCast]
    exact d
  | .inl .null, _, d => exact d
theorem iLk {d : xV} (hd : iLit d = true) : ∀ {o : List (Nat × xV)} (_ : o.all (fun q => iLit q.2) = true) (j : Nat), iLit (x_lk o d j) = true
  | [], _, _ => hd
  | q :: o, h, j => by
    rw [List.all_cons, Bool.and_eq_true] at h
    show iLit (cond (Nat.beq q.1 j) q.2 (x_lk o d j)) = true
    cases Nat.beq q.1 j with
    | true => exact h.1
    | false => exact iLk hd h.2 j
theorem iDs {P : xP} {P' : zP} (hb : P'.1 = P.2.1) : ∀ {fs : List xV} {vs : List Value}, fs.all iLit = true → xdens P fs vs → ∀ j, j < fs.length → ∃ v, vs[j]? = some v ∧ zden P' (match x_nth fs j with
    | some a => iV a
    | none => (4, 0)) v
  | [], _, _, _, j, hj => absurd hj (Nat.not_lt_zero j)
  | a :: fs, v :: vs, h, ⟨d, ds⟩, j, hj => by
    rw [List.all_cons, Bool.and_eq_true] at h
    cases j with
    | zero => exact ⟨v, rfl, iV_den hb h.1 d⟩
    | succ j =>
      obtain ⟨w, h1, h2⟩ := iDs hb h.2 ds j (Nat.lt_of_succ_lt_succ hj)
      exact ⟨w, by rw [List.getElem?_cons_succ]; exact h1, h2⟩
theorem zcell_of {P : xP} {P' : zP} (hb : P'.1 = P.2.1) (hg : P'.2.2.1 = P.2.2.2.1) {U : State} {H : Heap} {a : Nat} {c : xC} (hl : iLitC c = true) (h : xcell P U c a H) : zcell P' U (iZ c) (iG c) a H := by
  match c, hl, h with
  | .inl (ty, n, d, o), hl, ⟨cA, X, h1, h2, h3, h4, h5⟩ =>
    have hl : (iLit d && o.all (fun q => iLit q.2)) = true := hl
    rw [Bool.and_eq_true] at hl
    refine ⟨cA, X, h1, h2, ?_, h4, h5⟩
    obtain ⟨n', A⟩ := X
    match A, h3 with
    | .inl f, ⟨e1, e2⟩ => exact ⟨e1, fun j hj => iV_den hb (iLk hl.1 hl.2 j) (e2 j hj)⟩
    | .inr (.inl f), ⟨e1, e2⟩ => exact ⟨e1, fun j hj => iV_den hb (iLk hl.1 hl.2 j) (e2 j hj)⟩
    | .inr (.inr (.inr (.inr f))), ⟨e1, e2⟩ => exact ⟨e1, fun j hj => iV_den hb (iLk hl.1 hl.2 j) (e2 j hj)⟩
  | .inr (ci, fs), hl, ⟨vs, h1, h2⟩ =>
    refine ⟨vs, fun j hj => iDs hb hl h1 j hj, ?_⟩
    rw [hg]
    exact h2
theorem zG_of {P : xP} {P' : zP} (hb : P'.1 = P.2.1) (hg : P'.2.2.1 = P.2.2.2.1) {U : State} {H : Heap} (h : xG P x_h1 U H) : zG P' hIni U H := by
  intro k c hk
  rw [← ini_shape, List.getElem?_map] at hk
  obtain ⟨c0, hc, rfl⟩ := Option.map_eq_some_iff.mp hk
  have e : hIni k = iG c0 := by
    unfold hIni
    rw [x_nth_eq, hc]
  rw [e, hb]
  exact zcell_of hb hg (List.all_eq_true.mp ini_lit c0 (List.mem_of_getElem? hc)) (h.2 k c0 hc)
/-! what its cells hold -/
noncomputable def iCk (g : Nat → zV) (l : List (Nat × aT)) : Nat → Bool := List.rec (motive := fun _ => Nat → Bool) (fun _ => true) (fun s _ ih p => a_allN (fun j => a_acc s.2 ((g j).1, 0, 0) (g j).2 (g j).2) p s.1 && a_bN (p + s.1) ih) l
theorem iCk_ok {g : Nat → zV} : ∀ {l : List (Nat × aT)} {p : Nat}, iCk g l p = true → atyOK g l p
  | [], _, _ => trivial
  | s :: l, p, h => by
    have h : (a_allN (fun j => a_acc s.2 ((g j).1, 0, 0) (g j).2 (g j).2) p s.1 && a_bN (p + s.1) (iCk g l)) = true := h
    rw [Bool.and_eq_true, a_bN_eq] at h
    refine ⟨fun j h1 h2 => ?_, iCk_ok h.2⟩
    have := a_allN_ok h.1 (j - p) (by omega)
    rw [show p + (j - p) = j by omega] at this
    exact a_acc_ok this rfl (Int.le_refl _) (Int.le_refl _)
noncomputable def iCc (g : Nat → zV) (l : aTc) : Nat → Bool := List.rec (motive := fun _ => Nat → Bool) (fun _ => true) (fun s _ ih p => iCk g s.2 p && (Nat.ble (a_wid s.2) s.1 && a_bN (p + s.1) ih)) l
theorem iCc_ok {g : Nat → zV} : ∀ {l : aTc} {p : Nat}, iCc g l p = true → atyC g l p
  | [], _, _ => trivial
  | s :: l, p, h => by
    have h : (iCk g s.2 p && (Nat.ble (a_wid s.2) s.1 && a_bN (p + s.1) (iCc g l))) = true := h
    rw [Bool.and_eq_true, Bool.and_eq_true, a_bN_eq] at h
    exact ⟨iCk_ok h.1, Nat.le_of_ble_eq_true h.2.1, iCc_ok h.2.2⟩
noncomputable def iTy (cs : xH) : List aTc → Bool := List.rec (motive := fun _ => List aTc → Bool) (fun ls => match ls with
  | [] => true
  | _ => false) (fun c _ ih ls => match ls with
  | l :: ls => iCc (iG c) l 0 && ih ls
  | [] => false) cs
theorem iTy_ok : ∀ {cs : xH} {ls : List aTc}, iTy cs ls = true → ∀ (r : Nat) (l : aTc), ls[r]? = some l → ∃ c, cs[r]? = some c ∧ atyC (iG c) l 0
  | [], [], _, r, l, hl => by cases r <;> cases hl
  | [], _ :: _, h, _, _, _ => by cases h
  | _ :: _, [], h, _, _, _ => by cases h
  | c :: cs, l :: ls, h, r, l', hl => by
    have h : (iCc (iG c) l 0 && iTy cs ls) = true := h
    rw [Bool.and_eq_true] at h
    cases r with
    | zero =>
      cases hl
      exact ⟨c, rfl, iCc_ok h.1⟩
    | succ r => exact iTy_ok h.2 r l' hl
theorem ini_tyB : iTy x_h1 aTy1.flatten = true := by decide +kernel
theorem ini_ty12 : a_okc aTy1 = true := by decide +kernel
theorem ini_ty : aTyped aTy1 hIni := by
  intro r l hl
  rw [a_at_flat aTy1 r ini_ty12] at hl
  obtain ⟨c, h1, h2⟩ := iTy_ok ini_tyB r l hl
  have e : hIni r = iG c := by
    unfold hIni
    rw [x_nth_eq, h1]
  rw [e]
  exact h2
noncomputable def i0 (r k : Nat) : Bool := @decide ((hIni r k).2 = 0) (a_decEqZ _ _)
theorem i0_ok {r k : Nat} (h : i0 r k = true) : (hIni r k).2 = 0 := by
  unfold i0 at h
  rw [a_dec_eq] at h
  exact h
noncomputable def iR (x : Nat) : Bool := i0 (rPl x).2.2.2.1 (rPl x).2.2.2.2.1 && i0 (rPl x).2.2.2.2.2.1 (rPl x).2.2.2.2.2.2
theorem iR_ok {x : Nat} (h : iR x = true) : rOK x hIni := by
  unfold iR at h
  rw [Bool.and_eq_true] at h
  refine ⟨fun hm => ?_, fun hm => ?_⟩
  · rw [i0_ok h.1]; exact ⟨Int.le_refl 0, hm⟩
  · rw [i0_ok h.2]; exact ⟨Int.le_refl 0, hm⟩
theorem ini_rows0 : a_allN iR 0 120 = true := by decide +kernel
theorem ini_rows1 : a_allN iR 160 360 = true := by decide +kernel
theorem ini_row {x : Nat} (h : x < 120 ∨ (160 ≤ x ∧ x < 520)) : rOK x hIni := by
  rcases h with h | h
  · have := a_allN_ok ini_rows0 x h
    rw [Nat.zero_add] at this
    exact iR_ok this
  · have := a_allN_ok ini_rows1 (x - 160) (by omega)
    rw [show 160 + (x - 160) = x by omega] at this
    exact iR_ok this
theorem ini_al : a_allN (fun b => a_alls (fun i => i0 126 (550 * b + i)) [245, 246, 247, 248, 249, 250, 257, 258, 259, 260, 261, 262]) 0 4 = true := by decide +kernel
theorem ini_rAl {b : Nat} (hb : b < 4) : rAl hIni 126 (550 * b) := by
  intro k hk
  left
  have := a_allN_ok ini_al b hb
  rw [Nat.zero_add] at this
  have h2 : k - 550 * b ∈ [245, 246, 247, 248, 249, 250, 257, 258, 259, 260, 261, 262] := by
    have : k - 550 * b = 245 ∨ k - 550 * b = 246 ∨ k - 550 * b = 247 ∨ k - 550 * b = 248 ∨ k - 550 * b = 249 ∨ k - 550 * b = 250 ∨ k - 550 * b = 257 ∨ k - 550 * b = 258 ∨ k - 550 * b = 259 ∨ k - 550 * b = 260 ∨ k - 550 * b = 261 ∨ k - 550 * b = 262 := by unfold rIn at hk; omega
    rcases this with e | e | e | e | e | e | e | e | e | e | e | e <;> rw [e] <;> decide
  have := i0_ok (a_alls_ok this _ h2)
  rw [show 550 * b + (k - 550 * b) = k by unfold rIn at hk; omega] at this
  exact this
/-! the flags' meaning, for good -/
def Fl0 (j : Nat) (h : zH) : Prop := if j < 345 then rFl j h else if j < 353 then rFx j h else if 355 ≤ j ∧ j < 359 then rTr (j - 355) h else if j = 359 then rTl h else True
theorem rTr_cg {t : Nat} {h h' : zH} (e1 : h' (2 + 2 * t) 1 = h (2 + 2 * t) 1) (e2 : h' (2 + 2 * t) 2 = h (2 + 2 * t) 2) (e3 : h' 122 t = h 122 t) (e4 : h' 123 t = h 123 t) (g : rTr t h) : rTr t h' := by
  unfold rTr at g ⊢
  rw [e1, e2, e3, e4]
  exact g
noncomputable def inM (m : aM) (r k : Nat) : Bool := List.rec (motive := fun _ => Bool) false (fun q _ ih => (Nat.beq q.1 r && (Nat.ble q.2.1 k && Nat.ble k q.2.2)) || ih) m
theorem inM_ok {r k : Nat} : ∀ {m : aM}, inM m r k = true → aIn m r k
  | [], h => by cases h
  | q :: m, h => by
    have h : ((Nat.beq q.1 r && (Nat.ble q.2.1 k && Nat.ble k q.2.2)) || inM m r k) = true := h
    simp only [Bool.or_eq_true, Bool.and_eq_true] at h
    rcases h with ⟨h1, h2, h3⟩ | h
    · exact ⟨q, List.mem_cons_self, Nat.eq_of_beq_eq_true h1, Nat.le_of_ble_eq_true h2, Nat.le_of_ble_eq_true h3⟩
    · obtain ⟨q', h1, h2⟩ := inM_ok h
      exact ⟨q', List.mem_cons_of_mem _ h1, h2⟩
noncomputable def rIM (m : aM) (x : Nat) : Bool := inM m (rPl x).1 (rPl x).2.1 && (inM m (rPl x).1 (rPl x).2.2.1 && (inM m (rPl x).2.2.2.1 (rPl x).2.2.2.2.1 && inM m (rPl x).2.2.2.2.2.1 (rPl x).2.2.2.2.2.2))
theorem rIM_ok {m : aM} {x : Nat} {h h' : zH} (hb : rIM m x = true) (he : ∀ r k, aIn m r k → h' r k = h r k) (hr : rOK x h) : rOK x h' := by
  unfold rIM at hb
  simp only [Bool.and_eq_true] at hb
  obtain ⟨b1, b2, b3, b4⟩ := hb
  unfold rOK
  rw [he _ _ (inM_ok b1), he _ _ (inM_ok b2), he _ _ (inM_ok b3), he _ _ (inM_ok b4)]
  exact hr
noncomputable def supC (j : Nat) : Bool := match a_at aSup1 j with
  | some m => cond (Nat.beq j 155) (inM m 121 25 && a_allN (rIM m) 120 30) (a_bN (a_fr j).1 (fun lo => a_bN ((a_fr j).2 - lo) (fun n => a_allN (rIM m) lo n)))
  | none => true
theorem sup_rows : a_allN supC 0 345 = true := by decide +kernel
theorem aOK0 {G3 : Bool} {D : zD} (hD : ∀ i, -2147483648 ≤ D.2 i ∧ D.2 i ≤ 2147483647) (h0 : zH) (m0 : aM) (hS : G3 = true → ∀ k, h0 1000 k = (0, D.2 k) ∧ ¬ aIn m0 1000 k) : aOK ((aTy1, aSup1, G3), D, Fl0, h0, m0) := by
  refine ⟨⟨fun j m hm h h' he hf => ?_, hS⟩, hD, fun j h h1 h2 => ?_⟩
  · have hm : a_at aSup1 j = some m := hm
    by_cases j1 : j < 345
    · have hf : rFl j h := by
        have : Fl0 j h := hf
        unfold Fl0 at this
        rw [if_pos j1] at this
        exact this
      have hc := a_allN_ok sup_rows j j1
      rw [Nat.zero_add] at hc
      unfold supC at hc
      rw [hm] at hc
      show Fl0 j h'
      unfold Fl0
      rw [if_pos j1]
      by_cases e : j = 155
      · subst e
        have hc : (inM m 121 25 && a_allN (rIM m) 120 30) = true := hc
        rw [Bool.and_eq_true] at hc
        refine rFl_155.mpr fun x x1 x2 x3 => ?_
        rw [he 121 25 (inM_ok hc.1)] at x3
        have := a_allN_ok hc.2 (x - 120) (by omega)
        rw [show 120 + (x - 120) = x by omega] at this
        exact rIM_ok this he (rFl_155.mp hf x x1 x2 x3)
      · have hb : Nat.beq j 155 = false := by
          cases hq : Nat.beq j 155 with
          | false => rfl
          | true => exact absurd (Nat.eq_of_beq_eq_true hq) e
        rw [hb] at hc
        have hc : a_bN (a_fr j).1 (fun lo => a_bN ((a_fr j).2 - lo) (fun n => a_allN (rIM m) lo n)) = true := hc
        rw [a_bN_eq, a_bN_eq] at hc
        refine (rFl_n e).mpr fun x x1 x2 => ?_
        have := a_allN_ok hc (x - (a_fr j).1) (by omega)
        rw [show (a_fr j).1 + (x - (a_fr j).1) = x by omega] at this
        exact rIM_ok this he ((rFl_n e).mp hf x x1 x2)
    · by_cases j2 : j < 353
      · have hf : rFx j h := by
          have : Fl0 j h := hf
          unfold Fl0 at this
          rw [if_neg j1, if_pos j2] at this
          exact this
        show Fl0 j h'
        unfold Fl0
        rw [if_neg j1, if_pos j2]
        have al : ∀ r B, (∀ k, k = B ∨ k = B + 1 ∨ rIn B k → aIn m r k) → rAl h r B → rAl h' r B := fun r B hin ha k hk => by
          have := ha k hk
          unfold rCb at this ⊢
          rw [he r k (hin k (Or.inr (Or.inr hk))), he r B (hin B (Or.inl rfl)), he r (B + 1) (hin (B + 1) (Or.inr (Or.inl rfl)))]
          exact this
        have three : ∀ r B (m : aM), m = [(r, B, B + 1), (r, B + 245, B + 250), (r, B + 257, B + 262)] → ∀ k, k = B ∨ k = B + 1 ∨ rIn B k → aIn m r k := fun r B m em k hk => by
          rw [em]
          unfold rIn at hk
          by_cases c : k ≤ B + 1
          · exact ⟨_, List.mem_cons_self, rfl, by show B ≤ k; omega, c⟩
          · by_cases c2 : k ≤ B + 250
            · exact ⟨_, List.mem_cons_of_mem _ List.mem_cons_self, rfl, by show B + 245 ≤ k; omega, c2⟩
            · exact ⟨_, List.mem_cons_of_mem _ (List.mem_cons_of_mem _ List.mem_cons_self), rfl, by show B + 257 ≤ k; omega, by show k ≤ B + 262; omega⟩
        have cs : j = 345 ∨ j = 346 ∨ j = 347 ∨ j = 348 ∨ j = 349 ∨ j = 350 ∨ j = 351 ∨ j = 352 := by omega
        rcases cs with e | e | e | e | e | e | e | e
        · subst e
          cases hm
          exact al 126 0 (three 126 0 _ rfl) hf
        · subst e
          cases hm
          exact al 126 550 (three 126 550 _ rfl) hf
        · subst e
          cases hm
          exact al 126 1100 (three 126 1100 _ rfl) hf
        · subst e
          cases hm
          exact al 126 1650 (three 126 1650 _ rfl) hf
        · subst e
          cases hm
          exact al 126 2200 (three 126 2200 _ rfl) hf
        · subst e
          cases hm
          exact al 127 0 (three 127 0 _ rfl) hf
        · subst e
          cases hm
          have hf : rRow h := hf
          show rRow h'
          intro i i1 i2
          have g1 := he 121 31 ⟨(121, 31, 31), List.mem_cons_self, rfl, Nat.le_refl _, Nat.le_refl _⟩
          have g2 := he 132 i ⟨(132, 0, 48), List.mem_cons_of_mem _ List.mem_cons_self, rfl, Nat.zero_le _, by show i ≤ 48; omega⟩
          have g3 := he 126 0 ⟨(126, 0, 1), List.mem_cons_of_mem _ (List.mem_cons_of_mem _ List.mem_cons_self), rfl, Nat.zero_le _, Nat.zero_le _⟩
          have g4 := he 126 1 ⟨(126, 0, 1), List.mem_cons_of_mem _ (List.mem_cons_of_mem _ List.mem_cons_self), rfl, Nat.zero_le _, Nat.le_refl _⟩
          rw [g1] at i2
          have := hf i i1 i2
          unfold rCb at this ⊢
          rw [g2, g3, show (0 : Nat) + 1 = 1 from rfl, g4]
          exact this
        · subst e
          cases hm
          have hf : rZe h := hf
          show rZe h'
          intro k hk
          rw [he 126 k (by
            unfold rIn at hk
            by_cases c2 : k ≤ 2450
            · exact ⟨(126, 2445, 2450), List.mem_cons_self, rfl, by show 2445 ≤ k; omega, c2⟩
            · exact ⟨(126, 2457, 2462), List.mem_cons_of_mem _ List.mem_cons_self, rfl, by show 2457 ≤ k; omega, by show k ≤ 2462; omega⟩)]
          exact hf k hk
      · by_cases j3 : 355 ≤ j ∧ j < 359
        · have hf : rTr (j - 355) h := by
            have : Fl0 j h := hf
            unfold Fl0 at this
            rw [if_neg j1, if_neg j2, if_pos j3] at this
            exact this
          show Fl0 j h'
          unfold Fl0
          rw [if_neg j1, if_neg j2, if_pos j3]
          have sup : ∀ t (m : aM), m = [(2 + 2 * t, 1, 2), (122, t, t), (123, t, t)] → (∀ r k, aIn m r k → h' r k = h r k) → rTr t h → rTr t h' := fun t m em he => by
            rw [em] at he
            exact rTr_cg (he _ _ ⟨_, List.mem_cons_self, rfl, Nat.le_refl _, Nat.le_succ _⟩) (he _ _ ⟨_, List.mem_cons_self, rfl, Nat.le_succ _, Nat.le_refl _⟩) (he _ _ ⟨_, List.mem_cons_of_mem _ List.mem_cons_self, rfl, Nat.le_refl _, Nat.le_refl _⟩) (he _ _ ⟨_, List.mem_cons_of_mem _ (List.mem_cons_of_mem _ List.mem_cons_self), rfl, Nat.le_refl _, Nat.le_refl _⟩)
          have cs : j = 355 ∨ j = 356 ∨ j = 357 ∨ j = 358 := by omega
          rcases cs with e | e | e | e
          · subst e
            cases hm
            exact sup 0 _ rfl he hf
          · subst e
            cases hm
            exact sup 1 _ rfl he hf
          · subst e
            cases hm
            exact sup 2 _ rfl he hf
          · subst e
            cases hm
            exact sup 3 _ rfl he hf
        · by_cases j4 : j = 359
          · subst j4
            cases hm
            have hf : rTl h := hf
            show rTl h'
            unfold rTl at hf ⊢
            rw [he 10 1 ⟨_, List.mem_cons_self, rfl, Nat.le_refl _, Nat.le_refl _⟩, he 121 8 ⟨_, List.mem_cons_of_mem _ List.mem_cons_self, rfl, Nat.le_refl _, Nat.le_refl _⟩]
            exact hf
          · show Fl0 j h'
            unfold Fl0
            rw [if_neg j1, if_neg j2, if_neg j3, if_neg j4]
            exact trivial
  · show Fl0 j h ↔ rFx j h
    unfold Fl0
    rw [if_neg (by omega), if_pos h2]
theorem aFlOK0 {G : aG} {D : zD} (h0 : zH) (m0 : aM) : aFlOK (G, D, Fl0, h0, m0) := fun j h hj => by
  show Fl0 j h ↔ rFl j h
  unfold Fl0
  rw [if_pos hj]
noncomputable def tyK (l : aTc) (n : Nat) : Bool := tyI l 0 (n - 1) 0 (-2147483648) 2147483647
theorem tyK_ok {g : Nat → zV} {l : aTc} {n : Nat} (h : tyK l n = true) (hg : atyC g l 0) : ∀ j, j < n → (g j).1 = 0 := fun j hj => (tyI_ok hg h j (Nat.zero_le j) (by omega)).1
theorem aIntOK0 {G3 : Bool} {D : zD} {Fl : Nat → zH → Prop} (h0 : zH) (m0 : aM) : aIntOK ((aTy1, aSup1, G3), D, Fl, h0, m0) := by
  intro h ht
  have ht : aTyped aTy1 h := ht
  have k : ∀ r l n, a_at aTy1 r = some l → tyK l n = true → ∀ j, j < n → (h r j).1 = 0 := fun r l n hl hk j hj => tyK_ok hk (ht r l hl) j hj
  refine ⟨k 126 ty_126 2750 rfl (by decide +kernel), fun o ho j hj => ?_⟩
  match o, ho with
  | 0, _ => exact ⟨k 19 ty_19 60 rfl (by decide +kernel) j hj, k 20 ty_20 60 rfl (by decide +kernel) j hj, k 21 ty_21 60 rfl (by decide +kernel) j hj⟩
  | 1, _ => exact ⟨k 35 ty_35 60 rfl (by decide +kernel) j hj, k 36 ty_36 60 rfl (by decide +kernel) j hj, k 37 ty_37 60 rfl (by decide +kernel) j hj⟩
  | 2, _ => exact ⟨k 50 ty_50 60 rfl (by decide +kernel) j hj, k 51 ty_51 60 rfl (by decide +kernel) j hj, k 52 ty_52 60 rfl (by decide +kernel) j hj⟩
  | 3, _ => exact ⟨k 66 ty_66 60 rfl (by decide +kernel) j hj, k 67 ty_67 60 rfl (by decide +kernel) j hj, k 68 ty_68 60 rfl (by decide +kernel) j hj⟩
  | 4, _ => exact ⟨k 81 ty_81 60 rfl (by decide +kernel) j hj, k 82 ty_82 60 rfl (by decide +kernel) j hj, k 83 ty_83 60 rfl (by decide +kernel) j hj⟩
  | 5, _ => exact ⟨k 96 ty_96 60 rfl (by decide +kernel) j hj, k 97 ty_97 60 rfl (by decide +kernel) j hj, k 98 ty_98 60 rfl (by decide +kernel) j hj⟩
  | n + 6, h => omega
theorem ini_tl : Fl0 359 hIni := by
  show (hIni 10 1).2 = (hIni 121 8).2
  rw [i0_ok (r := 10) (k := 1) (by decide +kernel), i0_ok (r := 121) (k := 8) (by decide +kernel)]
theorem ini_trB : a_allN (fun t => @decide ((hIni (2 + 2 * t) 1).2 = -1) (a_decEqZ _ _) && @decide ((hIni 123 t).2 = -1) (a_decEqZ _ _)) 0 4 = true := by decide +kernel
theorem ini_tr {t : Nat} (ht : t < 4) : Fl0 (355 + t) hIni := by
  have := a_allN_ok ini_trB t ht
  rw [Nat.zero_add, Bool.and_eq_true, a_dec_eq, a_dec_eq] at this
  unfold Fl0
  rw [if_neg (by omega), if_neg (by omega), if_pos ⟨by omega, by omega⟩, show 355 + t - 355 = t by omega]
  exact Or.inl this
end
section
/-! THE LAW'S LOOP, FROM WHERE THE CONSTRUCTORS HAVE COME -/
noncomputable def TLw : zT := fun mi pc => if mi = 341 then z_at zt_L_law pc else zTf mi pc
theorem TLw_T : ∀ mi t, x_nth zMT mi = some t → ∀ pc i, z_at t pc = some i → TLw mi pc = some i := by
  intro mi t ht pc i hi
  have hne : mi ≠ 341 := fun e => by
    rw [e, show x_nth zMT 341 = none from rfl] at ht
    cases ht
  unfold TLw
  rw [if_neg hne]
  show (match x_nth zMT mi with
    | some t => z_at t pc
    | none => none) = some i
  rw [ht]
  exact hi
def Lz : zL := fun k => match k with
  | 0 => some (3, 0)
  | 1 => some (2, 0)
  | 2 => some (2, 121)
  | 3 => some (0, 0)
  | _ => none
theorem bH0 {o : Nat} {D : zD} (hD : ∀ i, -2147483648 ≤ D.2 i ∧ D.2 i ≤ 2147483647) : bH o D Fl0 TLw := ⟨fun h m => aOK0 hD h m (fun e => by cases e), fun h m => aFlOK0 h m, fun h m => aIntOK0 h m, TLw_T⟩
theorem ini_fl : ∀ j ∈ lQ_0.2.2.2.2, Fl0 j hIni := by
  intro j hj
  have hm : j = 30 ∨ j = 61 ∨ j = 92 ∨ j = 123 ∨ j = 217 ∨ j = 218 ∨ j = 219 ∨ j = 220 ∨ j = 221 ∨ j = 222 ∨ j = 345 ∨ j = 346 ∨ j = 347 ∨ j = 348 ∨ j = 355 ∨ j = 356 ∨ j = 357 ∨ j = 358 ∨ j = 359 := by
    have : ∀ j ∈ lQ_0.2.2.2.2, j = 30 ∨ j = 61 ∨ j = 92 ∨ j = 123 ∨ j = 217 ∨ j = 218 ∨ j = 219 ∨ j = 220 ∨ j = 221 ∨ j = 222 ∨ j = 345 ∨ j = 346 ∨ j = 347 ∨ j = 348 ∨ j = 355 ∨ j = 356 ∨ j = 357 ∨ j = 358 ∨ j = 359 := by decide
    exact this j hj
  have rows : ∀ j lo hi, j < 345 → j ≠ 155 → a_fr j = (lo, hi) → (hi ≤ 120 ∨ (160 ≤ lo ∧ hi ≤ 520)) → Fl0 j hIni := fun j lo hi h1 h2 hf hr => by
    unfold Fl0
    rw [if_pos h1]
    refine (rFl_n h2).mpr fun x x1 x2 => ini_row ?_
    rw [hf] at x1 x2
    have x1 : lo ≤ x := x1
    have x2 : x < hi := x2
    omega
  have als : ∀ j, 345 ≤ j → j < 349 → rFx j hIni → Fl0 j hIni := fun j h1 h2 h => by
    unfold Fl0
    rw [if_neg (by omega), if_pos (by omega)]
    exact h
  rcases hm with e | e | e | e | e | e | e | e | e | e | e | e | e | e | e | e | e | e | e
  · subst e; exact rows 30 0 30 (by omega) (by omega) rfl (by omega)
  · subst e; exact rows 61 30 60 (by omega) (by omega) rfl (by omega)
  · subst e; exact rows 92 60 90 (by omega) (by omega) rfl (by omega)
  · subst e; exact rows 123 90 120 (by omega) (by omega) rfl (by omega)
  · subst e; exact rows 217 160 220 (by omega) (by omega) rfl (by omega)
  · subst e; exact rows 218 220 280 (by omega) (by omega) rfl (by omega)
  · subst e; exact rows 219 280 340 (by omega) (by omega) rfl (by omega)
  · subst e; exact rows 220 340 400 (by omega) (by omega) rfl (by omega)
  · subst e; exact rows 221 400 460 (by omega) (by omega) rfl (by omega)
  · subst e; exact rows 222 460 520 (by omega) (by omega) rfl (by omega)
  · subst e; exact als 345 (by omega) (by omega) (ini_rAl (b := 0) (by omega))
  · subst e; exact als 346 (by omega) (by omega) (ini_rAl (b := 1) (by omega))
  · subst e; exact als 347 (by omega) (by omega) (ini_rAl (b := 2) (by omega))
  · subst e; exact als 348 (by omega) (by omega) (ini_rAl (b := 3) (by omega))
  · subst e; exact ini_tr (t := 0) (by omega)
  · subst e; exact ini_tr (t := 1) (by omega)
  · subst e; exact ini_tr (t := 2) (by omega)
  · subst e; exact ini_tr (t := 3) (by omega)
  · subst e; exact ini_tl
/-! what runs say of the machine, the law's own frame outermost -/
theorem z_soundL {l : Launch} {P : zP} {d pc : Nat} {st : zS} {r : zR} (hrun : zRun (zPD P) TLw d 341 pc st r) : ∀ (p : Program) (e : Env) (s : State) (m : MethodId) (args : Array Value) (below : List Frame) (meth : Method) (c : Code) (R : Room) (Q : State → Prop), zCx muL p s m args meth c → zRm d R → zKR P muL p l e R s m args below meth c Q r → zKG P muL p l e R s m args below meth c Q pc st := by
  have hlaw : ∀ pc i, z_at zt_L_law pc = some i → zSim l P zML muL pc i := zTab_of (zchkU_ok zMQ_ok rfl oL_law)
  have key := hrun (fun d mi pc st r => (mi = 341 → ∀ (p : Program) (e : Env) (s : State) (m : MethodId) (args : Array Value) (below : List Frame) (meth : Method) (c : Code) (R : Room) (Q : State → Prop), zCx muL p s m args meth c → zRm d R → zKR P muL p l e R s m args below meth c Q r → zKG P muL p l e R s m args below meth c Q pc st) ∧ (∀ y, zML[mi]? = some y → ∀ (p : Program) (e : Env) (s : State) (m : MethodId) (args : Array Value) (below : List Frame) (meth : Method) (c : Code) (R : Room) (Q : State → Prop), zCx (zMu y) p s m args meth c → zRm d R → zKR P (zMu y) p l e R s m args below meth c Q r → zKG P (zMu y) p l e R s m args below meth c Q pc st)) ?_
  · exact key.1 rfl
  intro d mi pc st r ⟨i, hi, hF⟩
  refine ⟨fun hmi => ?_, fun y hy => ?_⟩
  · subst hmi
    intro p e s m args below meth c R Q C hrm K H locs cells slots ls stk J
    have hsim := hlaw pc i ((if_pos rfl).symm.trans hi)
    cases hz : zi (zPD P) i st with
    | none => rw [hz] at hF; exact hF.elim
    | some o =>
      rw [hz] at hF
      refine hsim p e s m args below meth c R Q d C hrm st o hz H locs cells slots ls stk J ?_
      match o, hF with
      | .inl q, hF =>
        have hF : r = q := hF
        subst hF
        exact K
      | .inr (.inl q), hF => exact hF.1 rfl p e s m args below meth c R Q C hrm K
      | .inr (.inr q), ⟨d', r1, h1, h2, h3⟩ => exact ⟨d', r1, h1, fun y' hy' hwd vs dvs => z_met (zMT_ok (l := l) (P := P) _ _ hy').1 (h2.2 y' hy') hwd dvs, h3.1 rfl p e s m args below meth c R Q C hrm K⟩
  · intro p e s m args below meth c R Q C hrm K H locs cells slots ls stk J
    have hne : mi ≠ 341 := fun e => by
      rw [e, show zML[341]? = none from rfl] at hy
      cases hy
    have hsim := (zMT_ok (l := l) (P := P) mi y hy).2 pc i ((if_neg hne).symm.trans hi)
    cases hz : zi (zPD P) i st with
    | none => rw [hz] at hF; exact hF.elim
    | some o =>
      rw [hz] at hF
      refine hsim p e s m args below meth c R Q d C hrm st o hz H locs cells slots ls stk J ?_
      match o, hF with
      | .inl q, hF =>
        have hF : r = q := hF
        subst hF
        exact K
      | .inr (.inl q), hF => exact hF.2 y hy p e s m args below meth c R Q C hrm K
      | .inr (.inr q), ⟨d', r1, h1, h2, h3⟩ => exact ⟨d', r1, h1, fun y' hy' hwd vs dvs => z_met (zMT_ok (l := l) (P := P) _ _ hy').1 (h2.2 y' hy') hwd dvs, h3.2 y hy p e s m args below meth c R Q C hrm K⟩
end
section
/-! WHAT HOLDS BETWEEN THE LAW'S CALLS -/
/-! tags, and references that nothing writes, out of the types -/
noncomputable def zTyC (r : Nat) : Bool := match zShape[r]?, a_at aTy1 r with
  | some (.inl q), some l => Nat.beq (zcode q.1) 4 || (Nat.beq q.2 0 || tyI l 0 (q.2 - 1) (vTag (zcode q.1)) (a_lo (vTag (zcode q.1))) (a_hi (vTag (zcode q.1))))
  | some (.inr q), some l => (match vFt[q.1]? with
    | some fs => a_allN (fun k => match fs[k]? with
      | some c => Nat.beq c 4 || tyI l k k (vTag c) (a_lo (vTag c)) (a_hi (vTag c))
      | none => true) 0 fs.length
    | none => true)
  | _, _ => false
theorem zTyC_all : a_allN zTyC 0 137 = true := by decide +kernel
noncomputable def vRefC (x : Nat × Nat × Int) : Bool := match a_at aTy1 x.1 with
  | some l => (match a_uniF (Int.ofNat x.2.1) (Int.ofNat x.2.1) l with
    | some t => Nat.beq t.1 2 && (match t.2.2.2 with
      | [c] => @decide (c = x.2.2) (a_decEqZ _ _) && @decide (0 ≤ c) (a_decLe _ _)
      | _ => false)
    | none => false)
  | none => false
theorem vRefC_all : a_all vRefC vRefs = true := by decide +kernel
theorem zHv_of {h : zH} (ht : aTyped aTy1 h) : zHv h := by
  refine ⟨fun r k c hc h4 => ?_, fun x hx => ?_⟩
  · have hlen : zShape.length = 137 := rfl
    unfold vCode at hc
    cases hs : zShape[r]? with
    | none => rw [hs] at hc; cases hc
    | some s =>
      have hr : r < 137 := hlen ▸ (List.getElem?_eq_some_iff.mp hs).1
      have hb := a_allN_ok zTyC_all r hr
      rw [Nat.zero_add] at hb
      unfold zTyC at hb
      rw [hs] at hb hc
      cases hl : a_at aTy1 r with
      | none => rw [hl] at hb; cases s <;> cases hb
      | some l =>
        rw [hl] at hb
        match s, hb, hc with
        | .inl q, hb, hc =>
          have hc : (if k < q.2 then some (zcode q.1) else none) = some c := hc
          by_cases hk : k < q.2
          · rw [if_pos hk] at hc
            cases hc
            have hb : (Nat.beq (zcode q.1) 4 || (Nat.beq q.2 0 || tyI l 0 (q.2 - 1) (vTag (zcode q.1)) (a_lo (vTag (zcode q.1))) (a_hi (vTag (zcode q.1))))) = true := hb
            rw [Bool.or_eq_true, Bool.or_eq_true] at hb
            rcases hb with e | e | e
            · exact absurd (Nat.eq_of_beq_eq_true e) h4
            · have := Nat.eq_of_beq_eq_true e
              omega
            · exact (tyI_ok (ht r l hl) e k (Nat.zero_le k) (by omega)).1
          · rw [if_neg hk] at hc
            cases hc
        | .inr q, hb, hc =>
          have hc : (match vFt[q.1]? with
            | some fs => fs[k]?
            | none => none) = some c := hc
          have hb : (match vFt[q.1]? with
            | some fs => a_allN (fun k => match fs[k]? with
              | some c => Nat.beq c 4 || tyI l k k (vTag c) (a_lo (vTag c)) (a_hi (vTag c))
              | none => true) 0 fs.length
            | none => true) = true := hb
          cases hf : vFt[q.1]? with
          | none => rw [hf] at hc; cases hc
          | some fs =>
            rw [hf] at hb hc
            have hc : fs[k]? = some c := hc
            have hb2 := a_allN_ok hb k (List.getElem?_eq_some_iff.mp hc).1
            rw [Nat.zero_add] at hb2
            have hb3 : (match fs[k]? with
              | some c => Nat.beq c 4 || tyI l k k (vTag c) (a_lo (vTag c)) (a_hi (vTag c))
              | none => true) = true := hb2
            rw [hc] at hb3
            have hb3 : (Nat.beq c 4 || tyI l k k (vTag c) (a_lo (vTag c)) (a_hi (vTag c))) = true := hb3
            rw [Bool.or_eq_true] at hb3
            rcases hb3 with e | e
            · exact absurd (Nat.eq_of_beq_eq_true e) h4
            · exact (tyI_ok (ht r l hl) e k (Nat.le_refl k) (Nat.le_refl k)).1
  · have hb := a_all_ok vRefC_all x hx
    unfold vRefC at hb
    cases hl : a_at aTy1 x.1 with
    | none => rw [hl] at hb; cases hb
    | some l =>
      rw [hl] at hb
      have hb : (match a_uniF (Int.ofNat x.2.1) (Int.ofNat x.2.1) l with
        | some t => Nat.beq t.1 2 && (match t.2.2.2 with
          | [c] => @decide (c = x.2.2) (a_decEqZ _ _) && @decide (0 ≤ c) (a_decLe _ _)
          | _ => false)
        | none => false) = true := hb
      cases hu : a_uniF (Int.ofNat x.2.1) (Int.ofNat x.2.1) l with
      | none => rw [hu] at hb; cases hb
      | some t =>
        rw [hu] at hb
        have hb : (Nat.beq t.1 2 && (match t.2.2.2 with
          | [c] => @decide (c = x.2.2) (a_decEqZ _ _) && @decide (0 ≤ c) (a_decLe _ _)
          | _ => false)) = true := hb
        rw [Bool.and_eq_true] at hb
        have h2 := Nat.eq_of_beq_eq_true hb.1
        have hat := a_uniF_ok (j := x.2.1) hu (ht x.1 l hl) (Int.le_refl _) (Int.le_refl _)
        unfold atin at hat
        rw [h2] at hat
        obtain ⟨k, hk, hv⟩ := (hat : ∃ k ∈ t.2.2.2, h x.1 x.2.1 = if k = -1 then (4, 0) else (2, k))
        have hb2 := hb.2
        match hc : t.2.2.2, hk, hb2 with
        | [c], hk, hb2 =>
          have hb2 : (@decide (c = x.2.2) (a_decEqZ _ _) && @decide (0 ≤ c) (a_decLe _ _)) = true := hb2
          rw [Bool.and_eq_true, a_dec_eq, a_dec_eq] at hb2
          have hk := List.mem_singleton.mp hk
          rw [hv, if_neg (by omega), hk, hb2.1]
def lZ (D : zD) (h : zH) : Prop := lI aG1 D Fl0 lQs h
theorem lZ.ty {D : zD} {h : zH} (hZ : lZ D h) : aTyped aTy1 h := by
  obtain ⟨q, -, ρ, g⟩ := hZ
  exact g.2.1
theorem lZ.hv {D : zD} {h : zH} (hZ : lZ D h) : zHv h := zHv_of hZ.ty
/-- bounds of what stands somewhere -/
theorem lZ.bd {D : zD} {h : zH} (hZ : lZ D h) {r lo hi k : Nat} {a b : Int} (l : aTc) (hl : a_at aTy1 r = some l) (hb : tyI l lo hi k a b = true) : ∀ j, lo ≤ j → j ≤ hi → (h r j).1 = k ∧ a ≤ (h r j).2 ∧ (h r j).2 ≤ b := tyI_ok (hZ.ty r l hl) hb
noncomputable def rZk (r k : Nat) (ks : List Int) : Bool := match a_at aTy1 r with
  | some l => (match a_uniF (Int.ofNat k) (Int.ofNat k) l with
    | some t => Nat.beq t.1 2 && a_all (fun c => a_memI c ks) t.2.2.2
    | none => false)
  | none => false
theorem a_memI_in {z : Int} : ∀ {l : List Int}, a_memI z l = true → z ∈ l
  | [], h => by cases h
  | a :: l, h => by
    have h : (@decide (a = z) (a_decEqZ _ _) || a_memI z l) = true := h
    rw [Bool.or_eq_true, a_dec_eq] at h
    rcases h with e | e
    · rw [e]; exact List.mem_cons_self
    · exact List.mem_cons_of_mem _ (a_memI_in e)
/-- which cells a place may name -/
theorem lZ.ref {D : zD} {h : zH} (hZ : lZ D h) {r k : Nat} {ks : List Int} (hb : rZk r k ks = true) : ∃ c ∈ ks, h r k = if c = -1 then (4, 0) else (2, c) := by
  unfold rZk at hb
  cases hl : a_at aTy1 r with
  | none => rw [hl] at hb; cases hb
  | some l =>
    rw [hl] at hb
    have hb : (match a_uniF (Int.ofNat k) (Int.ofNat k) l with
      | some t => Nat.beq t.1 2 && a_all (fun c => a_memI c ks) t.2.2.2
      | none => false) = true := hb
    cases hu : a_uniF (Int.ofNat k) (Int.ofNat k) l with
    | none => rw [hu] at hb; cases hb
    | some t =>
      rw [hu] at hb
      have hb : (Nat.beq t.1 2 && a_all (fun c => a_memI c ks) t.2.2.2) = true := hb
      rw [Bool.and_eq_true] at hb
      have hat := a_uniF_ok (j := k) hu (hZ.ty r l hl) (Int.le_refl _) (Int.le_refl _)
      unfold atin at hat
      rw [Nat.eq_of_beq_eq_true hb.1] at hat
      obtain ⟨c, hc, hv⟩ := (hat : ∃ c ∈ t.2.2.2, h r k = if c = -1 then (4, 0) else (2, c))
      exact ⟨c, a_memI_in (a_all_ok hb.2 c hc), hv⟩
theorem lCallZ {D : zD} (hD : ∀ i, -2147483648 ≤ D.2 i ∧ D.2 i ≤ 2147483647) {mj : Nat} {rc : Int} {ts : List Nat} {t : Nat} {M : aM} {qs qs' : List aQ} {h : zH} {bs : List zV} (hck : a_all (lCk (aG0 aG1) sLaw 614 mj rc ts t M qs') qs = true) (hZ : lI aG1 D Fl0 qs h) (hb : lTy ts bs) : ∃ h1 z, zRun D TLw 614 mj 0 (h, zargs 0 ((2, rc) :: bs), []) (h1, some (t, z)) ∧ lI aG1 D Fl0 qs' h1 ∧ aFr M h h1 := lCall (G := aG1) (Fl := Fl0) (T := TLw) (Ks := sLaw) (fun h m => aOK0 hD h m (fun e => by cases e)) (kLaw_deps (kH2_of (bH0 hD))) hck hZ hb
theorem lZ_ini {D : zD} (hD : ∀ i, -2147483648 ≤ D.2 i ∧ D.2 i ≤ 2147483647) : lZ D hIni := by
  refine ⟨lQ_0, List.mem_cons_self, fun _ => 0, ⟨⟨?_, ?_⟩, ini_ty, ?_, ini_fl, fun _ _ _ => rfl, fun e => by cases e⟩⟩
  · intro x hx
    have : ∀ x ∈ lQ_0.2.1, x.1 < lQ_0.1 ∧ x.2.1 ≤ 0 ∧ 0 ≤ x.2.2 := by decide
    exact this x hx
  · intro x hx
    have : ∀ x ∈ lQ_0.2.2.1, False := by decide
    exact (this x hx).elim
  · intro e he
    have : e = ((0, 0, 10), (0, 0, 0)) ∨ e = ((121, 0, 23), (0, 0, 0)) := by
      have : ∀ e ∈ lQ_0.2.2.2.1, e = ((0, 0, 10), (0, 0, 0)) ∨ e = ((121, 0, 23), (0, 0, 0)) := by decide
      exact this e he
    rcases this with e' | e'
    · rw [e']
      exact ⟨Nat.zero_le _, (show (0 : Int) ≤ 10 from by decide), Nat.zero_le _, (by decide +kernel : hIni 0 10 = (0, 0))⟩
    · rw [e']
      exact ⟨Nat.zero_le _, (show (0 : Int) ≤ 23 from by decide), Nat.zero_le _, (by decide +kernel : hIni 121 23 = (0, 0))⟩
/-! the tables' code keeps types (vOK) -/
noncomputable def vOKt (t : List (List (Option zX))) : Bool := t.all fun l => l.all fun o => match o with
  | some i => vOKi i
  | none => true
theorem vOKt_ok {t : List (List (Option zX))} (h : vOKt t = true) {pc : Nat} {i : zX} (hi : z_at t pc = some i) : vOKi i = true := by
  unfold z_at at hi
  rw [x_nth_eq] at hi
  cases hl : t[Nat.div pc 16]? with
  | none => rw [hl] at hi; cases hi
  | some l =>
    rw [hl] at hi
    have hi : (match x_nth l (Nat.mod pc 16) with
      | some o => o
      | none => none) = some i := hi
    rw [x_nth_eq] at hi
    cases ho : l[Nat.mod pc 16]? with
    | none => rw [ho] at hi; cases hi
    | some o =>
      rw [ho] at hi
      have hi : o = some i := hi
      have h1 := List.all_eq_true.mp h l (List.mem_of_getElem? hl)
      have h2 := List.all_eq_true.mp h1 o (List.mem_of_getElem? ho)
      rw [hi] at h2
      exact h2
theorem vOK_all : (zMT.all vOKt) = true := by decide +kernel
theorem vOK_L : vOKt zt_L_law = true := by decide +kernel
theorem vOK_T : vOK TLw := by
  intro mi pc i hi
  unfold TLw at hi
  by_cases e : mi = 341
  · rw [if_pos e] at hi
    exact vOKt_ok vOK_L hi
  · rw [if_neg e] at hi
    have hi : (match x_nth zMT mi with
      | some t => z_at t pc
      | none => none) = some i := hi
    rw [x_nth_eq] at hi
    cases ht : zMT[mi]? with
    | none => rw [ht] at hi; cases hi
    | some t =>
      rw [ht] at hi
      exact vOKt_ok (List.all_eq_true.mp vOK_all t (List.mem_of_getElem? ht)) hi
/-- what any run comes to, a run of the law's calls comes to -/
theorem lZ.run {D : zD} {h : zH} (hZ : lZ D h) {d mi : Nat} {as : List zV} {r : zR} {Q : zR → Prop} (w : Nat) (hr : zRun D TLw d mi 0 (h, zargs 0 as, []) r) (k : ∀ N, vP D TLw N mi 0 h (vargs w as) [] Q) : Q r := by
  rw [zargs_vL w] at hr
  exact vP_run hr hZ.hv k
end
section
/-! WHAT CODE CAN'T DO: fields that nothing writes, kinds of answers; over the tables -/
theorem vP_and {D : zD} {T : zT} {N mi pc : Nat} {h : zH} {l : List (Option zV)} {S : List zV} {Q Q' : zR → Prop} (k : vP D T N mi pc h l S Q) (k' : vP D T N mi pc h l S Q') : vP D T N mi pc h l S (fun r => Q r ∧ Q' r) := fun hv n r hn he => ⟨k hv n r hn he, k' hv n r hn he⟩
def fw1 (inS : Nat → Nat → Bool) (ci k mi p0 pc : Nat) (o : Option zX) : Bool := match o with
  | some i => Nat.blt pc p0 || fwS inS ci k mi i
  | none => true
def fwR (inS : Nat → Nat → Bool) (ci k mi p0 : Nat) : List (Option zX) → Nat → Bool
  | [], _ => true
  | o :: l, pc => fw1 inS ci k mi p0 pc o && fwR inS ci k mi p0 l (pc + 1)
theorem fwR_ok {inS : Nat → Nat → Bool} {ci k mi p0 : Nat} {i : zX} : ∀ {l : List (Option zX)} {pc j : Nat}, fwR inS ci k mi p0 l pc = true → l[j]? = some (some i) → p0 ≤ pc + j → fwS inS ci k mi i = true
  | [], _, _, _, hj, _ => by simp at hj
  | o :: l, pc, 0, h, hj, hp => by
    have h : (fw1 inS ci k mi p0 pc o && fwR inS ci k mi p0 l (pc + 1)) = true := h
    rw [Bool.and_eq_true] at h
    have hj : o = some i := by simpa using hj
    subst hj
    have h1 : (Nat.blt pc p0 || fwS inS ci k mi i) = true := h.1
    rw [Bool.or_eq_true] at h1
    rcases h1 with e | e
    · have : pc + 1 ≤ p0 := Nat.le_of_ble_eq_true e
      omega
    · exact e
  | o :: l, pc, j + 1, h, hj, hp => by
    have h : (fw1 inS ci k mi p0 pc o && fwR inS ci k mi p0 l (pc + 1)) = true := h
    rw [Bool.and_eq_true] at h
    exact fwR_ok h.2 (by simpa using hj) (by omega)
def fwT (inS : Nat → Nat → Bool) (ci k mi p0 : Nat) : List (List (Option zX)) → Nat → Bool
  | [], _ => true
  | l :: t, b => fwR inS ci k mi p0 l (16 * b) && fwT inS ci k mi p0 t (b + 1)
theorem fwT_ok {inS : Nat → Nat → Bool} {ci k mi p0 : Nat} {l : List (Option zX)} : ∀ {t : List (List (Option zX))} {b c : Nat}, fwT inS ci k mi p0 t b = true → t[c]? = some l → fwR inS ci k mi p0 l (16 * (b + c)) = true
  | [], _, _, _, hc => by simp at hc
  | l' :: t, b, 0, h, hc => by
    have h : (fwR inS ci k mi p0 l' (16 * b) && fwT inS ci k mi p0 t (b + 1)) = true := h
    rw [Bool.and_eq_true] at h
    have hc : l' = l := by simpa using hc
    rw [← hc]
    exact h.1
  | l' :: t, b, c + 1, h, hc => by
    have h : (fwR inS ci k mi p0 l' (16 * b) && fwT inS ci k mi p0 t (b + 1)) = true := h
    rw [Bool.and_eq_true] at h
    have := fwT_ok (c := c) h.2 (by simpa using hc)
    rw [show b + 1 + c = b + (c + 1) by omega] at this
    exact this
/-- these methods, each from a place on -/
def inS (S : List (Nat × Nat)) (mi pc : Nat) : Bool := S.any fun q => q.1 == mi && Nat.ble q.2 pc
noncomputable def fwC (S : List (Nat × Nat)) (ci k : Nat) : Bool := S.all fun q => match x_nth zMT q.1 with
  | some t => fwT (inS S) ci k q.1 q.2 t 0
  | none => false
theorem fwOK_of {S : List (Nat × Nat)} {ci k : Nat} (h : fwC S ci k = true) : fwOK (inS S) ci k TLw := by
  intro mi pc i hS hi
  obtain ⟨q, hq, hb⟩ := List.any_eq_true.mp hS
  rw [Bool.and_eq_true] at hb
  have e1 : q.1 = mi := eq_of_beq hb.1
  have e2 := Nat.le_of_ble_eq_true hb.2
  have hc := List.all_eq_true.mp h q hq
  have hne : mi ≠ 341 := fun e => by
    have hc : (match x_nth zMT q.1 with
      | some t => fwT (inS S) ci k q.1 q.2 t 0
      | none => false) = true := hc
    rw [e1, e, show x_nth zMT 341 = none from rfl] at hc
    cases hc
  unfold TLw at hi
  rw [if_neg hne] at hi
  have hi : (match x_nth zMT mi with
    | some t => z_at t pc
    | none => none) = some i := hi
  have hc : (match x_nth zMT q.1 with
    | some t => fwT (inS S) ci k q.1 q.2 t 0
    | none => false) = true := hc
  rw [e1] at hc
  cases ht : x_nth zMT mi with
  | none => rw [ht] at hi; cases hi
  | some t =>
    rw [ht] at hi hc
    have hc : fwT (inS S) ci k mi q.2 t 0 = true := hc
    have hi : z_at t pc = some i := hi
    unfold z_at at hi
    rw [x_nth_eq] at hi
    cases hl : t[Nat.div pc 16]? with
    | none => rw [hl] at hi; cases hi
    | some l =>
      rw [hl] at hi
      have hi : (match x_nth l (Nat.mod pc 16) with
        | some r => r
        | none => none) = some i := hi
      rw [x_nth_eq] at hi
      cases ho : l[Nat.mod pc 16]? with
      | none => rw [ho] at hi; cases hi
      | some o =>
        rw [ho] at hi
        have hi : o = some i := hi
        rw [hi] at ho
        have h1 := fwT_ok hc hl
        rw [Nat.zero_add] at h1
        refine fwR_ok h1 ho ?_
        have : 16 * (pc / 16) + pc % 16 = pc := Nat.div_add_mod pc 16
        show q.2 ≤ 16 * (pc / 16) + pc % 16
        omega
/-! answers by their kinds -/
def rtK (b : Nat) (v : Option zV) : Prop := match b with
  | 0 => v = none
  | 1 => ∃ z, v = some (0, z)
  | _ => ∃ z, v = some (1, z)
def rtT (b : Nat) (t : List (List (Option zX))) : Bool := t.all fun l => l.all fun o => match o with
  | some (30, _, _, b', _, _) => b' == b
  | _ => true
theorem zEv_rt {D : zD} {T : zT} {mi b : Nat} (hR : ∀ pc nx a b' z cs, T mi pc = some (30, nx, a, b', z, cs) → b' = b) (h2 : b ≤ 2) : ∀ {n pc : Nat} {st : zS} {r : zR}, zEv D T n mi pc st = some r → rtK b r.2 := by
  intro n
  induction n with
  | zero => intro pc st r h; cases h
  | succ n ih =>
    intro pc st r h
    cases hi : T mi pc with
    | none =>
      have h : zEvA D T (zEv D T n) mi pc st = some r := h
      unfold zEvA at h
      rw [hi] at h
      cases h
    | some i =>
      rw [zEv_s hi] at h
      by_cases e : i.1 = 30
      · obtain ⟨op, nx, a, b', z, cs⟩ := i
        have e : op = 30 := e
        subst e
        have hb := hR _ _ _ _ _ _ hi
        subst hb
        have h : zEvB (zEv D T n) mi (z_ret b' a st) = some r := h
        unfold z_ret at h
        split at h
        · cases h; rfl
        · split at h
          · rename_i hc
            cases h
            exact ⟨_, by rw [← hc.2]⟩
          · cases h
        · split at h
          · rename_i hc
            cases h
            exact ⟨_, by rw [← hc]⟩
          · cases h
        · cases h
      · cases hz : zi D i st with
        | none => rw [hz] at h; cases h
        | some o =>
          rw [hz] at h
          match o, h, hz with
          | .inl q, h, hz => exact absurd (zi_inl hz) e
          | .inr (.inl q), h, hz => exact ih h
          | .inr (.inr q), h, hz =>
            have h : (match zEv D T n q.1 0 (q.2.2.2.1, zargs 0 q.2.1, []) with
              | none => none
              | some r1 => zEv D T n mi q.2.2.1 (r1.1, q.2.2.2.2.1, zpush r1.2 q.2.2.2.2.2)) = some r := h
            cases hc : zEv D T n q.1 0 (q.2.2.2.1, zargs 0 q.2.1, []) with
            | none => rw [hc] at h; cases h
            | some r1 => rw [hc] at h; exact ih h
theorem vP_rt {D : zD} {mi b : Nat} (t : List (List (Option zX))) (ht : x_nth zMT mi = some t) (hb : rtT b t = true) (h2 : b ≤ 2) {N pc : Nat} {h : zH} {l : List (Option zV)} {S : List zV} : vP D TLw N mi pc h l S (fun r => rtK b r.2) := by
  intro _ n r _ he
  refine zEv_rt (fun pc nx a b' z cs hi => ?_) h2 he
  have hne : mi ≠ 341 := fun e => by
    rw [e, show x_nth zMT 341 = none from rfl] at ht
    cases ht
  unfold TLw at hi
  rw [if_neg hne] at hi
  have hi : (match x_nth zMT mi with
    | some t => z_at t pc
    | none => none) = some (30, nx, a, b', z, cs) := hi
  rw [ht] at hi
  have hi : z_at t pc = some (30, nx, a, b', z, cs) := hi
  unfold z_at at hi
  rw [x_nth_eq] at hi
  cases hl : t[Nat.div pc 16]? with
  | none => rw [hl] at hi; cases hi
  | some l =>
    rw [hl] at hi
    have hi : (match x_nth l (Nat.mod pc 16) with
      | some r => r
      | none => none) = some (30, nx, a, b', z, cs) := hi
    rw [x_nth_eq] at hi
    cases ho : l[Nat.mod pc 16]? with
    | none => rw [ho] at hi; cases hi
    | some o =>
      rw [ho] at hi
      have hi : o = some (30, nx, a, b', z, cs) := hi
      have h1 := List.all_eq_true.mp hb l (List.mem_of_getElem? hl)
      have h2 := List.all_eq_true.mp h1 o (List.mem_of_getElem? ho)
      rw [hi] at h2
      exact eq_of_beq h2
end
