/-! printed by wip/c/genstate.py: the state behind both constructors -/
def x_eC (a b : xC) : Bool := match a, b with
  | .inl (t, n, d, o), .inl (t', n', d', o') => decide (t = t') && (decide (n = n') && (decide (d = d') && decide (o = o')))
  | .inr (c, f), .inr (c', f') => decide (c = c') && decide (f = f')
  | _, _ => false
theorem x_eC_eq {a b : xC} (h : x_eC a b = true) : a = b := by
  match a, b, h with
  | .inl (t, n, d, o), .inl (t', n', d', o'), h =>
    have h : (decide (t = t') && (decide (n = n') && (decide (d = d') && decide (o = o')))) = true := h
    simp only [Bool.and_eq_true, decide_eq_true_eq] at h
    obtain ⟨rfl, rfl, rfl, rfl⟩ := h
    rfl
  | .inr (c, f), .inr (c', f'), h =>
    have h : (decide (c = c') && decide (f = f')) = true := h
    simp only [Bool.and_eq_true, decide_eq_true_eq] at h
    obtain ⟨rfl, rfl⟩ := h
    rfl
def x_eH : xH → xH → Bool
  | [], [] => true
  | a :: s, b :: t => x_eC a b && x_eH s t
  | _, _ => false
theorem x_eH_eq : ∀ {a b : xH}, x_eH a b = true → a = b
  | [], [], _ => rfl
  | a :: s, b :: t, h => by
    have h : (x_eC a b && x_eH s t) = true := h
    rw [Bool.and_eq_true] at h
    rw [x_eC_eq h.1, x_eH_eq h.2]
def x_same (r : Option (Nat × xS)) (pc : Nat) (s : xS) : Bool := match r with
  | some (pc', e, cl, sl, h, L, S) => decide (pc' = pc) && (decide (e = s.1) && (decide (cl = s.2.1) && (decide (sl = s.2.2.1) && (x_eH h s.2.2.2.1 && (decide (L = s.2.2.2.2.1) && decide (S = s.2.2.2.2.2))))))
  | none => false
theorem x_same_eq {r : Option (Nat × xS)} {pc : Nat} {s : xS} (h : x_same r pc s = true) : r = some (pc, s) := by
  match r, h with
  | some (pc', e, cl, sl, hh, L, S), h =>
    have h : (decide (pc' = pc) && (decide (e = s.1) && (decide (cl = s.2.1) && (decide (sl = s.2.2.1) && (x_eH hh s.2.2.2.1 && (decide (L = s.2.2.2.2.1) && decide (S = s.2.2.2.2.2))))))) = true := h
    simp only [Bool.and_eq_true, decide_eq_true_eq] at h
    obtain ⟨rfl, rfl, rfl, rfl, h5, rfl, rfl⟩ := h
    rw [x_eH_eq h5]
def x_e0 (q : Int × Int) : xE := [(-2147483648, 2147483647), (-2147483648, 2147483647), (-2147483648, 2147483647), (-2147483648, 2147483647), (-2147483648, 2147483647), (-2147483648, 2147483647), q]
noncomputable def x_h1 : xH := [.inr (11, [.inl (.int (Int32.ofNat 0)), .inl (.long (Int64.ofNat 0)), .inl (.long (Int64.ofNat 1)), .inl (.ref 1), .inl (.ref 10), .inl (.ref 16), .inl (.ref 17), .inl (.ref 24), .inl (.ref 39), .inl (.ref 54), .inl (.int (Int32.ofNat 0)), .inl (.ref 100), .inl (.ref 105), .inl (.ref 110), .inl (.ref 114), .inl (.ref 117), .inl (.ref 119), .inl (.int (Int32.ofNat 0)), .inl (.int (Int32.ofNat 4294967295)), .inl (.ref 120)]),
  .inl ((.object "BreadMap$Tray"), 4, .inl .null, [(0, .inl (.ref 2)), (1, .inl (.ref 4)), (2, .inl (.ref 6)), (3, .inl (.ref 8))]),
  .inr (9, [.inl (.ref 3), .inl (.int (Int32.ofNat 4294967295)), .inl (.int (Int32.ofNat 0))]),
  .inl (.long, 60, .inl (.long (Int64.ofNat 0)), []),
  .inr (9, [.inl (.ref 5), .inl (.int (Int32.ofNat 4294967295)), .inl (.int (Int32.ofNat 0))]),
  .inl (.long, 60, .inl (.long (Int64.ofNat 0)), []),
  .inr (9, [.inl (.ref 7), .inl (.int (Int32.ofNat 4294967295)), .inl (.int (Int32.ofNat 0))]),
  .inl (.long, 60, .inl (.long (Int64.ofNat 0)), []),
  .inr (9, [.inl (.ref 9), .inl (.int (Int32.ofNat 4294967295)), .inl (.int (Int32.ofNat 0))]),
  .inl (.long, 60, .inl (.long (Int64.ofNat 0)), []),
  .inr (8, [.inl (.ref 11), .inl (.int (Int32.ofNat 0)), .inl (.ref 12), .inl (.ref 13), .inl (.ref 14), .inl (.ref 15), .inl (.int (Int32.ofNat 0)), .inl (.int (Int32.ofNat 0)), .inl (.int (Int32.ofNat 0)), .inl (.int (Int32.ofNat 4294967295)), .inl (.int (Int32.ofNat 4294967295))]),
  .inl (.byte, 900, .inl (.int (Int32.ofNat 0)), []),
  .inl (.int, 901, .inl (.int (Int32.ofNat 0)), []),
  .inl (.int, 901, .inl (.int (Int32.ofNat 0)), []),
  .inl (.int, 901, .inl (.int (Int32.ofNat 0)), []),
  .inl (.int, 901, .inl (.int (Int32.ofNat 0)), []),
  .inr (3, [.inl (.ref 10), .inl .null, .inl (.int (Int32.ofNat 0))]),
  .inr (6, [.inl (.ref 10), .inl (.ref 18), .inl .null, .inl (.ref 23), .inl (.int (Int32.ofNat 0))]),
  .inr (5, [.inl (.int (Int32.ofNat 4294967295)), .inl (.int (Int32.ofNat 0)), .inl (.ref 19), .inl (.ref 20), .inl (.ref 21), .inl (.ref 22)]),
  .inl (.int, 60, .inl (.int (Int32.ofNat 0)), []),
  .inl (.int, 60, .inl (.int (Int32.ofNat 0)), []),
  .inl (.int, 60, .inl (.int (Int32.ofNat 0)), []),
  .inl (.int, 60, .inl (.int (Int32.ofNat 0)), []),
  .inl (.int, 3, .inl (.int (Int32.ofNat 0)), []),
  .inr (2, [.inl (.int (Int32.ofNat 2)), .inl (.int (Int32.ofNat 1)), .inl (.int (Int32.ofNat 1)), .inl (.int (Int32.ofNat 0)), .inl (.int (Int32.ofNat 0)), .inl (.ref 25), .inl (.ref 26), .inl (.ref 27), .inl (.ref 28), .inl (.ref 29), .inl (.ref 30), .inl (.ref 31), .inl (.ref 32), .inl (.ref 33), .inl (.ref 34)]),
  .inl (.int, 48, .inl (.int (Int32.ofNat 0)), []),
  .inl (.int, 48, .inl (.int (Int32.ofNat 0)), []),
  .inl (.int, 144, .inl (.int (Int32.ofNat 0)), []),
  .inl (.long, 6, .inl (.long (Int64.ofNat 0)), []),
  .inl (.int, 6, .inl (.int (Int32.ofNat 0)), []),
  .inl (.int, 6, .inl (.int (Int32.ofNat 0)), []),
  .inl (.int, 6, .inl (.int (Int32.ofNat 0)), []),
  .inl (.int, 6, .inl (.int (Int32.ofNat 0)), []),
  .inl (.int, 6, .inl (.int (Int32.ofNat 0)), []),
  .inr (5, [.inl (.int (Int32.ofNat 4294967295)), .inl (.int (Int32.ofNat 0)), .inl (.ref 35), .inl (.ref 36), .inl (.ref 37), .inl (.ref 38)]),
  .inl (.int, 60, .inl (.int (Int32.ofNat 0)), []),
  .inl (.int, 60, .inl (.int (Int32.ofNat 0)), []),
  .inl (.int, 60, .inl (.int (Int32.ofNat 0)), []),
  .inl (.int, 60, .inl (.int (Int32.ofNat 0)), []),
  .inr (2, [.inl (.int (Int32.ofNat 0)), .inl (.int (Int32.ofNat 0)), .inl (.int (Int32.ofNat 0)), .inl (.int (Int32.ofNat 0)), .inl (.int (Int32.ofNat 0)), .inl (.ref 40), .inl (.ref 41), .inl (.ref 42), .inl (.ref 43), .inl (.ref 44), .inl (.ref 45), .inl (.ref 46), .inl (.ref 47), .inl (.ref 48), .inl (.ref 49)]),
  .inl (.int, 48, .inl (.int (Int32.ofNat 0)), []),
  .inl (.int, 48, .inl (.int (Int32.ofNat 0)), []),
  .inl (.int, 144, .inl (.int (Int32.ofNat 0)), []),
  .inl (.long, 6, .inl (.long (Int64.ofNat 0)), []),
  .inl (.int, 6, .inl (.int (Int32.ofNat 0)), []),
  .inl (.int, 6, .inl (.int (Int32.ofNat 0)), []),
  .inl (.int, 6, .inl (.int (Int32.ofNat 0)), []),
  .inl (.int, 6, .inl (.int (Int32.ofNat 0)), []),
  .inl (.int, 6, .inl (.int (Int32.ofNat 0)), []),
  .inr (5, [.inl (.int (Int32.ofNat 4294967295)), .inl (.int (Int32.ofNat 0)), .inl (.ref 50), .inl (.ref 51), .inl (.ref 52), .inl (.ref 53)]),
  .inl (.int, 60, .inl (.int (Int32.ofNat 0)), []),
  .inl (.int, 60, .inl (.int (Int32.ofNat 0)), []),
  .inl (.int, 60, .inl (.int (Int32.ofNat 0)), []),
  .inl (.int, 60, .inl (.int (Int32.ofNat 0)), []),
  .inl ((.object "BreadMap$Land"), 3, .inl .null, [(0, .inl (.ref 55)), (1, .inl (.ref 70)), (2, .inl (.ref 85))]),
  .inr (2, [.inl (.int (Int32.ofNat 0)), .inl (.int (Int32.ofNat 0)), .inl (.int (Int32.ofNat 0)), .inl (.int (Int32.ofNat 0)), .inl (.int (Int32.ofNat 0)), .inl (.ref 56), .inl (.ref 57), .inl (.ref 58), .inl (.ref 59), .inl (.ref 60), .inl (.ref 61), .inl (.ref 62), .inl (.ref 63), .inl (.ref 64), .inl (.ref 65)]),
  .inl (.int, 48, .inl (.int (Int32.ofNat 0)), []),
  .inl (.int, 48, .inl (.int (Int32.ofNat 0)), []),
  .inl (.int, 144, .inl (.int (Int32.ofNat 0)), []),
  .inl (.long, 6, .inl (.long (Int64.ofNat 0)), []),
  .inl (.int, 6, .inl (.int (Int32.ofNat 0)), []),
  .inl (.int, 6, .inl (.int (Int32.ofNat 0)), []),
  .inl (.int, 6, .inl (.int (Int32.ofNat 0)), []),
  .inl (.int, 6, .inl (.int (Int32.ofNat 0)), []),
  .inl (.int, 6, .inl (.int (Int32.ofNat 0)), []),
  .inr (5, [.inl (.int (Int32.ofNat 4294967295)), .inl (.int (Int32.ofNat 0)), .inl (.ref 66), .inl (.ref 67), .inl (.ref 68), .inl (.ref 69)]),
  .inl (.int, 60, .inl (.int (Int32.ofNat 0)), []),
  .inl (.int, 60, .inl (.int (Int32.ofNat 0)), []),
  .inl (.int, 60, .inl (.int (Int32.ofNat 0)), []),
  .inl (.int, 60, .inl (.int (Int32.ofNat 0)), []),
  .inr (2, [.inl (.int (Int32.ofNat 0)), .inl (.int (Int32.ofNat 0)), .inl (.int (Int32.ofNat 0)), .inl (.int (Int32.ofNat 0)), .inl (.int (Int32.ofNat 0)), .inl (.ref 71), .inl (.ref 72), .inl (.ref 73), .inl (.ref 74), .inl (.ref 75), .inl (.ref 76), .inl (.ref 77), .inl (.ref 78), .inl (.ref 79), .inl (.ref 80)]),
  .inl (.int, 48, .inl (.int (Int32.ofNat 0)), []),
  .inl (.int, 48, .inl (.int (Int32.ofNat 0)), []),
  .inl (.int, 144, .inl (.int (Int32.ofNat 0)), []),
  .inl (.long, 6, .inl (.long (Int64.ofNat 0)), []),
  .inl (.int, 6, .inl (.int (Int32.ofNat 0)), []),
  .inl (.int, 6, .inl (.int (Int32.ofNat 0)), []),
  .inl (.int, 6, .inl (.int (Int32.ofNat 0)), []),
  .inl (.int, 6, .inl (.int (Int32.ofNat 0)), []),
  .inl (.int, 6, .inl (.int (Int32.ofNat 0)), []),
  .inr (5, [.inl (.int (Int32.ofNat 4294967295)), .inl (.int (Int32.ofNat 0)), .inl (.ref 81), .inl (.ref 82), .inl (.ref 83), .inl (.ref 84)]),
  .inl (.int, 60, .inl (.int (Int32.ofNat 0)), []),
  .inl (.int, 60, .inl (.int (Int32.ofNat 0)), []),
  .inl (.int, 60, .inl (.int (Int32.ofNat 0)), []),
  .inl (.int, 60, .inl (.int (Int32.ofNat 0)), []),
  .inr (2, [.inl (.int (Int32.ofNat 0)), .inl (.int (Int32.ofNat 0)), .inl (.int (Int32.ofNat 0)), .inl (.int (Int32.ofNat 0)), .inl (.int (Int32.ofNat 0)), .inl (.ref 86), .inl (.ref 87), .inl (.ref 88), .inl (.ref 89), .inl (.ref 90), .inl (.ref 91), .inl (.ref 92), .inl (.ref 93), .inl (.ref 94), .inl (.ref 95)]),
  .inl (.int, 48, .inl (.int (Int32.ofNat 0)), []),
  .inl (.int, 48, .inl (.int (Int32.ofNat 0)), []),
  .inl (.int, 144, .inl (.int (Int32.ofNat 0)), []),
  .inl (.long, 6, .inl (.long (Int64.ofNat 0)), []),
  .inl (.int, 6, .inl (.int (Int32.ofNat 0)), []),
  .inl (.int, 6, .inl (.int (Int32.ofNat 0)), []),
  .inl (.int, 6, .inl (.int (Int32.ofNat 0)), []),
  .inl (.int, 6, .inl (.int (Int32.ofNat 0)), []),
  .inl (.int, 6, .inl (.int (Int32.ofNat 0)), []),
  .inr (5, [.inl (.int (Int32.ofNat 4294967295)), .inl (.int (Int32.ofNat 0)), .inl (.ref 96), .inl (.ref 97), .inl (.ref 98), .inl (.ref 99)]),
  .inl (.int, 60, .inl (.int (Int32.ofNat 0)), []),
  .inl (.int, 60, .inl (.int (Int32.ofNat 0)), []),
  .inl (.int, 60, .inl (.int (Int32.ofNat 0)), []),
  .inl (.int, 60, .inl (.int (Int32.ofNat 0)), []),
  .inr (10, [.inl (.ref 101), .inl (.ref 102), .inl (.ref 103), .inl (.long (Int64.ofNat 0)), .inl (.int (Int32.ofNat 0)), .inl (.int (Int32.ofNat 0)), .inl (.ref 104), .inl (.int (Int32.ofNat 0)), .inl (.long (Int64.ofNat 0))]),
  .inl (.int, 48, .inl (.int (Int32.ofNat 0)), []),
  .inl (.int, 48, .inl (.int (Int32.ofNat 0)), []),
  .inl (.int, 64, .inl (.int (Int32.ofNat 0)), []),
  .inl (.int, 48, .inl (.int (Int32.ofNat 0)), []),
  .inr (1, [.inl (.ref 100), .inl .null, .inl (.long (Int64.ofNat 0)), .inl (.ref 106), .inl (.ref 107), .inl (.ref 108), .inl (.ref 109), .inl (.int (Int32.ofNat 0)), .inl (.int (Int32.ofNat 0)), .inl (.int (Int32.ofNat 0)), .inl (.int (Int32.ofNat 0))]),
  .inl (.int, 6, .inl (.int (Int32.ofNat 0)), []),
  .inl (.long, 6, .inl (.long (Int64.ofNat 0)), []),
  .inl (.int, 288, .inl (.int (Int32.ofNat 0)), []),
  .inl (.long, 288, .inl (.long (Int64.ofNat 0)), []),
  .inr (0, [.inl .null, .inl .null, .inl (.int (Int32.ofNat 0)), .inl (.int (Int32.ofNat 0)), .inl (.long (Int64.ofNat 0)), .inl (.ref 111), .inl (.ref 112), .inl (.ref 113), .inl (.int (Int32.ofNat 0))]),
  .inl (.int, 48, .inl (.int (Int32.ofNat 0)), []),
  .inl (.int, 96, .inl (.int (Int32.ofNat 0)), []),
  .inl (.int, 96, .inl (.int (Int32.ofNat 0)), []),
  .inr (4, [.inl (.ref 115), .inl (.ref 116)]),
  .inl (.long, 48, .inl (.long (Int64.ofNat 0)), []),
  .inl (.long, 48, .inl (.long (Int64.ofNat 0)), []),
  .inr (7, [.inl (.ref 100), .inl (.ref 118), .inl .null, .inl .null, .inl (.int (Int32.ofNat 0)), .inl (.int (Int32.ofNat 0)), .inl (.int (Int32.ofNat 0)), .inl (.int (Int32.ofNat 0)), .inl (.int (Int32.ofNat 0)), .inl (.int (Int32.ofNat 0)), .inl (.int (Int32.ofNat 0)), .inl (.int (Int32.ofNat 0))]),
  .inl (.int, 60, .inl (.int (Int32.ofNat 0)), []),
  .inl (.int, 48, .inl (.int (Int32.ofNat 0)), []),
  .inl (.int, 4, .inl (.int (Int32.ofNat 0)), [(0, .inl (.int (Int32.ofNat 4294967295))), (1, .inl (.int (Int32.ofNat 4294967295))), (2, .inl (.int (Int32.ofNat 4294967295))), (3, .inl (.int (Int32.ofNat 4294967295)))]),
  .inr (12, [.inl (.int (Int32.ofNat 0)), .inl (.int (Int32.ofNat 0)), .inl (.long (Int64.ofNat 0)), .inl (.long (Int64.ofNat 1)), .inl (.ref 122), .inl (.ref 123), .inl (.ref 124), .inl (.ref 125), .inl (.int (Int32.ofNat 0)), .inl (.int (Int32.ofNat 0)), .inl (.int (Int32.ofNat 4294967295)), .inl (.int (Int32.ofNat 4294967295)), .inl (.int (Int32.ofNat 0)), .inl (.int (Int32.ofNat 0)), .inl (.int (Int32.ofNat 0)), .inl (.int (Int32.ofNat 0)), .inl (.int (Int32.ofNat 0)), .inl (.int (Int32.ofNat 0)), .inl (.int (Int32.ofNat 0)), .inl (.long (Int64.ofNat 0)), .inl (.ref 126), .inl (.ref 127), .inl (.ref 128), .inl (.int (Int32.ofNat 0)), .inl (.int (Int32.ofNat 0)), .inl (.int (Int32.ofNat 0)), .inl (.ref 129), .inl (.ref 130), .inl (.ref 131), .inl (.int (Int32.ofNat 0)), .inl (.ref 132), .inl (.int (Int32.ofNat 0)), .inl (.int (Int32.ofNat 4294967295)), .inl (.int (Int32.ofNat 0)), .inl (.int (Int32.ofNat 0)), .inl (.int (Int32.ofNat 0)), .inl (.ref 133), .inl (.ref 134), .inl (.ref 135), .inl (.ref 136), .inl (.int (Int32.ofNat 0)), .inl (.int (Int32.ofNat 0)), .inl (.int (Int32.ofNat 0)), .inl (.int (Int32.ofNat 0)), .inl (.int (Int32.ofNat 0)), .inl (.int (Int32.ofNat 0)), .inl (.int (Int32.ofNat 0)), .inl (.int (Int32.ofNat 0))]),
  .inl (.int, 4, .inl (.int (Int32.ofNat 0)), []),
  .inl (.int, 4, .inl (.int (Int32.ofNat 0)), [(0, .inl (.int (Int32.ofNat 4294967295))), (1, .inl (.int (Int32.ofNat 4294967295))), (2, .inl (.int (Int32.ofNat 4294967295))), (3, .inl (.int (Int32.ofNat 4294967295)))]),
  .inl (.long, 240, .inl (.long (Int64.ofNat 0)), []),
  .inl (.byte, 900, .inl (.int (Int32.ofNat 0)), []),
  .inl (.int, 2750, .inl (.int (Int32.ofNat 0)), [(0, .inl (.int (Int32.ofNat 2))), (1, .inl (.int (Int32.ofNat 1))), (2, .inl (.int (Int32.ofNat 1)))]),
  .inl (.int, 275, .inl (.int (Int32.ofNat 0)), []),
  .inl (.long, 30, .inl (.long (Int64.ofNat 0)), []),
  .inl (.boolean, 48, .inl (.int (Int32.ofNat 0)), []),
  .inl (.int, 48, .inl (.int (Int32.ofNat 0)), []),
  .inl (.int, 49, .inl (.int (Int32.ofNat 0)), []),
  .inl (.int, 49, .inl (.int (Int32.ofNat 0)), []),
  .inl (.int, 4, .inl (.int (Int32.ofNat 0)), []),
  .inl (.long, 48, .inl (.long (Int64.ofNat 0)), []),
  .inl (.long, 48, .inl (.long (Int64.ofNat 0)), []),
  .inl (.int, 4, .inl (.int (Int32.ofNat 0)), [])]
noncomputable def x_s1 (e : xE) : xS := (e, 0, 0, x_h1, [(3, .inl (.int (Int32.ofNat 0))), (2, .inl (.ref 121)), (1, .inl (.ref 0)), (0, .inr (4, 0))], [])
noncomputable def x_s0 (e : xE) : xS := (e, 137, 13572, [], [(0, .inr (4, 0))], [])
set_option maxRecDepth 100000 in
theorem x_phaseA : x_go xMT 1000000 10 te_L_law 0 (x_s0 (x_e0 (-2147483648, 2147483647))) = some (18, x_s1 (x_e0 (-2147483648, 2147483647))) := x_same_eq (by decide +kernel)
