/-! HINTS OF THE LAW: the script's places, split at bounds -/
/-! the trays of both: missing in both, or alike in sort and length -/
def rTr (t : Nat) (h : zH) : Prop := ((h (2 + 2 * t) 1).2 = -1 ∧ (h 123 t).2 = -1) ∨ (0 ≤ (h (2 + 2 * t) 1).2 ∧ (h (2 + 2 * t) 1).2 ≤ 3 ∧ (h 122 t).2 = (h (2 + 2 * t) 1).2 ∧ 0 ≤ (h (2 + 2 * t) 2).2 ∧ (h (2 + 2 * t) 2).2 ≤ 60 ∧ (h 123 t).2 = (h (2 + 2 * t) 2).2)
-- the tape is as long in both
def rTl (h : zH) : Prop := (h 10 1).2 = (h 121 8).2
-- flags 355 + t: tray t; 359: the tape; 360: nothing (where it stands, branches are refuted by facts)
-- the tray that the script's place names, where it is known
-- facts that can't be together
