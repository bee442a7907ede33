def zAll (l : Launch) (P : zP) (M : List zY) (μ : zM) : Nat → List (Option zX) → Prop
  | _, [] => True
  | b, none :: t => zAll l P M μ (b + 1) t
  | b, some i :: t => zSim l P M μ b i ∧ zAll l P M μ (b + 1) t
def zAlls (l : Launch) (P : zP) (M : List zY) (μ : zM) : Nat → List (List (Option zX)) → Prop
  | _, [] => True
  | b, c :: t => zAll l P M μ b c ∧ zAlls l P M μ (b + 16) t
