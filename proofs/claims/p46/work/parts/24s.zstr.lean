/-! texts: String.length and String.charAt -/
theorem zs_slen {l : Launch} {P : zP} {M : List zY} {μ : zM} {pc index : Nat} (hd : decode μ.2.1 pc = .ok (.invokevirtual index, 3)) (hw1 : Cond.methodLink μ.1 index yJ0_length_8abf5 ∈ xTB) : zSim l P M μ pc (25, pc + 3, 0, 0, 0, []) := by
  sorry
theorem zs_char {l : Launch} {P : zP} {M : List zY} {μ : zM} {pc index : Nat} (hd : decode μ.2.1 pc = .ok (.invokevirtual index, 3)) (hw1 : Cond.methodLink μ.1 index yJ0_charAt_5068e ∈ xTB) : zSim l P M μ pc (26, pc + 3, 0, 0, 0, []) := by
  sorry
