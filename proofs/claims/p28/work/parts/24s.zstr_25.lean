def tQc (ov : Option Value) : Array Value → State → Outcome → State → Prop := fun _ st oc t => oc = .returned ov ∧ t.heap = st.heap
def tRm (n : Nat) : Room := { frames := n, cells := 0, slots := 0, locals := 40 * n }
abbrev tMet (l : Launch) (P : zP) (adV : Nat → Nat) (y : MethodName) (ws : List Cond) (n : Nat) (vs : List Value) (ov : Option Value) : Prop := Met l y ws (tRm n) (tPc P adV vs) (tQc ov) 0 0 (fun z => P.1 ≤ z)
