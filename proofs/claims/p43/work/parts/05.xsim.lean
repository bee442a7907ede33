/-! THE ENGINE'S STEPS HOLD OF THE MACHINE -/
abbrev xM : Type := String × ByteArray × Nat × Option FieldType × String × Room
def xTB : List Cond := lw_tbl.filter goodWord
theorem xTB_good {ws : List Cond} (h : ∀ w ∈ ws, w ∈ xTB) : GoodIn xTB ws := fun w hw => ⟨h w hw, good_of_word (List.mem_filter.mp (h w hw)).2⟩
theorem xTB_in {w : Cond} (h : w ∈ lw_tbl) (hg : goodWord w = true) : w ∈ xTB := List.mem_filter.mpr ⟨h, hg⟩
def xCx (μ : xM) (p : Program) (s : State) (m : MethodId) (args : Array Value) (meth : Method) (c : Code) (R : Room) : Prop :=
  p.tables.exec = Jvm.exec ∧ c.code = μ.2.1 ∧ c.maxLocals = μ.2.2.1 ∧ s.vm.findClass μ.1 = some m.cls ∧ (∀ w ∈ xTB, w.before args s = true) ∧ meth.sig.returnType = μ.2.2.2.1 ∧ meth.locks = false ∧ meth.name = μ.2.2.2.2.1 ∧ R = μ.2.2.2.2.2
def xJ (P : xP) (nL : Nat) (R : Room) (s : State) (st : xS) (H : Heap) (locs : List Loc) (cells slots : Nat) (ls : Array Slot) (stk : List Value) : Prop :=
  xEnv P st.1 ∧ cells + st.2.1 ≤ R.cells ∧ slots + st.2.2.1 ≤ R.slots ∧ xG P st.2.2.2.1 s H ∧ (∃ lv, lv_has ls nL lv ∧ xldens P st.2.2.2.2.1 lv) ∧ xdens P st.2.2.2.2.2 stk ∧ xX P s H ∧ (∀ q ∈ locs, P.2.1 ≤ q.base) ∧ va_K P.2.2.2.1 vwCl [] s
def xRet (μ : xM) (pc : Nat) (ov : Option Value) : Prop := match ov with
  | some (.int x) => decode μ.2.1 pc = .ok (.ireturn, 1) ∧ ∃ ty, μ.2.2.2.1 = some ty ∧ narrow ty (.int x) = .int x
  | some (.long _) => decode μ.2.1 pc = .ok (.lreturn, 1) ∧ μ.2.2.2.1 = some .long
  | none => decode μ.2.1 pc = .ok (.return_, 1) ∧ μ.2.2.2.1 = none
  | _ => False
def xKR (P : xP) (μ : xM) (p : Program) (l : Launch) (e : Env) (R : Room) (s : State) (m : MethodId) (args : Array Value) (below : List Frame) (meth : Method) (c : Code) (Q : State → Prop) (r : xR) : Prop :=
  ∀ (H : Heap) (locs : List Loc) (cells slots pc : Nat) (ls : Array Slot) (ov : Option Value), xEnv P r.1 → cells ≤ R.cells → slots ≤ R.slots → xG P r.2.1 s H → xX P s H → (∀ q ∈ locs, P.2.1 ≤ q.base) → xdenO P r.2.2 ov → xRet μ pc ov → W p l e R s m args below meth c H locs cells slots Q (F0 m pc ls ov.toList)
def xKO (P : xP) (μ : xM) (p : Program) (l : Launch) (e : Env) (R : Room) (s : State) (m : MethodId) (args : Array Value) (below : List Frame) (meth : Method) (c : Code) (Q : State → Prop) (o : xO) : Prop := match o with
  | .inl r => xKR P μ p l e R s m args below meth c Q r
  | .inr q => ∀ (H : Heap) (locs : List Loc) (cells slots : Nat) (ls : Array Slot) (stk : List Value), xJ P μ.2.2.1 R s q.2 H locs cells slots ls stk → W p l e R s m args below meth c H locs cells slots Q (F0 m q.1 ls stk)
def xWs (y : xY) : List Cond := Cond.code y.1 y.2.1 y.2.2.1 y.2.2.2.1 :: xTB
def xPc (P : xP) (h : xH) (vs : List Value) : Array Value → State → Prop := fun a U => a = vs.toArray ∧ xG P h U U.heap ∧ xX P U U.heap ∧ va_K P.2.2.2.1 vwCl [] U
def xQc (P : xP) (rs : List xR) : Array Value → State → Outcome → State → Prop := fun _ st oc t => ∃ r ∈ rs, xEnv P r.1 ∧ (∃ ov, xdenO P r.2.2 ov ∧ oc = .returned ov) ∧ xG P r.2.1 t t.heap ∧ ∀ q : Nat, q < P.2.1 → t.heap[q]? = st.heap[q]?
def xMet (l : Launch) (P : xP) (M : List (xY × xT)) (cf : xF) : Prop := ∀ mi y t, M[mi]? = some (y, t) → ∀ e h as rs, cf mi e h as = some rs → xEnv P e → ∀ vs, xdens P as vs → Met l y.1 (xWs y) y.2.2.2.2 (xPc P h vs) (xQc P rs) y.2.2.2.2.cells y.2.2.2.2.slots (fun z => P.2.1 ≤ z)
def xSim (l : Launch) (P : xP) (M : List (xY × xT)) (μ : xM) (pc : Nat) (ri : xI) : Prop :=
  ∀ (p : Program) (e : Env) (s : State) (m : MethodId) (args : Array Value) (below : List Frame) (meth : Method) (c : Code) (R : Room) (Q : State → Prop), xCx μ p s m args meth c R → ∀ cf : xF, xMet l P M cf → ∀ (st : xS) (outs : List xO), ri cf st = some outs →
  ∀ (H : Heap) (locs : List Loc) (cells slots : Nat) (ls : Array Slot) (stk : List Value), xJ P μ.2.2.1 R s st H locs cells slots ls stk → (∀ o ∈ outs, xKO P μ p l e R s m args below meth c Q o) → W p l e R s m args below meth c H locs cells slots Q (F0 m pc ls stk)
theorem x_mem1 {α : Type} (a : α) : a ∈ [a] := List.mem_singleton.mpr rfl
/-! what each shape of step says of the stack -/
section INV
variable {P : xP} {e : xE} {cl sl nx : Nat} {h : xH} {L : xL} {S : List xV} {outs : List xO} {cf : xF} {stk : List Value}
end INV
