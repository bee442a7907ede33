/-! THE ENGINE'S STEPS HOLD OF THE MACHINE -/
abbrev xM : Type := String × ByteArray × Nat × Option FieldType × String × Room
def xTB : List Cond := lw_tbl.filter goodWord
theorem xTB_good {ws : List Cond} (h : ∀ w ∈ ws, w ∈ xTB) : GoodIn xTB ws := fun w hw => ⟨h w hw, good_of_word (List.mem_filter.mp (h w hw)).2⟩
theorem xTB_in {w : Cond} (h : w ∈ lw_tbl) (hg : goodWord w = true) : w ∈ xTB := List.mem_filter.mpr ⟨h, hg⟩
def xCx (μ : xM) (p : Program) (s : State) (m : MethodId) (args : Array Value) (meth : Method) (c : Code) (R : Room) : Prop :=
  p.tables.exec = Jvm.exec ∧ c.code = μ.2.1 ∧ c.maxLocals = μ.2.2.1 ∧ s.vm.findClass μ.1 = some m.cls ∧ (∀ w ∈ xTB, w.before args s = true) ∧ meth.sig.returnType = μ.2.2.2.1 ∧ meth.locks = false ∧ meth.name = μ.2.2.2.2.1 ∧ R = μ.2.2.2.2.2
def xJ (P : xP) (nL : Nat) (R : Room) (s : State) (st : xS) (H : Heap) (locs : List Loc) (cells slots : Nat) (ls : Array Slot) (stk : List Value) : Prop :=
  xEnv P st.1 ∧ cells + st.2.1 ≤ R.cells ∧ slots + st.2.2.1 ≤ R.slots ∧ xG P st.2.2.2.1 s H ∧ (∃ lv, lv_has ls nL lv ∧ xldens P st.2.2.2.2.1 lv) ∧ xdens P st.2.2.2.2.2 stk ∧ xX P s H ∧ (∀ q ∈ locs, P.2.1 ≤ q.base) ∧ va_K P.2.2.2.1 vwCl [] s
def xRet (μ : xM) (pc : Nat) (ov : Option Value) : Prop := match ov with
  | some (.int x) => decode μ.2.1 pc = .ok (.ireturn, 1) ∧ ∃ ty, μ.2.2.2.1 = some ty ∧ narrow ty (.int x) = .int x
  | some (.long _) => decode μ.2.1 pc = .ok (.lreturn, 1) ∧ μ.2.2.2.1 = some .long
  | none => decode μ.2.1 pc = .ok (.return_, 1) ∧ μ.2.2.2.1 = none
  | _ => False
def xKR (P : xP) (μ : xM) (p : Program) (l : Launch) (e : Env) (R : Room) (s : State) (m : MethodId) (args : Array Value) (below : List Frame) (meth : Method) (c : Code) (Q : State → Prop) (r : xR) : Prop :=
  ∀ (H : Heap) (locs : List Loc) (cells slots pc : Nat) (ls : Array Slot) (ov : Option Value), xEnv P r.1 → cells ≤ R.cells → slots ≤ R.slots → xG P r.2.1 s H → xX P s H → (∀ q ∈ locs, P.2.1 ≤ q.base) → xdenO P r.2.2 ov → xRet μ pc ov → W p l e R s m args below meth c H locs cells slots Q (F0 m pc ls ov.toList)
def xKO (P : xP) (μ : xM) (p : Program) (l : Launch) (e : Env) (R : Room) (s : State) (m : MethodId) (args : Array Value) (below : List Frame) (meth : Method) (c : Code) (Q : State → Prop) (o : xO) : Prop := match o with
  | .inl r => xKR P μ p l e R s m args below meth c Q r
  | .inr q => ∀ (H : Heap) (locs : List Loc) (cells slots : Nat) (ls : Array Slot) (stk : List Value), xJ P μ.2.2.1 R s q.2 H locs cells slots ls stk → W p l e R s m args below meth c H locs cells slots Q (F0 m q.1 ls stk)
def xWs (y : xY) : List Cond := Cond.code y.1 y.2.1 y.2.2.1 y.2.2.2.1 :: xTB
def xPc (P : xP) (h : xH) (vs : List Value) : Array Value → State → Prop := fun a U => a = vs.toArray ∧ xG P h U U.heap ∧ xX P U U.heap ∧ va_K P.2.2.2.1 vwCl [] U
def xQc (P : xP) (rs : List xR) : Array Value → State → Outcome → State → Prop := fun _ st oc t => ∃ r ∈ rs, xEnv P r.1 ∧ (∃ ov, xdenO P r.2.2 ov ∧ oc = .returned ov) ∧ xG P r.2.1 t t.heap ∧ ∀ q : Nat, q < P.2.1 → t.heap[q]? = st.heap[q]?
def xMet (l : Launch) (P : xP) (M : List (xY × xT)) (cf : xF) : Prop := ∀ mi y t, M[mi]? = some (y, t) → ∀ e h as rs, cf mi e h as = some rs → xEnv P e → ∀ vs, xdens P as vs → Met l y.1 (xWs y) y.2.2.2.2 (xPc P h vs) (xQc P rs) y.2.2.2.2.cells y.2.2.2.2.slots (fun z => P.2.1 ≤ z)
def xSim (l : Launch) (P : xP) (M : List (xY × xT)) (μ : xM) (pc : Nat) (ri : xI) : Prop :=
  ∀ (p : Program) (e : Env) (s : State) (m : MethodId) (args : Array Value) (below : List Frame) (meth : Method) (c : Code) (R : Room) (Q : State → Prop), xCx μ p s m args meth c R → ∀ cf : xF, xMet l P M cf → ∀ (st : xS) (outs : List xO), ri cf st = some outs →
  ∀ (H : Heap) (locs : List Loc) (cells slots : Nat) (ls : Array Slot) (stk : List Value), xJ P μ.2.2.1 R s st H locs cells slots ls stk → (∀ o ∈ outs, xKO P μ p l e R s m args below meth c Q o) → W p l e R s m args below meth c H locs cells slots Q (F0 m pc ls stk)
theorem x_mem1 {α : Type} (a : α) : a ∈ [a] := List.mem_singleton.mpr rfl
/-! what each shape of step says of the stack -/
section INV
variable {P : xP} {e : xE} {cl sl nx : Nat} {h : xH} {L : xL} {S : List xV} {outs : List xO} {cf : xF} {stk : List Value}
theorem x_un32 {op : Int32 → Int32} (ho : i_un32 op nx cf (e, cl, sl, h, L, S) = some outs) (d : xdens P S stk) : ∃ (a : Int32) (r : xV) (S' : List xV) (stk' : List Value), stk = .int a :: stk' ∧ xdens P S' stk' ∧ xden P r (.int (op a)) ∧ outs = [.inr (nx, e, cl, sl, h, L, r :: S')] := by
  match S, stk, d, ho with
  | x :: S, v :: stk, ⟨dx, d⟩, ho =>
    have key : ∀ x : xV, xden P x v → x_isI x = true → cond (x_isI x) (some [Sum.inr (nx, e, cl, sl, h, L, (Sum.inr (2, 0) : xV) :: S)]) none = some outs → ∃ (a : Int32) (r : xV) (S' : List xV) (stk' : List Value), v :: stk = .int a :: stk' ∧ xdens P S' stk' ∧ xden P r (.int (op a)) ∧ outs = [.inr (nx, e, cl, sl, h, L, r :: S')] := by
      intro x dx hi ho
      obtain ⟨a, rfl⟩ := x_isI_den hi dx
      rw [hi] at ho
      exact ⟨a, .inr (2, 0), _, _, rfl, d, ⟨_, rfl⟩, (Option.some.inj ho).symm⟩
    match x, dx, ho with
    | .inl (.int a), dx, ho =>
      cases dx
      have ho : x_k32 (op a) (fun r => some [Sum.inr (nx, e, cl, sl, h, L, (Sum.inl (Value.int r) : xV) :: S)]) = some outs := ho
      rw [x_k32_eq] at ho
      exact ⟨a, .inl (.int (op a)), _, _, rfl, d, rfl, (Option.some.inj ho).symm⟩
    | .inr (0, k), dx, ho => exact key _ dx rfl ho
    | .inr (2, k), dx, ho => exact key _ dx rfl ho
theorem x_bin32 {op : Int32 → Int32 → Int32} (ho : i_bin32 op nx cf (e, cl, sl, h, L, S) = some outs) (d : xdens P S stk) : ∃ (b a : Int32) (r : xV) (S' : List xV) (stk' : List Value), stk = .int b :: .int a :: stk' ∧ xdens P S' stk' ∧ xden P r (.int (op a b)) ∧ outs = [.inr (nx, e, cl, sl, h, L, r :: S')] := by
  match S, stk, d, ho with
  | y :: x :: S, w :: v :: stk, ⟨dy, dx, d⟩, ho =>
    have key : ∀ y x : xV, xden P y w → xden P x v → x_isI y = true → x_isI x = true → cond (x_isI y && x_isI x) (some [Sum.inr (nx, e, cl, sl, h, L, (Sum.inr (2, 0) : xV) :: S)]) none = some outs → ∃ (b a : Int32) (r : xV) (S' : List xV) (stk' : List Value), w :: v :: stk = .int b :: .int a :: stk' ∧ xdens P S' stk' ∧ xden P r (.int (op a b)) ∧ outs = [.inr (nx, e, cl, sl, h, L, r :: S')] := by
      intro y x dy dx hi hj ho
      obtain ⟨b, rfl⟩ := x_isI_den hi dy
      obtain ⟨a, rfl⟩ := x_isI_den hj dx
      rw [hi, hj] at ho
      exact ⟨b, a, .inr (2, 0), _, _, rfl, d, ⟨_, rfl⟩, (Option.some.inj ho).symm⟩
    match y, x, dy, dx, ho with
    | .inl (.int b), .inl (.int a), dy, dx, ho =>
      cases dx
      cases dy
      have ho : x_k32 (op a b) (fun r => some [Sum.inr (nx, e, cl, sl, h, L, (Sum.inl (Value.int r) : xV) :: S)]) = some outs := ho
      rw [x_k32_eq] at ho
      exact ⟨b, a, .inl (.int (op a b)), _, _, rfl, d, rfl, (Option.some.inj ho).symm⟩
    | .inl (.int b), .inr (0, k), dy, dx, ho => exact key _ _ dy dx rfl rfl ho
    | .inl (.int b), .inr (2, k), dy, dx, ho => exact key _ _ dy dx rfl rfl ho
    | .inr (0, j), .inl (.int b), dy, dx, ho => exact key _ _ dy dx rfl rfl ho
    | .inr (0, j), .inr (0, k), dy, dx, ho => exact key _ _ dy dx rfl rfl ho
    | .inr (0, j), .inr (2, k), dy, dx, ho => exact key _ _ dy dx rfl rfl ho
    | .inr (2, j), .inl (.int b), dy, dx, ho => exact key _ _ dy dx rfl rfl ho
    | .inr (2, j), .inr (0, k), dy, dx, ho => exact key _ _ dy dx rfl rfl ho
    | .inr (2, j), .inr (2, k), dy, dx, ho => exact key _ _ dy dx rfl rfl ho
theorem x_div32 {op : Int32 → Int32 → Int32} (ho : i_div32 op nx cf (e, cl, sl, h, L, S) = some outs) (d : xdens P S stk) : ∃ (b a : Int32) (r : xV) (S' : List xV) (stk' : List Value), ¬ b = 0 ∧ stk = .int b :: .int a :: stk' ∧ xdens P S' stk' ∧ xden P r (.int (op a b)) ∧ outs = [.inr (nx, e, cl, sl, h, L, r :: S')] := by
  match S, stk, d, ho with
  | .inl (.int b) :: .inl (.int a) :: S, w :: v :: stk, ⟨dy, dx, d⟩, ho =>
    cases dx
    cases dy
    have ho : cond (decide (b = 0)) none (x_k32 (op a b) (fun r => some [Sum.inr (nx, e, cl, sl, h, L, (Sum.inl (Value.int r) : xV) :: S)])) = some outs := ho
    by_cases hb : b = 0
    · rw [decide_eq_true hb] at ho
      cases ho
    · rw [decide_eq_false hb] at ho
      have ho : x_k32 (op a b) (fun r => some [Sum.inr (nx, e, cl, sl, h, L, (Sum.inl (Value.int r) : xV) :: S)]) = some outs := ho
      rw [x_k32_eq] at ho
      exact ⟨b, a, .inl (.int (op a b)), _, _, hb, rfl, d, rfl, (Option.some.inj ho).symm⟩
theorem x_un64 {op : Int64 → Int64} (ho : i_un64 op nx cf (e, cl, sl, h, L, S) = some outs) (d : xdens P S stk) : ∃ (a : Int64) (r : xV) (S' : List xV) (stk' : List Value), stk = .long a :: stk' ∧ xdens P S' stk' ∧ xden P r (.long (op a)) ∧ outs = [.inr (nx, e, cl, sl, h, L, r :: S')] := by
  match S, stk, d, ho with
  | x :: S, v :: stk, ⟨dx, d⟩, ho =>
    have key : ∀ x : xV, xden P x v → x_isL x = true → cond (x_isL x) (some [Sum.inr (nx, e, cl, sl, h, L, (Sum.inr (3, 0) : xV) :: S)]) none = some outs → ∃ (a : Int64) (r : xV) (S' : List xV) (stk' : List Value), v :: stk = .long a :: stk' ∧ xdens P S' stk' ∧ xden P r (.long (op a)) ∧ outs = [.inr (nx, e, cl, sl, h, L, r :: S')] := by
      intro x dx hi ho
      obtain ⟨a, rfl⟩ := x_isL_den hi dx
      rw [hi] at ho
      exact ⟨a, .inr (3, 0), _, _, rfl, d, ⟨_, rfl⟩, (Option.some.inj ho).symm⟩
    match x, dx, ho with
    | .inl (.long a), dx, ho =>
      cases dx
      have ho : x_k64 (op a) (fun r => some [Sum.inr (nx, e, cl, sl, h, L, (Sum.inl (Value.long r) : xV) :: S)]) = some outs := ho
      rw [x_k64_eq] at ho
      exact ⟨a, .inl (.long (op a)), _, _, rfl, d, rfl, (Option.some.inj ho).symm⟩
    | .inr (1, k), dx, ho => exact key _ dx rfl ho
    | .inr (3, k), dx, ho => exact key _ dx rfl ho
theorem x_bin64 {op : Int64 → Int64 → Int64} (ho : i_bin64 op nx cf (e, cl, sl, h, L, S) = some outs) (d : xdens P S stk) : ∃ (b a : Int64) (r : xV) (S' : List xV) (stk' : List Value), stk = .long b :: .long a :: stk' ∧ xdens P S' stk' ∧ xden P r (.long (op a b)) ∧ outs = [.inr (nx, e, cl, sl, h, L, r :: S')] := by
  match S, stk, d, ho with
  | y :: x :: S, w :: v :: stk, ⟨dy, dx, d⟩, ho =>
    have key : ∀ y x : xV, xden P y w → xden P x v → x_isL y = true → x_isL x = true → cond (x_isL y && x_isL x) (some [Sum.inr (nx, e, cl, sl, h, L, (Sum.inr (3, 0) : xV) :: S)]) none = some outs → ∃ (b a : Int64) (r : xV) (S' : List xV) (stk' : List Value), w :: v :: stk = .long b :: .long a :: stk' ∧ xdens P S' stk' ∧ xden P r (.long (op a b)) ∧ outs = [.inr (nx, e, cl, sl, h, L, r :: S')] := by
      intro y x dy dx hi hj ho
      obtain ⟨b, rfl⟩ := x_isL_den hi dy
      obtain ⟨a, rfl⟩ := x_isL_den hj dx
      rw [hi, hj] at ho
      exact ⟨b, a, .inr (3, 0), _, _, rfl, d, ⟨_, rfl⟩, (Option.some.inj ho).symm⟩
    match y, x, dy, dx, ho with
    | .inl (.long b), .inl (.long a), dy, dx, ho =>
      cases dx
      cases dy
      have ho : x_k64 (op a b) (fun r => some [Sum.inr (nx, e, cl, sl, h, L, (Sum.inl (Value.long r) : xV) :: S)]) = some outs := ho
      rw [x_k64_eq] at ho
      exact ⟨b, a, .inl (.long (op a b)), _, _, rfl, d, rfl, (Option.some.inj ho).symm⟩
    | .inl (.long b), .inr (1, k), dy, dx, ho => exact key _ _ dy dx rfl rfl ho
    | .inl (.long b), .inr (3, k), dy, dx, ho => exact key _ _ dy dx rfl rfl ho
    | .inr (1, j), .inl (.long b), dy, dx, ho => exact key _ _ dy dx rfl rfl ho
    | .inr (1, j), .inr (1, k), dy, dx, ho => exact key _ _ dy dx rfl rfl ho
    | .inr (1, j), .inr (3, k), dy, dx, ho => exact key _ _ dy dx rfl rfl ho
    | .inr (3, j), .inl (.long b), dy, dx, ho => exact key _ _ dy dx rfl rfl ho
    | .inr (3, j), .inr (1, k), dy, dx, ho => exact key _ _ dy dx rfl rfl ho
    | .inr (3, j), .inr (3, k), dy, dx, ho => exact key _ _ dy dx rfl rfl ho
theorem x_div64 {op : Int64 → Int64 → Int64} (ho : i_div64 op nx cf (e, cl, sl, h, L, S) = some outs) (d : xdens P S stk) : ∃ (b a : Int64) (r : xV) (S' : List xV) (stk' : List Value), ¬ b = 0 ∧ stk = .long b :: .long a :: stk' ∧ xdens P S' stk' ∧ xden P r (.long (op a b)) ∧ outs = [.inr (nx, e, cl, sl, h, L, r :: S')] := by
  match S, stk, d, ho with
  | .inl (.long b) :: .inl (.long a) :: S, w :: v :: stk, ⟨dy, dx, d⟩, ho =>
    cases dx
    cases dy
    have ho : cond (decide (b = 0)) none (x_k64 (op a b) (fun r => some [Sum.inr (nx, e, cl, sl, h, L, (Sum.inl (Value.long r) : xV) :: S)])) = some outs := ho
    by_cases hb : b = 0
    · rw [decide_eq_true hb] at ho
      cases ho
    · rw [decide_eq_false hb] at ho
      have ho : x_k64 (op a b) (fun r => some [Sum.inr (nx, e, cl, sl, h, L, (Sum.inl (Value.long r) : xV) :: S)]) = some outs := ho
      rw [x_k64_eq] at ho
      exact ⟨b, a, .inl (.long (op a b)), _, _, hb, rfl, d, rfl, (Option.some.inj ho).symm⟩
end INV
