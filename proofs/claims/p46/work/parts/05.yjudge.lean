/-! ENGINE 2, steps: the judgement -/
abbrev yRes : Type := yE × yH × Option yV
abbrev yO : Type := yRes ⊕ (Nat × yS)
abbrev yF : Type := Nat → yE → yH → List yV → Option (List yRes)
abbrev yI : Type := yF → yS → Option (List yO)
abbrev xM : Type := String × ByteArray × Nat × Option FieldType × String × Room
def xTB : List Cond := lw_tbl.filter goodWord
theorem xTB_good {ws : List Cond} (h : ∀ w ∈ ws, w ∈ xTB) : GoodIn xTB ws := fun w hw => ⟨h w hw, good_of_word (List.mem_filter.mp (h w hw)).2⟩
theorem xTB_in {w : Cond} (h : w ∈ lw_tbl) (hg : goodWord w = true) : w ∈ xTB := List.mem_filter.mpr ⟨h, hg⟩
def xCx (μ : xM) (p : Program) (s : State) (m : MethodId) (args : Array Value) (meth : Method) (c : Code) (R : Room) : Prop :=
  p.tables.exec = Jvm.exec ∧ c.code = μ.2.1 ∧ c.maxLocals = μ.2.2.1 ∧ s.vm.findClass μ.1 = some m.cls ∧ (∀ w ∈ xTB, w.before args s = true) ∧ meth.sig.returnType = μ.2.2.2.1 ∧ meth.locks = false ∧ meth.name = μ.2.2.2.2.1 ∧ R = μ.2.2.2.2.2
def xTab (t : Nat) : List Int32 := match t with
  | 1 => [0, -1, 1, -2, 2]
  | 2 => [2, 1, 4, 5, 3]
  | _ => []
def xNest : List Cond := [.methodLinkNest "BreadMap$OrdersReader" 11 yX5_init "BreadMap", .methodLinkNest "BreadMap$Land" 42 yX5_init "BreadMap", .methodLinkNest "BreadMap" 96 yX4_init "BreadMap", .methodLinkNest "BreadMap" 89 yX0_init "BreadMap", .methodLinkNest "BreadMap" 73 yX10_init "BreadMap", .methodLinkNest "BreadMap" 52 yX2_init "BreadMap", .methodLinkNest "BreadMap" 29 yX8_init "BreadMap", .methodLinkNest "BreadMap" 26 yX9_init "BreadMap"]
def xStat : List (String × String × Nat) := [("BreadMap", "MOVES", 1), ("BreadMap$Land", "LETTER_CRUMBS", 2)]
-- what lies below the base, and what the tables say; the script has N ints
def yX (P : yP) (N : Nat) (U : State) (H : Heap) : Prop :=
  (∀ w ∈ xNest, va_Nw w U) ∧ (∀ C ∈ (["BreadMap$Tray", "BreadMap$Land"] : List String), va_AO C U) ∧ (∀ q ∈ xStat, va_Z q.1 q.2.1 "[I" (.ref (P.2.1 q.2.2)) (fun z => P.1 ≤ z) U H ∧ va_T .int (P.2.1 q.2.2) 5 (fun j => .int ((xTab q.2.2).getD j 0)) (fun z => P.1 ≤ z) U H) ∧
  (∃ xs : Nat → Int32, va_X (P.2.1 0) N xs U H) ∧ P.2.1 0 < P.1 ∧ ∀ q : Nat, q < P.1 → H[q]? = U.heap[q]?
theorem yX.kept {P : yP} {N : Nat} {U : State} {H H1 : Heap} (h : yX P N U H) (hq : ∀ q : Nat, q < P.1 → H1[q]? = H[q]?) : yX P N U H1 := by
  obtain ⟨h1, h2, h3, ⟨xs, h4⟩, h5, h6⟩ := h
  refine ⟨h1, h2, fun q hm => ⟨(h3 q hm).1.kept fun a _ ha => hq a (Nat.not_le.mp ha), (h3 q hm).2.kept fun a _ ha => hq a (Nat.not_le.mp ha)⟩, ⟨xs, h4.kept (hq _ h5)⟩, h5, fun q hl => (hq q hl).trans (h6 q hl)⟩
theorem yX.moved {P : yP} {N : Nat} {s U : State} {H : Heap} (hW : s.WarmedH U.vm) (hU : U.heap = H) (h : yX P N s H) : yX P N U H := by
  obtain ⟨h1, h2, h3, ⟨xs, h4⟩, h5, h6⟩ := h
  refine ⟨fun w hw => ?_, fun C hC => va_AO.moved hW.alike (h2 C hC), fun q hm => ⟨(h3 q hm).1.moved hW.alike, (h3 q hm).2.moved hW.alike⟩, ⟨xs, h4.moved hW.alike⟩, h5, fun q _ => by rw [hU]⟩
  have hs := h1 w hw
  simp only [xNest, List.mem_cons, List.not_mem_nil, or_false] at hw
  rcases hw with rfl | rfl | rfl | rfl | rfl | rfl | rfl | rfl <;> exact va_Nw.warmM hW hs
theorem yX.same {P : yP} {N : Nat} {s U : State} {H : Heap} (hv : s.vm = U.vm) (hh : U.heap = s.heap) (h : yX P N s H) : yX P N U H := by
  have ha : s.vm.Alike U.vm := hv ▸ Vm.Alike.refl s.vm
  obtain ⟨h1, h2, h3, ⟨xs, h4⟩, h5, h6⟩ := h
  refine ⟨fun w hw => ?_, fun C hC => va_AO.moved ha (h2 C hC), fun q hm => ⟨(h3 q hm).1.moved ha, (h3 q hm).2.moved ha⟩, ⟨xs, h4.moved ha⟩, h5, fun q hl => by rw [hh]; exact h6 q hl⟩
  have hs := h1 w hw
  simp only [xNest, List.mem_cons, List.not_mem_nil, or_false] at hw
  rcases hw with rfl | rfl | rfl | rfl | rfl | rfl | rfl | rfl <;> exact va_Nw.same rfl hv hs
-- what doesn't change in a run: P; the script's length; the numbers that the first unknowns have
abbrev yQ : Type := yP × Nat × (Nat → Int) × Nat
def yJ (A : yQ) (nL : Nat) (R : Room) (s : State) (st : yS) (H : Heap) (locs : List Loc) (cells slots : Nat) (ls : Array Slot) (stk : List Value) : Prop :=
  ∃ ρ : Nat → Int, (A.2.2.2 ≤ st.1.1.length ∧ ∀ i, i < A.2.2.2 → ρ i = A.2.2.1 i) ∧ yEnv ρ st.1 ∧ cells + st.2.1 ≤ R.cells ∧ slots + st.2.2.1 ≤ R.slots ∧ yHp A.1 ρ st.1.1.length st.2.2.2.1 s H ∧ (∃ lv, lv_has ls nL lv ∧ yldens A.1 ρ st.1.1.length st.2.2.2.2.1 lv) ∧ ydens A.1 ρ st.1.1.length st.2.2.2.2.2 stk ∧ yX A.1 A.2.1 s H ∧ (∀ q ∈ locs, A.1.1 ≤ q.base) ∧ va_K A.1.2.2 vwCl [] s
def xRet (μ : xM) (pc : Nat) (ov : Option Value) : Prop := match ov with
  | some (.int x) => decode μ.2.1 pc = .ok (.ireturn, 1) ∧ ∃ ty, μ.2.2.2.1 = some ty ∧ narrow ty (.int x) = .int x
  | some (.long _) => decode μ.2.1 pc = .ok (.lreturn, 1) ∧ μ.2.2.2.1 = some .long
  | none => decode μ.2.1 pc = .ok (.return_, 1) ∧ μ.2.2.2.1 = none
  | _ => False
def yKR (A : yQ) (μ : xM) (p : Program) (l : Launch) (e : Env) (R : Room) (s : State) (m : MethodId) (args : Array Value) (below : List Frame) (meth : Method) (c : Code) (Q : State → Prop) (r : yRes) : Prop :=
  ∀ (ρ : Nat → Int) (H : Heap) (locs : List Loc) (cells slots pc : Nat) (ls : Array Slot) (ov : Option Value), (∀ i, i < A.2.2.2 → ρ i = A.2.2.1 i) → yEnv ρ r.1 → cells ≤ R.cells → slots ≤ R.slots → yHp A.1 ρ r.1.1.length r.2.1 s H → yX A.1 A.2.1 s H → (∀ q ∈ locs, A.1.1 ≤ q.base) → ydenO A.1 ρ r.1.1.length r.2.2 ov → xRet μ pc ov → W p l e R s m args below meth c H locs cells slots Q (F0 m pc ls ov.toList)
def yKO (A : yQ) (μ : xM) (p : Program) (l : Launch) (e : Env) (R : Room) (s : State) (m : MethodId) (args : Array Value) (below : List Frame) (meth : Method) (c : Code) (Q : State → Prop) (o : yO) : Prop := match o with
  | .inl r => yKR A μ p l e R s m args below meth c Q r
  | .inr q => ∀ (H : Heap) (locs : List Loc) (cells slots : Nat) (ls : Array Slot) (stk : List Value), yJ A μ.2.2.1 R s q.2 H locs cells slots ls stk → W p l e R s m args below meth c H locs cells slots Q (F0 m q.1 ls stk)
/-- a step holds of the machine; CF: what the calls that it makes are held to -/
def ySim (l : Launch) (A : yQ) (CF : yF → Prop) (μ : xM) (pc : Nat) (ri : yI) : Prop :=
  ∀ (p : Program) (e : Env) (s : State) (m : MethodId) (args : Array Value) (below : List Frame) (meth : Method) (c : Code) (R : Room) (Q : State → Prop), xCx μ p s m args meth c R → ∀ cf : yF, CF cf → ∀ (st : yS) (outs : List yO), ri cf st = some outs →
  ∀ (H : Heap) (locs : List Loc) (cells slots : Nat) (ls : Array Slot) (stk : List Value), yJ A μ.2.2.1 R s st H locs cells slots ls stk → (∀ o ∈ outs, yKO A μ p l e R s m args below meth c Q o) → W p l e R s m args below meth c H locs cells slots Q (F0 m pc ls stk)
theorem x_mem1 {α : Type} (a : α) : a ∈ [a] := List.mem_singleton.mpr rfl
/-! values by their bounds -/
noncomputable def y_rng (e : yE) (v : yV) : Option yR := match v with
  | .inl (.int a) => some (a.toInt, a.toInt)
  | .inr (0, i) => x_nth e.1 i
  | _ => none
theorem y_rng_den {P : yP} {ρ : Nat → Int} {n : Nat} {e : yE} {a : yV} {v : Value} {q : yR} (h : y_rng e a = some q) (je : yEnv ρ e) (d : yden P ρ n a v) : ∃ x : Int32, v = .int x ∧ y_in q x.toInt ∧ (∀ i, a = .inr (0, i) → ρ i = x.toInt) := by
  match a, h, d with
  | .inl (.int b), h, d =>
    cases h
    exact ⟨b, d, ⟨Int.le_refl _, Int.le_refl _⟩, fun i hi => by cases hi⟩
  | .inr (0, i), h, ⟨d1, d2, d3, d4⟩ =>
    have hz : (Int32.ofInt (ρ i)).toInt = ρ i := Int32.toInt_ofInt_of_le (by omega) (by omega)
    refine ⟨_, d2, ?_, fun j hj => ?_⟩
    · rw [hz]; exact je.1 i q (by rw [← x_nth_eq]; exact h)
    · cases hj; exact hz.symm
/-- a new int unknown of a known number -/
theorem y_new_den {P : yP} {ρ : Nat → Int} {e : yE} {q : yR} {x : Int32} (hx : y_in q x.toInt) (ts : List (Nat × Nat × Int)) : yden P (fun i => if i = e.1.length then x.toInt else ρ i) ((e.1 ++ [q], ts ++ e.2) : yE).1.length (.inr (0, e.1.length)) (.int x) := by
  have h1 := Int32.le_toInt x
  have h2 := Int32.toInt_lt x
  refine ⟨by show _ < (e.1 ++ [q]).length; simp, ?_, ?_, ?_⟩
  · show Value.int x = .int (Int32.ofInt (if _ = _ then x.toInt else _))
    rw [if_pos rfl, Int32.ofInt_toInt]
  · show _ ≤ (if _ = _ then x.toInt else _)
    rw [if_pos rfl]; omega
  · show (if _ = _ then x.toInt else _) ≤ _
    rw [if_pos rfl]; omega
