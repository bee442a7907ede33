/-! ENGINE 2, states: values, unknowns with bounds and differences, cells -/
-- a value of the machine, its addresses counted from the base; or (0, i): the i-th unknown, an int; (1, i): a long; (4, j): the j-th array from outside
abbrev yV : Type := Value ⊕ (Nat × Nat)
-- the unknowns' bounds, by number; (i, j, c): the i-th is at most the j-th and c
abbrev yE : Type := List yR × List (Nat × Nat × Int)
-- an array's stretches: how many places, and what stands in each: this very value, or something within bounds
abbrev yG : Type := List (Nat × (yV ⊕ yR))
abbrev yC : Type := (FieldType × Nat × yG) ⊕ (Nat × List yV)
abbrev yH : Type := List yC
abbrev yL : Type := List (Nat × yV)
-- unknowns, cells left, slots left, heap, locals, stack
abbrev yS : Type := yE × Nat × Nat × yH × yL × List yV
-- the base; the arrays from outside; the classes' numbers and slots
abbrev yP : Type := Nat × (Nat → Nat) × va_G
def yden (P : yP) (ρ : Nat → Int) (n : Nat) (a : yV) (v : Value) : Prop := match a with
  | .inl (.ref k) => v = .ref (P.1 + k)
  | .inl w => v = w
  | .inr (0, i) => i < n ∧ v = .int (Int32.ofInt (ρ i)) ∧ -2147483648 ≤ ρ i ∧ ρ i ≤ 2147483647
  | .inr (1, i) => i < n ∧ v = .long (Int64.ofInt (ρ i)) ∧ -9223372036854775808 ≤ ρ i ∧ ρ i ≤ 9223372036854775807
  | .inr (4, j) => v = .ref (P.2.1 j)
  | .inr _ => False
theorem yden.mono {P : yP} {ρ ρ' : Nat → Int} {n n' : Nat} {a : yV} {v : Value} (hn : n ≤ n') (hρ : ∀ i, i < n → ρ' i = ρ i) (d : yden P ρ n a v) : yden P ρ' n' a v := by
  match a, d with
  | .inl w, d => cases w <;> exact d
  | .inr (0, i), ⟨d1, d2, d3, d4⟩ =>
    have e := hρ i d1
    exact ⟨by omega, by rw [e]; exact d2, by rw [e]; exact d3, by rw [e]; exact d4⟩
  | .inr (1, i), ⟨d1, d2, d3, d4⟩ =>
    have e := hρ i d1
    exact ⟨by omega, by rw [e]; exact d2, by rw [e]; exact d3, by rw [e]; exact d4⟩
  | .inr (4, j), d => exact d
def ydens (P : yP) (ρ : Nat → Int) (n : Nat) : List yV → List Value → Prop
  | [], [] => True
  | a :: as, v :: vs => yden P ρ n a v ∧ ydens P ρ n as vs
  | _, _ => False
theorem ydens.mono {P : yP} {ρ ρ' : Nat → Int} {n n' : Nat} (hn : n ≤ n') (hρ : ∀ i, i < n → ρ' i = ρ i) : ∀ {as : List yV} {vs : List Value}, ydens P ρ n as vs → ydens P ρ' n' as vs
  | [], [], _ => trivial
  | _ :: _, _ :: _, ⟨d, ds⟩ => ⟨d.mono hn hρ, ydens.mono hn hρ ds⟩
def yldens (P : yP) (ρ : Nat → Int) (n : Nat) : yL → List (Nat × Value) → Prop
  | [], [] => True
  | a :: as, v :: vs => (a.1 = v.1 ∧ yden P ρ n a.2 v.2) ∧ yldens P ρ n as vs
  | _, _ => False
theorem yldens.mono {P : yP} {ρ ρ' : Nat → Int} {n n' : Nat} (hn : n ≤ n') (hρ : ∀ i, i < n → ρ' i = ρ i) : ∀ {as : yL} {vs : List (Nat × Value)}, yldens P ρ n as vs → yldens P ρ' n' as vs
  | [], [], _ => trivial
  | _ :: _, _ :: _, ⟨⟨e, d⟩, ds⟩ => ⟨⟨e, d.mono hn hρ⟩, yldens.mono hn hρ ds⟩
def ydenO (P : yP) (ρ : Nat → Int) (n : Nat) (a : Option yV) (v : Option Value) : Prop := match a, v with
  | none, none => True
  | some a, some v => yden P ρ n a v
  | _, _ => False
-- what the bounds and the differences say
def yEnv (ρ : Nat → Int) (e : yE) : Prop := (∀ i q, e.1[i]? = some q → y_in q (ρ i)) ∧ ∀ t ∈ e.2, (t.1 < e.1.length ∧ t.2.1 < e.1.length) ∧ ρ t.1 ≤ ρ t.2.1 + t.2.2
-- a new unknown
theorem yEnv.push {ρ : Nat → Int} {e : yE} {q : yR} {z : Int} {ts : List (Nat × Nat × Int)} (h : yEnv ρ e) (hz : y_in q z) (ht : ∀ t ∈ ts, (t.1 < e.1.length + 1 ∧ t.2.1 < e.1.length + 1) ∧ (if t.1 = e.1.length then z else ρ t.1) ≤ (if t.2.1 = e.1.length then z else ρ t.2.1) + t.2.2) : yEnv (fun i => if i = e.1.length then z else ρ i) (e.1 ++ [q], ts ++ e.2) := by
  refine ⟨fun i r hi => ?_, fun t hm => ?_⟩
  · by_cases hl : i < e.1.length
    · have hi : (e.1 ++ [q])[i]? = some r := hi
      rw [List.getElem?_append_left hl] at hi
      show y_in r (if i = e.1.length then z else ρ i)
      rw [if_neg (by omega)]
      exact h.1 i r hi
    · have hi : (e.1 ++ [q])[i]? = some r := hi
      rw [List.getElem?_append_right (by omega)] at hi
      have h1 : i - e.1.length < 1 := (List.getElem?_eq_some_iff.mp hi).1
      have h2 : i = e.1.length := by omega
      subst h2
      rw [Nat.sub_self] at hi
      cases hi
      show y_in q (if _ = _ then z else _)
      rw [if_pos rfl]
      exact hz
  · have hlen : (e.1 ++ [q]).length = e.1.length + 1 := by simp
    rcases List.mem_append.mp hm with hm | hm
    · obtain ⟨g, g2⟩ := ht t hm
      exact ⟨by show t.1 < (e.1 ++ [q]).length ∧ t.2.1 < (e.1 ++ [q]).length; rw [hlen]; exact g, g2⟩
    · obtain ⟨⟨g1, g2⟩, g3⟩ := h.2 t hm
      refine ⟨by show t.1 < (e.1 ++ [q]).length ∧ t.2.1 < (e.1 ++ [q]).length; rw [hlen]; omega, ?_⟩
      show (if t.1 = e.1.length then z else ρ t.1) ≤ (if t.2.1 = e.1.length then z else ρ t.2.1) + t.2.2
      rw [if_neg (by omega), if_neg (by omega)]
      exact g3
theorem y_push_agree {ρ : Nat → Int} {n : Nat} {z : Int} : ∀ i, i < n → (fun i => if i = n then z else ρ i) i = ρ i := fun i hi => by
  show (if i = n then z else ρ i) = ρ i
  rw [if_neg (by omega)]
-- the stretch where a place lies
def y_seg : yG → Nat → Option (yV ⊕ yR)
  | [], _ => none
  | s :: t, j => if j < s.1 then some s.2 else y_seg t (j - s.1)
def yplace (P : yP) (ρ : Nat → Int) (n : Nat) (g : Option (yV ⊕ yR)) (v : Value) : Prop := match g with
  | some (.inl a) => yden P ρ n a v
  | some (.inr q) => (∃ x : Int32, v = .int x ∧ y_in q x.toInt) ∨ ∃ x : Int64, v = .long x ∧ y_in q x.toInt
  | none => False
theorem yplace.mono {P : yP} {ρ ρ' : Nat → Int} {n n' : Nat} {g : Option (yV ⊕ yR)} {v : Value} (hn : n ≤ n') (hρ : ∀ i, i < n → ρ' i = ρ i) (d : yplace P ρ n g v) : yplace P ρ' n' g v := by
  match g, d with
  | some (.inl a), d => exact yden.mono hn hρ d
  | some (.inr q), d => exact d
def yarr (P : yP) (ρ : Nat → Int) (n : Nat) (ty : FieldType) (g : yG) (N : Nat) (X : (Nat → Int32) ⊕ (Nat → Int64) ⊕ (Nat → UInt32) ⊕ (Nat → UInt64) ⊕ (Nat → Option Nat)) : Prop := match X with
  | .inl f => (ty = .int ∨ ty = .byte ∨ ty = .boolean) ∧ ∀ j, j < N → yplace P ρ n (y_seg g j) (.int (f j))
  | .inr (.inl f) => ty = .long ∧ ∀ j, j < N → yplace P ρ n (y_seg g j) (.long (f j))
  | .inr (.inr (.inr (.inr f))) => (∃ C, ty = .object C) ∧ ∀ j, j < N → yplace P ρ n (y_seg g j) (va_rf (f j))
  | _ => False
theorem yarr.mono {P : yP} {ρ ρ' : Nat → Int} {n n' : Nat} {ty : FieldType} {g : yG} {N : Nat} {X : (Nat → Int32) ⊕ (Nat → Int64) ⊕ (Nat → UInt32) ⊕ (Nat → UInt64) ⊕ (Nat → Option Nat)} (hn : n ≤ n') (hρ : ∀ i, i < n → ρ' i = ρ i) (d : yarr P ρ n ty g N X) : yarr P ρ' n' ty g N X := by
  match X, d with
  | .inl f, ⟨d1, d2⟩ => exact ⟨d1, fun j hj => (d2 j hj).mono hn hρ⟩
  | .inr (.inl f), ⟨d1, d2⟩ => exact ⟨d1, fun j hj => (d2 j hj).mono hn hρ⟩
  | .inr (.inr (.inr (.inr f))), ⟨d1, d2⟩ => exact ⟨d1, fun j hj => (d2 j hj).mono hn hρ⟩
def ycell (P : yP) (ρ : Nat → Int) (n : Nat) (U : State) (c : yC) (a : Nat) (H : Heap) : Prop := match c with
  | .inl (ty, N, g) => ∃ (cA : ClassId) (X : vp_A), H[a]? = some (vp_cell cA X) ∧ X.1 = N ∧ yarr P ρ n ty g N X.2 ∧ ArrOfT U cA ty ∧ va_RA U cA ty
  | .inr (ci, fs) => ∃ vs, ydens P ρ n fs vs ∧ va_at P.2.2 vwCl (a, .inr (ci, vs)) H
theorem ycell.mono {P : yP} {ρ ρ' : Nat → Int} {n n' : Nat} {U : State} {c : yC} {a : Nat} {H : Heap} (hn : n ≤ n') (hρ : ∀ i, i < n → ρ' i = ρ i) (h : ycell P ρ n U c a H) : ycell P ρ' n' U c a H := by
  match c, h with
  | .inl (ty, N, g), ⟨cA, X, h1, h2, h3, h4⟩ => exact ⟨cA, X, h1, h2, h3.mono hn hρ, h4⟩
  | .inr (ci, fs), ⟨vs, h1, h2⟩ => exact ⟨vs, h1.mono hn hρ, h2⟩
theorem ycell.moved {P : yP} {ρ : Nat → Int} {n : Nat} {u U : State} {c : yC} {a : Nat} {H : Heap} (hvm : u.vm.Alike U.vm) (h : ycell P ρ n u c a H) : ycell P ρ n U c a H := by
  match c, h with
  | .inl (ty, N, g), ⟨cA, X, h1, h2, h3, h4, h5⟩ => exact ⟨cA, X, h1, h2, h3, arrOfT_moved hvm h4, h5.moved hvm⟩
  | .inr (ci, fs), h => exact h
theorem ycell.kept {P : yP} {ρ : Nat → Int} {n : Nat} {U : State} {c : yC} {a : Nat} {H H1 : Heap} (h : ycell P ρ n U c a H) (hq : H1[a]? = H[a]?) : ycell P ρ n U c a H1 := by
  match c, h with
  | .inl (ty, N, g), ⟨cA, X, h1, h2⟩ => exact ⟨cA, X, hq.trans h1, h2⟩
  | .inr (ci, fs), ⟨vs, h1, h2⟩ => exact ⟨vs, h1, h2.kept hq⟩
def yHp (P : yP) (ρ : Nat → Int) (n : Nat) (h : yH) (U : State) (H : Heap) : Prop := H.size = P.1 + h.length ∧ ∀ k c, h[k]? = some c → ycell P ρ n U c (P.1 + k) H
theorem yHp.mono {P : yP} {ρ ρ' : Nat → Int} {n n' : Nat} {h : yH} {U : State} {H : Heap} (hn : n ≤ n') (hρ : ∀ i, i < n → ρ' i = ρ i) (g : yHp P ρ n h U H) : yHp P ρ' n' h U H := ⟨g.1, fun k c hk => (g.2 k c hk).mono hn hρ⟩
theorem yHp.moved {P : yP} {ρ : Nat → Int} {n : Nat} {h : yH} {u U : State} {H : Heap} (hvm : u.vm.Alike U.vm) (g : yHp P ρ n h u H) : yHp P ρ n h U H := ⟨g.1, fun k c hk => (g.2 k c hk).moved hvm⟩
theorem yHp.set {P : yP} {ρ : Nat → Int} {n : Nat} {U : State} {h : yH} {H H1 : Heap} {r : Nat} {c : yC} (g : yHp P ρ n h U H) (hr : r < h.length) (hc : ycell P ρ n U c (P.1 + r) H1) (hz : H1.size = H.size) (hq : ∀ q : Nat, q ≠ P.1 + r → H1[q]? = H[q]?) : yHp P ρ n (h.set r c) U H1 := by
  refine ⟨by rw [hz, g.1, List.length_set], fun k c' hk => ?_⟩
  by_cases e : k = r
  · subst e
    rw [List.getElem?_set_self hr] at hk
    cases hk
    exact hc
  · rw [List.getElem?_set_ne (Ne.symm e)] at hk
    exact (g.2 k c' hk).kept (hq _ (by omega))
