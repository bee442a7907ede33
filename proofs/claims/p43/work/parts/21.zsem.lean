/-! WHAT THE CONCRETE MACHINE'S STATES MEAN; what it is for a step to hold of the Java machine -/
-- the base; the arrays from outside; the classes' numbers and slots; the script's length and numbers
abbrev zP : Type := Nat × (Nat → Nat) × va_G × Nat × (Nat → Int32)
def zPD (P : zP) : zD := (P.2.2.2.1, fun i => (P.2.2.2.2 i).toInt)
def zden (P : zP) (a : zV) (v : Value) : Prop := match a with
  | (0, z) => ∃ x : Int32, v = .int x ∧ x.toInt = z
  | (1, z) => ∃ x : Int64, v = .long x ∧ x.toInt = z
  | (2, k) => v = .ref (P.1 + k.toNat)
  | (3, j) => v = .ref (P.2.1 j.toNat)
  | (4, _) => v = .null
  | _ => False
def zdens (P : zP) : List zV → List Value → Prop
  | [], [] => True
  | a :: as, v :: vs => zden P a v ∧ zdens P as vs
  | _, _ => False
def zldens (P : zP) (L : zL) (lv : List (Nat × Value)) : Prop := ∀ k w, L k = some w → ∃ V, (k, V) ∈ lv ∧ zden P w V
def zdenO (P : zP) (a : Option zV) (v : Option Value) : Prop := match a, v with
  | none, none => True
  | some a, some v => zden P a v
  | _, _ => False
def zarrD (P : zP) (ty : FieldType) (g : Nat → zV) (n : Nat) (X : (Nat → Int32) ⊕ (Nat → Int64) ⊕ (Nat → UInt32) ⊕ (Nat → UInt64) ⊕ (Nat → Option Nat)) : Prop := match X with
  | .inl f => (ty = .int ∨ ty = .byte ∨ ty = .boolean) ∧ ∀ j, j < n → zden P (g j) (.int (f j))
  | .inr (.inl f) => ty = .long ∧ ∀ j, j < n → zden P (g j) (.long (f j))
  | .inr (.inr (.inr (.inr f))) => (∃ C, ty = .object C) ∧ ∀ j, j < n → zden P (g j) (va_rf (f j))
  | _ => False
def zcell (P : zP) (U : State) (c : zC) (g : Nat → zV) (a : Nat) (H : Heap) : Prop := match c with
  | .inl (ty, n) => ∃ (cA : ClassId) (X : vp_A), H[a]? = some (vp_cell cA X) ∧ X.1 = n ∧ zarrD P ty g n X.2 ∧ ArrOfT U cA ty ∧ va_RA U cA ty
  | .inr (ci, n) => ∃ vs : List Value, (∀ j, j < n → ∃ v, vs[j]? = some v ∧ zden P (g j) v) ∧ va_at P.2.2.1 vwCl (a, .inr (ci, vs)) H
def zG (P : zP) (h : zH) (U : State) (H : Heap) : Prop := ∀ k c, zShape[k]? = some c → zcell P U c (h k) (P.1 + k) H
theorem zcell.moved {P : zP} {u U : State} {c : zC} {g : Nat → zV} {a : Nat} {H : Heap} (hvm : u.vm.Alike U.vm) (h : zcell P u c g a H) : zcell P U c g a H := by
  match c, h with
  | .inl (ty, n), ⟨cA, X, h1, h2, h3, h4, h5⟩ => exact ⟨cA, X, h1, h2, h3, arrOfT_moved hvm h4, h5.moved hvm⟩
  | .inr (ci, n), h => exact h
theorem zcell.kept {P : zP} {U : State} {c : zC} {g : Nat → zV} {a : Nat} {H H1 : Heap} (h : zcell P U c g a H) (hq : H1[a]? = H[a]?) : zcell P U c g a H1 := by
  match c, h with
  | .inl (ty, n), ⟨cA, X, h1, h2⟩ => exact ⟨cA, X, hq.trans h1, h2⟩
  | .inr (ci, n), ⟨vs, h1, h2⟩ => exact ⟨vs, h1, h2.kept hq⟩
theorem zG.moved {P : zP} {u U : State} {h : zH} {H : Heap} (hvm : u.vm.Alike U.vm) (g : zG P h u H) : zG P h U H := fun k c hk => (g k c hk).moved hvm
theorem zG.set {P : zP} {U : State} {h : zH} {H H1 : Heap} {r : Nat} {c : zC} {g' : Nat → zV} {h' : zH} (g : zG P h U H) (hr : zShape[r]? = some c) (hc : zcell P U c g' (P.1 + r) H1) (hq : ∀ q : Nat, q ≠ P.1 + r → H1[q]? = H[q]?) (e1 : h' r = g') (e2 : ∀ k, k ≠ r → h' k = h k) : zG P h' U H1 := by
  intro k c' hk
  by_cases e : k = r
  · subst e
    rw [hr] at hk
    cases hk
    rw [e1]
    exact hc
  · rw [e2 k e]
    exact (g k c' hk).kept (hq _ (by omega))
-- the two texts: their places; what lies there
def zLen : List Nat := [(zTx 3).length, (zTx 4).length]
def zByt : List (List Int32) := [(zTx 3).map Int32.ofInt, (zTx 4).map Int32.ofInt]
def zTexts : List (String × Nat × String) := [("BreadMap$Tape", 83, "wide row rise by copies company at to bite mould honey steam mouse march home when eaten arrives crumbs loop end stop "), ("BreadMap$Land", 85, "prhwf")]
def zXS (P : zP) (U : State) (H : Heap) : Prop := (∃ adV : Nat → Nat, vk_S 2 zLen zByt (fun i => P.2.1 (i + 3)) adV (fun z => P.1 ≤ z) U H) ∧ va_Z "java/lang/String" "COMPACT_STRINGS" "Z" (.int 1) (fun z => P.1 ≤ z) U H ∧ va_Zq "jdk/internal/util/Preconditions" "SIOOBE_FORMATTER" "Ljava/util/function/BiFunction;" (fun z => P.1 ≤ z) U H ∧ ∀ j q, zTexts[j]? = some q → vk_R q.1 q.2.1 q.2.2 (P.2.1 (j + 3)) U
-- what lies below the base, and what the tables say
def zX0 (P : zP) (U : State) (H : Heap) : Prop :=
  (∀ w ∈ xNest, va_Nw w U) ∧ (∀ q ∈ xStat, va_Z q.1 q.2.1 "[I" (.ref (P.2.1 q.2.2)) (fun z => P.1 ≤ z) U H ∧ va_T .int (P.2.1 q.2.2) 5 (fun j => .int ((xTab q.2.2).getD j 0)) (fun z => P.1 ≤ z) U H) ∧
  va_X (P.2.1 0) P.2.2.2.1 P.2.2.2.2 U H ∧ (P.2.1 0 < P.1 ∧ P.2.2.2.1 < 2147483648) ∧ zXS P U H ∧ ∀ q : Nat, q < P.1 → H[q]? = U.heap[q]?
theorem zXS.kept {P : zP} {U : State} {H H1 : Heap} (h : zXS P U H) (hq : ∀ q : Nat, q < P.1 → H1[q]? = H[q]?) : zXS P U H1 := by
  obtain ⟨⟨adV, h1⟩, h2, h3, h4⟩ := h
  have hq2 : ∀ a : Nat, a < H.size → ¬ P.1 ≤ a → H1[a]? = H[a]? := fun a _ ha => hq a (Nat.not_le.mp ha)
  exact ⟨⟨adV, h1.kept hq2⟩, h2.kept hq2, h3.kept hq2, h4⟩
theorem zXS.moved {P : zP} {s U : State} {H : Heap} (hW : s.WarmedH U.vm) (h : zXS P s H) : zXS P U H := by
  obtain ⟨⟨adV, h1⟩, h2, h3, h4⟩ := h
  exact ⟨⟨adV, h1.moved hW.alike⟩, h2.moved hW.alike, h3.moved hW.alike, fun j q hq => vk_R.warm hW (h4 j q hq)⟩
theorem zXS.same {P : zP} {s U : State} {H : Heap} (hv : s.vm = U.vm) (h : zXS P s H) : zXS P U H := by
  have ha : s.vm.Alike U.vm := hv ▸ Vm.Alike.refl s.vm
  obtain ⟨⟨adV, h1⟩, h2, h3, h4⟩ := h
  exact ⟨⟨adV, h1.moved ha⟩, h2.moved ha, h3.moved ha, fun j q hq => vk_R.same hv.symm (h4 j q hq)⟩
theorem zX0.kept {P : zP} {U : State} {H H1 : Heap} (h : zX0 P U H) (hq : ∀ q : Nat, q < P.1 → H1[q]? = H[q]?) : zX0 P U H1 := by
  obtain ⟨h1, h3, h4, h5, h7, h6⟩ := h
  refine ⟨h1, fun q hm => ⟨(h3 q hm).1.kept fun a _ ha => hq a (Nat.not_le.mp ha), (h3 q hm).2.kept fun a _ ha => hq a (Nat.not_le.mp ha)⟩, h4.kept (hq _ h5.1), h5, h7.kept hq, fun q hl => (hq q hl).trans (h6 q hl)⟩
theorem zX0.moved {P : zP} {s U : State} {H : Heap} (hW : s.WarmedH U.vm) (hU : U.heap = H) (h : zX0 P s H) : zX0 P U H := by
  obtain ⟨h1, h3, h4, h5, h7, h6⟩ := h
  refine ⟨fun w hw => ?_, fun q hm => ⟨(h3 q hm).1.moved hW.alike, (h3 q hm).2.moved hW.alike⟩, h4.moved hW.alike, h5, h7.moved hW, fun q _ => by rw [hU]⟩
  have hs := h1 w hw
  simp only [xNest, List.mem_cons, List.not_mem_nil, or_false] at hw
  rcases hw with rfl | rfl | rfl | rfl | rfl | rfl | rfl | rfl <;> exact va_Nw.warmM hW hs
theorem zX0.same {P : zP} {s U : State} {H : Heap} (hv : s.vm = U.vm) (hh : U.heap = s.heap) (h : zX0 P s H) : zX0 P U H := by
  have ha : s.vm.Alike U.vm := hv ▸ Vm.Alike.refl s.vm
  obtain ⟨h1, h3, h4, h5, h7, h6⟩ := h
  refine ⟨fun w hw => ?_, fun q hm => ⟨(h3 q hm).1.moved ha, (h3 q hm).2.moved ha⟩, h4.moved ha, h5, h7.same hv, fun q hl => by rw [hh]; exact h6 q hl⟩
  have hs := h1 w hw
  simp only [xNest, List.mem_cons, List.not_mem_nil, or_false] at hw
  rcases hw with rfl | rfl | rfl | rfl | rfl | rfl | rfl | rfl <;> exact va_Nw.same rfl hv hs
/-! values -/
theorem zden_cat {P : zP} {a : zV} {v : Value} (d : zden P a v) : v.category = zcat a := by
  match a, d with
  | (0, z), ⟨_, d, _⟩ => cases d; rfl
  | (1, z), ⟨_, d, _⟩ => cases d; rfl
  | (2, z), d => cases d; rfl
  | (3, z), d => cases d; rfl
  | (4, z), d => cases d; rfl
theorem zden_ofI {P : zP} (x : Int32) : zden P (0, x.toInt) (.int x) := ⟨x, rfl, rfl⟩
theorem zden_ofL {P : zP} (x : Int64) : zden P (1, x.toInt) (.long x) := ⟨x, rfl, rfl⟩
theorem zkind_ref {P : zP} {a : zV} {v : Value} (h : zkind a = 2) (d : zden P a v) : ∃ i : Nat, v = .ref i := by
  match a, h, d with
  | (0, _), h, _ => cases h
  | (1, _), h, _ => cases h
  | (2, _), _, d => exact ⟨_, d⟩
  | (3, _), _, d => exact ⟨_, d⟩
  | (4, _), h, _ => cases h
theorem zkind_int {P : zP} {a : zV} {v : Value} (h : zkind a = 0) (d : zden P a v) : ∃ x : Int32, v = .int x ∧ a = (0, x.toInt) := by
  match a, h, d with
  | (0, z), _, ⟨x, h1, h2⟩ => exact ⟨x, h1, by rw [h2]⟩
  | (1, _), h, _ => cases h
  | (2, _), h, _ => cases h
  | (3, _), h, _ => cases h
  | (4, _), h, _ => cases h
theorem zkind_long {P : zP} {a : zV} {v : Value} (h : zkind a = 1) (d : zden P a v) : ∃ x : Int64, v = .long x ∧ a = (1, x.toInt) := by
  match a, h, d with
  | (0, _), h, _ => cases h
  | (1, z), _, ⟨x, h1, h2⟩ => exact ⟨x, h1, by rw [h2]⟩
  | (2, _), h, _ => cases h
  | (3, _), h, _ => cases h
  | (4, _), h, _ => cases h
theorem zsum_den {P : zP} : ∀ {as : List zV} {vs : List Value}, zdens P as vs → (vs.map fun v => v.category).sum = zsum as
  | [], [], _ => rfl
  | a :: as, v :: vs, ⟨d, ds⟩ => by
    show (v.category :: vs.map fun v => v.category).sum = zcat a + zsum as
    rw [List.sum_cons, zsum_den ds, zden_cat d]
theorem zput1_den {P : zP} {i : Nat} {a : zV} {v : Value} {L : zL} {lv : List (Nat × Value)} (d : zden P a v) (ds : zldens P L lv) : zldens P (zput1 L i a) ((i, v) :: lv.filter (fun q => !(q.1 == i) && !(q.1 + 1 == i && q.2.category == 2))) := by
  intro k w h
  unfold zput1 at h
  by_cases hk : k = i
  · rw [if_pos hk] at h
    cases h
    exact ⟨v, by rw [hk]; exact List.mem_cons_self, d⟩
  · rw [if_neg hk] at h
    split at h
    · rename_i w0 hw
      split at h
      · cases h
      · rename_i hn
        cases h
        obtain ⟨V, h1, h2⟩ := ds k w hw
        refine ⟨V, List.mem_cons_of_mem _ (List.mem_filter.mpr ⟨h1, ?_⟩), h2⟩
        have hc := zden_cat h2
        have e1 : (k == i) = false := by simpa using hk
        show (!(k == i) && !(k + 1 == i && V.category == 2)) = true
        rw [e1, hc]
        cases hb : (k + 1 == i && zcat w == 2) with
        | false => rfl
        | true =>
          rw [Bool.and_eq_true, beq_iff_eq, beq_iff_eq] at hb
          exact absurd hb hn
    · cases h
theorem zput2_den {P : zP} {i : Nat} {a : zV} {v : Value} {L : zL} {lv : List (Nat × Value)} (d : zden P a v) (ds : zldens P L lv) : zldens P (zput2 L i a) ((i, v) :: lv.filter (fun q => !(q.1 == i) && (!(q.1 == i + 1) && !(q.1 + 1 == i && q.2.category == 2)))) := by
  intro k w h
  unfold zput2 at h
  by_cases hk : k = i
  · rw [if_pos hk] at h
    cases h
    exact ⟨v, by rw [hk]; exact List.mem_cons_self, d⟩
  · rw [if_neg hk] at h
    by_cases hk2 : k = i + 1
    · rw [if_pos hk2] at h
      cases h
    · rw [if_neg hk2] at h
      split at h
      · rename_i w0 hw
        split at h
        · cases h
        · rename_i hn
          cases h
          obtain ⟨V, h1, h2⟩ := ds k w hw
          refine ⟨V, List.mem_cons_of_mem _ (List.mem_filter.mpr ⟨h1, ?_⟩), h2⟩
          have hc := zden_cat h2
          have e1 : (k == i) = false := by simpa using hk
          have e2 : (k == i + 1) = false := by simpa using hk2
          show (!(k == i) && (!(k == i + 1) && !(k + 1 == i && V.category == 2))) = true
          rw [e1, e2, hc]
          cases hb : (k + 1 == i && zcat w == 2) with
          | false => rfl
          | true =>
            rw [Bool.and_eq_true, beq_iff_eq, beq_iff_eq] at hb
            exact absurd hb hn
      · cases h
theorem zdens_len {P : zP} : ∀ {as : List zV} {vs : List Value}, zdens P as vs → as.length = vs.length
  | [], [], _ => rfl
  | _ :: as, _ :: vs, ⟨_, d⟩ => by rw [List.length_cons, List.length_cons, zdens_len d]
theorem zdens_app {P : zP} : ∀ {as : List zV} {vs : List Value} {bs : List zV} {ws : List Value}, zdens P as vs → zdens P bs ws → zdens P (as ++ bs) (vs ++ ws)
  | [], [], _, _, _, h => h
  | _ :: as, _ :: vs, _, _, ⟨d, ds⟩, h => ⟨d, zdens_app ds h⟩
theorem ztake_den {P : zP} : ∀ {n : Nat} {S acc as S' : List zV} {stk accv : List Value}, ztake n S acc = some (as, S') → zdens P S stk → zdens P acc accv → ∃ (as0 : List zV) (vs stk' : List Value), as0.length = n ∧ stk = vs.reverse ++ stk' ∧ zdens P as0 vs ∧ zdens P S' stk' ∧ as = as0 ++ acc
  | 0, S, acc, as, S', stk, accv, h, d, da => by
    have h : some (acc, S) = some (as, S') := h
    cases h
    exact ⟨[], [], stk, rfl, rfl, trivial, d, rfl⟩
  | n + 1, v :: S, acc, as, S', w :: stk, accv, h, ⟨d0, d⟩, da => by
    have h : ztake n S (v :: acc) = some (as, S') := h
    obtain ⟨as0, vs, stk', e1, e2, e3, e4, e5⟩ := ztake_den (acc := v :: acc) (accv := w :: accv) h d ⟨d0, da⟩
    refine ⟨as0 ++ [v], vs ++ [w], stk', by simp [e1], by simp [e2], zdens_app e3 ⟨d0, trivial⟩, e4, by simpa using e5⟩
  | n + 1, [], acc, as, S', [], accv, h, d, da => by cases h
theorem zargs_den {P : zP} : ∀ {i : Nat} {as : List zV} {vs : List Value}, zdens P as vs → zldens P (zargs i as) (lv_args i vs)
  | _, [], [], _ => fun k w h => by cases h
  | i, a :: as, v :: vs, ⟨d, ds⟩ => by
    intro k w h
    have h : (if k = i then some a else zargs (if zcat a = 2 then i + 2 else i + 1) as k) = some w := h
    show ∃ V, (k, V) ∈ (i, v) :: lv_args (if v.category = 2 then i + 2 else i + 1) vs ∧ zden P w V
    by_cases hk : k = i
    · rw [if_pos hk] at h
      cases h
      exact ⟨v, by rw [hk]; exact List.mem_cons_self, d⟩
    · rw [if_neg hk] at h
      rw [zden_cat d]
      obtain ⟨V, h1, h2⟩ := zargs_den ds k w h
      exact ⟨V, List.mem_cons_of_mem _ h1, h2⟩
theorem zfit_den {P : zP} {c : Nat} {ty : FieldType} {a : zV} {v : Value} (hc : (c = 0 ∧ ty = .int) ∨ (c = 1 ∧ ty = .long) ∨ (c = 2 ∧ ty = .byte) ∨ (c = 3 ∧ ty = .boolean) ∨ (c = 4 ∧ fits ty (.ref 0) = true)) (h : zfit c a = true) (d : zden P a v) : fits ty v = true ∧ narrow ty v = v := by
  rcases hc with ⟨rfl, rfl⟩ | ⟨rfl, rfl⟩ | ⟨rfl, rfl⟩ | ⟨rfl, rfl⟩ | ⟨rfl, hf⟩
  · match a, h, d with
    | (0, z), _, ⟨x, d, _⟩ => cases d; exact ⟨rfl, rfl⟩
    | (n + 1, z), h, _ => simp [zfit] at h
  · match a, h, d with
    | (1, z), _, ⟨x, d, _⟩ => cases d; exact ⟨rfl, rfl⟩
    | (0, z), h, _ => simp [zfit] at h
    | (n + 2, z), h, _ => simp [zfit] at h
  · match a, h, d with
    | (0, z), h, ⟨x, d, hx⟩ =>
      cases d
      have h : (true && (decide (-128 ≤ z) && decide (z ≤ 127))) = true := h
      simp only [Bool.and_eq_true, decide_eq_true_eq, Bool.true_and] at h
      refine ⟨?_, ?_⟩
      · show (decide (-128 ≤ x) && decide (x ≤ 127)) = true
        rw [Bool.and_eq_true, decide_eq_true_eq, decide_eq_true_eq, Int32.le_iff_toInt_le, Int32.le_iff_toInt_le, hx]
        exact h
      show Value.int x.toInt8.toInt32 = .int x
      congr 1
      rw [← Int32.toInt_inj, Int8.toInt_toInt32, Int32.toInt_toInt8, hx]
      exact Int.bmod_eq_of_le (by omega) (by omega)
    | (n + 1, z), h, _ =>
      have h : (decide (n + 1 = 0) && (decide (-128 ≤ z) && decide (z ≤ 127))) = true := h
      simp at h
  · match a, h, d with
    | (0, z), h, ⟨x, d, hx⟩ =>
      cases d
      have h : (true && (decide (0 ≤ z) && decide (z ≤ 1))) = true := h
      simp only [Bool.and_eq_true, decide_eq_true_eq, Bool.true_and] at h
      have h01 : z = 0 ∨ z = 1 := by omega
      rcases h01 with e | e
      · have : x = 0 := by rw [← Int32.toInt_inj, hx, e]; rfl
        subst this
        exact ⟨rfl, rfl⟩
      · have : x = 1 := by rw [← Int32.toInt_inj, hx, e]; rfl
        subst this
        exact ⟨rfl, rfl⟩
    | (n + 1, z), h, _ =>
      have h : (decide (n + 1 = 0) && (decide (0 ≤ z) && decide (z ≤ 1))) = true := h
      simp at h
  · have h : decide (zkind a = 2) = true := h
    obtain ⟨i, rfl⟩ := zkind_ref (of_decide_eq_true h) d
    exact x_fitR hf
/-! steps -/
abbrev zM : Type := String × ByteArray × Nat × Option FieldType × String
abbrev zY : Type := MethodName × ByteArray × Nat × Option FieldType
def zCx (μ : zM) (p : Program) (s : State) (m : MethodId) (args : Array Value) (meth : Method) (c : Code) : Prop :=
  p.tables.exec = Jvm.exec ∧ c.code = μ.2.1 ∧ c.maxLocals = μ.2.2.1 ∧ s.vm.findClass μ.1 = some m.cls ∧ (∀ w ∈ xTB, w.before args s = true) ∧ meth.sig.returnType = μ.2.2.2.1 ∧ meth.locks = false
def zRoom (d : Nat) : Room := { frames := d + 8, cells := 0, slots := 0, locals := 60 * (d + 8) }
def zRm (d : Nat) (R : Room) : Prop := d + 8 ≤ R.frames ∧ 60 * (d + 8) ≤ R.locals
def zJ (P : zP) (nL : Nat) (R : Room) (s : State) (st : zS) (H : Heap) (locs : List Loc) (cells slots : Nat) (ls : Array Slot) (stk : List Value) : Prop :=
  (cells ≤ R.cells ∧ slots ≤ R.slots) ∧ zG P st.1 s H ∧ (∃ lv, lv_has ls nL lv ∧ zldens P st.2.1 lv) ∧ zdens P st.2.2 stk ∧ zX0 P s H ∧ (∀ q ∈ locs, P.1 ≤ q.base) ∧ va_K P.2.2.1 vwCl [] s
def zRet (μ : zM) (pc : Nat) (ov : Option Value) : Prop := match ov with
  | some (.int x) => decode μ.2.1 pc = .ok (.ireturn, 1) ∧ ∃ ty, μ.2.2.2.1 = some ty ∧ narrow ty (.int x) = .int x
  | some (.long _) => decode μ.2.1 pc = .ok (.lreturn, 1) ∧ μ.2.2.2.1 = some .long
  | none => decode μ.2.1 pc = .ok (.return_, 1) ∧ μ.2.2.2.1 = none
  | _ => False
def zKR (P : zP) (μ : zM) (p : Program) (l : Launch) (e : Env) (R : Room) (s : State) (m : MethodId) (args : Array Value) (below : List Frame) (meth : Method) (c : Code) (Q : State → Prop) (r : zR) : Prop :=
  ∀ (H : Heap) (locs : List Loc) (cells slots pc : Nat) (ls : Array Slot) (ov : Option Value), cells ≤ R.cells → slots ≤ R.slots → zG P r.1 s H → zX0 P s H → (∀ q ∈ locs, P.1 ≤ q.base) → zdenO P r.2 ov → zRet μ pc ov → W p l e R s m args below meth c H locs cells slots Q (F0 m pc ls ov.toList)
def zKG (P : zP) (μ : zM) (p : Program) (l : Launch) (e : Env) (R : Room) (s : State) (m : MethodId) (args : Array Value) (below : List Frame) (meth : Method) (c : Code) (Q : State → Prop) (pc : Nat) (st : zS) : Prop :=
  ∀ (H : Heap) (locs : List Loc) (cells slots : Nat) (ls : Array Slot) (stk : List Value), zJ P μ.2.2.1 R s st H locs cells slots ls stk → W p l e R s m args below meth c H locs cells slots Q (F0 m pc ls stk)
def zWs (y : zY) : List Cond := Cond.code y.1 y.2.1 y.2.2.1 y.2.2.2 :: xTB
def zPc (P : zP) (h : zH) (vs : List Value) : Array Value → State → Prop := fun a U => a = vs.toArray ∧ zG P h U U.heap ∧ zX0 P U U.heap ∧ va_K P.2.2.1 vwCl [] U
def zQc (P : zP) (r : zR) : Array Value → State → Outcome → State → Prop := fun _ st oc t => (∃ ov, zdenO P r.2 ov ∧ oc = .returned ov) ∧ zG P r.1 t t.heap ∧ ∀ q : Nat, q < P.1 → t.heap[q]? = st.heap[q]?
def zMet (l : Launch) (P : zP) (M : List zY) (d mi : Nat) (h : zH) (as : List zV) (r : zR) : Prop := ∀ y, M[mi]? = some y → zsum as ≤ y.2.2.1 → ∀ vs, zdens P as vs → Met l y.1 (zWs y) (zRoom d) (zPc P h vs) (zQc P r) 0 0 (fun z => P.1 ≤ z)
def zKO (M : List zY) (P : zP) (μ : zM) (p : Program) (l : Launch) (e : Env) (R : Room) (s : State) (m : MethodId) (args : Array Value) (below : List Frame) (meth : Method) (c : Code) (Q : State → Prop) (d : Nat) (o : zO) : Prop := match o with
  | .inl r => zKR P μ p l e R s m args below meth c Q r
  | .inr (.inl q) => zKG P μ p l e R s m args below meth c Q q.1 q.2
  | .inr (.inr q) => ∃ d' r1, d = d' + 1 ∧ zMet l P M d' q.1 q.2.2.2.1 q.2.1 r1 ∧ zKG P μ p l e R s m args below meth c Q q.2.2.1 (r1.1, q.2.2.2.2.1, zpush r1.2 q.2.2.2.2.2)
/-- a step holds of the machine -/
def zSim (l : Launch) (P : zP) (M : List zY) (μ : zM) (pc : Nat) (i : zX) : Prop :=
  ∀ (p : Program) (e : Env) (s : State) (m : MethodId) (args : Array Value) (below : List Frame) (meth : Method) (c : Code) (R : Room) (Q : State → Prop) (d : Nat), zCx μ p s m args meth c → zRm d R → ∀ (st : zS) (o : zO), zi (zPD P) i st = some o →
  ∀ (H : Heap) (locs : List Loc) (cells slots : Nat) (ls : Array Slot) (stk : List Value), zJ P μ.2.2.1 R s st H locs cells slots ls stk → zKO M P μ p l e R s m args below meth c Q d o → W p l e R s m args below meth c H locs cells slots Q (F0 m pc ls stk)
