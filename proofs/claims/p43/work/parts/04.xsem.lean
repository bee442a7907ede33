/-! WHAT THE ENGINE'S STATES MEAN -/
-- inputs; the base; the arrays from outside; the classes' numbers and slots; the script's length; the methods
abbrev xP : Type := (Nat → Int32) × Nat × (Nat → Nat) × va_G × Nat × List (xY × xT)
def xden (P : xP) (a : xV) (v : Value) : Prop := match a with
  | .inl (.ref k) => v = .ref (P.2.1 + k)
  | .inl w => v = w
  | .inr (0, k) => v = .int (P.1 k)
  | .inr (1, k) => v = .long (P.1 k).toInt64
  | .inr (2, _) => ∃ x : Int32, v = .int x
  | .inr (3, _) => ∃ x : Int64, v = .long x
  | .inr (4, j) => v = .ref (P.2.2.1 j)
  | .inr _ => False
def xdens (P : xP) : List xV → List Value → Prop
  | [], [] => True
  | a :: as, v :: vs => xden P a v ∧ xdens P as vs
  | _, _ => False
def xldens (P : xP) : xL → List (Nat × Value) → Prop
  | [], [] => True
  | a :: as, v :: vs => (a.1 = v.1 ∧ xden P a.2 v.2) ∧ xldens P as vs
  | _, _ => False
def xdenO (P : xP) (a : Option xV) (v : Option Value) : Prop := match a, v with
  | none, none => True
  | some a, some v => xden P a v
  | _, _ => False
def xEnv (P : xP) (e : xE) : Prop := P.1 4000 = P.1 0 &&& 63 ∧ ∀ k q, e[k]? = some q → q.1 ≤ (P.1 k).toInt ∧ (P.1 k).toInt ≤ q.2
-- an array's content
def xarr (P : xP) (ty : FieldType) (g : Nat → xV) (n : Nat) (X : (Nat → Int32) ⊕ (Nat → Int64) ⊕ (Nat → UInt32) ⊕ (Nat → UInt64) ⊕ (Nat → Option Nat)) : Prop := match X with
  | .inl f => (ty = .int ∨ ty = .byte ∨ ty = .boolean) ∧ ∀ j, j < n → xden P (g j) (.int (f j))
  | .inr (.inl f) => ty = .long ∧ ∀ j, j < n → xden P (g j) (.long (f j))
  | .inr (.inr (.inr (.inr f))) => (∃ C, ty = .object C) ∧ ∀ j, j < n → xden P (g j) (va_rf (f j))
  | _ => False
def xcell (P : xP) (U : State) (c : xC) (a : Nat) (H : Heap) : Prop := match c with
  | .inl (ty, n, d, o) => ∃ (cA : ClassId) (X : vp_A), H[a]? = some (vp_cell cA X) ∧ X.1 = n ∧ xarr P ty (x_lk o d) n X.2 ∧ ArrOfT U cA ty ∧ va_RA U cA ty
  | .inr (ci, fs) => ∃ vs, xdens P fs vs ∧ va_at P.2.2.2.1 vwCl (a, .inr (ci, vs)) H
def xG (P : xP) (h : xH) (U : State) (H : Heap) : Prop := H.size = P.2.1 + h.length ∧ ∀ k c, h[k]? = some c → xcell P U c (P.2.1 + k) H
def xNest : List Cond := [.methodLinkNest "BreadMap$OrdersReader" 11 yX5_init "BreadMap", .methodLinkNest "BreadMap$Land" 42 yX5_init "BreadMap", .methodLinkNest "BreadMap" 96 yX4_init "BreadMap", .methodLinkNest "BreadMap" 89 yX0_init "BreadMap", .methodLinkNest "BreadMap" 73 yX10_init "BreadMap", .methodLinkNest "BreadMap" 52 yX2_init "BreadMap", .methodLinkNest "BreadMap" 29 yX8_init "BreadMap", .methodLinkNest "BreadMap" 26 yX9_init "BreadMap"]
def xStat : List (String × String × Nat) := [("BreadMap", "MOVES", 1), ("BreadMap$Land", "LETTER_CRUMBS", 2)]
-- what lies below the base, and what the tables say
def xX (P : xP) (U : State) (H : Heap) : Prop :=
  (∀ w ∈ xNest, va_Nw w U) ∧ (∀ C ∈ (["BreadMap$Tray", "BreadMap$Land"] : List String), va_AO C U) ∧ (∀ q ∈ xStat, va_Z q.1 q.2.1 "[I" (.ref (P.2.2.1 q.2.2)) (fun z => P.2.1 ≤ z) U H ∧ va_T .int (P.2.2.1 q.2.2) 5 (fun j => .int ((xTab q.2.2).getD j 0)) (fun z => P.2.1 ≤ z) U H) ∧
  va_X (P.2.2.1 0) P.2.2.2.2.1 P.1 U H ∧ P.2.2.1 0 < P.2.1 ∧ ∀ q : Nat, q < P.2.1 → H[q]? = U.heap[q]?
theorem xX.kept {P : xP} {U : State} {H H1 : Heap} (h : xX P U H) (hq : ∀ q : Nat, q < P.2.1 → H1[q]? = H[q]?) : xX P U H1 := by
  obtain ⟨h1, h2, h3, h4, h5, h6⟩ := h
  refine ⟨h1, h2, fun q hm => ⟨(h3 q hm).1.kept fun a _ ha => hq a (Nat.not_le.mp ha), (h3 q hm).2.kept fun a _ ha => hq a (Nat.not_le.mp ha)⟩, h4.kept (hq _ h5), h5, fun q hl => (hq q hl).trans (h6 q hl)⟩
theorem xX.moved {P : xP} {s U : State} {H : Heap} (hW : s.WarmedH U.vm) (hU : U.heap = H) (h : xX P s H) : xX P U H := by
  obtain ⟨h1, h2, h3, h4, h5, h6⟩ := h
  refine ⟨fun w hw => ?_, fun C hC => va_AO.moved hW.alike (h2 C hC), fun q hm => ⟨(h3 q hm).1.moved hW.alike, (h3 q hm).2.moved hW.alike⟩, h4.moved hW.alike, h5, fun q _ => by rw [hU]⟩
  have hs := h1 w hw
  simp only [xNest, List.mem_cons, List.not_mem_nil, or_false] at hw
  rcases hw with rfl | rfl | rfl | rfl | rfl | rfl | rfl | rfl <;> exact va_Nw.warmM hW hs
theorem xX.same {P : xP} {s U : State} {H : Heap} (hv : s.vm = U.vm) (hh : U.heap = s.heap) (h : xX P s H) : xX P U H := by
  have ha : s.vm.Alike U.vm := hv ▸ Vm.Alike.refl s.vm
  obtain ⟨h1, h2, h3, h4, h5, h6⟩ := h
  refine ⟨fun w hw => ?_, fun C hC => va_AO.moved ha (h2 C hC), fun q hm => ⟨(h3 q hm).1.moved ha, (h3 q hm).2.moved ha⟩, h4.moved ha, h5, fun q hl => by rw [hh]; exact h6 q hl⟩
  have hs := h1 w hw
  simp only [xNest, List.mem_cons, List.not_mem_nil, or_false] at hw
  rcases hw with rfl | rfl | rfl | rfl | rfl | rfl | rfl | rfl <;> exact va_Nw.same rfl hv hs
theorem xcell.moved {P : xP} {u U : State} {c : xC} {a : Nat} {H : Heap} (hvm : u.vm.Alike U.vm) (h : xcell P u c a H) : xcell P U c a H := by
  match c, h with
  | .inl (ty, n, d, o), ⟨cA, X, h1, h2, h3, h4, h5⟩ => exact ⟨cA, X, h1, h2, h3, arrOfT_moved hvm h4, h5.moved hvm⟩
  | .inr (ci, fs), h => exact h
theorem xcell.kept {P : xP} {U : State} {c : xC} {a : Nat} {H H1 : Heap} (h : xcell P U c a H) (hq : H1[a]? = H[a]?) : xcell P U c a H1 := by
  match c, h with
  | .inl (ty, n, d, o), ⟨cA, X, h1, h2⟩ => exact ⟨cA, X, hq.trans h1, h2⟩
  | .inr (ci, fs), ⟨vs, h1, h2⟩ => exact ⟨vs, h1, h2.kept hq⟩
theorem xG.moved {P : xP} {u U : State} {h : xH} {H : Heap} (hvm : u.vm.Alike U.vm) (g : xG P h u H) : xG P h U H := ⟨g.1, fun k c hk => (g.2 k c hk).moved hvm⟩
-- a cell changed
theorem xG.set {P : xP} {U : State} {h : xH} {H H1 : Heap} {r : Nat} {c : xC} (g : xG P h U H) (hr : r < h.length) (hc : xcell P U c (P.2.1 + r) H1) (hz : H1.size = H.size) (hq : ∀ q : Nat, q ≠ P.2.1 + r → H1[q]? = H[q]?) : xG P (h.set r c) U H1 := by
  refine ⟨by rw [hz, g.1, List.length_set], fun k c' hk => ?_⟩
  by_cases e : k = r
  · subst e
    rw [List.getElem?_set_self hr] at hk
    cases hk
    exact hc
  · rw [List.getElem?_set_ne (Ne.symm e)] at hk
    exact (g.2 k c' hk).kept (hq _ (by omega))
theorem xG.push {P : xP} {U : State} {h : xH} {H H1 : Heap} {c : xC} (g : xG P h U H) (hc : xcell P U c H.size H1) (hz : H1.size = H.size + 1) (hq : ∀ q : Nat, q < H.size → H1[q]? = H[q]?) : xG P (h ++ [c]) U H1 := by
  refine ⟨by rw [hz, g.1, List.length_append]; simp; omega, fun k c' hk => ?_⟩
  by_cases e : k < h.length
  · rw [List.getElem?_append_left e] at hk
    exact (g.2 k c' hk).kept (hq _ (by rw [g.1]; omega))
  · rw [List.getElem?_append_right (by omega)] at hk
    have hl : k - h.length < 1 := (List.getElem?_eq_some_iff.mp hk).1
    have e2 : k = h.length := by omega
    subst e2
    rw [Nat.sub_self] at hk
    cases hk
    rw [← g.1]
    exact hc
/-! values -/
theorem x_isI_den {P : xP} {a : xV} {v : Value} (h : x_isI a = true) (d : xden P a v) : ∃ i : Int32, v = .int i := by
  match a, h, d with
  | .inl (.int i), _, d => exact ⟨i, d⟩
  | .inr (0, k), _, d => exact ⟨P.1 k, d⟩
  | .inr (2, _), _, d => exact d
theorem x_cat_den {P : xP} {a : xV} {v : Value} (d : xden P a v) : v.category = x_cat a := by
  match a, d with
  | .inl (.int i), d => cases d; rfl
  | .inl (.long i), d => cases d; rfl
  | .inl (.float i), d => cases d; rfl
  | .inl (.double i), d => cases d; rfl
  | .inl .null, d => cases d; rfl
  | .inl (.ref i), d => cases d; rfl
  | .inl (.retAddr i), d => cases d; rfl
  | .inr (0, k), d => cases d; rfl
  | .inr (1, k), d => cases d; rfl
  | .inr (2, k), ⟨_, d⟩ => cases d; rfl
  | .inr (3, k), ⟨_, d⟩ => cases d; rfl
  | .inr (4, k), d => cases d; rfl
theorem x_env_den {P : xP} {e : xE} (h : xEnv P e) (k : Nat) : (x_env e k).1 ≤ (P.1 k).toInt ∧ (P.1 k).toInt ≤ (x_env e k).2 := by
  unfold x_env
  rw [x_nth_eq]
  cases hk : e[k]? with
  | none =>
    have h1 := Int32.le_toInt (P.1 k)
    have h2 := Int32.toInt_lt (P.1 k)
    show (-2147483648 : Int) ≤ _ ∧ _ ≤ (2147483647 : Int)
    omega
  | some q => exact h.2 k q hk
theorem x_one_cases (q : Int × Int) (a d : xV) : (q.1 = q.2 ∧ x_one q a d = a) ∨ x_one q a d = d := by
  unfold x_one
  by_cases h : q.1 = q.2
  · exact Or.inl ⟨h, by rw [decide_eq_true h]; rfl⟩
  · exact Or.inr (by rw [decide_eq_false h]; rfl)
theorem x_env_one {P : xP} {e : xE} (h : xEnv P e) {k : Nat} (hq : (x_env e k).1 = (x_env e k).2) : Int32.ofInt (x_env e k).1 = P.1 k := by
  obtain ⟨h1, h2⟩ := x_env_den h k
  have : (x_env e k).1 = (P.1 k).toInt := by omega
  rw [this, Int32.ofInt_toInt]
theorem x_nm_den {P : xP} {e : xE} (h : xEnv P e) {a : xV} {v : Value} (d : xden P a v) : xden P (x_nm e a) v := by
  match a, d with
  | .inl w, d => exact d
  | .inr (0, k), d =>
    show xden P (x_one _ _ _) v
    rcases x_one_cases (x_env e k) (.inl (.int (Int32.ofInt (x_env e k).1))) (.inr (0, k)) with ⟨hq, r⟩ | r
    · rw [r, x_env_one h hq]; exact d
    · rw [r]; exact d
  | .inr (1, k), d =>
    show xden P (x_one _ _ _) v
    rcases x_one_cases (x_env e k) (.inl (.long (Int32.ofInt (x_env e k).1).toInt64)) (.inr (1, k)) with ⟨hq, r⟩ | r
    · rw [r, x_env_one h hq]; exact d
    · rw [r]; exact d
  | .inr (2, k), d => exact d
  | .inr (3, k), d => exact d
  | .inr (4, k), d => exact d
theorem x_frc_eq (v : xV) (f : xV → Option (List xO)) : x_frc v f = f v := by cases v <;> rfl
theorem x_sum_den {P : xP} : ∀ {as : List xV} {vs : List Value}, xdens P as vs → (vs.map fun v => v.category).sum = x_sum as
  | [], [], _ => rfl
  | a :: as, v :: vs, ⟨d, ds⟩ => by
    show (v.category :: vs.map fun v => v.category).sum = x_cat a + x_sum as
    rw [List.sum_cons, x_sum_den ds, x_cat_den d]
theorem x_get_den {P : xP} {i : Nat} {a : xV} : ∀ {L : xL} {lv : List (Nat × Value)}, xldens P L lv → x_get L i = some a → ∃ v, xden P a v ∧ (i, v) ∈ lv
  | [], [], _, h => by cases h
  | q :: L, w :: lv, ⟨⟨e, d⟩, ds⟩, h => by
    change cond (Nat.beq q.1 i) (some q.2) (x_get L i) = some a at h
    cases hb : Nat.beq q.1 i with
    | true =>
      rw [hb] at h
      cases h
      have hi : q.1 = i := Nat.eq_of_beq_eq_true hb
      exact ⟨w.2, d, by rw [← hi, e]; exact List.mem_cons_self⟩
    | false =>
      rw [hb] at h
      obtain ⟨v, h1, h2⟩ := x_get_den ds h
      exact ⟨v, h1, List.mem_cons_of_mem _ h2⟩
theorem x_ldens_filter {P : xP} {f : Nat × xV → Bool} {g : Nat × Value → Bool} (hfg : ∀ i a v, xden P a v → f (i, a) = g (i, v)) : ∀ {L : xL} {lv : List (Nat × Value)}, xldens P L lv → xldens P (L.filter f) (lv.filter g)
  | [], [], _ => trivial
  | q :: L, w :: lv, ⟨⟨e, d⟩, ds⟩ => by
    have hq : f q = g w := by
      have := hfg q.1 q.2 w.2 d
      rw [show (q.1, w.2) = w from by rw [e]] at this
      exact this
    rw [List.filter_cons, List.filter_cons, hq]
    cases g w with
    | true => exact ⟨⟨e, d⟩, x_ldens_filter hfg ds⟩
    | false => exact x_ldens_filter hfg ds
theorem x_keep1_den {P : xP} (n i : Nat) (a : xV) (v : Value) (d : xden P a v) : x_keep1 n (i, a) = (!((i, v).1 == n) && !((i, v).1 + 1 == n && (i, v).2.category == 2)) := by
  show (!(i == n) && !(i + 1 == n && x_cat a == 2)) = (!(i == n) && !(i + 1 == n && v.category == 2))
  rw [x_cat_den d]
