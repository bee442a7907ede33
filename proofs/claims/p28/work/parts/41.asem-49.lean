section
/-! WHAT THE WATCHER'S STATES MEAN -/
def aev (ρ : Nat → Int) (s : Nat) (o : Int) : Int := match s with
  | 0 => o
  | i + 1 => ρ i + o
def aR (ρ : Nat → Int) (n : Nat) (v : aV) (z : zV) : Prop := v.2.1 ≤ n ∧ z = (v.1, aev ρ v.2.1 v.2.2)
def aAg (ρ ρ' : Nat → Int) (n : Nat) : Prop := ∀ i, i < n → ρ' i = ρ i
theorem aAg.refl (ρ : Nat → Int) (n : Nat) : aAg ρ ρ n := fun _ _ => rfl
theorem aAg.trans {ρ ρ' ρ'' : Nat → Int} {n m : Nat} (h : aAg ρ ρ' n) (h' : aAg ρ' ρ'' m) (hn : n ≤ m) : aAg ρ ρ'' n := fun i hi => (h' i (by omega)).trans (h i hi)
theorem aev_ag {ρ ρ' : Nat → Int} {n : Nat} (h : aAg ρ ρ' n) {s : Nat} {o : Int} (hs : s ≤ n) : aev ρ' s o = aev ρ s o := by
  cases s with
  | zero => rfl
  | succ i => show ρ' i + o = ρ i + o; rw [h i (by omega)]
theorem aR.mono {ρ ρ' : Nat → Int} {n n' : Nat} {v : aV} {z : zV} (h : aR ρ n v z) (hn : n ≤ n') (ha : aAg ρ ρ' n) : aR ρ' n' v z := ⟨Nat.le_trans h.1 hn, by rw [aev_ag ha h.1]; exact h.2⟩
def aRl (ρ : Nat → Int) (n : Nat) : List aV → List zV → Prop
  | [], [] => True
  | v :: vs, z :: zs => aR ρ n v z ∧ aRl ρ n vs zs
  | _, _ => False
theorem aRl.mono {ρ ρ' : Nat → Int} {n n' : Nat} (hn : n ≤ n') (ha : aAg ρ ρ' n) : ∀ {vs : List aV} {zs : List zV}, aRl ρ n vs zs → aRl ρ' n' vs zs
  | [], [], _ => trivial
  | _ :: _, _ :: _, ⟨h, hs⟩ => ⟨h.mono hn ha, aRl.mono hn ha hs⟩
def aRL (ρ : Nat → Int) (n : Nat) (L : aL) (M : zL) : Prop := ∀ q ∈ L, ∃ z, M q.1 = some z ∧ aR ρ n q.2 z
theorem aRL.mono {ρ ρ' : Nat → Int} {n n' : Nat} {L : aL} {M : zL} (hn : n ≤ n') (ha : aAg ρ ρ' n) (h : aRL ρ n L M) : aRL ρ' n' L M := fun q hq => by
  obtain ⟨z, h1, h2⟩ := h q hq
  exact ⟨z, h1, h2.mono hn ha⟩
def aRo (ρ : Nat → Int) (n : Nat) (v : Option aV) (z : Option zV) : Prop := match v, z with
  | none, none => True
  | some v, some z => aR ρ n v z
  | _, _ => False
def alin (ρ : Nat → Int) : List (Int × Nat) → Int
  | [] => 0
  | p :: t => p.1 * ρ p.2 + alin ρ t
def aScope (n : Nat) (ts : List (Int × Nat)) : Prop := ∀ p ∈ ts, p.2 < n
theorem alin_ag {ρ ρ' : Nat → Int} {n : Nat} (ha : aAg ρ ρ' n) : ∀ {ts : List (Int × Nat)}, aScope n ts → alin ρ' ts = alin ρ ts
  | [], _ => rfl
  | p :: t, h => by
    show p.1 * ρ' p.2 + alin ρ' t = p.1 * ρ p.2 + alin ρ t
    rw [ha p.2 (h p List.mem_cons_self), alin_ag ha (fun q hq => h q (List.mem_cons_of_mem _ hq))]
def aEnv (ρ : Nat → Int) (n : Nat) (E : aB) (Fs : List aF) : Prop := (∀ q ∈ E, q.1 < n ∧ q.2.1 ≤ ρ q.1 ∧ ρ q.1 ≤ q.2.2) ∧ ∀ x ∈ Fs, aScope n x.1 ∧ alin ρ x.1 ≤ x.2
theorem aEnv.mono {ρ ρ' : Nat → Int} {n n' : Nat} {E : aB} {Fs : List aF} (h : aEnv ρ n E Fs) (hn : n ≤ n') (ha : aAg ρ ρ' n) : aEnv ρ' n' E Fs := by
  refine ⟨fun q hq => ?_, fun x hx => ?_⟩
  · obtain ⟨h1, h2⟩ := h.1 q hq
    rw [ha q.1 h1]
    exact ⟨by omega, h2⟩
  · obtain ⟨h1, h2⟩ := h.2 x hx
    rw [alin_ag ha h1]
    exact ⟨fun p hp => Nat.lt_of_lt_of_le (h1 p hp) hn, h2⟩
def atin (t : aT) (v : zV) : Prop := match t.1 with
  | 0 => v.1 = 0 ∧ t.2.1 ≤ v.2 ∧ v.2 ≤ t.2.2.1
  | 1 => v.1 = 1 ∧ t.2.1 ≤ v.2 ∧ v.2 ≤ t.2.2.1
  | 2 => ∃ k ∈ t.2.2.2, v = if k = -1 then (4, 0) else (2, k)
  | _ => True
def atyOK (g : Nat → zV) : List (Nat × aT) → Nat → Prop
  | [], _ => True
  | s :: l, p => (∀ j, p ≤ j → j < p + s.1 → atin s.2 (g j)) ∧ atyOK g l (p + s.1)
noncomputable def a_wid (l : List (Nat × aT)) : Nat := List.rec (motive := fun _ => Nat) 0 (fun s _ ih => s.1 + ih) l
def atyC (g : Nat → zV) : aTc → Nat → Prop
  | [], _ => True
  | s :: l, p => atyOK g s.2 p ∧ a_wid s.2 ≤ s.1 ∧ atyC g l (p + s.1)
def aTyped (ty : aTy) (h : zH) : Prop := ∀ r l, a_at ty r = some l → atyC (h r) l 0
def aIn (m : aM) (r k : Nat) : Prop := ∃ q ∈ m, q.1 = r ∧ q.2.1 ≤ k ∧ k ≤ q.2.2
def aFr (m : aM) (h0 h : zH) : Prop := ∀ r k, ¬ aIn m r k → h r k = h0 r k
def aOv (ρ : Nat → Int) (n : Nat) (O : aO) (h : zH) : Prop := ∀ e ∈ O, e.1.2.1 ≤ n ∧ 0 ≤ aev ρ e.1.2.1 e.1.2.2 ∧ aR ρ n e.2 (h e.1.1 (aev ρ e.1.2.1 e.1.2.2).toNat)
theorem aOv.mono {ρ ρ' : Nat → Int} {n n' : Nat} {O : aO} {h : zH} (g : aOv ρ n O h) (hn : n ≤ n') (ha : aAg ρ ρ' n) : aOv ρ' n' O h := fun e he => by
  obtain ⟨h1, h2, h3⟩ := g e he
  refine ⟨by omega, ?_, ?_⟩
  · rw [aev_ag ha h1]; exact h2
  · rw [aev_ag ha h1]; exact h3.mono hn ha
-- what doesn't change in a run: types, supports, the script, flags' meanings, the heap at the entry, what may be written
abbrev aX : Type := aG × zD × (Nat → zH → Prop) × zH × aM
def aDen (X : aX) (ρ : Nat → Int) (q : aQ) (h : zH) : Prop := aEnv ρ q.1 q.2.1 q.2.2.1 ∧ aTyped X.1.1 h ∧ aOv ρ q.1 q.2.2.2.1 h ∧ (∀ j ∈ q.2.2.2.2, X.2.2.1 j h) ∧ aFr X.2.2.2.2 X.2.2.2.1 h ∧ (X.1.2.2 = true → 0 < q.1 ∧ ρ 0 = (X.2.1.1 : Int))
-- a cell of the ground that begins at place B of cell r (or the first)
def rCb (h : zH) (r B : Nat) (z : Int) : Prop := z = 0 ∨ z < (h r B).2 * (h r (B + 1)).2
def rIn (B k : Nat) : Prop := (B + 245 ≤ k ∧ k ≤ B + 250) ∨ (B + 257 ≤ k ∧ k ≤ B + 262)
def rAl (h : zH) (r B : Nat) : Prop := ∀ k, rIn B k → rCb h r B (h r k).2
def rRow (h : zH) : Prop := ∀ i : Nat, i < 49 → (i : Int) < (h 121 31).2 → rCb h 126 0 (h 132 i).2
def rZe (h : zH) : Prop := ∀ k, rIn 2200 k → (h 126 k).2 = 0
-- the flags 345 to 352
def rFx (j : Nat) (h : zH) : Prop := if j < 350 then rAl h 126 (550 * (j - 345)) else if j = 350 then rAl h 127 0 else if j = 351 then rRow h else rZe h
-- the script stands beside the heap, as cell 1000, for the law alone
def aOK (X : aX) : Prop := ((∀ j m, a_at X.1.2.1 j = some m → ∀ h h' : zH, (∀ r k, aIn m r k → h' r k = h r k) → X.2.2.1 j h → X.2.2.1 j h') ∧ (X.1.2.2 = true → ∀ k, X.2.2.2.1 1000 k = (0, X.2.1.2 k) ∧ ¬ aIn X.2.2.2.2 1000 k)) ∧ (∀ i, -2147483648 ≤ X.2.1.2 i ∧ X.2.1.2 i ≤ 2147483647) ∧ ∀ j h, 345 ≤ j → j < 353 → (X.2.2.1 j h ↔ rFx j h)
def aStD (X : aX) (ρ : Nat → Int) (st : aS) (z : zS) : Prop := aDen X ρ st.1 z.1 ∧ aRL ρ st.1.1 st.2.1 z.2.1 ∧ aRl ρ st.1.1 st.2.2 z.2.2
def aOutD (X : aX) (ρ : Nat → Int) (o : aOut) (z : zO) : Prop := match o, z with
  | .inl (q, v), .inl (h, w) => aDen X ρ q h ∧ aRo ρ q.1 v w
  | .inr (.inl (pc, st)), .inr (.inl (pc', z)) => pc = pc' ∧ aStD X ρ st z
  | .inr (.inr (mi, as, nx, st)), .inr (.inr (mi', bs, nx', z)) => mi = mi' ∧ nx = nx' ∧ aRl ρ st.1.1 as bs ∧ aStD X ρ st z
  | _, _ => False
/-! values -/
def aup (ρ : Nat → Int) (n : Nat) (z : Int) : Nat → Int := fun i => if i = n then z else ρ i
theorem aup_ag (ρ : Nat → Int) (n : Nat) (z : Int) : aAg ρ (aup ρ n z) n := fun i hi => if_neg (by omega)
theorem aup_at (ρ : Nat → Int) (n : Nat) (z : Int) : aup ρ n z n = z := if_pos rfl
theorem aDen.push {X : aX} {ρ : Nat → Int} {q : aQ} {h : zH} (g : aDen X ρ q h) {lo hi z : Int} (h1 : lo ≤ z) (h2 : z ≤ hi) : aDen X (aup ρ q.1 z) (q.1 + 1, (q.1, lo, hi) :: q.2.1, q.2.2) h := by
  obtain ⟨g1, g2, g3, g4, g5, g6⟩ := g
  have ha := aup_ag ρ q.1 z
  have g1' := g1.mono (Nat.le_succ _) ha
  refine ⟨⟨fun x hx => ?_, g1'.2⟩, g2, g3.mono (Nat.le_succ _) ha, g4, g5, fun hs => ?_⟩
  · rcases List.mem_cons.mp hx with e | e
    · rw [e]
      show q.1 < q.1 + 1 ∧ lo ≤ aup ρ q.1 z q.1 ∧ aup ρ q.1 z q.1 ≤ hi
      rw [aup_at]
      exact ⟨Nat.lt_succ_self _, h1, h2⟩
    · exact g1'.1 x e
  · obtain ⟨a, b⟩ := g6 hs
    exact ⟨Nat.succ_pos _, by rw [ha 0 a]; exact b⟩
theorem aDen.fact {X : aX} {ρ : Nat → Int} {q : aQ} {h : zH} (g : aDen X ρ q h) {x : aF} (h1 : aScope q.1 x.1) (h2 : alin ρ x.1 ≤ x.2) : aDen X ρ (a_fact q x) h := by
  obtain ⟨g1, g⟩ := g
  refine ⟨⟨g1.1, fun y hy => ?_⟩, g⟩
  rcases List.mem_cons.mp hy with e | e
  · rw [e]; exact ⟨h1, h2⟩
  · exact g1.2 y e
theorem aDen.bound {X : aX} {ρ : Nat → Int} {q : aQ} {h : zH} (g : aDen X ρ q h) {E : aB} (hE : ∀ x ∈ E, x.1 < q.1 ∧ x.2.1 ≤ ρ x.1 ∧ ρ x.1 ≤ x.2.2) : aDen X ρ (q.1, E, q.2.2) h := ⟨⟨hE, g.1.2⟩, g.2⟩
theorem a_get_ok {ρ : Nat → Int} {n : Nat} {i : Nat} {q : Int × Int} : ∀ {E : aB}, (∀ x ∈ E, x.1 < n ∧ x.2.1 ≤ ρ x.1 ∧ ρ x.1 ≤ x.2.2) → a_get E i = some q → i < n ∧ q.1 ≤ ρ i ∧ ρ i ≤ q.2
  | [], _, h => by cases h
  | x :: E, he, h => by
    have h : cond (Nat.beq x.1 i) (some x.2) (a_get E i) = some q := h
    cases hb : Nat.beq x.1 i with
    | true =>
      rw [hb] at h
      cases h
      have := Nat.eq_of_beq_eq_true hb
      subst this
      exact he x List.mem_cons_self
    | false =>
      rw [hb] at h
      exact a_get_ok (fun y hy => he y (List.mem_cons_of_mem _ hy)) h
theorem a_rngK_ok {β : Type} {ρ : Nat → Int} {n : Nat} {E : aB} {v : aV} {f : Int → Int → Option β} {r : β} (h : a_rngK E v f = some r) (he : ∀ x ∈ E, x.1 < n ∧ x.2.1 ≤ ρ x.1 ∧ ρ x.1 ≤ x.2.2) : ∃ lo hi, f lo hi = some r ∧ lo ≤ aev ρ v.2.1 v.2.2 ∧ aev ρ v.2.1 v.2.2 ≤ hi := by
  obtain ⟨t, s, o⟩ := v
  unfold a_rngK at h
  cases s with
  | zero => exact ⟨o, o, h, Int.le_refl _, Int.le_refl _⟩
  | succ i =>
    have h : (match a_get E i with
      | some q => x_kZ (q.1 + o) (fun lo => x_kZ (q.2 + o) (fun hi => f lo hi))
      | none => none) = some r := h
    split at h
    · rename_i q hq
      obtain ⟨h1, h2, h3⟩ := a_get_ok he hq
      rw [x_kZ_eq, x_kZ_eq] at h
      exact ⟨_, _, h, by show _ ≤ ρ i + o; omega, by show ρ i + o ≤ _; omega⟩
    · cases h
theorem a_newK_eq {β : Type} {t : Nat} {lo hi : Int} {q : aQ} {f : aQ → aV → Option β} : a_newK t lo hi q f = f (q.1 + 1, (q.1, lo, hi) :: q.2.1, q.2.2) (t, q.1 + 1, 0) := by
  unfold a_newK
  rw [x_kZ_eq, x_kZ_eq, x_kN_eq]
/-- what comes of a making: a value that is z -/
def aMk {β : Type} (X : aX) (ρ : Nat → Int) (q : aQ) (h : zH) (z : zV) (f : aQ → aV → Option β) (r : β) : Prop := ∃ q' v ρ', f q' v = some r ∧ aAg ρ ρ' q.1 ∧ q.1 ≤ q'.1 ∧ aDen X ρ' q' h ∧ aR ρ' q'.1 v z
section AK
variable {β : Type} {X : aX} {ρ : Nat → Int} {q : aQ} {h : zH} {f : aQ → aV → Option β} {r : β} {t : Nat}
theorem a_newK_ok {lo hi z : Int} (hr : a_newK t lo hi q f = some r) (g : aDen X ρ q h) (h1 : lo ≤ z) (h2 : z ≤ hi) : aMk X ρ q h (t, z) f r := by
  rw [a_newK_eq] at hr
  refine ⟨_, _, _, hr, aup_ag ρ q.1 z, Nat.le_succ _, g.push h1 h2, Nat.le_refl _, ?_⟩
  show (t, z) = (t, aup ρ q.1 z q.1 + 0)
  rw [aup_at, Int.add_zero]
theorem a_anyK_ok {z : Int} (hr : a_anyK t q f = some r) (g : aDen X ρ q h) (h1 : a_lo t ≤ z) (h2 : z ≤ a_hi t) : aMk X ρ q h (t, z) f r := a_newK_ok hr g h1 h2
theorem aMk.here {v : aV} {z : zV} (hr : f q v = some r) (g : aDen X ρ q h) (hv : aR ρ q.1 v z) : aMk X ρ q h z f r := ⟨q, v, ρ, hr, aAg.refl _ _, Nat.le_refl _, g, hv⟩
theorem x_condT {b : Bool} {α : Type} {x y : Option α} {r : α} (h : cond b x y = some r) : (b = true ∧ x = some r) ∨ (b = false ∧ y = some r) := by
  cases b with
  | false => exact Or.inr ⟨rfl, h⟩
  | true => exact Or.inl ⟨rfl, h⟩
theorem a_in_ok {lo hi : Int} (h : a_in t lo hi = true) : a_lo t ≤ lo ∧ hi ≤ a_hi t := by
  unfold a_in at h
  rw [Bool.and_eq_true, a_dec_eq, a_dec_eq] at h
  exact h
theorem aR_val {n : Nat} {v : aV} {z : zV} (hv : aR ρ n v z) : z.2 = aev ρ v.2.1 v.2.2 := by rw [hv.2]
theorem aev_add (ρ : Nat → Int) (s : Nat) (o c : Int) : aev ρ s (o + c) = aev ρ s o + c := by
  cases s with
  | zero => rfl
  | succ i => show ρ i + (o + c) = ρ i + o + c; omega
theorem a_rng_den {γ : Type} {v : aV} {k : Int → Int → Option γ} {r : γ} (h0 : a_rngK q.2.1 v k = some r) (g : aDen X ρ q h) {z : zV} (hv : aR ρ q.1 v z) : ∃ lo hi, k lo hi = some r ∧ lo ≤ z.2 ∧ z.2 ≤ hi := by
  obtain ⟨lo, hi, h1, h2, h3⟩ := a_rngK_ok h0 g.1.1
  rw [← aR_val hv] at h2 h3
  exact ⟨lo, hi, h1, h2, h3⟩
theorem a_isC_ok {v : aV} (h : a_isC v = true) : v.2.1 = 0 := Nat.eq_of_beq_eq_true h
theorem aR_const {n : Nat} {v : aV} {z : zV} (hc : a_isC v = true) (hv : aR ρ n v z) : z.2 = v.2.2 := by
  rw [aR_val hv, a_isC_ok hc]; rfl
theorem a_shiftK_ok {x : aV} {zx : zV} {c z : Int} (hr : a_shiftK t q x c f = some r) (g : aDen X ρ q h) (hx : aR ρ q.1 x zx) (hz : a_lo t ≤ zx.2 + c → zx.2 + c ≤ a_hi t → z = zx.2 + c) (hb : a_lo t ≤ z ∧ z ≤ a_hi t) : aMk X ρ q h (t, z) f r := by
  unfold a_shiftK at hr
  obtain ⟨lo, hi, hr, b1, b2⟩ := a_rng_den hr g hx
  rcases x_condT hr with ⟨hc, hr⟩ | ⟨-, hr⟩
  · obtain ⟨c1, c2⟩ := a_in_ok hc
    rw [x_kZ_eq] at hr
    refine aMk.here hr g ⟨hx.1, ?_⟩
    rw [hz (by omega) (by omega), aR_val hx]
    show (t, _) = (t, aev ρ x.2.1 (x.2.2 + c))
    rw [aev_add]
  · exact a_anyK_ok hr g hb.1 hb.2
theorem alin_app (ρ : Nat → Int) : ∀ a b : List (Int × Nat), alin ρ (a ++ b) = alin ρ a + alin ρ b
  | [], b => by show alin ρ b = 0 + alin ρ b; omega
  | p :: a, b => by
    show p.1 * ρ p.2 + alin ρ (a ++ b) = p.1 * ρ p.2 + alin ρ a + alin ρ b
    rw [alin_app ρ a b]; omega
theorem alin_tm (ρ : Nat → Int) (c : Int) (v : aV) : alin ρ (a_tm c v) + c * v.2.2 = c * aev ρ v.2.1 v.2.2 := by
  obtain ⟨t, s, o⟩ := v
  cases s with
  | zero => show (0 : Int) + c * o = c * o; omega
  | succ i =>
    show c * ρ i + 0 + c * o = c * (ρ i + o)
    rw [Int.mul_add]; omega
theorem aScope_tm {n : Nat} {c : Int} {v : aV} (h : v.2.1 ≤ n) : aScope n (a_tm c v) := by
  obtain ⟨t, s, o⟩ := v
  cases s with
  | zero => intro p hp; cases hp
  | succ i =>
    intro p hp
    have : p = (c, i) := List.mem_singleton.mp hp
    rw [this]
    exact h
theorem aScope_app {n : Nat} {a b : List (Int × Nat)} (ha : aScope n a) (hb : aScope n b) : aScope n (a ++ b) := fun p hp => (List.mem_append.mp hp).elim (ha p) (hb p)
theorem aScope.up {n : Nat} {a : List (Int × Nat)} (ha : aScope n a) : aScope (n + 1) a := fun p hp => Nat.lt_succ_of_lt (ha p hp)
theorem a_linK_ok {lo hi z b : Int} {ts ns : List (Int × Nat)} (hr : a_linK t lo hi q ts ns b f = some r) (g : aDen X ρ q h) (h1 : lo ≤ z) (h2 : z ≤ hi) (hts : aScope q.1 ts) (hns : aScope q.1 ns) (e1 : alin ρ ts + b = z) (e2 : alin ρ ns - b = -z) : aMk X ρ q h (t, z) f r := by
  unfold a_linK at hr
  rw [x_spine_eq, x_spine_eq, x_kZ_eq, x_kZ_eq, a_newK_eq] at hr
  have ha := aup_ag ρ q.1 z
  refine ⟨_, _, aup ρ q.1 z, hr, ha, Nat.le_succ _, aDen.fact (aDen.fact (g.push h1 h2) ?_ ?_) ?_ ?_, Nat.le_refl _, ?_⟩
  · intro p hp
    rcases List.mem_cons.mp hp with e | e
    · rw [e]; exact Nat.lt_succ_self _
    · exact hts.up p e
  · show (-1) * aup ρ q.1 z q.1 + alin (aup ρ q.1 z) ts ≤ -b
    rw [aup_at, alin_ag ha hts]; omega
  · intro p hp
    rcases List.mem_cons.mp hp with e | e
    · rw [e]; exact Nat.lt_succ_self _
    · exact hns.up p e
  · show 1 * aup ρ q.1 z q.1 + alin (aup ρ q.1 z) ns ≤ b
    rw [aup_at, alin_ag ha hns]; omega
  · show (t, z) = (t, aup ρ q.1 z q.1 + 0)
    rw [aup_at, Int.add_zero]
theorem a_addK_ok {x y : aV} {zx zy : zV} {z : Int} (hr : a_addK t q x y f = some r) (g : aDen X ρ q h) (hx : aR ρ q.1 x zx) (hy : aR ρ q.1 y zy) (hz : a_lo t ≤ zx.2 + zy.2 → zx.2 + zy.2 ≤ a_hi t → z = zx.2 + zy.2) (hb : a_lo t ≤ z ∧ z ≤ a_hi t) : aMk X ρ q h (t, z) f r := by
  unfold a_addK at hr
  rcases x_condT hr with ⟨hc, hr⟩ | ⟨-, hr⟩
  · have hcy := aR_const hc hy
    exact a_shiftK_ok hr g hx (by rw [← hcy]; exact hz) hb
  · rcases x_condT hr with ⟨hc, hr⟩ | ⟨-, hr⟩
    · have hcx := aR_const hc hx
      exact a_shiftK_ok hr g hy (by rw [← hcx, Int.add_comm]; exact hz) hb
    · obtain ⟨lx, hxx, hr, b1, b2⟩ := a_rng_den hr g hx
      obtain ⟨ly, hyy, hr, b3, b4⟩ := a_rng_den hr g hy
      rcases x_condT hr with ⟨hc, hr⟩ | ⟨-, hr⟩
      · obtain ⟨c1, c2⟩ := a_in_ok hc
        have hz := hz (by omega) (by omega)
        have l1 := alin_tm ρ 1 x
        have l2 := alin_tm ρ 1 y
        have l3 := alin_tm ρ (-1) x
        have l4 := alin_tm ρ (-1) y
        rw [← aR_val hx] at l1 l3
        rw [← aR_val hy] at l2 l4
        refine a_linK_ok hr g (by omega) (by omega) (aScope_app (aScope_tm hx.1) (aScope_tm hy.1)) (aScope_app (aScope_tm hx.1) (aScope_tm hy.1)) ?_ ?_
        · rw [alin_app]; omega
        · rw [alin_app]; omega
      · exact a_anyK_ok hr g hb.1 hb.2
theorem a_subK_ok {x y : aV} {zx zy : zV} {z : Int} (hr : a_subK t q x y f = some r) (g : aDen X ρ q h) (hx : aR ρ q.1 x zx) (hy : aR ρ q.1 y zy) (hz : a_lo t ≤ zx.2 - zy.2 → zx.2 - zy.2 ≤ a_hi t → z = zx.2 - zy.2) (hb : a_lo t ≤ z ∧ z ≤ a_hi t) : aMk X ρ q h (t, z) f r := by
  unfold a_subK at hr
  rcases x_condT hr with ⟨hc, hr⟩ | ⟨-, hr⟩
  · have hcy := aR_const hc hy
    refine a_shiftK_ok hr g hx ?_ hb
    rw [← hcy]
    intro h1 h2
    have := hz (by omega) (by omega)
    omega
  · rcases x_condT hr with ⟨hc, hr⟩ | ⟨-, hr⟩
    · have hs := Nat.eq_of_beq_eq_true hc
      have e1 := aR_val hx
      have e2 := aR_val hy
      refine a_shiftK_ok (x := (t, 0, x.2.2)) (zx := (t, x.2.2)) hr g ⟨Nat.zero_le _, rfl⟩ ?_ hb
      have e3 : zx.2 - zy.2 = x.2.2 + -y.2.2 := by
        rw [e1, e2, hs]
        cases y.2.1 with
        | zero => show x.2.2 - y.2.2 = _; omega
        | succ i => show ρ i + x.2.2 - (ρ i + y.2.2) = _; omega
      rw [e3] at hz
      exact hz
    · obtain ⟨lx, hxx, hr, b1, b2⟩ := a_rng_den hr g hx
      obtain ⟨ly, hyy, hr, b3, b4⟩ := a_rng_den hr g hy
      rcases x_condT hr with ⟨hc, hr⟩ | ⟨-, hr⟩
      · obtain ⟨c1, c2⟩ := a_in_ok hc
        have hz := hz (by omega) (by omega)
        have l1 := alin_tm ρ 1 x
        have l2 := alin_tm ρ 1 y
        have l3 := alin_tm ρ (-1) x
        have l4 := alin_tm ρ (-1) y
        rw [← aR_val hx] at l1 l3
        rw [← aR_val hy] at l2 l4
        refine a_linK_ok hr g (by omega) (by omega) (aScope_app (aScope_tm hx.1) (aScope_tm hy.1)) (aScope_app (aScope_tm hx.1) (aScope_tm hy.1)) ?_ ?_
        · rw [alin_app]; omega
        · rw [alin_app]; omega
      · exact a_anyK_ok hr g hb.1 hb.2
theorem a_scaleK_ok {x : aV} {zx : zV} {c z : Int} (hr : a_scaleK t q x c f = some r) (g : aDen X ρ q h) (hx : aR ρ q.1 x zx) (hz : a_lo t ≤ zx.2 * c → zx.2 * c ≤ a_hi t → z = zx.2 * c) (hb : a_lo t ≤ z ∧ z ≤ a_hi t) : aMk X ρ q h (t, z) f r := by
  unfold a_scaleK at hr
  rcases x_condT hr with ⟨hc, hr⟩ | ⟨-, hr⟩
  · rw [Bool.and_eq_true] at hc
    obtain ⟨c1, c2⟩ := a_in_ok hc.2
    have e := aR_const hc.1 hx
    rw [x_kZ_eq] at hr
    refine aMk.here hr g ⟨Nat.zero_le _, ?_⟩
    show (t, z) = (t, x.2.2 * c)
    rw [hz (by rw [e]; exact c1) (by rw [e]; exact c2), e]
  obtain ⟨lx, hxx, hr, b1, b2⟩ := a_rng_den hr g hx
  rcases x_condT hr with ⟨hc, hr⟩ | ⟨-, hr⟩
  · rw [Bool.and_eq_true, a_dec_eq] at hc
    obtain ⟨c1, c2⟩ := a_in_ok hc.2
    rw [x_kZ_eq] at hr
    have m1 : lx * c ≤ zx.2 * c := Int.mul_le_mul_of_nonneg_right b1 hc.1
    have m2 : zx.2 * c ≤ hxx * c := Int.mul_le_mul_of_nonneg_right b2 hc.1
    have hz := hz (by omega) (by omega)
    have l1 := alin_tm ρ c x
    have l2 := alin_tm ρ (-c) x
    rw [← aR_val hx] at l1 l2
    rw [Int.neg_mul, Int.neg_mul] at l2
    have e : c * zx.2 = zx.2 * c := Int.mul_comm _ _
    refine a_linK_ok hr g (by omega) (by omega) (aScope_tm hx.1) (aScope_tm hx.1) (by omega) (by omega)
  · exact a_anyK_ok hr g hb.1 hb.2
theorem a_mulK_ok {x y : aV} {zx zy : zV} {z : Int} (hr : a_mulK t q x y f = some r) (g : aDen X ρ q h) (hx : aR ρ q.1 x zx) (hy : aR ρ q.1 y zy) (hz : a_lo t ≤ zx.2 * zy.2 → zx.2 * zy.2 ≤ a_hi t → z = zx.2 * zy.2) (hb : a_lo t ≤ z ∧ z ≤ a_hi t) : aMk X ρ q h (t, z) f r := by
  unfold a_mulK at hr
  rcases x_condT hr with ⟨hc, hr⟩ | ⟨-, hr⟩
  · have hcy := aR_const hc hy
    exact a_scaleK_ok hr g hx (by rw [← hcy]; exact hz) hb
  · rcases x_condT hr with ⟨hc, hr⟩ | ⟨-, hr⟩
    · have hcx := aR_const hc hx
      exact a_scaleK_ok hr g hy (by rw [← hcx, Int.mul_comm]; exact hz) hb
    · obtain ⟨lx, hxx, hr, b1, b2⟩ := a_rng_den hr g hx
      obtain ⟨ly, hyy, hr, b3, b4⟩ := a_rng_den hr g hy
      rcases x_condT hr with ⟨hc, hr⟩ | ⟨-, hr⟩
      · rw [Bool.and_eq_true, Bool.and_eq_true, a_dec_eq, a_dec_eq] at hc
        obtain ⟨c0, c1, c2⟩ := hc
        obtain ⟨c3, c4⟩ := a_in_ok c2
        have m1 : lx * ly ≤ zx.2 * zy.2 := Int.mul_le_mul b1 b3 c1 (by omega)
        have m2 : zx.2 * zy.2 ≤ hxx * hyy := Int.mul_le_mul b2 b4 (by omega) (by omega)
        have m3 : 0 ≤ lx * ly := Int.mul_nonneg c0 c1
        have hz := hz (by omega) (by omega)
        exact a_newK_ok hr g (by omega) (by omega)
      · exact a_anyK_ok hr g hb.1 hb.2
end AK
end
section
/-! THE WATCHER: sums of bits, quotients, rests; what follows from facts; branches -/
theorem a_min_ok (a b : Int) : a_min a b ≤ a ∧ a_min a b ≤ b ∧ (a_min a b = a ∨ a_min a b = b) := by
  unfold a_min
  by_cases h : a ≤ b
  · rw [a_decT h]; exact ⟨Int.le_refl _, h, Or.inl rfl⟩
  · rw [a_decN h]; exact ⟨by show b ≤ a; omega, Int.le_refl _, Or.inr rfl⟩
theorem a_max_ok (a b : Int) : a ≤ a_max a b ∧ b ≤ a_max a b ∧ (a_max a b = a ∨ a_max a b = b) := by
  unfold a_max
  by_cases h : a ≤ b
  · rw [a_decT h]; exact ⟨h, Int.le_refl _, Or.inr rfl⟩
  · rw [a_decN h]; exact ⟨Int.le_refl _, by show b ≤ a; omega, Or.inl rfl⟩
section AK2
variable {β : Type} {X : aX} {ρ : Nat → Int} {q : aQ} {h : zH} {f : aQ → aV → Option β} {r : β} {t : Nat}
theorem a_andK_ok {x y : aV} {zx zy : zV} {z : Int} (hr : a_andK t q x y f = some r) (g : aDen X ρ q h) (hx : aR ρ q.1 x zx) (hy : aR ρ q.1 y zy) (hz : (a_lo t ≤ zx.2 ∧ zx.2 ≤ a_hi t) → (a_lo t ≤ zy.2 ∧ zy.2 ≤ a_hi t) → ((0 ≤ zx.2 → 0 ≤ z ∧ z ≤ zx.2) ∧ (0 ≤ zy.2 → 0 ≤ z ∧ z ≤ zy.2)) ∧ (0 ≤ zx.2 → 0 ≤ zy.2 → z = Int.ofNat (Nat.land zx.2.toNat zy.2.toNat))) (hb : a_lo t ≤ z ∧ z ≤ a_hi t) : aMk X ρ q h (t, z) f r := by
  unfold a_andK at hr
  obtain ⟨lx, hxx, hr, b1, b2⟩ := a_rng_den hr g hx
  obtain ⟨ly, hyy, hr, b3, b4⟩ := a_rng_den hr g hy
  rcases x_condT hr with ⟨hc, hr⟩ | ⟨-, hr⟩
  · rw [Bool.and_eq_true] at hc
    obtain ⟨c1, c2⟩ := a_in_ok hc.1
    obtain ⟨c3, c4⟩ := a_in_ok hc.2
    obtain ⟨⟨z1, z2⟩, z3⟩ := hz ⟨by omega, by omega⟩ ⟨by omega, by omega⟩
    rcases x_condT hr with ⟨hc, hr⟩ | ⟨-, hr⟩
    · have hc := a_ofDec hc
      have z2 := z2 (by omega)
      rcases x_condT hr with ⟨hd, hr⟩ | ⟨-, hr⟩
      · have hd := a_ofDec hd
        have z1 := z1 (by omega)
        rcases x_condT hr with ⟨he, hr⟩ | ⟨-, hr⟩
        · rw [Bool.and_eq_true, a_dec_eq, a_dec_eq] at he
          rw [x_kN_eq] at hr
          refine aMk.here hr g ⟨Nat.zero_le _, ?_⟩
          rw [z3 (by omega) (by omega), show zx.2 = lx from by omega, show zy.2 = ly from by omega]
          rfl
        · rcases (a_min_ok hxx hyy).2.2 with e | e
          · exact a_newK_ok hr g z1.1 (by rw [e]; omega)
          · exact a_newK_ok hr g z1.1 (by rw [e]; omega)
      · exact a_newK_ok hr g z2.1 (by omega)
    · rcases x_condT hr with ⟨hd, hr⟩ | ⟨-, hr⟩
      · have hd := a_ofDec hd
        have z1 := z1 (by omega)
        exact a_newK_ok hr g z1.1 (by omega)
      · exact a_anyK_ok hr g hb.1 hb.2
  · exact a_anyK_ok hr g hb.1 hb.2
theorem a_shrK_ok {x y : aV} {zx zy : zV} {z : Int} (hr : a_shrK q x y f = some r) (g : aDen X ρ q h) (hx : aR ρ q.1 x zx) (hy : aR ρ q.1 y zy) (hz : 0 ≤ zy.2 → zy.2 < 32 → 0 ≤ zx.2 → zx.2 ≤ 2147483647 → z = zx.2 / ((2 ^ zy.2.toNat : Nat) : Int)) (hb : a_lo 0 ≤ z ∧ z ≤ a_hi 0) : aMk X ρ q h (0, z) f r := by
  unfold a_shrK at hr
  obtain ⟨lx, hxx, hr, b1, b2⟩ := a_rng_den hr g hx
  rcases x_condT hr with ⟨hc, hr⟩ | ⟨-, hr⟩
  · simp only [Bool.and_eq_true, a_dec_eq] at hc
    obtain ⟨c0, c1, c2, c3, c4⟩ := hc
    have hcy := aR_const c0 hy
    obtain ⟨c5, c6⟩ := a_in_ok c4
    have c6 : hxx ≤ 2147483647 := c6
    have hz := hz (by omega) (by omega) (by omega) (by omega)
    have hp : (0 : Int) < ((2 ^ zy.2.toNat : Nat) : Int) := Int.ofNat_lt.mpr (Nat.two_pow_pos _)
    have hr : a_newK 0 (lx / ((2 ^ y.2.2.toNat : Nat) : Int)) (hxx / ((2 ^ y.2.2.toNat : Nat) : Int)) q f = some r := hr
    rw [← hcy] at hr
    exact a_newK_ok hr g (by rw [hz]; exact Int.ediv_le_ediv hp b1) (by rw [hz]; exact Int.ediv_le_ediv hp b2)
  · exact a_anyK_ok hr g hb.1 hb.2
theorem a_divK_ok {x y : aV} {zx zy : zV} {z : Int} (hr : a_divK t q x y f = some r) (g : aDen X ρ q h) (hx : aR ρ q.1 x zx) (hy : aR ρ q.1 y zy) (hz : 1 ≤ zy.2 → 0 ≤ zx.2 → zx.2 ≤ a_hi t → zy.2 ≤ a_hi t → z = zx.2 / zy.2) (hb : a_lo t ≤ z ∧ z ≤ a_hi t) : zy.2 ≠ 0 ∧ aMk X ρ q h (t, z) f r := by
  unfold a_divK at hr
  obtain ⟨lx, hxx, hr, b1, b2⟩ := a_rng_den hr g hx
  obtain ⟨ly, hyy, hr, b3, b4⟩ := a_rng_den hr g hy
  rcases x_condT hr with ⟨hc, hr⟩ | ⟨-, hr⟩
  · simp only [Bool.and_eq_true, a_dec_eq] at hc
    obtain ⟨c0, c1, c2, c3⟩ := hc
    have c2 := a_in_ok c2
    have c3 := a_in_ok c3
    refine ⟨by omega, ?_⟩
    have hz := hz (by omega) (by omega) (by omega) (by omega)
    refine a_newK_ok hr g ?_ ?_
    · rw [hz]
      refine (Int.le_ediv_iff_mul_le (by omega)).mpr ?_
      have h5 : lx / hyy * zy.2 ≤ lx / hyy * hyy := Int.mul_le_mul_of_nonneg_left b4 (Int.ediv_nonneg c1 (by omega))
      have h6 : lx / hyy * hyy ≤ lx := Int.ediv_mul_le _ (by omega)
      omega
    · rw [hz]
      refine (Int.le_ediv_iff_mul_le (by omega)).mpr ?_
      have h5 : zx.2 / zy.2 * ly ≤ zx.2 / zy.2 * zy.2 := Int.mul_le_mul_of_nonneg_left b3 (Int.ediv_nonneg (by omega) (by omega))
      have h6 : zx.2 / zy.2 * zy.2 ≤ zx.2 := Int.ediv_mul_le _ (by omega)
      omega
  · rcases x_condT hr with ⟨hc, hr⟩ | ⟨-, hr⟩
    · rw [Bool.or_eq_true, a_dec_eq, a_dec_eq] at hc
      exact ⟨by omega, a_anyK_ok hr g hb.1 hb.2⟩
    · cases hr
theorem a_rem32K_ok {x y : aV} {zx zy : zV} {z : Int} (hr : a_rem32K q x y f = some r) (g : aDen X ρ q h) (hx : aR ρ q.1 x zx) (hy : aR ρ q.1 y zy) (hz : (a_lo 0 ≤ zx.2 ∧ zx.2 ≤ a_hi 0) → (a_lo 0 ≤ zy.2 ∧ zy.2 ≤ a_hi 0) → z = zx.2.tmod zy.2) (hb : a_lo 0 ≤ z ∧ z ≤ a_hi 0) : zy.2 ≠ 0 ∧ aMk X ρ q h (0, z) f r := by
  unfold a_rem32K at hr
  obtain ⟨lx, hxx, hr, b1, b2⟩ := a_rng_den hr g hx
  obtain ⟨ly, hyy, hr, b3, b4⟩ := a_rng_den hr g hy
  rcases x_condT hr with ⟨hc, hr⟩ | ⟨-, hr⟩
  · simp only [Bool.and_eq_true, a_dec_eq] at hc
    obtain ⟨c0, c2, c3⟩ := hc
    have c2 := a_in_ok c2
    have c3 := a_in_ok c3
    refine ⟨by omega, ?_⟩
    have hz := hz ⟨by omega, by omega⟩ ⟨by omega, by omega⟩
    have hm := tmod_bounds (a := zx.2) (M := zy.2) (by omega)
    rcases x_condT hr with ⟨hd, hr⟩ | ⟨-, hr⟩
    · have hd := a_ofDec hd
      have h0 : 0 ≤ zx.2.tmod zy.2 := Int.tmod_nonneg _ (by omega)
      have h1 : zx.2.tmod zy.2 ≤ zx.2 := by
        rw [Int.tmod_eq_emod_of_nonneg (by omega)]
        have h7 : 0 ≤ zy.2 * (zx.2 / zy.2) := Int.mul_nonneg (by omega) (Int.ediv_nonneg (by omega) (by omega))
        rw [Int.emod_def]
        omega
      rcases x_condT hr with ⟨he, hr⟩ | ⟨-, hr⟩
      · rw [Bool.and_eq_true, a_dec_eq, a_dec_eq] at he
        rw [x_kZ_eq] at hr
        refine aMk.here hr g ⟨Nat.zero_le _, ?_⟩
        rw [hz, show zx.2 = lx from by omega, show zy.2 = ly from by omega, Int.tmod_eq_emod_of_nonneg hd]
        rfl
      · rcases (a_min_ok hxx (hyy - 1)).2.2 with e | e
        · exact a_newK_ok hr g (by omega) (by rw [e]; omega)
        · exact a_newK_ok hr g (by omega) (by rw [e]; omega)
    · exact a_newK_ok hr g (by omega) (by omega)
  · rcases x_condT hr with ⟨hc, hr⟩ | ⟨-, hr⟩
    · rw [Bool.or_eq_true, a_dec_eq, a_dec_eq] at hc
      exact ⟨by omega, a_anyK_ok hr g hb.1 hb.2⟩
    · cases hr
theorem a_new2_ok {lo hi z b1 b2 : Int} {t1 t2 : List (Int × Nat)} (hr : a_newK t lo hi q (fun q' v => f (a_fact (a_fact q' ((1, q.1) :: t1, b1)) ((-1, q.1) :: t2, b2)) v) = some r) (g : aDen X ρ q h) (h1 : lo ≤ z) (h2 : z ≤ hi) (s1 : aScope q.1 t1) (s2 : aScope q.1 t2) (e1 : z + alin ρ t1 ≤ b1) (e2 : -z + alin ρ t2 ≤ b2) : aMk X ρ q h (t, z) f r := by
  rw [a_newK_eq] at hr
  have ha := aup_ag ρ q.1 z
  refine ⟨_, _, aup ρ q.1 z, hr, ha, Nat.le_succ _, aDen.fact (aDen.fact (g.push h1 h2) ?_ ?_) ?_ ?_, Nat.le_refl _, ?_⟩
  · intro p hp
    rcases List.mem_cons.mp hp with e | e
    · rw [e]; exact Nat.lt_succ_self _
    · exact s1.up p e
  · show 1 * aup ρ q.1 z q.1 + alin (aup ρ q.1 z) t1 ≤ b1
    rw [aup_at, alin_ag ha s1]; omega
  · intro p hp
    rcases List.mem_cons.mp hp with e | e
    · rw [e]; exact Nat.lt_succ_self _
    · exact s2.up p e
  · show (-1) * aup ρ q.1 z q.1 + alin (aup ρ q.1 z) t2 ≤ b2
    rw [aup_at, alin_ag ha s2]; omega
  · show (t, z) = (t, aup ρ q.1 z q.1 + 0)
    rw [aup_at, Int.add_zero]
theorem a_cond_le {b : Bool} {x y z : Int} (h1 : b = true → x ≤ z) (h2 : b = false → y ≤ z) : cond b x y ≤ z := by cases b <;> simp_all
theorem a_cond_ge {b : Bool} {x y z : Int} (h1 : b = true → z ≤ x) (h2 : b = false → z ≤ y) : z ≤ cond b x y := by cases b <;> simp_all
theorem a_tmod_sign (a m : Int) : (0 ≤ a → 0 ≤ a.tmod m) ∧ (a ≤ 0 → a.tmod m ≤ 0) := by
  refine ⟨fun h => Int.tmod_nonneg _ h, fun h => ?_⟩
  have := Int.tmod_nonneg (a := -a) m (by omega)
  rw [Int.neg_tmod] at this
  omega
theorem a_tmod_near (a m : Int) (hm : m < 0) : m < a.tmod m ∧ a.tmod m < -m := by
  have := tmod_bounds (a := a) (M := -m) (by omega)
  rw [Int.tmod_neg] at this
  omega
theorem a_rem64K_ok {x y : aV} {zx zy : zV} {z : Int} (hr : a_rem64K q x y f = some r) (g : aDen X ρ q h) (hx : aR ρ q.1 x zx) (hy : aR ρ q.1 y zy) (hz : (a_lo 1 ≤ zx.2 ∧ zx.2 ≤ a_hi 1) → (a_lo 1 ≤ zy.2 ∧ zy.2 ≤ a_hi 1) → z = zx.2.tmod zy.2) : zy.2 ≠ 0 ∧ aMk X ρ q h (1, z) f r := by
  unfold a_rem64K at hr
  obtain ⟨lx, hxx, hr, b1, b2⟩ := a_rng_den hr g hx
  obtain ⟨ly, hyy, hr, b3, b4⟩ := a_rng_den hr g hy
  rcases x_condT hr with ⟨hc, hr⟩ | ⟨-, hr⟩
  · rw [Bool.and_eq_true] at hc
    have c2 := a_in_ok hc.1
    have c3 := a_in_ok hc.2
    have hz := hz ⟨by omega, by omega⟩ ⟨by omega, by omega⟩
    have hs := a_tmod_sign zx.2 zy.2
    rcases x_condT hr with ⟨hd, hr⟩ | ⟨-, hr⟩
    · have hd := a_ofDec hd
      refine ⟨by omega, ?_⟩
      rw [x_spine_eq, x_kZ_eq] at hr
      have hm := tmod_bounds (a := zx.2) (M := zy.2) (by omega)
      have l := alin_tm ρ (-1) y
      rw [← aR_val hy] at l
      refine a_new2_ok hr g (a_cond_le (fun e => ?_) (fun e => ?_)) (a_cond_ge (fun e => ?_) (fun e => ?_)) (aScope_tm hy.1) (aScope_tm hy.1) (by omega) (by omega)
      · have := a_ofDec e; omega
      · omega
      · have := a_ofDec e; omega
      · omega
    · rcases x_condT hr with ⟨hd, hr⟩ | ⟨-, hr⟩
      · have hd := a_ofDec hd
        refine ⟨by omega, ?_⟩
        rw [x_spine_eq, x_kZ_eq] at hr
        have hm := a_tmod_near zx.2 zy.2 (by omega)
        have l := alin_tm ρ 1 y
        rw [← aR_val hy] at l
        refine a_new2_ok hr g (a_cond_le (fun e => ?_) (fun e => ?_)) (a_cond_ge (fun e => ?_) (fun e => ?_)) (aScope_tm hy.1) (aScope_tm hy.1) (by omega) (by omega)
        · have := a_ofDec e; omega
        · omega
        · have := a_ofDec e; omega
        · omega
      · cases hr
  · cases hr
theorem a_negK_ok {x : aV} {zx : zV} {z : Int} (hr : a_negK t q x f = some r) (g : aDen X ρ q h) (hx : aR ρ q.1 x zx) (hz : a_lo t ≤ -zx.2 → -zx.2 ≤ a_hi t → z = -zx.2) (hb : a_lo t ≤ z ∧ z ≤ a_hi t) : aMk X ρ q h (t, z) f r := by
  unfold a_negK at hr
  obtain ⟨lx, hxx, hr, b1, b2⟩ := a_rng_den hr g hx
  rcases x_condT hr with ⟨hc, hr⟩ | ⟨-, hr⟩
  · have c := a_in_ok hc
    have hz := hz (by omega) (by omega)
    exact a_newK_ok hr g (by omega) (by omega)
  · exact a_anyK_ok hr g hb.1 hb.2
theorem a_cutK_ok {lo hi : Int} {x : aV} {zx : zV} {z : Int} (hr : a_cutK lo hi q x f = some r) (g : aDen X ρ q h) (hx : aR ρ q.1 x zx) (hz : lo ≤ zx.2 → zx.2 ≤ hi → z = zx.2) (hb : lo ≤ z ∧ z ≤ hi) : aMk X ρ q h (0, z) f r := by
  unfold a_cutK at hr
  obtain ⟨lx, hxx, hr, b1, b2⟩ := a_rng_den hr g hx
  rcases x_condT hr with ⟨hc, hr⟩ | ⟨-, hr⟩
  · rw [Bool.and_eq_true, a_dec_eq, a_dec_eq] at hc
    refine aMk.here hr g ⟨hx.1, ?_⟩
    rw [hz (by omega) (by omega), aR_val hx]
  · exact a_newK_ok hr g hb.1 hb.2
theorem a_nrmK_ok {γ : Type} {v : aV} {zv : zV} {k : aV → Option γ} {r : γ} (hr : a_nrmK q.2.1 v k = some r) (g : aDen X ρ q h) (hv : aR ρ q.1 v zv) : ∃ w, k w = some r ∧ aR ρ q.1 w zv := by
  unfold a_nrmK at hr
  obtain ⟨lx, hxx, hr, b1, b2⟩ := a_rng_den hr g hv
  rcases x_condT hr with ⟨hc, hr⟩ | ⟨-, hr⟩
  · have hc := a_ofDec hc
    refine ⟨_, hr, Nat.zero_le _, ?_⟩
    have e : zv.2 = lx := by omega
    rw [hv.2] at e ⊢
    exact congrArg _ e
  · rw [x_kN_eq, x_kZ_eq] at hr
    exact ⟨_, hr, hv⟩
end AK2
/-! facts -/
theorem a_ins_ok (ρ : Nat → Int) (c : Int) (i : Nat) : ∀ l : List (Int × Nat), alin ρ (a_ins c i l) = c * ρ i + alin ρ l
  | [] => rfl
  | p :: t => by
    show alin ρ (cond (Nat.beq p.2 i) (cond (@decide (p.1 + c = 0) (a_decEqZ _ _)) t ((p.1 + c, i) :: t)) (p :: a_ins c i t)) = c * ρ i + (p.1 * ρ p.2 + alin ρ t)
    cases hb : Nat.beq p.2 i with
    | true =>
      have hb := Nat.eq_of_beq_eq_true hb
      rw [hb]
      by_cases hc : p.1 + c = 0
      · rw [a_decT hc]
        show alin ρ t = _
        have : p.1 = -c := by omega
        rw [this, Int.neg_mul]; omega
      · rw [a_decN hc]
        show (p.1 + c) * ρ i + alin ρ t = _
        rw [Int.add_mul]; omega
    | false =>
      show p.1 * ρ p.2 + alin ρ (a_ins c i t) = _
      rw [a_ins_ok ρ c i t]; omega
theorem a_less_ok (ρ : Nat → Int) (ts : List (Int × Nat)) : ∀ fs : List (Int × Nat), alin ρ (a_less ts fs) = alin ρ ts - alin ρ fs
  | [] => by show alin ρ ts = alin ρ ts - 0; omega
  | p :: fs => by
    show alin ρ (a_ins (-p.1) p.2 (a_less ts fs)) = alin ρ ts - (p.1 * ρ p.2 + alin ρ fs)
    rw [a_ins_ok, a_less_ok ρ ts fs, Int.neg_mul]; omega
theorem a_sup_ok {ρ : Nat → Int} {n : Nat} {E : aB} (he : ∀ x ∈ E, x.1 < n ∧ x.2.1 ≤ ρ x.1 ∧ ρ x.1 ≤ x.2.2) : ∀ {ts : List (Int × Nat)} {s : Int}, a_sup E ts = some s → alin ρ ts ≤ s
  | [], s, h => by cases h; exact Int.le_refl _
  | p :: ts, s, h => by
    have h : (match a_get E p.2 with
      | some q => match a_sup E ts with
        | some s => some (cond (@decide (0 ≤ p.1) (a_decLe _ _)) (p.1 * q.2 + s) (p.1 * q.1 + s))
        | none => none
      | none => none) = some s := h
    split at h
    · rename_i q hq
      split at h
      · rename_i s0 hs0
        have ih := a_sup_ok he hs0
        obtain ⟨-, g1, g2⟩ := a_get_ok he hq
        have h := Option.some.inj h
        rw [← h]
        show p.1 * ρ p.2 + alin ρ ts ≤ _
        by_cases hp : 0 ≤ p.1
        · rw [a_decT hp]
          show _ ≤ p.1 * q.2 + s0
          have := Int.mul_le_mul_of_nonneg_left g2 hp
          omega
        · rw [a_decN hp]
          show _ ≤ p.1 * q.1 + s0
          have := Int.mul_le_mul_of_nonpos_left (a := p.1) (by omega) g1
          omega
      · cases h
    · cases h
theorem a_ent_ok {ρ : Nat → Int} {m : Nat} {E : aB} {Fs : List aF} (he : aEnv ρ m E Fs) : ∀ (n : Nat) {ts : List (Int × Nat)} {b : Int}, a_ent E Fs n ts b = true → alin ρ ts ≤ b := by
  have base : ∀ {ts : List (Int × Nat)} {b : Int}, (match a_sup E ts with
      | some s => @decide (s ≤ b) (a_decLe _ _)
      | none => false) = true → alin ρ ts ≤ b := by
    intro ts b h
    split at h
    · rename_i s hs
      have h1 := a_sup_ok he.1 hs
      have h2 := a_ofDec h
      omega
    · cases h
  intro n
  induction n with
  | zero => exact fun h => base h
  | succ n ih =>
    intro ts b h
    have h : ((match a_sup E ts with
      | some s => @decide (s ≤ b) (a_decLe _ _)
      | none => false) || List.rec (motive := fun _ => Bool) false (fun x _ ih2 => (a_hasT ts x.1 && a_ent E Fs n (a_less ts x.1) (b - x.2)) || ih2) Fs) = true := h
    rw [Bool.or_eq_true] at h
    rcases h with h | h
    · exact base h
    · have go : ∀ l : List aF, (∀ x ∈ l, x ∈ Fs) → List.rec (motive := fun _ => Bool) false (fun x _ ih2 => (a_hasT ts x.1 && a_ent E Fs n (a_less ts x.1) (b - x.2)) || ih2) l = true → alin ρ ts ≤ b := by
        intro l
        induction l with
        | nil => exact fun _ h => by cases h
        | cons x l ihl =>
          intro hm h
          have h : ((a_hasT ts x.1 && a_ent E Fs n (a_less ts x.1) (b - x.2)) || List.rec (motive := fun _ => Bool) false (fun x _ ih2 => (a_hasT ts x.1 && a_ent E Fs n (a_less ts x.1) (b - x.2)) || ih2) l) = true := h
          rw [Bool.or_eq_true, Bool.and_eq_true] at h
          rcases h with h | h
          · have h1 := ih h.2
            have h2 := (he.2 x (hm x List.mem_cons_self)).2
            rw [a_less_ok] at h1
            omega
          · exact ihl (fun y hy => hm y (List.mem_cons_of_mem _ hy)) h
      exact go Fs (fun _ h => h) h
theorem a_leq_ok {X : aX} {ρ : Nat → Int} {q : aQ} {h : zH} (g : aDen X ρ q h) {x y : aV} {c : Int} (hq : a_leq q x y c = true) : aev ρ x.2.1 x.2.2 ≤ aev ρ y.2.1 y.2.2 + c := by
  unfold a_leq at hq
  have h1 := a_ent_ok g.1 3 hq
  rw [a_less_ok] at h1
  have l1 := alin_tm ρ 1 x
  have l2 := alin_tm ρ 1 y
  omega
/-! branches -/
theorem a_app_ok {α : Type} {a b : Option (List α)} {r : List α} (h : a_app a b = some r) : ∃ ra rb, a = some ra ∧ b = some rb ∧ r = ra ++ rb := by
  unfold a_app at h
  split at h
  · split at h
    · exact ⟨_, _, rfl, rfl, (Option.some.inj h).symm⟩
    · cases h
  · cases h
section AB
variable {β : Type} {X : aX} {ρ : Nat → Int} {q : aQ} {h : zH} {r : List β}
theorem a_nhi_ok {γ : Type} {n : Nat} {E : aB} {x : aV} {lx hx b : Int} {f : aB → Option γ} {r : γ} (hr : a_nhi E x lx hx b f = some r) (he : ∀ y ∈ E, y.1 < n ∧ y.2.1 ≤ ρ y.1 ∧ ρ y.1 ≤ y.2.2) (hs : x.2.1 ≤ n) (h1 : lx ≤ aev ρ x.2.1 x.2.2) (h2 : aev ρ x.2.1 x.2.2 ≤ b) : ∃ E', f E' = some r ∧ ∀ y ∈ E', y.1 < n ∧ y.2.1 ≤ ρ y.1 ∧ ρ y.1 ≤ y.2.2 := by
  obtain ⟨t, s, o⟩ := x
  cases s with
  | zero => exact ⟨E, hr, he⟩
  | succ i =>
    have hr : cond (@decide (b < hx) (a_decLt _ _)) (x_kZ (lx - o) (fun l => x_kZ (b - o) (fun u => f ((i, l, u) :: E)))) (f E) = some r := hr
    rcases x_condT hr with ⟨-, hr⟩ | ⟨-, hr⟩
    · rw [x_kZ_eq, x_kZ_eq] at hr
      refine ⟨_, hr, fun y hy => ?_⟩
      rcases List.mem_cons.mp hy with e | e
      · rw [e]
        have h1 : lx ≤ ρ i + o := h1
        have h2 : ρ i + o ≤ b := h2
        exact ⟨hs, by show lx - o ≤ ρ i; omega, by show ρ i ≤ b - o; omega⟩
      · exact he y e
    · exact ⟨E, hr, he⟩
theorem a_nlo_ok {γ : Type} {n : Nat} {E : aB} {x : aV} {lx hx b : Int} {f : aB → Option γ} {r : γ} (hr : a_nlo E x lx hx b f = some r) (he : ∀ y ∈ E, y.1 < n ∧ y.2.1 ≤ ρ y.1 ∧ ρ y.1 ≤ y.2.2) (hs : x.2.1 ≤ n) (h1 : aev ρ x.2.1 x.2.2 ≤ hx) (h2 : b ≤ aev ρ x.2.1 x.2.2) : ∃ E', f E' = some r ∧ ∀ y ∈ E', y.1 < n ∧ y.2.1 ≤ ρ y.1 ∧ ρ y.1 ≤ y.2.2 := by
  obtain ⟨t, s, o⟩ := x
  cases s with
  | zero => exact ⟨E, hr, he⟩
  | succ i =>
    have hr : cond (@decide (lx < b) (a_decLt _ _)) (x_kZ (b - o) (fun l => x_kZ (hx - o) (fun u => f ((i, l, u) :: E)))) (f E) = some r := hr
    rcases x_condT hr with ⟨-, hr⟩ | ⟨-, hr⟩
    · rw [x_kZ_eq, x_kZ_eq] at hr
      refine ⟨_, hr, fun y hy => ?_⟩
      rcases List.mem_cons.mp hy with e | e
      · rw [e]
        have h1 : ρ i + o ≤ hx := h1
        have h2 : b ≤ ρ i + o := h2
        exact ⟨hs, by show b - o ≤ ρ i; omega, by show ρ i ≤ hx - o; omega⟩
      · exact he y e
    · exact ⟨E, hr, he⟩
theorem a_leK_ok {x y : aV} {zx zy : zV} {c : Int} {f : aQ → Option (List β)} (hr : a_leK q x y c f = some r) (g : aDen X ρ q h) (hx : aR ρ q.1 x zx) (hy : aR ρ q.1 y zy) (hle : zx.2 ≤ zy.2 + c) : ∃ q', f q' = some r ∧ q'.1 = q.1 ∧ q'.2.2.2 = q.2.2.2 ∧ aDen X ρ q' h := by
  unfold a_leK at hr
  rcases x_condT hr with ⟨hs, hr⟩ | ⟨-, hr⟩
  · rcases x_condT hr with ⟨-, hr⟩ | ⟨hc, -⟩
    · exact ⟨q, hr, rfl, rfl, g⟩
    · have hc := a_ofDecF hc
      have e1 := aR_val hx
      have e2 := aR_val hy
      rw [← Int.zero_add x.2.2, aev_add, Nat.eq_of_beq_eq_true hs] at e1
      rw [← Int.zero_add y.2.2, aev_add] at e2
      omega
  rcases x_condT hr with ⟨hs, -⟩ | ⟨-, hr⟩
  · rw [Bool.and_eq_true] at hs
    have k := a_leq_ok g hs.2
    have e1 := aR_val hx
    have e2 := aR_val hy
    omega
  obtain ⟨lx, hxx, hr, b1, b2⟩ := a_rng_den hr g hx
  obtain ⟨ly, hyy, hr, b3, b4⟩ := a_rng_den hr g hy
  rcases x_condT hr with ⟨-, hr⟩ | ⟨hc, -⟩
  · have e1 := aR_val hx
    have e2 := aR_val hy
    obtain ⟨E1, hr, g1⟩ := a_nhi_ok (ρ := ρ) hr g.1.1 hx.1 (by omega) (by omega)
    obtain ⟨E2, hr, g2⟩ := a_nlo_ok (ρ := ρ) hr g1 hy.1 (by omega) (by omega)
    rcases x_condT hr with ⟨-, hr⟩ | ⟨-, hr⟩
    · exact ⟨_, hr, rfl, rfl, g.bound g2⟩
    · rw [x_kZ_eq, x_spine_eq] at hr
      refine ⟨_, hr, rfl, rfl, ?_⟩
      have gf := aDen.fact (g.bound g2) (x := (a_tm 1 x ++ a_tm (-1) y, c + y.2.2 - x.2.2)) (aScope_app (aScope_tm hx.1) (aScope_tm hy.1)) ?_
      · exact gf
      · show alin ρ (a_tm 1 x ++ a_tm (-1) y) ≤ c + y.2.2 - x.2.2
        have l1 := alin_tm ρ 1 x
        have l2 := alin_tm ρ (-1) y
        rw [alin_app]
        omega
  · have := a_ofDecF hc
    omega
theorem a_neK_ok {x y : aV} {zx zy : zV} {f : aQ → Option (List β)} (hr : a_neK q x y f = some r) (g : aDen X ρ q h) (hx : aR ρ q.1 x zx) (hy : aR ρ q.1 y zy) (hne : zx.2 ≠ zy.2) : ∃ q' r', (∀ o ∈ r', o ∈ r) ∧ f q' = some r' ∧ q'.1 = q.1 ∧ q'.2.2.2 = q.2.2.2 ∧ aDen X ρ q' h := by
  unfold a_neK at hr
  rcases x_condT hr with ⟨hs, hr⟩ | ⟨-, hr⟩
  · rcases x_condT hr with ⟨hc, -⟩ | ⟨-, hr⟩
    · have hc := a_ofDec hc
      have e1 := aR_val hx
      have e2 := aR_val hy
      rw [Nat.eq_of_beq_eq_true hs, hc] at e1
      exact absurd (e1.trans e2.symm) hne
    · exact ⟨q, r, fun _ ho => ho, hr, rfl, rfl, g⟩
  rcases x_condT hr with ⟨-, hr⟩ | ⟨-, hr⟩
  · rcases x_condT hr with ⟨hs, -⟩ | ⟨-, hr⟩
    · rw [Bool.and_eq_true] at hs
      have k := a_leq_ok g hs.1
      have k2 := a_leq_ok g hs.2
      have e1 := aR_val hx
      have e2 := aR_val hy
      omega
    · obtain ⟨ra, rb, h1, h2, rfl⟩ := a_app_ok hr
      by_cases hlt : zx.2 < zy.2
      · obtain ⟨q', d1, d2, d3, d4⟩ := a_leK_ok h1 g hx hy (by omega)
        exact ⟨q', ra, fun o ho => List.mem_append_left _ ho, d1, d2, d3, d4⟩
      · obtain ⟨q', d1, d2, d3, d4⟩ := a_leK_ok h2 g hy hx (by omega)
        exact ⟨q', rb, fun o ho => List.mem_append_right _ ho, d1, d2, d3, d4⟩
  have ret1 : ∀ {q' : aQ}, f q' = some r → q'.1 = q.1 → q'.2.2.2 = q.2.2.2 → aDen X ρ q' h → ∃ q' r', (∀ o ∈ r', o ∈ r) ∧ f q' = some r' ∧ q'.1 = q.1 ∧ q'.2.2.2 = q.2.2.2 ∧ aDen X ρ q' h := fun d1 d2 d3 d4 => ⟨_, r, fun _ ho => ho, d1, d2, d3, d4⟩
  obtain ⟨lx, hxx, hr, b1, b2⟩ := a_rng_den hr g hx
  obtain ⟨ly, hyy, hr, b3, b4⟩ := a_rng_den hr g hy
  rcases x_condT hr with ⟨hc, hr⟩ | ⟨-, hr⟩
  · have hc := a_ofDec hc
    rcases x_condT hr with ⟨hd, hr⟩ | ⟨-, hr⟩
    · have hd := a_ofDec hd
      obtain ⟨q', d1, d2, d3, d4⟩ := a_leK_ok hr g hy hx (by omega); exact ret1 d1 d2 d3 d4
    · rcases x_condT hr with ⟨hd, hr⟩ | ⟨-, hr⟩
      · have hd := a_ofDec hd
        obtain ⟨q', d1, d2, d3, d4⟩ := a_leK_ok hr g hx hy (by omega); exact ret1 d1 d2 d3 d4
      · exact ret1 hr rfl rfl g
  · rcases x_condT hr with ⟨hc, hr⟩ | ⟨-, hr⟩
    · have hc := a_ofDec hc
      rcases x_condT hr with ⟨hd, hr⟩ | ⟨-, hr⟩
      · have hd := a_ofDec hd
        obtain ⟨q', d1, d2, d3, d4⟩ := a_leK_ok hr g hx hy (by omega); exact ret1 d1 d2 d3 d4
      · rcases x_condT hr with ⟨hd, hr⟩ | ⟨-, hr⟩
        · have hd := a_ofDec hd
          obtain ⟨q', d1, d2, d3, d4⟩ := a_leK_ok hr g hy hx (by omega); exact ret1 d1 d2 d3 d4
        · exact ret1 hr rfl rfl g
    · exact ret1 hr rfl rfl g
theorem a_br_ok {b : Nat} {x y : aV} {zx zy : zV} {T F : aQ → Option (List β)} (hr : a_br b q x y T F = some r) (g : aDen X ρ q h) (hx : aR ρ q.1 x zx) (hy : aR ρ q.1 y zy) : ∃ q' r', (∀ o ∈ r', o ∈ r) ∧ q'.1 = q.1 ∧ q'.2.2.2 = q.2.2.2 ∧ aDen X ρ q' h ∧ ((zrel b zx.2 zy.2 = true ∧ T q' = some r') ∨ (zrel b zx.2 zy.2 = false ∧ F q' = some r')) := by
  match b, hr with
  | 0, hr =>
    obtain ⟨ra, rb, h1, h2, rfl⟩ := a_app_ok hr
    by_cases hc : zx.2 < zy.2
    · obtain ⟨q', e1, e2, e3, e4⟩ := a_leK_ok h1 g hx hy (by omega)
      exact ⟨q', ra, fun o ho => List.mem_append_left _ ho, e2, e3, e4, Or.inl ⟨a_decT hc, e1⟩⟩
    · obtain ⟨q', e1, e2, e3, e4⟩ := a_leK_ok h2 g hy hx (by omega)
      exact ⟨q', rb, fun o ho => List.mem_append_right _ ho, e2, e3, e4, Or.inr ⟨a_decN hc, e1⟩⟩
  | 1, hr =>
    obtain ⟨ra, rb, h1, h2, rfl⟩ := a_app_ok hr
    by_cases hc : zy.2 < zx.2
    · obtain ⟨q', e1, e2, e3, e4⟩ := a_leK_ok h1 g hy hx (by omega)
      exact ⟨q', ra, fun o ho => List.mem_append_left _ ho, e2, e3, e4, Or.inl ⟨a_decT hc, e1⟩⟩
    · obtain ⟨q', e1, e2, e3, e4⟩ := a_leK_ok h2 g hx hy (by omega)
      exact ⟨q', rb, fun o ho => List.mem_append_right _ ho, e2, e3, e4, Or.inr ⟨a_decN hc, e1⟩⟩
  | b + 2, hr =>
    obtain ⟨ra, rb, h1, h2, rfl⟩ := a_app_ok hr
    by_cases hc : zx.2 = zy.2
    · obtain ⟨q1, e1, e2, e3, e4⟩ := a_leK_ok h1 g hx hy (by omega)
      obtain ⟨q2, d1, d2, d3, d4⟩ := a_leK_ok e1 e4 (by rw [e2]; exact hy) (by rw [e2]; exact hx) (by omega)
      exact ⟨q2, ra, fun o ho => List.mem_append_left _ ho, d2.trans e2, d3.trans e3, d4, Or.inl ⟨a_decT hc, d1⟩⟩
    · obtain ⟨q', r', e0, e1, e2, e3, e4⟩ := a_neK_ok h2 g hx hy hc
      exact ⟨q', r', fun o ho => List.mem_append_right _ (e0 o ho), e2, e3, e4, Or.inr ⟨a_decN hc, e1⟩⟩
end AB
end
section
/-! THE WATCHER: the heap -/
noncomputable def a_okc {α : Type} (ll : List (List α)) : Bool := List.rec (motive := fun _ => Bool) true (fun l t ih => match t with
  | [] => Nat.ble l.length 12
  | _ :: _ => Nat.beq l.length 12 && ih) ll
theorem a_at_flat {α : Type} : ∀ (ll : List (List α)) (k : Nat), a_okc ll = true → a_at ll k = ll.flatten[k]?
  | [], k, _ => by
    show (match x_nth ([] : List (List α)) (Nat.div k 12) with
      | some l => x_nth l (Nat.mod k 12)
      | none => none) = _
    rw [x_nth_eq]
    rfl
  | l :: t, k, h => by
    show (match x_nth (l :: t) (k / 12) with
      | some l => x_nth l (k % 12)
      | none => none) = _
    rw [List.flatten_cons, x_nth_eq]
    by_cases hk : k < 12
    · have e1 : k / 12 = 0 := Nat.div_eq_of_lt hk
      have e2 : k % 12 = k := Nat.mod_eq_of_lt hk
      rw [e1, e2]
      show x_nth l k = _
      rw [x_nth_eq]
      cases t with
      | nil => rw [List.flatten_nil, List.append_nil]
      | cons a t =>
        have h : (Nat.beq l.length 12 && a_okc (a :: t)) = true := h
        rw [Bool.and_eq_true] at h
        have hl := Nat.eq_of_beq_eq_true h.1
        rw [List.getElem?_append_left (by omega)]
    · have e1 : k / 12 = (k - 12) / 12 + 1 := by omega
      have e2 : k % 12 = (k - 12) % 12 := by omega
      rw [e1, e2, List.getElem?_cons_succ]
      have ih : a_okc t = true → a_at t (k - 12) = t.flatten[k - 12]? := fun ht => a_at_flat t (k - 12) ht
      have e3 : (match t[(k - 12) / 12]? with
        | some l => x_nth l ((k - 12) % 12)
        | none => none) = a_at t (k - 12) := by
        show _ = (match x_nth t ((k - 12) / 12) with
          | some l => x_nth l ((k - 12) % 12)
          | none => none)
        rw [x_nth_eq]
      rw [e3]
      cases t with
      | nil =>
        have h : Nat.ble l.length 12 = true := h
        have hl := Nat.le_of_ble_eq_true h
        rw [ih rfl, List.flatten_nil, List.append_nil, List.getElem?_nil, List.getElem?_eq_none (by omega)]
      | cons a t =>
        have h : (Nat.beq l.length 12 && a_okc (a :: t)) = true := h
        rw [Bool.and_eq_true] at h
        have hl := Nat.eq_of_beq_eq_true h.1
        rw [ih h.2, List.getElem?_append_right (by omega), hl]
theorem zShape2_ok : a_okc zShape2 = true := by decide +kernel
theorem zShape2_eq : zShape2.flatten = zShape := by decide +kernel
theorem a_shp_eq (k : Nat) : a_shp k = zShape[k]? := by
  show a_at zShape2 k = _
  rw [a_at_flat zShape2 k zShape2_ok, zShape2_eq]
theorem a_isO_ok {ci : Nat} {r : Int} (h : a_isO ci r = true) : zisO ci r = true := by
  unfold a_isO at h
  rw [a_shp_eq] at h
  unfold zisO
  split at h
  · rename_i q hq
    rw [hq]
    show (q.1 == ci) = true
    rw [Nat.eq_of_beq_eq_true h]
    exact beq_self_eq_true _
  · cases h
theorem a_arr_ok {c : Nat} {r lo hi z : Int} (h : a_arr c r lo hi = true) (h1 : lo ≤ z) (h2 : z ≤ hi) : zarr c r z = true := by
  unfold a_arr at h
  rw [a_shp_eq] at h
  unfold zarr
  split at h
  · rename_i q hq
    rw [Bool.and_eq_true, Bool.and_eq_true, a_dec_eq, a_dec_eq] at h
    obtain ⟨e1, e2, e3⟩ := h
    have e3 : hi < (q.2 : Int) := e3
    rw [hq]
    show (zcode q.1 == c && (decide (0 ≤ z) && decide (z < (q.2 : Int)))) = true
    rw [Nat.eq_of_beq_eq_true e1, a_decT (show 0 ≤ z by omega), a_decT (show z < (q.2 : Int) by omega), beq_self_eq_true]
    rfl
  · cases h
theorem a_oget_ok {ρ : Nat → Int} {n : Nat} {h : zH} {r s : Nat} {o : Int} {v : aV} : ∀ {O : aO}, aOv ρ n O h → a_oget O r s o = some v → 0 ≤ aev ρ s o ∧ aR ρ n v (h r (aev ρ s o).toNat)
  | [], _, hq => by cases hq
  | e :: O, g, hq => by
    have hq : cond (Nat.beq e.1.1 r && (Nat.beq e.1.2.1 s && @decide (e.1.2.2 = o) (a_decEqZ _ _))) (some e.2) (a_oget O r s o) = some v := hq
    rcases x_condT hq with ⟨hc, hq⟩ | ⟨-, hq⟩
    · rw [Bool.and_eq_true, Bool.and_eq_true, a_dec_eq] at hc
      obtain ⟨c1, c2, c3⟩ := hc
      have c1 := Nat.eq_of_beq_eq_true c1
      have c2 := Nat.eq_of_beq_eq_true c2
      cases hq
      obtain ⟨-, g2, g3⟩ := g e List.mem_cons_self
      rw [c1, c2, c3] at g3
      rw [c2, c3] at g2
      exact ⟨g2, g3⟩
    · exact a_oget_ok (fun x hx => g x (List.mem_cons_of_mem _ hx)) hq
theorem atin_joinL {a b : aT} {v : zV} (h : atin a v) : atin (a_join a b) v := by
  unfold a_join
  cases hb : Nat.beq a.1 b.1 with
  | false => exact trivial
  | true =>
    obtain ⟨t, l, u, rs⟩ := a
    match t, h with
    | 0, ⟨h1, h2, h3⟩ => exact ⟨h1, Int.le_trans (a_min_ok l b.2.1).1 h2, Int.le_trans h3 (a_max_ok u b.2.2.1).1⟩
    | 1, ⟨h1, h2, h3⟩ => exact ⟨h1, Int.le_trans (a_min_ok l b.2.1).1 h2, Int.le_trans h3 (a_max_ok u b.2.2.1).1⟩
    | 2, ⟨k, h1, h2⟩ => exact ⟨k, List.mem_append_left _ h1, h2⟩
    | n + 3, _ => exact trivial
theorem atin_joinR {a b : aT} {v : zV} (h : atin b v) : atin (a_join a b) v := by
  unfold a_join
  cases hb : Nat.beq a.1 b.1 with
  | false => exact trivial
  | true =>
    have hb := Nat.eq_of_beq_eq_true hb
    obtain ⟨t, l, u, rs⟩ := a
    obtain ⟨t2, l2, u2, rs2⟩ := b
    have hb : t = t2 := hb
    subst hb
    match t, h with
    | 0, ⟨h1, h2, h3⟩ => exact ⟨h1, Int.le_trans (a_min_ok l l2).2.1 h2, Int.le_trans h3 (a_max_ok u u2).2.1⟩
    | 1, ⟨h1, h2, h3⟩ => exact ⟨h1, Int.le_trans (a_min_ok l l2).2.1 h2, Int.le_trans h3 (a_max_ok u u2).2.1⟩
    | 2, ⟨k, h1, h2⟩ => exact ⟨k, List.mem_append_right _ h1, h2⟩
    | n + 3, _ => exact trivial
theorem a_uni_some {lo hi : Int} (hlh : lo ≤ hi) : ∀ (l : List (Nat × aT)) (p : Int), p ≤ hi → a_uni lo hi l p ≠ none
  | [], p, hp => by
    show cond (@decide (hi < p) (a_decLt _ _)) none (some _) ≠ none
    rw [a_decN (by omega)]
    exact fun h => by cases h
  | s :: l, p, hp => by
    show x_kZ (p + Int.ofNat s.1) (fun p' => cond (@decide (p' ≤ lo) (a_decLe _ _)) (a_uni lo hi l p') (cond (@decide (hi < p) (a_decLt _ _)) none (match a_uni lo hi l p' with
      | some b => some (a_join s.2 b)
      | none => some s.2))) ≠ none
    rw [x_kZ_eq]
    by_cases h1 : p + Int.ofNat s.1 ≤ lo
    · rw [a_decT h1]
      exact a_uni_some hlh l _ (by omega)
    · rw [a_decN h1, a_decN (by omega)]
      show (match a_uni lo hi l (p + Int.ofNat s.1) with
        | some b => some (a_join s.2 b)
        | none => some s.2) ≠ none
      split <;> exact fun h => by cases h
theorem a_uni_ok {lo hi : Int} {g : Nat → zV} {j : Nat} (h1 : lo ≤ (j : Int)) (h2 : (j : Int) ≤ hi) : ∀ {l : List (Nat × aT)} {p : Nat} {t : aT}, a_uni lo hi l (p : Int) = some t → atyOK g l p → p ≤ j → atin t (g j)
  | [], p, t, h, _, hp => by
    have h : cond (@decide (hi < (p : Int)) (a_decLt _ _)) none (some ((9, 0, 0, []) : aT)) = some t := h
    rw [a_decN (by omega)] at h
    cases h
    exact trivial
  | s :: l, p, t, h, ⟨ha, hl⟩, hp => by
    have h : x_kZ ((p : Int) + Int.ofNat s.1) (fun p' => cond (@decide (p' ≤ lo) (a_decLe _ _)) (a_uni lo hi l p') (cond (@decide (hi < (p : Int)) (a_decLt _ _)) none (match a_uni lo hi l p' with
      | some b => some (a_join s.2 b)
      | none => some s.2))) = some t := h
    rw [x_kZ_eq, show (p : Int) + Int.ofNat s.1 = ((p + s.1 : Nat) : Int) from rfl] at h
    by_cases c1 : ((p + s.1 : Nat) : Int) ≤ lo
    · rw [a_decT c1] at h
      exact a_uni_ok h1 h2 h hl (by omega)
    · rw [a_decN c1, a_decN (show ¬ hi < (p : Int) by omega)] at h
      have h : (match a_uni lo hi l ((p + s.1 : Nat) : Int) with
        | some b => some (a_join s.2 b)
        | none => some s.2) = some t := h
      split at h
      · rename_i b hb
        cases h
        by_cases hj : j < p + s.1
        · exact atin_joinL (ha j hp hj)
        · exact atin_joinR (a_uni_ok h1 h2 hb hl (by omega))
      · rename_i hb
        cases h
        by_cases hj : j < p + s.1
        · exact ha j hp hj
        · exact absurd hb (a_uni_some (by omega) l _ (by omega))
theorem a_memI_ok {z : Int} : ∀ {l : List Int}, a_memI z l = true → z ∈ l
  | [], h => by cases h
  | a :: l, h => by
    have h : (@decide (a = z) (a_decEqZ _ _) || a_memI z l) = true := h
    rw [Bool.or_eq_true, a_dec_eq] at h
    rcases h with h | h
    · rw [h]; exact List.mem_cons_self
    · exact List.mem_cons_of_mem _ (a_memI_ok h)
theorem a_acc_ok {t : aT} {v : aV} {z : zV} {vl vh : Int} (h : a_acc t v vl vh = true) (hk : z.1 = v.1) (h1 : vl ≤ z.2) (h2 : z.2 ≤ vh) : atin t z := by
  obtain ⟨k, l, u, rs⟩ := t
  obtain ⟨z1, z2⟩ := z
  have hk : z1 = v.1 := hk
  match k, h with
  | 0, h =>
    have h : (Nat.beq v.1 0 && (@decide (l ≤ vl) (a_decLe _ _) && @decide (vh ≤ u) (a_decLe _ _))) = true := h
    rw [Bool.and_eq_true, Bool.and_eq_true, a_dec_eq, a_dec_eq] at h
    exact ⟨hk.trans (Nat.eq_of_beq_eq_true h.1), Int.le_trans h.2.1 h1, Int.le_trans h2 h.2.2⟩
  | 1, h =>
    have h : (Nat.beq v.1 1 && (@decide (l ≤ vl) (a_decLe _ _) && @decide (vh ≤ u) (a_decLe _ _))) = true := h
    rw [Bool.and_eq_true, Bool.and_eq_true, a_dec_eq, a_dec_eq] at h
    exact ⟨hk.trans (Nat.eq_of_beq_eq_true h.1), Int.le_trans h.2.1 h1, Int.le_trans h2 h.2.2⟩
  | 2, h =>
    have h : (@decide (vl = vh) (a_decEqZ _ _) && ((Nat.beq v.1 2 && (@decide (0 ≤ vl) (a_decLe _ _) && a_memI vl rs)) || (Nat.beq v.1 4 && (@decide (vl = 0) (a_decEqZ _ _) && a_memI (-1) rs)))) = true := h
    simp only [Bool.and_eq_true, Bool.or_eq_true, a_dec_eq] at h
    obtain ⟨e1, h⟩ := h
    have h1 : vl ≤ z2 := h1
    have h2 : z2 ≤ vh := h2
    have e2 : z2 = vl := by omega
    rcases h with ⟨a1, a2, a3⟩ | ⟨a1, a2, a3⟩
    · refine ⟨vl, a_memI_ok a3, ?_⟩
      rw [if_neg (by omega), hk, Nat.eq_of_beq_eq_true a1, e2]
    · refine ⟨-1, a_memI_ok a3, ?_⟩
      rw [if_pos rfl, hk, Nat.eq_of_beq_eq_true a1, e2, a2]
  | n + 3, h => exact trivial
theorem a_bZ_eq {z : Int} {f : Int → Bool} : a_bZ z f = f z := by
  unfold a_bZ
  rw [x_kZ_eq]
theorem atyOK_congr {g g' : Nat → zV} : ∀ {l : List (Nat × aT)} {p : Nat}, (∀ j, p ≤ j → g' j = g j) → atyOK g l p → atyOK g' l p
  | [], _, _, _ => trivial
  | s :: l, p, h, ⟨ha, hl⟩ => ⟨fun j j1 j2 => by rw [h j j1]; exact ha j j1 j2, atyOK_congr (fun j hj => h j (by omega)) hl⟩
theorem a_accs_ok {lo hi : Int} {v : aV} {z : zV} {vl vh : Int} {g : Nat → zV} {k : Nat} (hk : z.1 = v.1) (h1 : vl ≤ z.2) (h2 : z.2 ≤ vh) (k1 : lo ≤ (k : Int)) (k2 : (k : Int) ≤ hi) : ∀ {l : List (Nat × aT)} {p : Nat}, a_accs lo hi v vl vh l (p : Int) = true → atyOK g l p → atyOK (fun b => if b = k then z else g b) l p
  | [], _, _, _ => trivial
  | s :: l, p, h, ⟨ha, hl⟩ => by
    have h : cond (@decide (hi < (p : Int)) (a_decLt _ _)) true (a_bZ ((p : Int) + Int.ofNat s.1) (fun p' => (@decide (p' ≤ lo) (a_decLe _ _) || a_acc s.2 v vl vh) && a_accs lo hi v vl vh l p')) = true := h
    cases hb : @decide (hi < (p : Int)) (a_decLt _ _) with
    | true =>
      have hb := a_ofDec hb
      exact atyOK_congr (l := s :: l) (fun j hj => by show (if j = k then z else g j) = g j; rw [if_neg (by omega)]) ⟨ha, hl⟩
    | false =>
    rw [hb, cond_false, a_bZ_eq, Bool.and_eq_true, Bool.or_eq_true, a_dec_eq] at h
    refine ⟨fun j j1 j2 => ?_, a_accs_ok hk h1 h2 k1 k2 h.2 hl⟩
    show atin s.2 (if j = k then z else g j)
    by_cases hj : j = k
    · rw [if_pos hj]
      subst hj
      rcases h.1 with e | e
      · have e : ((p + s.1 : Nat) : Int) ≤ lo := e
        omega
      · exact a_acc_ok e hk h1 h2
    · rw [if_neg hj]
      exact ha j j1 j2
theorem a_bN_eq {n : Nat} {f : Nat → Bool} : a_bN n f = f n := by cases n <;> rfl
theorem a_uniN_eq {lo hi : Nat} : ∀ {l : List (Nat × aT)} {p : Nat}, a_uniN lo hi l p = a_uni (lo : Int) (hi : Int) l (p : Int)
  | [], p => by
    show cond (Nat.blt hi p) none (some ((9, 0, 0, []) : aT)) = cond (@decide ((hi : Int) < (p : Int)) (a_decLt _ _)) none (some (9, 0, 0, []))
    have e2 : @decide ((hi : Int) < (p : Int)) (a_decLt _ _) = Nat.blt hi p := by
      cases hb : Nat.blt hi p with
      | true => exact a_decT (Int.ofNat_lt.mpr (Nat.le_of_ble_eq_true hb))
      | false => exact a_decN (fun e => by rw [show Nat.blt hi p = true from Nat.ble_eq_true_of_le (Int.ofNat_lt.mp e)] at hb; cases hb)
    rw [e2]
  | s :: l, p => by
    show x_kN (p + s.1) (fun p' => cond (Nat.ble p' lo) (a_uniN lo hi l p') (cond (Nat.blt hi p) none (match a_uniN lo hi l p' with
      | some b => some (a_join s.2 b)
      | none => some s.2))) = x_kZ ((p : Int) + Int.ofNat s.1) (fun p' => cond (@decide (p' ≤ (lo : Int)) (a_decLe _ _)) (a_uni lo hi l p') (cond (@decide ((hi : Int) < (p : Int)) (a_decLt _ _)) none (match a_uni lo hi l p' with
      | some b => some (a_join s.2 b)
      | none => some s.2)))
    rw [x_kN_eq, x_kZ_eq, show (p : Int) + Int.ofNat s.1 = ((p + s.1 : Nat) : Int) from rfl, a_uniN_eq]
    have e1 : @decide (((p + s.1 : Nat) : Int) ≤ (lo : Int)) (a_decLe _ _) = Nat.ble (p + s.1) lo := by
      cases hb : Nat.ble (p + s.1) lo with
      | true => exact a_decT (Int.ofNat_le.mpr (Nat.le_of_ble_eq_true hb))
      | false => exact a_decN (fun e => by rw [Nat.ble_eq_true_of_le (Int.ofNat_le.mp e)] at hb; cases hb)
    have e2 : @decide ((hi : Int) < (p : Int)) (a_decLt _ _) = Nat.blt hi p := by
      cases hb : Nat.blt hi p with
      | true => exact a_decT (Int.ofNat_lt.mpr (Nat.le_of_ble_eq_true hb))
      | false => exact a_decN (fun e => by rw [show Nat.blt hi p = true from Nat.ble_eq_true_of_le (Int.ofNat_lt.mp e)] at hb; cases hb)
    rw [e1, e2]
theorem a_uniC_some {lo hi : Nat} (hlh : lo ≤ hi) : ∀ (l : aTc) (p : Nat), p ≤ hi → a_uniC lo hi l p ≠ none
  | [], p, hp => by
    show cond (Nat.blt hi p) none (some _) ≠ none
    cases hb : Nat.blt hi p with
    | true =>
      have : hi + 1 ≤ p := Nat.le_of_ble_eq_true hb
      omega
    | false => exact fun h => by cases h
  | s :: l, p, hp => by
    show x_kN (p + s.1) (fun p' => cond (Nat.ble p' lo) (a_uniC lo hi l p') (cond (Nat.blt hi p) none (cond (Nat.blt hi p') (a_uniN lo hi s.2 p) (a_joinO (x_kN (p' - 1) (fun u => a_uniN lo u s.2 p)) (a_uniC lo hi l p'))))) ≠ none
    rw [x_kN_eq, x_kN_eq]
    cases h1 : Nat.ble (p + s.1) lo with
    | true =>
      have h1 := Nat.le_of_ble_eq_true h1
      exact a_uniC_some hlh l _ (by omega)
    | false =>
      cases h2 : Nat.blt hi p with
      | true =>
        have : hi + 1 ≤ p := Nat.le_of_ble_eq_true h2
        omega
      | false =>
        cases h3 : Nat.blt hi (p + s.1) with
        | true =>
          show a_uniN lo hi s.2 p ≠ none
          rw [a_uniN_eq]
          exact a_uni_some (by omega) _ _ (by omega)
        | false =>
          have h3 : ¬ hi < p + s.1 := fun e => by rw [show Nat.blt hi (p + s.1) = true from Nat.ble_eq_true_of_le e] at h3; cases h3
          have ih := a_uniC_some hlh l (p + s.1) (by omega)
          show a_joinO (a_uniN lo (p + s.1 - 1) s.2 p) (a_uniC lo hi l (p + s.1)) ≠ none
          cases hu : a_uniC lo hi l (p + s.1) with
          | none => exact absurd hu ih
          | some y =>
            cases a_uniN lo (p + s.1 - 1) s.2 p with
            | none => exact fun h => by cases h
            | some x => exact fun h => by cases h
theorem a_uniC_ok {lo hi : Nat} {g : Nat → zV} {j : Nat} (h1 : lo ≤ j) (h2 : j ≤ hi) : ∀ {l : aTc} {p : Nat} {t : aT}, a_uniC lo hi l p = some t → atyC g l p → p ≤ j → atin t (g j)
  | [], p, t, h, _, hp => by
    have h : cond (Nat.blt hi p) none (some ((9, 0, 0, []) : aT)) = some t := h
    cases hb : Nat.blt hi p with
    | true => rw [hb] at h; cases h
    | false =>
      rw [hb] at h
      cases h
      exact trivial
  | s :: l, p, t, h, ⟨ha, _, hl⟩, hp => by
    have h : x_kN (p + s.1) (fun p' => cond (Nat.ble p' lo) (a_uniC lo hi l p') (cond (Nat.blt hi p) none (cond (Nat.blt hi p') (a_uniN lo hi s.2 p) (a_joinO (x_kN (p' - 1) (fun u => a_uniN lo u s.2 p)) (a_uniC lo hi l p'))))) = some t := h
    rw [x_kN_eq, x_kN_eq] at h
    cases c1 : Nat.ble (p + s.1) lo with
    | true =>
      rw [c1] at h
      have c1 := Nat.le_of_ble_eq_true c1
      exact a_uniC_ok h1 h2 h hl (by omega)
    | false =>
      rw [c1] at h
      cases c2 : Nat.blt hi p with
      | true => rw [c2] at h; cases h
      | false =>
        rw [c2] at h
        cases c3 : Nat.blt hi (p + s.1) with
        | true =>
          rw [c3] at h
          have h : a_uniN lo hi s.2 p = some t := h
          rw [a_uniN_eq] at h
          exact a_uni_ok (by omega) (by omega) h ha hp
        | false =>
          rw [c3] at h
          have c3 : ¬ hi < p + s.1 := fun e => by rw [show Nat.blt hi (p + s.1) = true from Nat.ble_eq_true_of_le e] at c3; cases c3
          have h : a_joinO (a_uniN lo (p + s.1 - 1) s.2 p) (a_uniC lo hi l (p + s.1)) = some t := h
          by_cases hj : j < p + s.1
          · cases hx : a_uniN lo (p + s.1 - 1) s.2 p with
            | none =>
              rw [a_uniN_eq] at hx
              exact absurd hx (a_uni_some (by omega) _ _ (by omega))
            | some x =>
              have hx' := hx
              rw [a_uniN_eq] at hx'
              have hat : atin x (g j) := a_uni_ok (by omega) (by omega) hx' ha hp
              rw [hx] at h
              cases hy : a_uniC lo hi l (p + s.1) with
              | none => rw [hy] at h; cases h; exact hat
              | some y => rw [hy] at h; cases h; exact atin_joinL hat
          · cases hy : a_uniC lo hi l (p + s.1) with
            | none => exact absurd hy (a_uniC_some (by omega) l _ (by omega))
            | some y =>
              have hat : atin y (g j) := a_uniC_ok h1 h2 hy hl (by omega)
              rw [hy] at h
              cases hx : a_uniN lo (p + s.1 - 1) s.2 p with
              | none => rw [hx] at h; cases h; exact hat
              | some x => rw [hx] at h; cases h; exact atin_joinR hat
theorem a_uniF_ok {lo hi : Int} {g : Nat → zV} {j : Nat} {l : aTc} {t : aT} (h : a_uniF lo hi l = some t) (hl : atyC g l 0) (h1 : lo ≤ (j : Int)) (h2 : (j : Int) ≤ hi) : atin t (g j) := by
  unfold a_uniF at h
  rcases x_condT h with ⟨hc, h⟩ | ⟨-, h⟩
  · rw [Bool.and_eq_true, a_dec_eq, a_dec_eq] at hc
    rw [x_kN_eq, x_kN_eq] at h
    exact a_uniC_ok (by omega) (by omega) h hl (Nat.zero_le j)
  · cases h
theorem a_accsN_eq {lo hi : Nat} {v : aV} {vl vh : Int} : ∀ {l : List (Nat × aT)} {p : Nat}, a_accsN lo hi v vl vh l p = a_accs (lo : Int) (hi : Int) v vl vh l (p : Int)
  | [], p => rfl
  | s :: l, p => by
    show cond (Nat.blt hi p) true (a_bN (p + s.1) (fun p' => (Nat.ble p' lo || a_acc s.2 v vl vh) && a_accsN lo hi v vl vh l p')) = cond (@decide ((hi : Int) < (p : Int)) (a_decLt _ _)) true (a_bZ ((p : Int) + Int.ofNat s.1) (fun p' => (@decide (p' ≤ (lo : Int)) (a_decLe _ _) || a_acc s.2 v vl vh) && a_accs lo hi v vl vh l p'))
    rw [a_bN_eq, a_bZ_eq, show (p : Int) + Int.ofNat s.1 = ((p + s.1 : Nat) : Int) from rfl, a_accsN_eq]
    have e1 : @decide (((p + s.1 : Nat) : Int) ≤ (lo : Int)) (a_decLe _ _) = Nat.ble (p + s.1) lo := by
      cases hb : Nat.ble (p + s.1) lo with
      | true => exact a_decT (Int.ofNat_le.mpr (Nat.le_of_ble_eq_true hb))
      | false => exact a_decN (fun e => by rw [Nat.ble_eq_true_of_le (Int.ofNat_le.mp e)] at hb; cases hb)
    have e2 : @decide ((hi : Int) < (p : Int)) (a_decLt _ _) = Nat.blt hi p := by
      cases hb : Nat.blt hi p with
      | true => exact a_decT (Int.ofNat_lt.mpr (Nat.le_of_ble_eq_true hb))
      | false => exact a_decN (fun e => by rw [show Nat.blt hi p = true from Nat.ble_eq_true_of_le (Int.ofNat_lt.mp e)] at hb; cases hb)
    rw [e1, e2]
theorem atyOK_in {g g' : Nat → zV} : ∀ {l : List (Nat × aT)} {p : Nat}, (∀ j, p ≤ j → j < p + a_wid l → g' j = g j) → atyOK g l p → atyOK g' l p
  | [], _, _, _ => trivial
  | s :: l, p, h, ⟨ha, hl⟩ => by
    have e : a_wid (s :: l) = s.1 + a_wid l := rfl
    rw [e] at h
    exact ⟨fun j j1 j2 => by rw [h j j1 (by omega)]; exact ha j j1 j2, atyOK_in (fun j j1 j2 => h j (by omega) (by omega)) hl⟩
theorem atyC_congr {g g' : Nat → zV} : ∀ {l : aTc} {p : Nat}, (∀ j, p ≤ j → g' j = g j) → atyC g l p → atyC g' l p
  | [], _, _, _ => trivial
  | s :: l, p, h, ⟨ha, hw, hl⟩ => ⟨atyOK_congr h ha, hw, atyC_congr (fun j hj => h j (by omega)) hl⟩
theorem a_accsC_ok {lo hi : Nat} {v : aV} {z : zV} {vl vh : Int} {g : Nat → zV} {k : Nat} (hk : z.1 = v.1) (h1 : vl ≤ z.2) (h2 : z.2 ≤ vh) (k1 : lo ≤ k) (k2 : k ≤ hi) : ∀ {l : aTc} {p : Nat}, a_accsC lo hi v vl vh l p = true → atyC g l p → atyC (fun b => if b = k then z else g b) l p
  | [], _, _, _ => trivial
  | s :: l, p, h, ⟨ha, hw, hl⟩ => by
    have h : cond (Nat.blt hi p) true (a_bN (p + s.1) (fun p' => (Nat.ble p' lo || a_accsN lo hi v vl vh s.2 p) && a_accsC lo hi v vl vh l p')) = true := h
    cases hb : Nat.blt hi p with
    | true =>
      have hb : hi + 1 ≤ p := Nat.le_of_ble_eq_true hb
      exact atyC_congr (l := s :: l) (fun j hj => by show (if j = k then z else g j) = g j; rw [if_neg (by omega)]) ⟨ha, hw, hl⟩
    | false =>
    rw [hb, cond_false, a_bN_eq, Bool.and_eq_true, Bool.or_eq_true] at h
    refine ⟨?_, hw, a_accsC_ok hk h1 h2 k1 k2 h.2 hl⟩
    rcases h.1 with e | e
    · have e := Nat.le_of_ble_eq_true e
      exact atyOK_in (fun j j1 j2 => by show (if j = k then z else g j) = g j; rw [if_neg (by omega)]) ha
    · rw [a_accsN_eq] at e
      exact a_accs_ok hk h1 h2 (by omega) (by omega) e ha
theorem a_accsF_ok {lo hi : Int} {v : aV} {z : zV} {vl vh : Int} {g : Nat → zV} {k : Nat} {l : aTc} (hk : z.1 = v.1) (h1 : vl ≤ z.2) (h2 : z.2 ≤ vh) (k1 : lo ≤ (k : Int)) (k2 : (k : Int) ≤ hi) (h : a_accsF lo hi v vl vh l = true) (hl : atyC g l 0) : atyC (fun b => if b = k then z else g b) l 0 := by
  unfold a_accsF at h
  rw [a_decT (show 0 ≤ hi by omega), cond_true] at h
  cases h2' : @decide (0 ≤ lo) (a_decLe _ _) with
  | true =>
    have h0 := a_ofDec h2'
    rw [h2', cond_true, a_bN_eq, a_bN_eq] at h
    exact a_accsC_ok hk h1 h2 (by omega) (by omega) h hl
  | false =>
    rw [h2'] at h
    cases h
theorem a_mod_ok {r : Nat} {lo hi : Int} {k : Nat} (k1 : lo ≤ (k : Int)) (k2 : (k : Int) ≤ hi) : ∀ {m : aM}, a_mod m r lo hi = true → aIn m r k
  | [], h => by cases h
  | q :: m, h => by
    have h : ((Nat.beq q.1 r && (@decide (Int.ofNat q.2.1 ≤ lo) (a_decLe _ _) && @decide (hi ≤ Int.ofNat q.2.2) (a_decLe _ _))) || a_mod m r lo hi) = true := h
    simp only [Bool.or_eq_true, Bool.and_eq_true, a_dec_eq] at h
    rcases h with ⟨e1, e2, e3⟩ | h
    · have e2 : (q.2.1 : Int) ≤ lo := e2
      have e3 : hi ≤ (q.2.2 : Int) := e3
      exact ⟨q, List.mem_cons_self, Nat.eq_of_beq_eq_true e1, by omega, by omega⟩
    · obtain ⟨x, h1, h2⟩ := a_mod_ok k1 k2 h
      exact ⟨x, List.mem_cons_of_mem _ h1, h2⟩
theorem a_hits_ok {r : Nat} {lo hi : Int} {k : Nat} (k1 : lo ≤ (k : Int)) (k2 : (k : Int) ≤ hi) : ∀ {m : aM}, a_hits m r lo hi = false → ¬ aIn m r k
  | [], _, ⟨q, hq, _⟩ => by cases hq
  | q :: m, h, ⟨x, hx, e1, e2, e3⟩ => by
    have h : ((Nat.beq q.1 r && (@decide (lo ≤ Int.ofNat q.2.2) (a_decLe _ _) && @decide (Int.ofNat q.2.1 ≤ hi) (a_decLe _ _))) || a_hits m r lo hi) = false := h
    rw [Bool.or_eq_false_iff] at h
    rcases List.mem_cons.mp hx with e | e
    · subst e
      have h := h.1
      have c1 : lo ≤ Int.ofNat x.2.2 := by show lo ≤ (x.2.2 : Int); omega
      have c2 : Int.ofNat x.2.1 ≤ hi := by show (x.2.1 : Int) ≤ hi; omega
      rw [a_decT c1, a_decT c2, e1] at h
      have h : Nat.beq r r = false := by simpa using h
      rw [Nat.beq_refl] at h
      cases h
    · exact a_hits_ok k1 k2 h.2 ⟨x, e, e1, e2, e3⟩
theorem a_flt_mem {α : Type} {f : α → Bool} {x : α} : ∀ {l : List α}, x ∈ a_flt f l → x ∈ l ∧ f x = true
  | [], h => by cases h
  | a :: l, h => by
    have h : x ∈ cond (f a) (a :: a_flt f l) (a_flt f l) := h
    cases hf : f a with
    | true =>
      rw [hf] at h
      rcases List.mem_cons.mp h with e | e
      · rw [e]; exact ⟨List.mem_cons_self, hf⟩
      · exact ⟨List.mem_cons_of_mem _ (a_flt_mem e).1, (a_flt_mem e).2⟩
    | false =>
      rw [hf] at h
      exact ⟨List.mem_cons_of_mem _ (a_flt_mem h).1, (a_flt_mem h).2⟩
section AH
variable {X : aX} {ρ : Nat → Int} {q : aQ} {h : zH}
/-- the flags that stay behind a change -/
theorem a_fkeep1 (hX : aOK X) {r : Nat} {lo hi : Int} {h' : zH} (hh : ∀ a k : Nat, ¬ (a = r ∧ lo ≤ (k : Int) ∧ (k : Int) ≤ hi) → h' a k = h a k) {j : Nat} (h1 : X.2.2.1 j h) (h2 : a_fkeep X.1.2.1 r lo hi j = true) : X.2.2.1 j h' := by
  unfold a_fkeep at h2
  split at h2
  · rename_i m hm
    refine hX.1.1 j m hm h h' (fun a k hk => hh a k (fun ⟨e1, e2, e3⟩ => ?_)) h1
    subst e1
    have h2 : a_hits m a lo hi = false := by simpa using h2
    exact a_hits_ok e2 e3 h2 hk
  · cases h2
theorem a_fkeep_ok (hX : aOK X) (g : aDen X ρ q h) {r : Nat} {lo hi : Int} {h' : zH} (hh : ∀ a k : Nat, ¬ (a = r ∧ lo ≤ (k : Int) ∧ (k : Int) ≤ hi) → h' a k = h a k) : ∀ j ∈ a_flt (a_fkeep X.1.2.1 r lo hi) q.2.2.2.2, X.2.2.1 j h' := by
  intro j hj
  obtain ⟨h1, h2⟩ := a_flt_mem hj
  exact a_fkeep1 hX hh (g.2.2.2.1 j h1) h2
theorem a_anyO_ok {p : (Nat × Nat × Int) × aV → Bool} : ∀ {O : aO}, a_anyO p O = true → ∃ e ∈ O, p e = true
  | [], h => by cases h
  | e :: O, h => by
    have h : (p e || a_anyO p O) = true := h
    rw [Bool.or_eq_true] at h
    rcases h with h | h
    · exact ⟨e, List.mem_cons_self, h⟩
    · obtain ⟨x, h1, h2⟩ := a_anyO_ok h
      exact ⟨x, List.mem_cons_of_mem _ h1, h2⟩
theorem a_memF_ok {j : Nat} : ∀ {l : List Nat}, a_memF j l = true → j ∈ l
  | [], h => by cases h
  | a :: l, h => by
    have h : (Nat.beq a j || a_memF j l) = true := h
    rw [Bool.or_eq_true] at h
    rcases h with h | h
    · rw [Nat.eq_of_beq_eq_true h]; exact List.mem_cons_self
    · exact List.mem_cons_of_mem _ (a_memF_ok h)
theorem a_sameV_ok {v w : aV} (h : a_sameV v w = true) : v = w := by
  unfold a_sameV at h
  simp only [Bool.and_eq_true, a_dec_eq] at h
  exact Prod.ext (Nat.eq_of_beq_eq_true h.1) (Prod.ext (Nat.eq_of_beq_eq_true h.2.1) h.2.2)
theorem a_soI_ok {B : Nat} {lo hi : Int} {k : Nat} (h : a_soI B lo hi = true) (h1 : lo ≤ (k : Int)) (h2 : (k : Int) ≤ hi) : rIn B k := by
  unfold a_soI at h
  simp only [Bool.or_eq_true, Bool.and_eq_true, a_dec_eq] at h
  have e1 : Int.ofNat (B + 245) = ((B + 245 : Nat) : Int) := rfl
  have e2 : Int.ofNat (B + 250) = ((B + 250 : Nat) : Int) := rfl
  have e3 : Int.ofNat (B + 257) = ((B + 257 : Nat) : Int) := rfl
  have e4 : Int.ofNat (B + 262) = ((B + 262 : Nat) : Int) := rfl
  rw [e1, e2, e3, e4] at h
  unfold rIn
  omega
theorem a_soA_ok (g : aDen X ρ q h) {B : Nat} {vh z : Int} (hz : z ≤ vh) (hb : a_soA q B vh = true) : rCb h 126 B z := by
  unfold a_soA at hb
  split at hb
  · rename_i c d hc hd
    have rc := (a_oget_ok g.2.2.1 hc).2
    have rd := (a_oget_ok g.2.2.1 hd).2
    split at hb
    · rename_i b hk
      obtain ⟨cl, ch, hk, c1, c2⟩ := a_rng_den hk g rc
      obtain ⟨dl, dh, hk, d1, d2⟩ := a_rng_den hk g rd
      have hk := Option.some.inj hk
      rw [hb, Bool.and_eq_true, Bool.and_eq_true, a_dec_eq, a_dec_eq, a_dec_eq] at hk
      obtain ⟨k1, k2, k3⟩ := hk
      right
      have c1 : cl ≤ (h 126 B).2 := c1
      have d1 : dl ≤ (h 126 (B + 1)).2 := d1
      have := Int.mul_le_mul c1 d1 k2 (by omega)
      omega
    · cases hb
  · cases hb
theorem a_soB_ok (g : aDen X ρ q h) {B : Nat} {v : aV} {zv : zV} (hv : aR ρ q.1 v zv) (hA : rAl h 126 B) (hb : a_soB q B v = true) : rCb h 126 B zv.2 := by
  unfold a_soB at hb
  obtain ⟨e, he, hb⟩ := a_anyO_ok hb
  rw [Bool.and_eq_true, Bool.and_eq_true] at hb
  obtain ⟨b1, b2, b3⟩ := hb
  obtain ⟨g1, g2, g3⟩ := g.2.2.1 e he
  rw [Nat.eq_of_beq_eq_true b1, a_sameV_ok b2] at g3
  split at b3
  · rename_i b hk
    obtain ⟨l, u, hk, k1, k2⟩ := a_rngK_ok hk g.1.1
    have hk := Option.some.inj hk
    rw [b3] at hk
    have k1 : l ≤ aev ρ e.1.2.1 e.1.2.2 := k1
    have k2 : aev ρ e.1.2.1 e.1.2.2 ≤ u := k2
    have := hA _ (a_soI_ok (k := (aev ρ e.1.2.1 e.1.2.2).toNat) hk (by omega) (by omega))
    rw [g3.2] at this
    rw [hv.2]
    exact this
  · cases b3
theorem a_soC_ok (hX : aOK X) (g : aDen X ρ q h) {B : Nat} {v : aV} {zv : zV} (hv : aR ρ q.1 v zv) (hb : a_soC q B v = true) : rCb h 126 B zv.2 := by
  unfold a_soC at hb
  rw [Bool.and_eq_true, Bool.and_eq_true] at hb
  obtain ⟨b1, b2, b3⟩ := hb
  rw [Nat.eq_of_beq_eq_true b1]
  have hR : rRow h := (hX.2.2 351 h (by omega) (by omega)).mp (g.2.2.2.1 351 (a_memF_ok b2))
  split at b3
  · rename_i w hw
    have rw_ := (a_oget_ok g.2.2.1 hw).2
    obtain ⟨e, he, b3⟩ := a_anyO_ok b3
    rw [Bool.and_eq_true, Bool.and_eq_true, Bool.and_eq_true] at b3
    obtain ⟨c1, c2, c3, c4⟩ := b3
    obtain ⟨g1, g2, g3⟩ := g.2.2.1 e he
    rw [Nat.eq_of_beq_eq_true c1, a_sameV_ok c2] at g3
    have hl := a_leq_ok g c4
    have hl : aev ρ e.1.2.1 e.1.2.2 ≤ aev ρ w.2.1 w.2.2 + -1 := hl
    rw [← aR_val rw_] at hl
    split at c3
    · rename_i b hk
      obtain ⟨l, u, hk, k1, k2⟩ := a_rngK_ok hk g.1.1
      have hk := Option.some.inj hk
      rw [c3, a_dec_eq] at hk
      have k2 : aev ρ e.1.2.1 e.1.2.2 ≤ u := k2
      have hl : aev ρ e.1.2.1 e.1.2.2 ≤ (h 121 31).2 + -1 := hl
      have := hR (aev ρ e.1.2.1 e.1.2.2).toNat (by omega) (by omega)
      rw [g3.2] at this
      rw [hv.2]
      exact this
    · cases c3
  · cases b3
/-- a write of a good cell keeps the flags of those that stand -/
theorem a_soft_ok (hX : aOK X) (g : aDen X ρ q h) {r : Nat} {lo hi : Int} {v : aV} {zv : zV} {vh : Int} {j k : Nat} (hj : X.2.2.1 j h) (hv : aR ρ q.1 v zv) (hz : zv.2 ≤ vh) (h1 : lo ≤ (k : Int)) (h2 : (k : Int) ≤ hi) (hb : a_soft q r lo hi v vh j = true) : X.2.2.1 j (zset h r k zv) := by
  unfold a_soft at hb
  rw [Bool.and_eq_true, Bool.and_eq_true, Bool.and_eq_true, Bool.and_eq_true, a_bN_eq, Bool.and_eq_true, Bool.or_eq_true, Bool.or_eq_true] at hb
  obtain ⟨b1, b2, b3, -, b5, b6⟩ := hb
  have b1 : 344 < j := Nat.le_of_ble_eq_true b1
  have b2 : j < 350 := Nat.le_of_ble_eq_true b2
  have b3 := Nat.eq_of_beq_eq_true b3
  subst b3
  have e : ∀ h, rFx j h ↔ rAl h 126 (550 * (j - 345)) := fun h => by unfold rFx; rw [if_pos b2]
  have hA := (e h).mp ((hX.2.2 j h (by omega) (by omega)).mp hj)
  have hg : rCb h 126 (550 * (j - 345)) zv.2 := by
    rcases b6 with b | b | b
    · exact a_soA_ok g hz b
    · exact a_soB_ok g hv hA b
    · exact a_soC_ok hX g hv b
  have hin := a_soI_ok b5 h1 h2
  refine (hX.2.2 j _ (by omega) (by omega)).mpr ((e _).mpr fun k' hk' => ?_)
  have e0 : zset h 126 k zv 126 (550 * (j - 345)) = h 126 (550 * (j - 345)) := if_neg (fun c => by unfold rIn at hin; omega)
  have e1 : zset h 126 k zv 126 (550 * (j - 345) + 1) = h 126 (550 * (j - 345) + 1) := if_neg (fun c => by unfold rIn at hin; omega)
  unfold rCb
  rw [e0, e1]
  by_cases c : k' = k
  · have e2 : zset h 126 k zv 126 k' = zv := if_pos ⟨rfl, c⟩
    rw [e2]; exact hg
  · have e2 : zset h 126 k zv 126 k' = h 126 k' := if_neg (fun d => c d.2)
    rw [e2]; exact hA k' hk'
theorem a_okeep_ok {E : aB} {n : Nat} (he : ∀ x ∈ E, x.1 < n ∧ x.2.1 ≤ ρ x.1 ∧ ρ x.1 ≤ x.2.2) {r s : Nat} {o lo hi : Int} {e : (Nat × Nat × Int) × aV} (hk : a_okeep E r s o lo hi e = true) (he0 : 0 ≤ aev ρ e.1.2.1 e.1.2.2) : e.1.1 ≠ r ∨ (e.1.2.1 = s ∧ e.1.2.2 ≠ o) ∨ aev ρ e.1.2.1 e.1.2.2 < lo ∨ hi < aev ρ e.1.2.1 e.1.2.2 := by
  unfold a_okeep at hk
  rw [Bool.or_eq_true, Bool.or_eq_true, Bool.and_eq_true] at hk
  rcases hk with hk | ⟨h1, h2⟩ | hk
  · left
    intro e1
    rw [e1, Nat.beq_refl] at hk
    cases hk
  · right; left
    refine ⟨Nat.eq_of_beq_eq_true h1, fun e1 => ?_⟩
    rw [a_decT e1] at h2
    cases h2
  · right; right
    split at hk
    · rename_i b hb
      obtain ⟨l, u, hf, h1, h2⟩ := a_rngK_ok (ρ := ρ) hb he
      have hf := Option.some.inj hf
      rw [hk, Bool.or_eq_true, a_dec_eq, a_dec_eq] at hf
      have h1 : l ≤ aev ρ e.1.2.1 e.1.2.2 := h1
      have h2 : aev ρ e.1.2.1 e.1.2.2 ≤ u := h2
      omega
    · cases hk
theorem aev_inj {s : Nat} {o o' : Int} (h : aev ρ s o = aev ρ s o') : o = o' := by
  cases s with
  | zero => exact h
  | succ i => have h : ρ i + o = ρ i + o' := h; omega
theorem a_wrK_ok {β : Type} (hX : aOK X) {r s : Nat} {o lo hi : Int} {v : aV} {zv : zV} {l : aTc} {f : aQ → Option β} {res : β} (hr : a_wrK X.1 X.2.2.2.2 q r s o lo hi v l f = some res) (g : aDen X ρ q h) (hl : a_at X.1.1 r = some l) (hs : s ≤ q.1) (h0 : 0 ≤ lo) (h1 : lo ≤ aev ρ s o) (h2 : aev ρ s o ≤ hi) (hv : aR ρ q.1 v zv) : ∃ q', f q' = some res ∧ q'.1 = q.1 ∧ aDen X ρ q' (zset h r (aev ρ s o).toNat zv) := by
  unfold a_wrK at hr
  obtain ⟨vl, vh, hr, b1, b2⟩ := a_rng_den hr g hv
  rcases x_condT hr with ⟨hc, hr⟩ | ⟨-, hr⟩
  · rw [Bool.and_eq_true] at hc
    rw [x_spine_eq, x_spine_eq] at hr
    have hk : zv.1 = v.1 := by rw [hv.2]
    have hz : ((aev ρ s o).toNat : Int) = aev ρ s o := by omega
    have hh : ∀ a k : Nat, ¬ (a = r ∧ lo ≤ (k : Int) ∧ (k : Int) ≤ hi) → zset h r (aev ρ s o).toNat zv a k = h a k := by
      intro a k hn
      show (if a = r ∧ k = (aev ρ s o).toNat then zv else h a k) = h a k
      rw [if_neg (fun e => hn ⟨e.1, by omega, by omega⟩)]
    refine ⟨_, hr, rfl, g.1, fun a l' hl' => ?_, fun e he => ?_, fun j hj => ?_, fun a k hn => ?_, g.2.2.2.2.2⟩
    · by_cases e : a = r
      · subst e
        rw [hl] at hl'
        cases hl'
        rw [zset_self]
        exact a_accsF_ok (k := (aev ρ s o).toNat) hk b1 b2 (by omega) (by omega) hc.1 (g.2.1 a l hl)
      · rw [zset_other h r (aev ρ s o).toNat zv a e]
        exact g.2.1 a l' hl'
    · rcases List.mem_cons.mp he with e1 | e1
      · rw [e1]
        refine ⟨hs, by show 0 ≤ aev ρ s o; omega, ?_⟩
        show aR ρ q.1 v (if r = r ∧ (aev ρ s o).toNat = (aev ρ s o).toNat then zv else _)
        rw [if_pos ⟨rfl, rfl⟩]
        exact hv
      · obtain ⟨m1, m2⟩ := a_flt_mem e1
        obtain ⟨g1, g2, g3⟩ := g.2.2.1 e m1
        refine ⟨g1, g2, ?_⟩
        have := a_okeep_ok g.1.1 m2 g2
        show aR ρ q.1 e.2 (if e.1.1 = r ∧ (aev ρ e.1.2.1 e.1.2.2).toNat = (aev ρ s o).toNat then zv else h e.1.1 (aev ρ e.1.2.1 e.1.2.2).toNat)
        rw [if_neg (fun c => ?_)]
        · exact g3
        · rcases this with d | ⟨d1, d2⟩ | d
          · exact d c.1
          · apply d2
            have : aev ρ e.1.2.1 e.1.2.2 = aev ρ s o := by omega
            rw [d1] at this
            exact aev_inj this
          · omega
    · obtain ⟨m1, m2⟩ := a_flt_mem hj
      rw [Bool.or_eq_true] at m2
      rcases m2 with m2 | m2
      · exact a_fkeep1 hX hh (g.2.2.2.1 j m1) m2
      · exact a_soft_ok hX g (g.2.2.2.1 j m1) hv b2 (by omega) (by omega) m2
    · rw [hh a k (fun ⟨e1, e2, e3⟩ => ?_)]
      · exact g.2.2.2.2.1 a k hn
      · subst e1
        exact hn (a_mod_ok e2 e3 hc.2)
  · cases hr
theorem aDen.addO (g : aDen X ρ q h) {e : (Nat × Nat × Int) × aV} (h1 : e.1.2.1 ≤ q.1) (h2 : 0 ≤ aev ρ e.1.2.1 e.1.2.2) (h3 : aR ρ q.1 e.2 (h e.1.1 (aev ρ e.1.2.1 e.1.2.2).toNat)) : aDen X ρ (a_addO q e) h := by
  refine ⟨g.1, g.2.1, fun x hx => ?_, g.2.2.2.1, g.2.2.2.2.1, g.2.2.2.2.2⟩
  rcases List.mem_cons.mp hx with e1 | e1
  · rw [e1]; exact ⟨h1, h2, h3⟩
  · exact g.2.2.1 x e1
theorem a_readK_ok {t : aT} {r s : Nat} {o : Int} {f : aQ → aV → Option (List aOut)} {outs : List aOut} (hr : a_readK t q (r, s, o) f = some outs) (g : aDen X ρ q h) (hs : s ≤ q.1) (h0 : 0 ≤ aev ρ s o) (ht : atin t (h r (aev ρ s o).toNat)) : ∃ outs', (∀ x ∈ outs', x ∈ outs) ∧ aMk X ρ q h (h r (aev ρ s o).toNat) f outs' := by
  obtain ⟨k, l, u, rs⟩ := t
  obtain ⟨zv, hzv⟩ : ∃ zv, zv = h r (aev ρ s o).toNat := ⟨_, rfl⟩
  rw [← hzv] at ht ⊢
  have num : ∀ k : Nat, zv.1 = k → l ≤ zv.2 → zv.2 ≤ u → a_newK k l u q (fun q v => f (a_addO q ((r, s, o), v)) v) = some outs → ∃ outs', (∀ x ∈ outs', x ∈ outs) ∧ aMk X ρ q h zv f outs' := by
    intro k e1 e2 e3 hr
    obtain ⟨q', v, ρ', hf, ha, hn, g', hv⟩ := a_newK_ok hr g e2 e3
    have hv2 : aR ρ' q'.1 v zv := by rw [← e1] at hv; exact hv
    have hs' := aev_ag ha (o := o) hs
    exact ⟨outs, fun _ hx => hx, _, v, ρ', hf, ha, hn, g'.addO (e := ((r, s, o), v)) (by show s ≤ q'.1; omega) (by show 0 ≤ aev ρ' s o; rw [hs']; exact h0) (by show aR ρ' q'.1 v (h r (aev ρ' s o).toNat); rw [hs', ← hzv]; exact hv2), hv2⟩
  match k, ht, hr with
  | 0, ⟨e1, e2, e3⟩, hr => exact num 0 e1 e2 e3 hr
  | 1, ⟨e1, e2, e3⟩, hr => exact num 1 e1 e2 e3 hr
  | 2, ⟨z, e1, e2⟩, hr =>
    have go : ∀ (rs : List Int) (outs : List aOut), List.rec (motive := fun _ => Option (List aOut)) (some []) (fun z _ ih => a_app (cond (@decide (z = -1) (a_decEqZ _ _)) (f (a_addO q ((r, s, o), (4, 0, 0))) (4, 0, 0)) (f (a_addO q ((r, s, o), (2, 0, z))) (2, 0, z))) ih) rs = some outs → z ∈ rs → ∃ outs', (∀ x ∈ outs', x ∈ outs) ∧ aMk X ρ q h zv f outs' := by
      intro rs
      induction rs with
      | nil => exact fun outs _ hm => by cases hm
      | cons a rs ih =>
        intro outs hr hm
        obtain ⟨ra, rb, ha, hb, rfl⟩ := a_app_ok hr
        by_cases haz : z = a
        · subst haz
          by_cases hz : z = -1
          · rw [a_decT hz] at ha
            rw [if_pos hz] at e2
            have hv : aR ρ q.1 (4, 0, 0) zv := ⟨Nat.zero_le _, e2⟩
            exact ⟨ra, fun x hx => List.mem_append_left _ hx, ⟨a_addO q ((r, s, o), (4, 0, 0)), (4, 0, 0), ρ, ha, aAg.refl _ _, Nat.le_refl _, g.addO (e := ((r, s, o), (4, 0, 0))) hs h0 (by show aR ρ q.1 (4, 0, 0) (h r (aev ρ s o).toNat); rw [← hzv]; exact hv), hv⟩⟩
          · rw [a_decN hz] at ha
            rw [if_neg hz] at e2
            have hv : aR ρ q.1 (2, 0, z) zv := ⟨Nat.zero_le _, e2⟩
            exact ⟨ra, fun x hx => List.mem_append_left _ hx, ⟨a_addO q ((r, s, o), (2, 0, z)), (2, 0, z), ρ, ha, aAg.refl _ _, Nat.le_refl _, g.addO (e := ((r, s, o), (2, 0, z))) hs h0 (by show aR ρ q.1 (2, 0, z) (h r (aev ρ s o).toNat); rw [← hzv]; exact hv), hv⟩⟩
        · obtain ⟨outs', i1, i2⟩ := ih rb hb ((List.mem_cons.mp hm).resolve_left haz)
          exact ⟨outs', fun x hx => List.mem_append_right _ (i1 x hx), i2⟩
    exact go rs outs hr e1
  | n + 3, _, hr => cases hr
end AH
end
section
/-! THE WATCHER'S INSTRUCTIONS HOLD -/
def aOutN (o : aOut) : Nat := match o with
  | .inl r => r.1.1
  | .inr (.inl q) => q.2.1.1
  | .inr (.inr q) => q.2.2.2.1.1
/-- what a step of the concrete machine comes to is among the outcomes -/
def aCov (X : aX) (ρ : Nat → Int) (n : Nat) (outs : List aOut) (zo : zO) : Prop := ∃ o ∈ outs, ∃ ρ', aAg ρ ρ' n ∧ n ≤ aOutN o ∧ aOutD X ρ' o zo
theorem aCov.sub {X : aX} {ρ : Nat → Int} {n : Nat} {outs outs' : List aOut} {zo : zO} (h : aCov X ρ n outs' zo) (hs : ∀ o ∈ outs', o ∈ outs) : aCov X ρ n outs zo := by
  obtain ⟨o, h1, h2⟩ := h
  exact ⟨o, hs o h1, h2⟩
section AI
variable {X : aX} {ρ : Nat → Int} {q : aQ} {L : aL} {S : List aV} {h : zH} {M : zL} {Z : List zV} {outs : List aOut} {nx : Nat}
theorem a_go_ok {st : aS} (hr : (some [.inr (.inl (nx, st))] : Option (List aOut)) = some outs) {z : zS} (hn : q.1 ≤ st.1.1) (hd : aStD X ρ st z) : aCov X ρ q.1 outs (.inr (.inl (nx, z))) := by
  cases hr
  exact ⟨_, List.mem_singleton.mpr rfl, ρ, aAg.refl _ _, hn, rfl, hd⟩
theorem a_push_ok {z : zV} (hm : aMk X ρ q h z (a_push nx L S) outs) (hL : aRL ρ q.1 L M) (hS : aRl ρ q.1 S Z) : aCov X ρ q.1 outs (.inr (.inl (nx, h, M, z :: Z))) := by
  obtain ⟨q', v, ρ', hf, ha, hn, hd, hv⟩ := hm
  have hf := Option.some.inj hf
  subst hf
  exact ⟨_, List.mem_singleton.mpr rfl, ρ', ha, hn, rfl, hd, hL.mono hn ha, hv, hS.mono hn ha⟩
theorem a_two_ok {t : Nat} {f : aV → aV → List aV → Option (List aOut)} (hr : a_two t S f = some outs) {n : Nat} (hS : aRl ρ n S Z) : ∃ x y S' zx zy Z', f x y S' = some outs ∧ Z = (t, zy) :: (t, zx) :: Z' ∧ aR ρ n x (t, zx) ∧ aR ρ n y (t, zy) ∧ aRl ρ n S' Z' := by
  unfold a_two at hr
  split at hr
  · rename_i y x S'
    rcases x_condT hr with ⟨hc, hr⟩ | ⟨-, hr⟩
    · rw [Bool.and_eq_true] at hc
      match Z, hS with
      | zy :: zx :: Z, ⟨hy, hx, hs⟩ =>
        have e1 : zy = (t, zy.2) := by rw [hy.2, Nat.eq_of_beq_eq_true hc.1]
        have e2 : zx = (t, zx.2) := by rw [hx.2, Nat.eq_of_beq_eq_true hc.2]
        exact ⟨x, y, S', zx.2, zy.2, Z, hr, by rw [← e1, ← e2], by rw [← e2]; exact hx, by rw [← e1]; exact hy, hs⟩
    · cases hr
  · cases hr
theorem a_one_ok {t : Nat} {f : aV → List aV → Option (List aOut)} (hr : a_one t S f = some outs) {n : Nat} (hS : aRl ρ n S Z) : ∃ x S' zx Z', f x S' = some outs ∧ Z = (t, zx) :: Z' ∧ aR ρ n x (t, zx) ∧ aRl ρ n S' Z' := by
  unfold a_one at hr
  split at hr
  · rename_i x S'
    rcases x_condT hr with ⟨hc, hr⟩ | ⟨-, hr⟩
    · match Z, hS with
      | zx :: Z, ⟨hx, hs⟩ =>
        have e2 : zx = (t, zx.2) := by rw [hx.2, Nat.eq_of_beq_eq_true hc]
        exact ⟨x, S', zx.2, Z, hr, by rw [← e2], by rw [← e2]; exact hx, hs⟩
    · cases hr
  · cases hr
theorem a_kind_ok {v : aV} {z : zV} {n : Nat} (hv : aR ρ n v z) : zkind z = a_kind v := by
  rw [hv.2]
  obtain ⟨t, s, o⟩ := v
  show (if t = 3 then 2 else t) = cond (Nat.beq t 3) 2 t
  cases hb : Nat.beq t 3 with
  | true => rw [if_pos (Nat.eq_of_beq_eq_true hb)]; rfl
  | false => rw [if_neg (Nat.ne_of_beq_eq_false hb)]; rfl
theorem a_cat_ok {v : aV} {z : zV} {n : Nat} (hv : aR ρ n v z) : zcat z = a_cat v := by
  rw [hv.2]
  obtain ⟨t, s, o⟩ := v
  show (if t = 1 then 2 else 1) = cond (Nat.beq t 1) 2 1
  cases hb : Nat.beq t 1 with
  | true => rw [if_pos (Nat.eq_of_beq_eq_true hb)]; rfl
  | false => rw [if_neg (Nat.ne_of_beq_eq_false hb)]; rfl
theorem a_sum_ok {n : Nat} : ∀ {S : List aV} {Z : List zV}, aRl ρ n S Z → zsum Z = a_sum S
  | [], [], _ => rfl
  | v :: S, z :: Z, ⟨hv, hs⟩ => by
    show zcat z + zsum Z = a_cat v + a_sum S
    rw [a_cat_ok hv, a_sum_ok hs]
theorem a_lget_ok {n i : Nat} {v : aV} : ∀ {L : aL}, aRL ρ n L M → a_lget L i = some v → ∃ z, M i = some z ∧ aR ρ n v z
  | [], _, h => by cases h
  | p :: L, hL, h => by
    have h : cond (Nat.beq p.1 i) (some p.2) (a_lget L i) = some v := h
    rcases x_condT h with ⟨hc, h⟩ | ⟨-, h⟩
    · cases h
      obtain ⟨z, h1, h2⟩ := hL p List.mem_cons_self
      rw [Nat.eq_of_beq_eq_true hc] at h1
      exact ⟨z, h1, h2⟩
    · exact a_lget_ok (fun x hx => hL x (List.mem_cons_of_mem _ hx)) h
theorem a_put1_ok {n i : Nat} {v : aV} {z : zV} (hL : aRL ρ n L M) (hv : aR ρ n v z) : aRL ρ n ((i, v) :: a_flt (a_keep1 i) L) (zput1 M i z) := by
  intro p hp
  rcases List.mem_cons.mp hp with e | e
  · rw [e]
    exact ⟨z, if_pos rfl, hv⟩
  · obtain ⟨h1, h2⟩ := a_flt_mem e
    obtain ⟨w, w1, w2⟩ := hL p h1
    unfold a_keep1 at h2
    rw [Bool.and_eq_true] at h2
    refine ⟨w, ?_, w2⟩
    unfold zput1
    have hne : p.1 ≠ i := by
      intro e1
      rw [e1, Nat.beq_refl] at h2
      exact absurd h2.1 (by decide)
    rw [if_neg hne, w1]
    show (if p.1 + 1 = i ∧ zcat w = 2 then none else some w) = some w
    rw [if_neg (fun c => ?_)]
    have h3 := h2.2
    rw [c.1, Nat.beq_refl] at h3
    have : Nat.beq p.2.1 1 = true := by
      have c2 := c.2
      rw [a_cat_ok w2] at c2
      unfold a_cat at c2
      cases hb : Nat.beq p.2.1 1 with
      | true => rfl
      | false => rw [hb] at c2; cases c2
    rw [this] at h3
    exact absurd h3 (by decide)
theorem a_put2_ok {n i : Nat} {v : aV} {z : zV} (hL : aRL ρ n L M) (hv : aR ρ n v z) : aRL ρ n ((i, v) :: a_flt (a_keep2 i) L) (zput2 M i z) := by
  intro p hp
  rcases List.mem_cons.mp hp with e | e
  · rw [e]
    exact ⟨z, if_pos rfl, hv⟩
  · obtain ⟨h1, h2⟩ := a_flt_mem e
    obtain ⟨w, w1, w2⟩ := hL p h1
    unfold a_keep2 at h2
    rw [Bool.and_eq_true, Bool.and_eq_true] at h2
    refine ⟨w, ?_, w2⟩
    unfold zput2
    have hne : p.1 ≠ i := by
      intro e1
      rw [e1, Nat.beq_refl] at h2
      exact absurd h2.1 (by decide)
    have hne2 : p.1 ≠ i + 1 := by
      intro e1
      rw [e1, Nat.beq_refl] at h2
      exact absurd h2.2.1 (by decide)
    rw [if_neg hne, if_neg hne2, w1]
    show (if p.1 + 1 = i ∧ zcat w = 2 then none else some w) = some w
    rw [if_neg (fun c => ?_)]
    have h3 := h2.2.2
    rw [c.1, Nat.beq_refl] at h3
    have : Nat.beq p.2.1 1 = true := by
      have c2 := c.2
      rw [a_cat_ok w2] at c2
      unfold a_cat at c2
      cases hb : Nat.beq p.2.1 1 with
      | true => rfl
      | false => rw [hb] at c2; cases c2
    rw [this] at h3
    exact absurd h3 (by decide)
theorem a32 (x : Int32) : a_lo 0 ≤ x.toInt ∧ x.toInt ≤ a_hi 0 := by
  have h1 := Int32.le_toInt x
  have h2 := Int32.toInt_lt x
  show (-2147483648 : Int) ≤ _ ∧ _ ≤ (2147483647 : Int)
  omega
theorem a64 (x : Int64) : a_lo 1 ≤ x.toInt ∧ x.toInt ≤ a_hi 1 := by
  have h1 := Int64.le_toInt x
  have h2 := Int64.toInt_lt x
  show (-9223372036854775808 : Int) ≤ _ ∧ _ ≤ (9223372036854775807 : Int)
  omega
theorem a32of {z : Int} (h1 : a_lo 0 ≤ z) (h2 : z ≤ a_hi 0) : (Int32.ofInt z).toInt = z := by
  have h1 : (-2147483648 : Int) ≤ z := h1
  have h2 : z ≤ (2147483647 : Int) := h2
  exact Int32.toInt_ofInt_of_le (by omega) (by omega)
theorem a64of {z : Int} (h1 : a_lo 1 ≤ z) (h2 : z ≤ a_hi 1) : (Int64.ofInt z).toInt = z := by
  have h1 : (-9223372036854775808 : Int) ≤ z := h1
  have h2 : z ≤ (9223372036854775807 : Int) := h2
  exact Int64.toInt_ofInt_of_le (by omega) (by omega)
/-- what the i-th instruction asks -/
def aStepOK (X : aX) (i : zX) : Prop := ∀ (ρ : Nat → Int) (q : aQ) (L : aL) (S : List aV) (outs : List aOut) (h : zH) (M : zL) (Z : List zV), ai X.1 X.2.2.2.2 i q L S = some outs → aDen X ρ q h → aRL ρ q.1 L M → aRl ρ q.1 S Z → ∃ zo, zi X.2.1 i (h, M, Z) = some zo ∧ aCov X ρ q.1 outs zo
theorem ap_push (a : Nat) (z : Int) (b : Nat) (cs : List (Int × Nat)) : aStepOK X (0, nx, a, b, z, cs) := by
  intro ρ q L S outs h M Z hr hd hL hS
  refine ⟨_, rfl, ?_⟩
  exact a_push_ok (aMk.here (f := a_push nx L S) (v := (a, 0, z)) hr hd ⟨Nat.zero_le _, rfl⟩) hL hS
theorem ap_goto (a b : Nat) (z : Int) (cs : List (Int × Nat)) : aStepOK X (1, nx, a, b, z, cs) := by
  intro ρ q L S outs h M Z hr hd hL hS
  exact ⟨_, rfl, a_go_ok hr (Nat.le_refl _) ⟨hd, hL, hS⟩⟩
theorem ap_load (a b : Nat) (z : Int) (cs : List (Int × Nat)) : aStepOK X (2, nx, a, b, z, cs) := by
  intro ρ q L S outs h M Z hr hd hL hS
  have hr : a_load nx a b q L S = some outs := hr
  unfold a_load at hr
  split at hr
  · rename_i v hg
    obtain ⟨zv, h1, h2⟩ := a_lget_ok hL hg
    rcases x_condT hr with ⟨hc, hr⟩ | ⟨-, hr⟩
    · have hk := (a_kind_ok h2).trans (Nat.eq_of_beq_eq_true hc)
      refine ⟨_, (show z_load nx a b (h, M, Z) = some (.inr (.inl (nx, h, M, zv :: Z))) from ?_), ?_⟩
      · unfold z_load
        show (match M a with
          | some v => if zkind v = b then znx nx (h, M, v :: Z) else none
          | none => none) = _
        rw [h1]
        show (if zkind zv = b then znx nx (h, M, zv :: Z) else none) = _
        rw [if_pos hk]; rfl
      · obtain ⟨w, hr, hw⟩ := a_nrmK_ok hr hd h2
        exact a_push_ok (aMk.here hr hd hw) hL hS
    · cases hr
  · cases hr
theorem ap_store1 (a b : Nat) (z : Int) (cs : List (Int × Nat)) : aStepOK X (3, nx, a, b, z, cs) := by
  intro ρ q L S outs h M Z hr hd hL hS
  have hr : a_store1 nx a b q L S = some outs := hr
  unfold a_store1 at hr
  split at hr
  · rename_i v S'
    rcases x_condT hr with ⟨hc, hr⟩ | ⟨-, hr⟩
    · match Z, hS with
      | zv :: Z, ⟨hv, hS⟩ =>
        rw [Bool.and_eq_true] at hc
        have hk := (a_kind_ok hv).trans (Nat.eq_of_beq_eq_true hc.1)
        have hb : b ≠ 1 := by
          intro e
          rw [e] at hc
          exact absurd hc.2 (by decide)
        refine ⟨_, (show z_store1 nx a b (h, M, zv :: Z) = some (.inr (.inl (nx, h, zput1 M a zv, Z))) from ?_), ?_⟩
        · show (if zkind zv = b ∧ b ≠ 1 then znx nx (h, zput1 M a zv, Z) else none) = _
          rw [if_pos ⟨hk, hb⟩]; rfl
        · unfold a_st1 at hr
          rw [x_spine_eq] at hr
          exact a_go_ok hr (Nat.le_refl _) ⟨hd, a_put1_ok hL hv, hS⟩
    · cases hr
  · cases hr
theorem ap_store2 (a b : Nat) (z : Int) (cs : List (Int × Nat)) : aStepOK X (4, nx, a, b, z, cs) := by
  intro ρ q L S outs h M Z hr hd hL hS
  have hr : a_store2 nx a q L S = some outs := hr
  unfold a_store2 at hr
  split at hr
  · rename_i v S'
    rcases x_condT hr with ⟨hc, hr⟩ | ⟨-, hr⟩
    · match Z, hS with
      | zv :: Z, ⟨hv, hS⟩ =>
        have e : zv = (1, zv.2) := by rw [hv.2, Nat.eq_of_beq_eq_true hc]
        rw [x_spine_eq] at hr
        refine ⟨_, (show z_store2 nx a (h, M, zv :: Z) = some (.inr (.inl (nx, h, zput2 M a zv, Z))) from ?_), ?_⟩
        · rw [e]; rfl
        · exact a_go_ok hr (Nat.le_refl _) ⟨hd, a_put2_ok hL hv, hS⟩
    · cases hr
  · cases hr
theorem ap_iinc (a b : Nat) (z : Int) (cs : List (Int × Nat)) : aStepOK X (5, nx, a, b, z, cs) := by
  intro ρ q L S outs h M Z hr hd hL hS
  have hr : a_iinc nx a z q L S = some outs := hr
  unfold a_iinc at hr
  split at hr
  · rename_i v hg
    obtain ⟨zv, h1, h2⟩ := a_lget_ok hL hg
    rcases x_condT hr with ⟨hc, hr⟩ | ⟨-, hr⟩
    · have e : zv = (0, zv.2) := by rw [h2.2, Nat.eq_of_beq_eq_true hc]
      refine ⟨_, (show z_iinc nx a z (h, M, Z) = some (.inr (.inl (nx, h, zput1 M a (0, (Int32.ofInt zv.2 + Int32.ofInt z).toInt), Z))) from ?_), ?_⟩
      · unfold z_iinc
        show (match M a with
          | some (0, x) => znx nx (h, zput1 M a (0, (Int32.ofInt x + Int32.ofInt z).toInt), Z)
          | _ => none) = _
        rw [h1, e]; rfl
      · obtain ⟨q', w, ρ', hf, ha, hn, hd', hw⟩ := a_shiftK_ok (z := (Int32.ofInt zv.2 + Int32.ofInt z).toInt) hr hd h2 (fun c1 c2 => by rw [← Int32.ofInt_add]; exact a32of c1 c2) (a32 _)
        have hf : a_st1 nx a w q' L S = some outs := hf
        unfold a_st1 at hf
        rw [x_spine_eq] at hf
        have hf := Option.some.inj hf
        subst hf
        exact ⟨_, List.mem_singleton.mpr rfl, ρ', ha, hn, rfl, hd', a_put1_ok (hL.mono hn ha) hw, hS.mono hn ha⟩
    · cases hr
  · cases hr
theorem ap_un32 (a b : Nat) (z : Int) (cs : List (Int × Nat)) : aStepOK X (6, nx, a, b, z, cs) := by
  intro ρ q L S outs h M Z hr hd hL hS
  have hr : a_un32 nx b q L S = some outs := hr
  unfold a_un32 at hr
  obtain ⟨x, S', zx, Z', hr, rfl, hx, hS⟩ := a_one_ok hr hS
  refine ⟨_, rfl, ?_⟩
  match b, hr with
  | 0, hr =>
    refine a_push_ok (a_negK_ok hr hd hx (fun c1 c2 => ?_) (a32 _)) hL hS
    show (-Int32.ofInt zx).toInt = -zx
    rw [← Int32.ofInt_neg]; exact a32of c1 c2
  | 1, hr =>
    refine a_push_ok (a_cutK_ok hr hd hx (fun c1 c2 => ?_) ?_) hL hS
    · show (Int32.ofInt zx).toInt8.toInt32.toInt = zx
      have c1 : (-128 : Int) ≤ zx := c1
      have c2 : zx ≤ (127 : Int) := c2
      rw [Int8.toInt_toInt32, Int32.toInt_toInt8, a32of (by show (-2147483648 : Int) ≤ zx; omega) (by show zx ≤ (2147483647 : Int); omega)]
      exact Int.bmod_eq_of_le (by omega) (by omega)
    · show -128 ≤ (Int32.ofInt zx).toInt8.toInt32.toInt ∧ (Int32.ofInt zx).toInt8.toInt32.toInt ≤ 127
      rw [Int8.toInt_toInt32]
      have h1 := Int8.le_toInt (Int32.ofInt zx).toInt8
      have h2 := Int8.toInt_lt (Int32.ofInt zx).toInt8
      omega
  | b + 2, hr =>
    refine a_push_ok (a_cutK_ok hr hd hx (fun c1 c2 => ?_) ?_) hL hS
    · show (Int32.ofInt zx).toInt16.toInt32.toInt = zx
      have c1 : (-32768 : Int) ≤ zx := c1
      have c2 : zx ≤ (32767 : Int) := c2
      rw [Int16.toInt_toInt32, Int32.toInt_toInt16, a32of (by show (-2147483648 : Int) ≤ zx; omega) (by show zx ≤ (2147483647 : Int); omega)]
      exact Int.bmod_eq_of_le (by omega) (by omega)
    · show -32768 ≤ (Int32.ofInt zx).toInt16.toInt32.toInt ∧ (Int32.ofInt zx).toInt16.toInt32.toInt ≤ 32767
      rw [Int16.toInt_toInt32]
      have h1 := Int16.le_toInt (Int32.ofInt zx).toInt16
      have h2 := Int16.toInt_lt (Int32.ofInt zx).toInt16
      omega
theorem a_and32 {x y : Int} (hx : a_lo 0 ≤ x ∧ x ≤ a_hi 0) (hy : a_lo 0 ≤ y ∧ y ≤ a_hi 0) : (0 ≤ x → 0 ≤ (Int32.ofInt x &&& Int32.ofInt y).toInt ∧ (Int32.ofInt x &&& Int32.ofInt y).toInt ≤ x) ∧ (0 ≤ y → 0 ≤ (Int32.ofInt x &&& Int32.ofInt y).toInt ∧ (Int32.ofInt x &&& Int32.ofInt y).toInt ≤ y) := by
  have e1 := a32of hx.1 hx.2
  have e2 := a32of hy.1 hy.2
  refine ⟨fun h0 => ?_, fun h0 => ?_⟩
  · have h := y_and_in (q := (x, x)) (r := (-1, -1)) (x := Int32.ofInt x) (y := Int32.ofInt y)
    by_cases hy0 : 0 ≤ y
    · have k := y_and_in (q := (x, x)) (r := (y, y)) (x := Int32.ofInt x) (y := Int32.ofInt y) (by rw [e1]; exact ⟨Int.le_refl _, Int.le_refl _⟩) (by rw [e2]; exact ⟨Int.le_refl _, Int.le_refl _⟩)
      have k2 := y_and_in (q := (y, y)) (r := (x, x)) (x := Int32.ofInt y) (y := Int32.ofInt x) (by rw [e2]; exact ⟨Int.le_refl _, Int.le_refl _⟩) (by rw [e1]; exact ⟨Int.le_refl _, Int.le_refl _⟩)
      unfold y_and at k2
      rw [a_decT h0] at k2
      rw [Int32.and_comm] at k2
      exact k2
    · have k2 := y_and_in (q := (y, y)) (r := (x, x)) (x := Int32.ofInt y) (y := Int32.ofInt x) (by rw [e2]; exact ⟨Int.le_refl _, Int.le_refl _⟩) (by rw [e1]; exact ⟨Int.le_refl _, Int.le_refl _⟩)
      unfold y_and at k2
      rw [a_decT h0] at k2
      rw [Int32.and_comm] at k2
      exact k2
  · have k := y_and_in (q := (x, x)) (r := (y, y)) (x := Int32.ofInt x) (y := Int32.ofInt y) (by rw [e1]; exact ⟨Int.le_refl _, Int.le_refl _⟩) (by rw [e2]; exact ⟨Int.le_refl _, Int.le_refl _⟩)
    unfold y_and at k
    rw [a_decT h0] at k
    exact k
theorem a_and64 {x y : Int} (hx : a_lo 1 ≤ x ∧ x ≤ a_hi 1) (hy : a_lo 1 ≤ y ∧ y ≤ a_hi 1) : (0 ≤ x → 0 ≤ (Int64.ofInt x &&& Int64.ofInt y).toInt ∧ (Int64.ofInt x &&& Int64.ofInt y).toInt ≤ x) ∧ (0 ≤ y → 0 ≤ (Int64.ofInt x &&& Int64.ofInt y).toInt ∧ (Int64.ofInt x &&& Int64.ofInt y).toInt ≤ y) := by
  have e1 := a64of hx.1 hx.2
  have e2 := a64of hy.1 hy.2
  refine ⟨fun h0 => ?_, fun h0 => ?_⟩
  · have k2 := yl_and_in (q := (y, y)) (r := (x, x)) (x := Int64.ofInt y) (y := Int64.ofInt x) (by rw [e2]; exact ⟨Int.le_refl _, Int.le_refl _⟩) (by rw [e1]; exact ⟨Int.le_refl _, Int.le_refl _⟩)
    unfold yl_and at k2
    rw [a_decT h0] at k2
    rw [Int64.and_comm] at k2
    exact k2
  · have k := yl_and_in (q := (x, x)) (r := (y, y)) (x := Int64.ofInt x) (y := Int64.ofInt y) (by rw [e1]; exact ⟨Int.le_refl _, Int.le_refl _⟩) (by rw [e2]; exact ⟨Int.le_refl _, Int.le_refl _⟩)
    unfold yl_and at k
    rw [a_decT h0] at k
    exact k
theorem a_and32x {x y : Int} (hx : a_lo 0 ≤ x ∧ x ≤ a_hi 0) (hy : a_lo 0 ≤ y ∧ y ≤ a_hi 0) (h0 : 0 ≤ x) (h1 : 0 ≤ y) : (Int32.ofInt x &&& Int32.ofInt y).toInt = Int.ofNat (Nat.land x.toNat y.toNat) := by
  have e1 := a32of hx.1 hx.2
  have e2 := a32of hy.1 hy.2
  obtain ⟨k1, k2⟩ := y_nat (x := Int32.ofInt x) (by omega)
  obtain ⟨k3, k4⟩ := y_nat (x := Int32.ofInt y) (by omega)
  have e3 : (Int32.ofInt x &&& Int32.ofInt y).toBitVec.toNat = Nat.land (Int32.ofInt x).toBitVec.toNat (Int32.ofInt y).toBitVec.toNat := by
    show ((Int32.ofInt x).toBitVec &&& (Int32.ofInt y).toBitVec).toNat = _
    rw [BitVec.toNat_and]
    rfl
  have e4 : (Int32.ofInt x &&& Int32.ofInt y).toBitVec.toNat < 2147483648 := by
    rw [e3]
    exact Nat.lt_of_le_of_lt Nat.and_le_left k2
  rw [y_ofNat e4, e3, show x.toNat = (Int32.ofInt x).toBitVec.toNat from by omega, show y.toNat = (Int32.ofInt y).toBitVec.toNat from by omega]
  rfl
theorem a_and64x {x y : Int} (hx : a_lo 1 ≤ x ∧ x ≤ a_hi 1) (hy : a_lo 1 ≤ y ∧ y ≤ a_hi 1) (h0 : 0 ≤ x) (h1 : 0 ≤ y) : (Int64.ofInt x &&& Int64.ofInt y).toInt = Int.ofNat (Nat.land x.toNat y.toNat) := by
  have e1 := a64of hx.1 hx.2
  have e2 := a64of hy.1 hy.2
  have key : ∀ {u : Int64}, 0 ≤ u.toInt → u.toInt = (u.toBitVec.toNat : Int) ∧ u.toBitVec.toNat < 9223372036854775808 := by
    intro u h
    have h1 : u.toInt = u.toBitVec.toInt := rfl
    rw [h1] at h ⊢
    rw [BitVec.toInt_eq_toNat_cond] at h ⊢
    have hlt := u.toBitVec.isLt
    split at h
    · rename_i hc
      rw [if_pos hc]
      exact ⟨rfl, by omega⟩
    · omega
  obtain ⟨k1, k2⟩ := key (u := Int64.ofInt x) (by omega)
  obtain ⟨k3, k4⟩ := key (u := Int64.ofInt y) (by omega)
  have e3 : (Int64.ofInt x &&& Int64.ofInt y).toBitVec.toNat = Nat.land (Int64.ofInt x).toBitVec.toNat (Int64.ofInt y).toBitVec.toNat := by
    show ((Int64.ofInt x).toBitVec &&& (Int64.ofInt y).toBitVec).toNat = _
    rw [BitVec.toNat_and]
    rfl
  have e4 : (Int64.ofInt x &&& Int64.ofInt y).toBitVec.toNat < 9223372036854775808 := by
    rw [e3]
    exact Nat.lt_of_le_of_lt Nat.and_le_left k2
  have e5 : (Int64.ofInt x &&& Int64.ofInt y).toInt = ((Int64.ofInt x &&& Int64.ofInt y).toBitVec.toNat : Int) := by
    show (Int64.ofInt x &&& Int64.ofInt y).toBitVec.toInt = _
    rw [BitVec.toInt_eq_toNat_of_lt (by omega)]
  rw [e5, e3, show x.toNat = (Int64.ofInt x).toBitVec.toNat from by omega, show y.toNat = (Int64.ofInt y).toBitVec.toNat from by omega]
  rfl
theorem a_shr32 {x k : Int} (k0 : 0 ≤ k) (k1 : k < 32) (x0 : 0 ≤ x) (x1 : x ≤ 2147483647) : (Int32.ofInt x >>> (Int32.ofInt k &&& 31)).toInt = x / ((2 ^ k.toNat : Nat) : Int) := by
  have e1 : (Int32.ofInt x).toInt = x := a32of (by show (-2147483648 : Int) ≤ x; omega) (by show x ≤ (2147483647 : Int); omega)
  obtain ⟨n, rfl⟩ : ∃ n : Nat, k = (n : Int) := ⟨k.toNat, by omega⟩
  have hn : n < 32 := by omega
  have hall : ∀ n : Nat, n < 32 → ((Int32.ofInt (n : Int) &&& 31).toBitVec.smod 32).toNat = n := by decide
  show (((Int32.ofInt x).toBitVec.sshiftRight' ((Int32.ofInt (n : Int) &&& 31).toBitVec.smod 32))).toInt = _
  rw [BitVec.sshiftRight_eq', BitVec.toInt_sshiftRight, hall n hn]
  have e2 : (Int32.ofInt x).toBitVec.toInt = x := e1
  rw [e2, Int.shiftRight_eq_div_pow]
  rfl
theorem ap_bin32 (a b : Nat) (z : Int) (cs : List (Int × Nat)) : aStepOK X (7, nx, a, b, z, cs) := by
  intro ρ q L S outs h M Z hr hd hL hS
  have hr : a_bin32 nx b q L S = some outs := hr
  unfold a_bin32 at hr
  obtain ⟨x, y, S', zx, zy, Z', hr, rfl, hx, hy, hS⟩ := a_two_ok hr hS
  refine ⟨_, rfl, ?_⟩
  split at hr
  · refine a_push_ok (a_addK_ok hr hd hx hy (fun c1 c2 => ?_) (a32 _)) hL hS
    show (Int32.ofInt zx + Int32.ofInt zy).toInt = zx + zy
    rw [← Int32.ofInt_add]; exact a32of c1 c2
  · refine a_push_ok (a_subK_ok hr hd hx hy (fun c1 c2 => ?_) (a32 _)) hL hS
    show (Int32.ofInt zx - Int32.ofInt zy).toInt = zx - zy
    rw [← Int32.ofInt_sub]; exact a32of c1 c2
  · refine a_push_ok (a_mulK_ok hr hd hx hy (fun c1 c2 => ?_) (a32 _)) hL hS
    show (Int32.ofInt zx * Int32.ofInt zy).toInt = zx * zy
    rw [← Int32.ofInt_mul]; exact a32of c1 c2
  · exact a_push_ok (a_andK_ok hr hd hx hy (fun c1 c2 => ⟨a_and32 c1 c2, a_and32x c1 c2⟩) (a32 _)) hL hS
  · exact a_push_ok (a_shrK_ok hr hd hx hy (fun c1 c2 c3 c4 => a_shr32 c1 c2 c3 c4) (a32 _)) hL hS
  · exact a_push_ok (a_anyK_ok hr hd (a32 _).1 (a32 _).2) hL hS
theorem a_div32q {x y : Int} (hy1 : 1 ≤ y) (hx0 : 0 ≤ x) (hx : x ≤ a_hi 0) (hy : y ≤ a_hi 0) : (Int32.ofInt x / Int32.ofInt y).toInt = x / y := by
  have hx2 : x ≤ (2147483647 : Int) := hx
  have hy2 : y ≤ (2147483647 : Int) := hy
  have e1 := a32of (z := x) (by show (-2147483648 : Int) ≤ x; omega) hx
  have e2 := a32of (z := y) (by show (-2147483648 : Int) ≤ y; omega) hy
  have hne : Int32.ofInt y ≠ -1 := fun e => by
    have h3 : (Int32.ofInt y).toInt = -1 := by rw [e]; rfl
    omega
  rw [Int32.toInt_div_of_ne_right _ _ hne, e1, e2, Int.tdiv_eq_ediv_of_nonneg hx0]
theorem a_div64q {x y : Int} (hy1 : 1 ≤ y) (hx0 : 0 ≤ x) (hx : x ≤ a_hi 1) (hy : y ≤ a_hi 1) : (Int64.ofInt x / Int64.ofInt y).toInt = x / y := by
  have hx2 : x ≤ (9223372036854775807 : Int) := hx
  have hy2 : y ≤ (9223372036854775807 : Int) := hy
  have e1 := a64of (z := x) (by show (-9223372036854775808 : Int) ≤ x; omega) hx
  have e2 := a64of (z := y) (by show (-9223372036854775808 : Int) ≤ y; omega) hy
  have hne : Int64.ofInt y ≠ -1 := fun e => by
    have h3 : (Int64.ofInt y).toInt = -1 := by rw [e]; rfl
    omega
  rw [Int64.toInt_div_of_ne_right _ _ hne, e1, e2, Int.tdiv_eq_ediv_of_nonneg hx0]
theorem ap_div32 (a b : Nat) (z : Int) (cs : List (Int × Nat)) : aStepOK X (8, nx, a, b, z, cs) := by
  intro ρ q L S outs h M Z hr hd hL hS
  have hr : a_div32 nx b q L S = some outs := hr
  unfold a_div32 at hr
  obtain ⟨x, y, S', zx, zy, Z', hr, rfl, hx, hy, hS⟩ := a_two_ok hr hS
  have fin : ∀ b : Nat, (zy ≠ 0 ∧ aMk X ρ q h (0, (zd32 b (Int32.ofInt zx) (Int32.ofInt zy)).toInt) (a_push nx L S') outs) → ∃ zo, zi X.2.1 (8, nx, a, b, z, cs) (h, M, (0, zy) :: (0, zx) :: Z') = some zo ∧ aCov X ρ q.1 outs zo := by
    intro b ⟨hne, hm⟩
    refine ⟨_, (show (if zy = 0 then none else znx nx (h, M, (0, (zd32 b (Int32.ofInt zx) (Int32.ofInt zy)).toInt) :: Z')) = _ from ?_), a_push_ok hm hL hS⟩
    rw [if_neg hne]; rfl
  match b, hr with
  | 0, hr => exact fin 0 (a_divK_ok hr hd hx hy (fun c1 c2 c3 c4 => a_div32q c1 c2 c3 c4) (a32 _))
  | b + 1, hr =>
    refine fin (b + 1) (a_rem32K_ok hr hd hx hy (fun c1 c2 => ?_) (a32 _))
    show (Int32.ofInt zx - Int32.ofInt zx / Int32.ofInt zy * Int32.ofInt zy).toInt = _
    rw [rem_toInt, a32of c1.1 c1.2, a32of c2.1 c2.2]
theorem ap_neg64 (a b : Nat) (z : Int) (cs : List (Int × Nat)) : aStepOK X (9, nx, a, b, z, cs) := by
  intro ρ q L S outs h M Z hr hd hL hS
  have hr : a_neg64 nx q L S = some outs := hr
  unfold a_neg64 at hr
  obtain ⟨x, S', zx, Z', hr, rfl, hx, hS⟩ := a_one_ok hr hS
  refine ⟨_, rfl, a_push_ok (a_negK_ok hr hd hx (fun c1 c2 => ?_) (a64 _)) hL hS⟩
  rw [← Int64.ofInt_neg]; exact a64of c1 c2
theorem ap_bin64 (a b : Nat) (z : Int) (cs : List (Int × Nat)) : aStepOK X (10, nx, a, b, z, cs) := by
  intro ρ q L S outs h M Z hr hd hL hS
  have hr : a_bin64 nx b q L S = some outs := hr
  unfold a_bin64 at hr
  obtain ⟨x, y, S', zx, zy, Z', hr, rfl, hx, hy, hS⟩ := a_two_ok hr hS
  refine ⟨_, rfl, ?_⟩
  split at hr
  · refine a_push_ok (a_addK_ok hr hd hx hy (fun c1 c2 => ?_) (a64 _)) hL hS
    show (Int64.ofInt zx + Int64.ofInt zy).toInt = zx + zy
    rw [← Int64.ofInt_add]; exact a64of c1 c2
  · refine a_push_ok (a_subK_ok hr hd hx hy (fun c1 c2 => ?_) (a64 _)) hL hS
    show (Int64.ofInt zx - Int64.ofInt zy).toInt = zx - zy
    rw [← Int64.ofInt_sub]; exact a64of c1 c2
  · refine a_push_ok (a_mulK_ok hr hd hx hy (fun c1 c2 => ?_) (a64 _)) hL hS
    show (Int64.ofInt zx * Int64.ofInt zy).toInt = zx * zy
    rw [← Int64.ofInt_mul]; exact a64of c1 c2
  · exact a_push_ok (a_andK_ok hr hd hx hy (fun c1 c2 => ⟨a_and64 c1 c2, a_and64x c1 c2⟩) (a64 _)) hL hS
  · exact a_push_ok (a_anyK_ok hr hd (a64 _).1 (a64 _).2) hL hS
theorem ap_div64 (a b : Nat) (z : Int) (cs : List (Int × Nat)) : aStepOK X (11, nx, a, b, z, cs) := by
  intro ρ q L S outs h M Z hr hd hL hS
  have hr : a_div64 nx b q L S = some outs := hr
  unfold a_div64 at hr
  obtain ⟨x, y, S', zx, zy, Z', hr, rfl, hx, hy, hS⟩ := a_two_ok hr hS
  have fin : ∀ b : Nat, (zy ≠ 0 ∧ aMk X ρ q h (1, (zd64 b (Int64.ofInt zx) (Int64.ofInt zy)).toInt) (a_push nx L S') outs) → ∃ zo, zi X.2.1 (11, nx, a, b, z, cs) (h, M, (1, zy) :: (1, zx) :: Z') = some zo ∧ aCov X ρ q.1 outs zo := by
    intro b ⟨hne, hm⟩
    refine ⟨_, (show (if zy = 0 then none else znx nx (h, M, (1, (zd64 b (Int64.ofInt zx) (Int64.ofInt zy)).toInt) :: Z')) = _ from ?_), a_push_ok hm hL hS⟩
    rw [if_neg hne]; rfl
  match b, hr with
  | 0, hr => exact fin 0 (a_divK_ok hr hd hx hy (fun c1 c2 c3 c4 => a_div64q c1 c2 c3 c4) (a64 _))
  | b + 1, hr =>
    refine fin (b + 1) (a_rem64K_ok hr hd hx hy (fun c1 c2 => ?_))
    show (Int64.ofInt zx - Int64.ofInt zx / Int64.ofInt zy * Int64.ofInt zy).toInt = _
    rw [z_rem64, a64of c1.1 c1.2, a64of c2.1 c2.2]
theorem ap_sh64 (a b : Nat) (z : Int) (cs : List (Int × Nat)) : aStepOK X (12, nx, a, b, z, cs) := by
  intro ρ q L S outs h M Z hr hd hL hS
  have hr : a_sh64 nx q L S = some outs := hr
  unfold a_sh64 at hr
  split at hr
  · rename_i y x S'
    rcases x_condT hr with ⟨hc, hr⟩ | ⟨-, hr⟩
    · rw [Bool.and_eq_true] at hc
      match Z, hS with
      | zy :: zx :: Z, ⟨hy, hx, hS⟩ =>
        have e1 : zy = (0, zy.2) := by rw [hy.2, Nat.eq_of_beq_eq_true hc.1]
        have e2 : zx = (1, zx.2) := by rw [hx.2, Nat.eq_of_beq_eq_true hc.2]
        refine ⟨_, (show z_sh64 nx b (h, M, zy :: zx :: Z) = some (.inr (.inl (nx, h, M, (1, (zs64 b (Int64.ofInt zx.2) (Int32.ofInt zy.2)).toInt) :: Z))) by rw [e1, e2]; rfl), ?_⟩
        exact a_push_ok (a_anyK_ok hr hd (a64 _).1 (a64 _).2) hL hS
    · cases hr
  · cases hr
theorem ap_i2l (a b : Nat) (z : Int) (cs : List (Int × Nat)) : aStepOK X (13, nx, a, b, z, cs) := by
  intro ρ q L S outs h M Z hr hd hL hS
  have hr : a_i2l nx q L S = some outs := hr
  unfold a_i2l at hr
  obtain ⟨x, S', zx, Z', hr, rfl, hx, hS⟩ := a_one_ok hr hS
  refine ⟨_, rfl, a_push_ok (aMk.here (f := a_push nx L S') (v := (1, x.2)) hr hd ⟨hx.1, ?_⟩) hL hS⟩
  have := aR_val hx
  exact congrArg _ this
theorem ap_l2i (a b : Nat) (z : Int) (cs : List (Int × Nat)) : aStepOK X (14, nx, a, b, z, cs) := by
  intro ρ q L S outs h M Z hr hd hL hS
  have hr : a_l2i nx q L S = some outs := hr
  unfold a_l2i at hr
  obtain ⟨x, S', zx, Z', hr, rfl, hx, hS⟩ := a_one_ok hr hS
  refine ⟨_, rfl, ?_⟩
  obtain ⟨lo, hi, hr, b1, b2⟩ := a_rng_den hr hd hx
  rcases x_condT hr with ⟨hc, hr⟩ | ⟨-, hr⟩
  · obtain ⟨c1, c2⟩ := a_in_ok hc
    refine a_push_ok (aMk.here (f := a_push nx L S') (v := (0, x.2)) hr hd ⟨hx.1, ?_⟩) hL hS
    have e := aR_val hx
    have b1 : lo ≤ zx := b1
    have b2 : zx ≤ hi := b2
    have c1 : (-2147483648 : Int) ≤ lo := c1
    have c2 : hi ≤ (2147483647 : Int) := c2
    have : (Int64.ofInt zx).toInt32.toInt = zx := by
      rw [Int64.toInt_toInt32, a64of (by show (-9223372036854775808 : Int) ≤ zx; omega) (by show zx ≤ (9223372036854775807 : Int); omega)]
      exact Int.bmod_eq_of_le (by omega) (by omega)
    rw [this]
    exact congrArg _ e
  · exact a_push_ok (a_anyK_ok hr hd (a32 _).1 (a32 _).2) hL hS
end AI
end
section
/-! THE WATCHER'S INSTRUCTIONS HOLD, second part -/
section AI2
variable {X : aX} {ρ : Nat → Int} {q : aQ} {L : aL} {S : List aV} {h : zH} {M : zL} {Z : List zV} {outs : List aOut} {nx : Nat}
theorem ap_stk (a b : Nat) (z : Int) (cs : List (Int × Nat)) : aStepOK X (15, nx, a, b, z, cs) := by
  intro ρ q L S outs h M Z hr hd hL hS
  have hr : a_stk nx b q L S = some outs := hr
  unfold a_stk at hr
  match S, Z, hS, hr with
  | [], _, _, hr => cases hr
  | v :: S, zv :: Z, ⟨hv, hS⟩, hr =>
    have hcat := a_cat_ok hv
    match b, hr with
    | 0, hr =>
      rcases x_condT hr with ⟨hc, hr⟩ | ⟨-, hr⟩
      · refine ⟨_, (show (if zcat zv = 1 then znx nx (h, M, Z) else none) = some (.inr (.inl (nx, h, M, Z))) from ?_), a_go_ok hr (Nat.le_refl _) ⟨hd, hL, hS⟩⟩
        rw [if_pos (hcat.trans (Nat.eq_of_beq_eq_true hc))]; rfl
      · cases hr
    | 1, hr =>
      rcases x_condT hr with ⟨hc, hr⟩ | ⟨-, hr⟩
      · refine ⟨_, (show (if zcat zv = 2 then znx nx (h, M, Z) else none) = some (.inr (.inl (nx, h, M, Z))) from ?_), a_go_ok hr (Nat.le_refl _) ⟨hd, hL, hS⟩⟩
        rw [if_pos (hcat.trans (Nat.eq_of_beq_eq_true hc))]; rfl
      · cases hr
    | 2, hr =>
      rcases x_condT hr with ⟨hc, hr⟩ | ⟨-, hr⟩
      · refine ⟨_, (show (if zcat zv = 1 then znx nx (h, M, zv :: zv :: Z) else none) = some (.inr (.inl (nx, h, M, zv :: zv :: Z))) from ?_), a_go_ok hr (Nat.le_refl _) ⟨hd, hL, hv, hv, hS⟩⟩
        rw [if_pos (hcat.trans (Nat.eq_of_beq_eq_true hc))]; rfl
      · cases hr
    | 3, hr =>
      match S, Z, hS, hr with
      | [], _, _, hr => cases hr
      | w :: S, zw :: Z, ⟨hw, hS⟩, hr =>
        have hcat2 := a_cat_ok hw
        have hr : cond (Nat.beq (a_cat v) 1 && Nat.beq (a_cat w) 1) (some [Sum.inr (Sum.inl (nx, q, L, v :: w :: v :: w :: S))]) none = some outs := hr
        rcases x_condT hr with ⟨hc, hr⟩ | ⟨-, hr⟩
        · rw [Bool.and_eq_true] at hc
          refine ⟨_, (show (if zcat zv = 1 ∧ zcat zw = 1 then znx nx (h, M, zv :: zw :: zv :: zw :: Z) else none) = some (.inr (.inl (nx, h, M, zv :: zw :: zv :: zw :: Z))) from ?_), a_go_ok hr (Nat.le_refl _) ⟨hd, hL, hv, hw, hv, hw, hS⟩⟩
          rw [if_pos ⟨hcat.trans (Nat.eq_of_beq_eq_true hc.1), hcat2.trans (Nat.eq_of_beq_eq_true hc.2)⟩]; rfl
        · cases hr
    | 4, hr =>
      rcases x_condT hr with ⟨hc, hr⟩ | ⟨-, hr⟩
      · refine ⟨_, (show (if zcat zv = 2 then znx nx (h, M, zv :: zv :: Z) else none) = some (.inr (.inl (nx, h, M, zv :: zv :: Z))) from ?_), a_go_ok hr (Nat.le_refl _) ⟨hd, hL, hv, hv, hS⟩⟩
        rw [if_pos (hcat.trans (Nat.eq_of_beq_eq_true hc))]; rfl
      · cases hr
    | b + 5, hr => cases hr
theorem a_goq_ok {q' : aQ} {st : zS} {n : Nat} (hr : a_go nx L S q' = some outs) (hn : n = q'.1) (hd : aDen X ρ q' st.1) (hL : aRL ρ n L st.2.1) (hS : aRl ρ n S st.2.2) : aCov X ρ n outs (.inr (.inl (nx, st))) := by
  subst hn
  exact a_go_ok hr (Nat.le_refl _) ⟨hd, hL, hS⟩
theorem ap_if (a b : Nat) (z : Int) (cs : List (Int × Nat)) : aStepOK X (16, nx, a, b, z, cs) := by
  intro ρ q L S outs h M Z hr hd hL hS
  have hr : a_if nx a b q L S = some outs := hr
  unfold a_if at hr
  obtain ⟨x, S', zx, Z', hr, rfl, hx, hS⟩ := a_one_ok hr hS
  obtain ⟨q', r', h1, h2, h3, h4, h5⟩ := a_br_ok hr hd hx (y := (0, 0, 0)) (zy := (0, 0)) ⟨Nat.zero_le _, rfl⟩
  refine ⟨_, (show z_if nx a b (h, M, (0, zx) :: Z') = some (.inr (.inl ((if zrel b zx 0 then a else nx), h, M, Z'))) from rfl), ?_⟩
  rcases h5 with ⟨e1, e2⟩ | ⟨e1, e2⟩
  · have e1 : zrel b zx 0 = true := e1
    rw [if_pos e1]
    exact (a_goq_ok e2 h2.symm h4 hL hS).sub h1
  · have e1 : zrel b zx 0 = false := e1
    rw [if_neg (by rw [e1]; decide)]
    exact (a_goq_ok e2 h2.symm h4 hL hS).sub h1
theorem ap_icmp (a b : Nat) (z : Int) (cs : List (Int × Nat)) : aStepOK X (17, nx, a, b, z, cs) := by
  intro ρ q L S outs h M Z hr hd hL hS
  have hr : a_icmp nx a b q L S = some outs := hr
  unfold a_icmp at hr
  obtain ⟨x, y, S', zx, zy, Z', hr, rfl, hx, hy, hS⟩ := a_two_ok hr hS
  obtain ⟨q', r', h1, h2, h3, h4, h5⟩ := a_br_ok hr hd hx hy
  refine ⟨_, (show z_icmp nx a b (h, M, (0, zy) :: (0, zx) :: Z') = some (.inr (.inl ((if zrel b zx zy then a else nx), h, M, Z'))) from rfl), ?_⟩
  rcases h5 with ⟨e1, e2⟩ | ⟨e1, e2⟩
  · have e1 : zrel b zx zy = true := e1
    rw [if_pos e1]
    exact (a_goq_ok e2 h2.symm h4 hL hS).sub h1
  · have e1 : zrel b zx zy = false := e1
    rw [if_neg (by rw [e1]; decide)]
    exact (a_goq_ok e2 h2.symm h4 hL hS).sub h1
theorem ap_lcmp (a b : Nat) (z : Int) (cs : List (Int × Nat)) : aStepOK X (18, nx, a, b, z, cs) := by
  intro ρ q L S outs h M Z hr hd hL hS
  have hr : a_lcmp nx q L S = some outs := hr
  unfold a_lcmp at hr
  obtain ⟨x, y, S', zx, zy, Z', hr, rfl, hx, hy, hS⟩ := a_two_ok hr hS
  refine ⟨_, (show z_lcmp nx (h, M, (1, zy) :: (1, zx) :: Z') = some (.inr (.inl (nx, h, M, (0, if zy < zx then 1 else if zx = zy then 0 else -1) :: Z'))) from rfl), ?_⟩
  obtain ⟨q', r', h1, h2, h3, h4, h5⟩ := a_br_ok hr hd hx hy
  rcases h5 with ⟨e1, e2⟩ | ⟨e1, e2⟩
  · have e1 : zx < zy := a_ofDec e1
    rw [if_neg (by omega), if_neg (by omega)]
    exact (a_goq_ok (st := (h, M, (0, -1) :: Z')) e2 h2.symm h4 hL ⟨⟨Nat.zero_le _, rfl⟩, hS⟩).sub h1
  · have e1 : ¬ zx < zy := a_ofDecF e1
    obtain ⟨q2, r2, g1, g2, g3, g4, g5⟩ := a_br_ok e2 h4 (by rw [h2]; exact hx) (by rw [h2]; exact hy)
    have hn : q.1 = q2.1 := (g2.trans h2).symm
    rcases g5 with ⟨f1, f2⟩ | ⟨f1, f2⟩
    · have f1 : zy < zx := a_ofDec f1
      rw [if_pos f1]
      exact (a_goq_ok (st := (h, M, (0, 1) :: Z')) f2 hn g4 hL ⟨⟨Nat.zero_le _, rfl⟩, hS⟩).sub (fun o ho => h1 o (g1 o ho))
    · have f1 : ¬ zy < zx := a_ofDecF f1
      rw [if_neg f1, if_pos (by omega)]
      exact (a_goq_ok (st := (h, M, (0, 0) :: Z')) f2 hn g4 hL ⟨⟨Nat.zero_le _, rfl⟩, hS⟩).sub (fun o ho => h1 o (g1 o ho))
theorem a_swR_ok {x : aV} {zx : Int} : ∀ {cs : List (Int × Nat)} {q : aQ} {outs : List aOut}, a_swR nx L S x cs q = some outs → aDen X ρ q h → aR ρ q.1 x (0, zx) → aRL ρ q.1 L M → aRl ρ q.1 S Z → aCov X ρ q.1 outs (.inr (.inl (zfind nx zx cs, h, M, Z)))
  | [], q, outs, hr, hd, hx, hL, hS => a_goq_ok hr rfl hd hL hS
  | c :: cs, q, outs, hr, hd, hx, hL, hS => by
    have hr : a_br 0 q x (0, 0, c.1) (a_swR nx L S x cs) (fun q => a_br 1 q x (0, 0, c.1) (a_swR nx L S x cs) (fun q => a_go c.2 L S q)) = some outs := hr
    show aCov X ρ q.1 outs (.inr (.inl ((if zx = c.1 then c.2 else zfind nx zx cs), h, M, Z)))
    obtain ⟨q', r', h1, h2, h3, h4, h5⟩ := a_br_ok hr hd hx (y := (0, 0, c.1)) (zy := (0, c.1)) ⟨Nat.zero_le _, rfl⟩
    rcases h5 with ⟨e1, e2⟩ | ⟨e1, e2⟩
    · have e1 : zx < c.1 := a_ofDec e1
      rw [if_neg (by omega)]
      have := a_swR_ok e2 h4 (by rw [h2]; exact hx) (by rw [h2]; exact hL) (by rw [h2]; exact hS)
      rw [h2] at this
      exact this.sub h1
    · have e1 : ¬ zx < c.1 := a_ofDecF e1
      obtain ⟨q2, r2, g1, g2, g3, g4, g5⟩ := a_br_ok e2 h4 (by rw [h2]; exact hx) (y := (0, 0, c.1)) (zy := (0, c.1)) ⟨Nat.zero_le _, rfl⟩
      have hn : q.1 = q2.1 := (g2.trans h2).symm
      rcases g5 with ⟨f1, f2⟩ | ⟨f1, f2⟩
      · have f1 : c.1 < zx := a_ofDec f1
        rw [if_neg (by omega)]
        have := a_swR_ok f2 g4 (by rw [← hn]; exact hx) (by rw [← hn]; exact hL) (by rw [← hn]; exact hS)
        rw [← hn] at this
        exact this.sub (fun o ho => h1 o (g1 o ho))
      · have f1 : ¬ c.1 < zx := a_ofDecF f1
        rw [if_pos (by omega)]
        exact (a_goq_ok f2 hn g4 hL hS).sub (fun o ho => h1 o (g1 o ho))
theorem ap_sw (a b : Nat) (z : Int) (cs : List (Int × Nat)) : aStepOK X (19, nx, a, b, z, cs) := by
  intro ρ q L S outs h M Z hr hd hL hS
  have hr : a_sw nx cs q L S = some outs := hr
  unfold a_sw at hr
  obtain ⟨x, S', zx, Z', hr, rfl, hx, hS⟩ := a_one_ok hr hS
  exact ⟨_, rfl, a_swR_ok hr hd hx hL hS⟩
theorem ap_getf (a b : Nat) (z : Int) (cs : List (Int × Nat)) : aStepOK X (20, nx, a, b, z, cs) := by
  intro ρ q L S outs h M Z hr hd hL hS
  have hr : a_getf X.1 nx a b q L S = some outs := hr
  unfold a_getf at hr
  obtain ⟨x, S', zx, Z', hr, rfl, hx, hS⟩ := a_one_ok hr hS
  rcases x_condT hr with ⟨hc, hr⟩ | ⟨-, hr⟩
  · rw [Bool.and_eq_true, Bool.and_eq_true, a_dec_eq] at hc
    obtain ⟨c1, c2, c3⟩ := hc
    have hzx : zx = x.2.2 := aR_const c1 hx
    have hO := a_isO_ok c3
    rw [← hzx] at hO hr c2
    refine ⟨_, (show z_getf nx a b (h, M, (2, zx) :: Z') = some (.inr (.inl (nx, h, M, h zx.toNat b :: Z'))) from ?_), ?_⟩
    · show (if zisO a zx then znx nx (h, M, h zx.toNat b :: Z') else none) = _
      rw [if_pos hO]; rfl
    · have e0 : (aev ρ 0 (Int.ofNat b)).toNat = b := rfl
      split at hr
      · rename_i v hg
        obtain ⟨-, hv⟩ := a_oget_ok hd.2.2.1 hg
        rw [e0] at hv
        obtain ⟨w, hr, hw⟩ := a_nrmK_ok hr hd hv
        exact a_push_ok (aMk.here hr hd hw) hL hS
      · split at hr
        · rename_i l hl
          split at hr
          · rename_i t ht
            rw [x_kN_eq] at hr
            have hat := a_uniF_ok (j := b) ht (hd.2.1 _ _ hl) (Int.le_refl _) (Int.le_refl _)
            obtain ⟨outs', s1, s2⟩ := a_readK_ok (s := 0) (o := Int.ofNat b) hr hd (Nat.zero_le _) (Int.natCast_nonneg b) (by rw [e0]; exact hat)
            rw [e0] at s2
            exact (a_push_ok s2 hL hS).sub s1
          · cases hr
        · cases hr
  · cases hr
theorem a_fitc_ok {c : Nat} {v : aV} {zv : zV} {n : Nat} {lo hi : Int} (h : a_fitc c v lo hi = true) (hv : aR ρ n v zv) (h1 : lo ≤ zv.2) (h2 : zv.2 ≤ hi) : zfit c zv = true := by
  have ht : zv.1 = v.1 := by rw [hv.2]
  match c, h with
  | 0, h =>
    have h : Nat.beq v.1 0 = true := h
    show decide (zv.1 = 0) = true
    rw [ht, Nat.eq_of_beq_eq_true h]; rfl
  | 1, h =>
    have h : Nat.beq v.1 1 = true := h
    show decide (zv.1 = 1) = true
    rw [ht, Nat.eq_of_beq_eq_true h]; rfl
  | 2, h =>
    have h : (Nat.beq v.1 0 && (@decide (-128 ≤ lo) (a_decLe _ _) && @decide (hi ≤ 127) (a_decLe _ _))) = true := h
    rw [Bool.and_eq_true, Bool.and_eq_true, a_dec_eq, a_dec_eq] at h
    show (decide (zv.1 = 0) && (decide (-128 ≤ zv.2) && decide (zv.2 ≤ 127))) = true
    rw [ht, Nat.eq_of_beq_eq_true h.1, a_decT (show -128 ≤ zv.2 by omega), a_decT (show zv.2 ≤ 127 by omega)]; rfl
  | 3, h =>
    have h : (Nat.beq v.1 0 && (@decide (0 ≤ lo) (a_decLe _ _) && @decide (hi ≤ 1) (a_decLe _ _))) = true := h
    rw [Bool.and_eq_true, Bool.and_eq_true, a_dec_eq, a_dec_eq] at h
    show (decide (zv.1 = 0) && (decide (0 ≤ zv.2) && decide (zv.2 ≤ 1))) = true
    rw [ht, Nat.eq_of_beq_eq_true h.1, a_decT (show 0 ≤ zv.2 by omega), a_decT (show zv.2 ≤ 1 by omega)]; rfl
  | 4, h =>
    have h : Nat.beq (a_kind v) 2 = true := h
    show decide (zkind zv = 2) = true
    rw [a_kind_ok hv, Nat.eq_of_beq_eq_true h]; rfl
  | c + 5, h => cases h
theorem ap_putf (hX : aOK X) (a b : Nat) (z : Int) (cs : List (Int × Nat)) : aStepOK X (21, nx, a, b, z, cs) := by
  intro ρ q L S outs h M Z hr hd hL hS
  have hr : a_putf X.1 X.2.2.2.2 nx a b z q L S = some outs := hr
  unfold a_putf at hr
  split at hr
  · rename_i v x S'
    rcases x_condT hr with ⟨hc, hr⟩ | ⟨-, hr⟩
    · rw [Bool.and_eq_true, Bool.and_eq_true, Bool.and_eq_true, a_dec_eq] at hc
      obtain ⟨c0, c1, c2, c3⟩ := hc
      match Z, hS with
      | zv :: zx :: Z, ⟨hv, hx, hS⟩ =>
        have hzx := aR_const c1 hx
        have e1 : zx = (2, zx.2) := by rw [hx.2, Nat.eq_of_beq_eq_true c0]
        have hO := a_isO_ok c3
        rw [← hzx] at hO hr c2
        obtain ⟨lo, hi, hr, b1, b2⟩ := a_rng_den hr hd hv
        rcases x_condT hr with ⟨hf, hr⟩ | ⟨-, hr⟩
        · have hfit := a_fitc_ok hf hv b1 b2
          refine ⟨_, (show z_putf nx a b z (h, M, zv :: zx :: Z) = some (.inr (.inl (nx, zset h zx.2.toNat b zv, M, Z))) from ?_), ?_⟩
          · rw [e1]
            show (if zisO a zx.2 ∧ zfit z.toNat zv then znx nx (zset h zx.2.toNat b zv, M, Z) else none) = _
            rw [if_pos ⟨hO, hfit⟩]; rfl
          · split at hr
            · rename_i l hl
              rw [x_kN_eq] at hr
              obtain ⟨q', w1, w2, w3⟩ := a_wrK_ok (s := 0) (o := Int.ofNat b) hX hr hd hl (Nat.zero_le _) (Int.natCast_nonneg b) (Int.le_refl _) (Int.le_refl _) hv
              exact a_goq_ok w1 w2.symm w3 hL hS
            · cases hr
        · cases hr
    · cases hr
  · cases hr
theorem a_idxK_ok {γ : Type} {i : aV} {zi0 : zV} {lo hi : Int} {n : Nat} {f : Nat → Int → Option γ} {r : γ} (hr : a_idxK i lo hi f = some r) (hi0 : aR ρ n i zi0) (h1 : lo ≤ zi0.2) (h2 : zi0.2 ≤ hi) : ∃ s o, f s o = some r ∧ s ≤ n ∧ aev ρ s o = zi0.2 := by
  unfold a_idxK at hr
  rcases x_condT hr with ⟨hc, hr⟩ | ⟨-, hr⟩
  · have hc := a_ofDec hc
    exact ⟨0, lo, hr, Nat.zero_le _, by show lo = zi0.2; omega⟩
  · rw [x_kN_eq, x_kZ_eq] at hr
    exact ⟨_, _, hr, hi0.1, (aR_val hi0).symm⟩
theorem a_minL_ok {z : Int} : ∀ {l : List Int} {w : Int × Int}, a_minL l = some w → z ∈ l → w.1 ≤ z ∧ z ≤ w.2
  | [], w, h, _ => by cases h
  | a :: l, w, h, hz => by
    have h : (match a_minL l with
      | some q => some (a_min a q.1, a_max a q.2)
      | none => some (a, a)) = some w := h
    split at h
    · rename_i q hq
      cases h
      have m := a_min_ok a q.1
      have m' := a_max_ok a q.2
      rcases List.mem_cons.mp hz with e | e
      · rw [e]; exact ⟨m.1, m'.1⟩
      · have ih := a_minL_ok hq e
        exact ⟨Int.le_trans m.2.1 ih.1, Int.le_trans ih.2 m'.2.1⟩
    · rename_i hq
      cases h
      rcases List.mem_cons.mp hz with e | e
      · rw [e]; exact ⟨Int.le_refl _, Int.le_refl _⟩
      · cases l with
        | nil => cases e
        | cons b l =>
          exfalso
          have hq : (match a_minL l with
            | some q => some (a_min b q.1, a_max b q.2)
            | none => some (b, b)) = none := hq
          split at hq <;> cases hq
theorem ap_ald (hX : aOK X) (a b : Nat) (z : Int) (cs : List (Int × Nat)) : aStepOK X (22, nx, a, b, z, cs) := by
  intro ρ q L S outs h M Z hr hd hL hS
  have hr : a_ald X.1 nx a q L S = some outs := hr
  unfold a_ald at hr
  split at hr
  · rename_i i x S' _
    rcases x_condT hr with ⟨hc, hr⟩ | ⟨-, hr⟩
    · rw [Bool.and_eq_true] at hc
      obtain ⟨c0, c1⟩ := hc
      match Z, hS with
      | zi0 :: zx :: Z, ⟨hi0, hx, hS⟩ =>
        have hzx := aR_const c1 hx
        have e0 : zi0 = (0, zi0.2) := by rw [hi0.2, Nat.eq_of_beq_eq_true c0]
        rcases x_condT hr with ⟨ht, hr⟩ | ⟨-, hr⟩
        · have e1 : zx = (2, zx.2) := by rw [hx.2, Nat.eq_of_beq_eq_true ht]
          rw [← hzx] at hr
          obtain ⟨lo, hi, hr, b1, b2⟩ := a_rng_den hr hd hi0
          rcases x_condT hr with ⟨ha, hr⟩ | ⟨-, hr⟩
          · rw [Bool.and_eq_true, a_dec_eq] at ha
            have harr := a_arr_ok ha.2 b1 b2
            obtain ⟨ty, n, hsh, hcode, i0, i1⟩ := zarr_den harr
            refine ⟨_, (show z_ald X.2.1 nx a (h, M, zi0 :: zx :: Z) = some (.inr (.inl (nx, h, M, h zx.2.toNat zi0.2.toNat :: Z))) from ?_), ?_⟩
            · rw [e0, e1]
              show (if zarr a zx.2 zi0.2 then znx nx (h, M, h zx.2.toNat zi0.2.toNat :: Z) else none) = _
              rw [if_pos harr]; rfl
            · obtain ⟨s, o, hr, hs, hev⟩ := a_idxK_ok hr hi0 b1 b2
              split at hr
              · rename_i v hg
                obtain ⟨-, hv⟩ := a_oget_ok hd.2.2.1 hg
                rw [hev] at hv
                obtain ⟨w, hr, hw⟩ := a_nrmK_ok hr hd hv
                exact a_push_ok (aMk.here hr hd hw) hL hS
              · split at hr
                · rename_i l hl
                  split at hr
                  · rename_i t htt
                    rw [x_kN_eq] at hr
                    have hat := a_uniF_ok (j := zi0.2.toNat) htt (hd.2.1 _ _ hl) (by omega) (by omega)
                    obtain ⟨outs', s1, s2⟩ := a_readK_ok (s := s) (o := o) hr hd hs (by rw [hev]; exact i0) (by rw [hev]; exact hat)
                    rw [hev] at s2
                    exact (a_push_ok s2 hL hS).sub s1
                  · cases hr
                · cases hr
          · cases hr
        · rcases x_condT hr with ⟨ht, hr⟩ | ⟨-, hr⟩
          · rw [Bool.and_eq_true] at ht
            have e1 : zx = (3, zx.2) := by rw [hx.2, Nat.eq_of_beq_eq_true ht.1]
            have ha := Nat.eq_of_beq_eq_true ht.2
            rw [← hzx] at hr
            have fin : ∀ v : Int, (0 ≤ zx.2 ∧ zx.2 < 3) → 0 ≤ zi0.2 → zi0.2 < (zlen X.2.1 zx.2.toNat : Int) → v = zat X.2.1 zx.2.toNat zi0.2.toNat → z_ald X.2.1 nx a (h, M, zi0 :: zx :: Z) = some (.inr (.inl (nx, h, M, (0, v) :: Z))) := by
              intro v h1 h2 h3 hv
              rw [e0, e1]
              show (if a = 0 ∧ 0 ≤ zx.2 ∧ zx.2 < 3 ∧ 0 ≤ zi0.2 ∧ zi0.2 < (zlen X.2.1 zx.2.toNat : Int) then znx nx (h, M, (0, zat X.2.1 zx.2.toNat zi0.2.toNat) :: Z) else none) = _
              rw [if_pos ⟨ha, h1.1, h1.2, h2, h3⟩, hv]; rfl
            rcases x_condT hr with ⟨hz, hr⟩ | ⟨-, hr⟩
            · have hz := a_ofDec hz
              rcases x_condT hr with ⟨hg, hr⟩ | ⟨-, hr⟩
              · rw [Bool.and_eq_true, Bool.and_eq_true] at hg
                obtain ⟨g0, g1, g2⟩ := hg
                have g1 := a_leq_ok hd g1
                have g2 := a_leq_ok hd g2
                have e3 := aR_val hi0
                have hlen := (hd.2.2.2.2.2 g0).2
                have g1 : (0 : Int) ≤ aev ρ i.2.1 i.2.2 + 0 := g1
                have g2 : aev ρ i.2.1 i.2.2 ≤ ρ 0 + 0 + (-1) := g2
                refine ⟨_, fin (X.2.1.2 zi0.2.toNat) (by omega) (by omega) ?_ ?_, ?_⟩
                · rw [hz]
                  show zi0.2 < (X.2.1.1 : Int)
                  omega
                · rw [hz]; rfl
                · have hsc : h 1000 zi0.2.toNat = (0, X.2.1.2 zi0.2.toNat) := (hd.2.2.2.2.1 1000 _ (hX.1.2 g0 _).2).trans (hX.1.2 g0 _).1
                  rw [x_kN_eq, x_kZ_eq] at hr
                  split at hr
                  · rename_i v hg
                    obtain ⟨-, hv⟩ := a_oget_ok hd.2.2.1 hg
                    rw [← e3, hsc] at hv
                    obtain ⟨w, hr, hw⟩ := a_nrmK_ok hr hd hv
                    exact a_push_ok (aMk.here hr hd hw) hL hS
                  · obtain ⟨q', v, ρ', hf, ha, hn, g', hv⟩ := a_anyK_ok hr hd (hX.2.1 zi0.2.toNat).1 (hX.2.1 zi0.2.toNat).2
                    have hs' := aev_ag ha (o := i.2.2) hi0.1
                    have k : aMk X ρ q h (0, X.2.1.2 zi0.2.toNat) (a_push nx L S') outs := ⟨_, v, ρ', hf, ha, hn, g'.addO (e := ((1000, i.2.1, i.2.2), v)) (by show i.2.1 ≤ q'.1; have := hi0.1; omega) (by show 0 ≤ aev ρ' i.2.1 i.2.2; rw [hs', ← e3]; omega) (by show aR ρ' q'.1 v (h 1000 (aev ρ' i.2.1 i.2.2).toNat); rw [hs', ← e3, hsc]; exact hv), hv⟩
                    exact a_push_ok k hL hS
              · cases hr
            · rcases x_condT hr with ⟨hz, hr⟩ | ⟨-, hr⟩
              · rw [Bool.and_eq_true, a_dec_eq, a_dec_eq] at hz
                obtain ⟨lo, hi, hr, b1, b2⟩ := a_rng_den hr hd hi0
                rcases x_condT hr with ⟨hg, hr⟩ | ⟨-, hr⟩
                · rw [Bool.and_eq_true, a_dec_eq, a_dec_eq] at hg
                  have hg2 : hi < ((zTx zx.2.toNat).length : Int) := hg.2
                  obtain ⟨t, ht⟩ : ∃ t : Nat, zx.2.toNat = t + 1 := ⟨zx.2.toNat - 1, by omega⟩
                  have hlen : (zlen X.2.1 zx.2.toNat : Int) = ((zTx zx.2.toNat).length : Int) := by rw [ht]; rfl
                  have hat : zat X.2.1 zx.2.toNat zi0.2.toNat = (zTx zx.2.toNat).getD zi0.2.toNat 0 := by rw [ht]; rfl
                  refine ⟨_, fin ((zTx zx.2.toNat).getD zi0.2.toNat 0) ⟨by omega, hz.2⟩ (by omega) (by omega) hat.symm, ?_⟩
                  rcases x_condT hr with ⟨he, hr⟩ | ⟨-, hr⟩
                  · have he := a_ofDec he
                    rw [x_kZ_eq] at hr
                    have e4 : lo = zi0.2 := by omega
                    rw [e4] at hr
                    exact a_push_ok (aMk.here (f := a_push nx L S') (v := (0, 0, (zTx zx.2.toNat).getD zi0.2.toNat 0)) hr hd ⟨Nat.zero_le _, rfl⟩) hL hS
                  · split at hr
                    · rename_i w hw
                      have hm : (zTx zx.2.toNat).getD zi0.2.toNat 0 ∈ zTx zx.2.toNat := by
                        have hlt : zi0.2.toNat < (zTx zx.2.toNat).length := by omega
                        rw [List.getD_eq_getElem?_getD, List.getElem?_eq_getElem hlt]
                        exact List.getElem_mem hlt
                      have := a_minL_ok hw hm
                      exact a_push_ok (a_newK_ok hr hd this.1 this.2) hL hS
                    · cases hr
                · cases hr
              · cases hr
          · cases hr
    · cases hr
  · cases hr
theorem ap_ast (hX : aOK X) (a b : Nat) (z : Int) (cs : List (Int × Nat)) : aStepOK X (23, nx, a, b, z, cs) := by
  intro ρ q L S outs h M Z hr hd hL hS
  have hr : a_ast X.1 X.2.2.2.2 nx a q L S = some outs := hr
  unfold a_ast at hr
  split at hr
  · rename_i v i x S'
    rcases x_condT hr with ⟨hc, hr⟩ | ⟨-, hr⟩
    · simp only [Bool.and_eq_true, a_dec_eq] at hc
      obtain ⟨c0, c1, c2, c3, c4⟩ := hc
      match Z, hS with
      | zv :: zi0 :: zx :: Z, ⟨hv, hi0, hx, hS⟩ =>
        have hzx := aR_const c2 hx
        have e0 : zi0 = (0, zi0.2) := by rw [hi0.2, Nat.eq_of_beq_eq_true c0]
        have e1 : zx = (2, zx.2) := by rw [hx.2, Nat.eq_of_beq_eq_true c1]
        rw [← hzx] at hr
        obtain ⟨lo, hi, hr, b1, b2⟩ := a_rng_den hr hd hi0
        obtain ⟨vl, vh, hr, b3, b4⟩ := a_rng_den hr hd hv
        rcases x_condT hr with ⟨hf, hr⟩ | ⟨-, hr⟩
        · rw [Bool.and_eq_true] at hf
          have harr := a_arr_ok hf.1 b1 b2
          have hfit := a_fitc_ok hf.2 hv b3 b4
          obtain ⟨ty, n, hsh, hcode, i0, i1⟩ := zarr_den harr
          have hlo : 0 ≤ lo := by
            have ha := hf.1
            unfold a_arr at ha
            split at ha
            · rw [Bool.and_eq_true, Bool.and_eq_true, a_dec_eq] at ha
              exact ha.2.1
            · cases ha
          refine ⟨_, (show z_ast nx a (h, M, zv :: zi0 :: zx :: Z) = some (.inr (.inl (nx, zset h zx.2.toNat zi0.2.toNat zv, M, Z))) from ?_), ?_⟩
          · rw [e0, e1]
            show (if zarr a zx.2 zi0.2 ∧ zfit a zv ∧ a < 4 then znx nx (zset h zx.2.toNat zi0.2.toNat zv, M, Z) else none) = _
            rw [if_pos ⟨harr, hfit, Nat.le_of_ble_eq_true c4⟩]; rfl
          · split at hr
            · rename_i l hl
              obtain ⟨s, o, hr, hs, hev⟩ := a_idxK_ok hr hi0 b1 b2
              rw [x_kN_eq] at hr
              obtain ⟨q', w1, w2, w3⟩ := a_wrK_ok (s := s) (o := o) hX hr hd hl hs hlo (by rw [hev]; exact b1) (by rw [hev]; exact b2) hv
              rw [hev] at w3
              exact a_goq_ok w1 w2.symm w3 hL hS
            · cases hr
        · cases hr
    · cases hr
  · cases hr
end AI2
end
section
/-! THE WATCHER'S INSTRUCTIONS HOLD, third part -/
section AI3
variable {X : aX} {ρ : Nat → Int} {q : aQ} {L : aL} {S : List aV} {h : zH} {M : zL} {Z : List zV} {outs : List aOut} {nx : Nat}
theorem ap_alen (a b : Nat) (z : Int) (cs : List (Int × Nat)) : aStepOK X (24, nx, a, b, z, cs) := by
  intro ρ q L S outs h M Z hr hd hL hS
  have hr : a_alen X.1 nx q L S = some outs := hr
  unfold a_alen at hr
  split at hr
  · rename_i x S' _
    rcases x_condT hr with ⟨c1, hr⟩ | ⟨-, hr⟩
    · match Z, hS with
      | zx :: Z, ⟨hx, hS⟩ =>
        have hzx := aR_const c1 hx
        rw [← hzx] at hr
        rcases x_condT hr with ⟨ht, hr⟩ | ⟨-, hr⟩
        · have e1 : zx = (2, zx.2) := by rw [hx.2, Nat.eq_of_beq_eq_true ht]
          split at hr
          · rename_i w hw
            rw [a_shp_eq] at hw
            rw [x_kN_eq] at hr
            refine ⟨_, (show z_alen X.2.1 nx (h, M, zx :: Z) = some (.inr (.inl (nx, h, M, (0, (w.2 : Int)) :: Z))) from ?_), a_push_ok (aMk.here (f := a_push nx L S') (v := (0, 0, Int.ofNat w.2)) hr hd ⟨Nat.zero_le _, rfl⟩) hL hS⟩
            rw [e1]
            show (match zShape[zx.2.toNat]? with
              | some (.inl q) => znx nx (h, M, (0, (q.2 : Int)) :: Z)
              | _ => none) = _
            rw [hw]; rfl
          · cases hr
        · rcases x_condT hr with ⟨ht, hr⟩ | ⟨-, hr⟩
          · have e1 : zx = (3, zx.2) := by rw [hx.2, Nat.eq_of_beq_eq_true ht]
            have fin : ∀ v : Int, (0 ≤ zx.2 ∧ zx.2 < 3) → (zlen X.2.1 zx.2.toNat : Int) = v → z_alen X.2.1 nx (h, M, zx :: Z) = some (.inr (.inl (nx, h, M, (0, v) :: Z))) := by
              intro v h1 hv
              rw [e1]
              show (if 0 ≤ zx.2 ∧ zx.2 < 3 then znx nx (h, M, (0, (zlen X.2.1 zx.2.toNat : Int)) :: Z) else none) = _
              rw [if_pos h1, hv]; rfl
            rcases x_condT hr with ⟨hz, hr⟩ | ⟨-, hr⟩
            · have hz := a_ofDec hz
              rcases x_condT hr with ⟨hg, hr⟩ | ⟨-, hr⟩
              · obtain ⟨g1, g2⟩ := hd.2.2.2.2.2 hg
                refine ⟨_, fin (ρ 0) (by omega) (by rw [hz, g2]; rfl), a_push_ok (aMk.here (f := a_push nx L S') (v := (0, 1, 0)) hr hd ⟨g1, ?_⟩) hL hS⟩
                show (0, ρ 0) = (0, ρ 0 + 0)
                rw [Int.add_zero]
              · cases hr
            · rcases x_condT hr with ⟨hz, hr⟩ | ⟨-, hr⟩
              · rw [Bool.and_eq_true, a_dec_eq, a_dec_eq] at hz
                refine ⟨_, fin 5 ⟨by omega, hz.2⟩ ?_, a_push_ok (aMk.here (f := a_push nx L S') (v := (0, 0, 5)) hr hd ⟨Nat.zero_le _, rfl⟩) hL hS⟩
                have h12 : zx.2 = 1 ∨ zx.2 = 2 := by omega
                rcases h12 with e | e
                · rw [e]; rfl
                · rw [e]; rfl
              · cases hr
          · cases hr
    · cases hr
  · cases hr
theorem ap_slen (a b : Nat) (z : Int) (cs : List (Int × Nat)) : aStepOK X (25, nx, a, b, z, cs) := by
  intro ρ q L S outs h M Z hr hd hL hS
  have hr : a_slen nx q L S = some outs := hr
  unfold a_slen at hr
  split at hr
  · rename_i x S' _
    rcases x_condT hr with ⟨hc, hr⟩ | ⟨-, hr⟩
    · rw [Bool.and_eq_true, Bool.and_eq_true] at hc
      obtain ⟨c0, c1, c2⟩ := hc
      match Z, hS with
      | zx :: Z, ⟨hx, hS⟩ =>
        have hzx := aR_const c1 hx
        have e1 : zx = (3, zx.2) := by rw [hx.2, Nat.eq_of_beq_eq_true c0]
        have hsum : zsum Z ≤ 8 := by rw [a_sum_ok hS]; exact Nat.le_of_ble_eq_true c2
        rw [← hzx] at hr
        have fin : ∀ v : Int, (zx.2 = 3 ∨ zx.2 = 4) → (zlen X.2.1 zx.2.toNat : Int) = v → z_slen X.2.1 nx (h, M, zx :: Z) = some (.inr (.inl (nx, h, M, (0, v) :: Z))) := by
          intro v h1 hv
          rw [e1]
          show (if (zx.2 = 3 ∨ zx.2 = 4) ∧ zsum Z ≤ 8 then znx nx (h, M, (0, (zlen X.2.1 zx.2.toNat : Int)) :: Z) else none) = _
          rw [if_pos ⟨h1, hsum⟩, hv]; rfl
        rcases x_condT hr with ⟨hz, hr⟩ | ⟨-, hr⟩
        · have hz := a_ofDec hz
          refine ⟨_, fin (Int.ofNat (zTx 3).length) (Or.inl hz) (by rw [hz]; rfl), a_push_ok (aMk.here (f := a_push nx L S') (v := (0, 0, Int.ofNat (zTx 3).length)) hr hd ⟨Nat.zero_le _, rfl⟩) hL hS⟩
        · rcases x_condT hr with ⟨hz, hr⟩ | ⟨-, hr⟩
          · have hz := a_ofDec hz
            refine ⟨_, fin 5 (Or.inr hz) (by rw [hz]; rfl), a_push_ok (aMk.here (f := a_push nx L S') (v := (0, 0, 5)) hr hd ⟨Nat.zero_le _, rfl⟩) hL hS⟩
          · cases hr
    · cases hr
  · cases hr
theorem a_textR : (∀ z ∈ zTx 3, (32 : Int) ≤ z ∧ z ≤ 122) ∧ (∀ z ∈ zTx 4, (32 : Int) ≤ z ∧ z ≤ 122) := by decide +kernel
theorem ap_char (a b : Nat) (z : Int) (cs : List (Int × Nat)) : aStepOK X (26, nx, a, b, z, cs) := by
  intro ρ q L S outs h M Z hr hd hL hS
  have hr : a_char nx q L S = some outs := hr
  unfold a_char at hr
  split at hr
  · rename_i i x S' _
    rcases x_condT hr with ⟨hc, hr⟩ | ⟨-, hr⟩
    · simp only [Bool.and_eq_true, Bool.or_eq_true, a_dec_eq] at hc
      obtain ⟨c0, c1, c2, c3, c4⟩ := hc
      match Z, hS with
      | zi0 :: zx :: Z, ⟨hi0, hx, hS⟩ =>
        have hzx := aR_const c2 hx
        have e0 : zi0 = (0, zi0.2) := by rw [hi0.2, Nat.eq_of_beq_eq_true c0]
        have e1 : zx = (3, zx.2) := by rw [hx.2, Nat.eq_of_beq_eq_true c1]
        have hsum : zsum Z ≤ 8 := by rw [a_sum_ok hS]; exact Nat.le_of_ble_eq_true c3
        rw [← hzx] at hr c4
        obtain ⟨lo, hi, hr, b1, b2⟩ := a_rng_den hr hd hi0
        rcases x_condT hr with ⟨hg, hr⟩ | ⟨-, hr⟩
        · rw [Bool.and_eq_true, a_dec_eq, a_dec_eq] at hg
          have hg2 : hi < ((zTx zx.2.toNat).length : Int) := hg.2
          have hl : zlen X.2.1 zx.2.toNat = (zTx zx.2.toNat).length := by rcases c4 with e | e <;> rw [e] <;> rfl
          have hat : zat X.2.1 zx.2.toNat zi0.2.toNat = (zTx zx.2.toNat).getD zi0.2.toNat 0 := by rcases c4 with e | e <;> rw [e] <;> rfl
          have hm : (zTx zx.2.toNat).getD zi0.2.toNat 0 ∈ zTx zx.2.toNat := by
            have hlt : zi0.2.toNat < (zTx zx.2.toNat).length := by omega
            rw [List.getD_eq_getElem?_getD, List.getElem?_eq_getElem hlt]
            exact List.getElem_mem hlt
          have hb : (32 : Int) ≤ (zTx zx.2.toNat).getD zi0.2.toNat 0 ∧ (zTx zx.2.toNat).getD zi0.2.toNat 0 ≤ 122 := by
            rcases c4 with e | e
            · have ht : zx.2.toNat = 3 := by omega
              rw [ht] at hm ⊢; exact a_textR.1 _ hm
            · have ht : zx.2.toNat = 4 := by omega
              rw [ht] at hm ⊢; exact a_textR.2 _ hm
          refine ⟨_, (show z_char X.2.1 nx (h, M, zi0 :: zx :: Z) = some (.inr (.inl (nx, h, M, (0, (zTx zx.2.toNat).getD zi0.2.toNat 0) :: Z))) from ?_), a_push_ok (a_newK_ok hr hd hb.1 hb.2) hL hS⟩
          rw [e0, e1]
          show (if (zx.2 = 3 ∨ zx.2 = 4) ∧ 0 ≤ zi0.2 ∧ zi0.2 < (zlen X.2.1 zx.2.toNat : Int) ∧ zsum Z ≤ 8 then znx nx (h, M, (0, zat X.2.1 zx.2.toNat zi0.2.toNat) :: Z) else none) = _
          rw [if_pos ⟨c4, by omega, by rw [hl]; omega, hsum⟩, hat]; rfl
        · cases hr
    · cases hr
  · cases hr
theorem ap_math (a b : Nat) (z : Int) (cs : List (Int × Nat)) : aStepOK X (27, nx, a, b, z, cs) := by
  intro ρ q L S outs h M Z hr hd hL hS
  have hr : a_math nx b q L S = some outs := hr
  unfold a_math at hr
  match b, hr with
  | 0, hr =>
    obtain ⟨x, y, S', zx, zy, Z', hr, rfl, hx, hy, hS⟩ := a_two_ok hr hS
    rcases x_condT hr with ⟨hc, hr⟩ | ⟨-, hr⟩
    · have hsum : zsum Z' ≤ 8 := by rw [a_sum_ok hS]; exact Nat.le_of_ble_eq_true hc
      obtain ⟨lx, hxx, hr, b1, b2⟩ := a_rng_den hr hd hx
      obtain ⟨ly, hyy, hr, b3, b4⟩ := a_rng_den hr hd hy
      have b1 : lx ≤ zx := b1
      have b2 : zx ≤ hxx := b2
      have b3 : ly ≤ zy := b3
      have b4 : zy ≤ hyy := b4
      refine ⟨_, (show (if zsum Z' ≤ 8 then znx nx (h, M, (0, zm32 0 zx zy) :: Z') else none) = _ from if_pos hsum), a_push_ok (a_newK_ok hr hd ?_ ?_) hL hS⟩
      · have m := a_max_ok lx ly
        show a_max lx ly ≤ if zx < zy then zy else zx
        split <;> omega
      · have m := a_max_ok hxx hyy
        show (if zx < zy then zy else zx) ≤ a_max hxx hyy
        split <;> omega
    · cases hr
  | 1, hr =>
    obtain ⟨x, y, S', zx, zy, Z', hr, rfl, hx, hy, hS⟩ := a_two_ok hr hS
    rcases x_condT hr with ⟨hc, hr⟩ | ⟨-, hr⟩
    · have hsum : zsum Z' ≤ 8 := by rw [a_sum_ok hS]; exact Nat.le_of_ble_eq_true hc
      obtain ⟨lx, hxx, hr, b1, b2⟩ := a_rng_den hr hd hx
      obtain ⟨ly, hyy, hr, b3, b4⟩ := a_rng_den hr hd hy
      have b1 : lx ≤ zx := b1
      have b2 : zx ≤ hxx := b2
      have b3 : ly ≤ zy := b3
      have b4 : zy ≤ hyy := b4
      refine ⟨_, (show (if zsum Z' ≤ 8 then znx nx (h, M, (0, zm32 1 zx zy) :: Z') else none) = _ from if_pos hsum), a_push_ok (a_newK_ok hr hd ?_ ?_) hL hS⟩
      · have m := a_min_ok lx ly
        show a_min lx ly ≤ if zy < zx then zy else zx
        split <;> omega
      · have m := a_min_ok hxx hyy
        show (if zy < zx then zy else zx) ≤ a_min hxx hyy
        split <;> omega
    · cases hr
  | 2, hr =>
    obtain ⟨x, y, S', zx, zy, Z', hr, rfl, hx, hy, hS⟩ := a_two_ok hr hS
    rcases x_condT hr with ⟨hc, hr⟩ | ⟨-, hr⟩
    · have hsum : zsum Z' ≤ 8 := by rw [a_sum_ok hS]; exact Nat.le_of_ble_eq_true hc
      obtain ⟨lx, hxx, hr, b1, b2⟩ := a_rng_den hr hd hx
      obtain ⟨ly, hyy, hr, b3, b4⟩ := a_rng_den hr hd hy
      have b1 : lx ≤ zx := b1
      have b2 : zx ≤ hxx := b2
      have b3 : ly ≤ zy := b3
      have b4 : zy ≤ hyy := b4
      refine ⟨_, (show (if zsum Z' ≤ 8 then znx nx (h, M, (1, zm32 1 zx zy) :: Z') else none) = _ from if_pos hsum), a_push_ok (a_newK_ok hr hd ?_ ?_) hL hS⟩
      · have m := a_min_ok lx ly
        show a_min lx ly ≤ if zy < zx then zy else zx
        split <;> omega
      · have m := a_min_ok hxx hyy
        show (if zy < zx then zy else zx) ≤ a_min hxx hyy
        split <;> omega
    · cases hr
  | 3, hr =>
    obtain ⟨x, S', zx, Z', hr, rfl, hx, hS⟩ := a_one_ok hr hS
    rcases x_condT hr with ⟨hc, hr⟩ | ⟨-, hr⟩
    · have hsum : zsum Z' ≤ 8 := by rw [a_sum_ok hS]; exact Nat.le_of_ble_eq_true hc
      obtain ⟨lx, hxx, hr, b1, b2⟩ := a_rng_den hr hd hx
      have b1 : lx ≤ zx := b1
      have b2 : zx ≤ hxx := b2
      refine ⟨_, (show (if zsum Z' ≤ 8 then znx nx (h, M, (1, if 0 < zx then zx else (-Int64.ofInt zx).toInt) :: Z') else none) = _ from if_pos hsum), ?_⟩
      rcases x_condT hr with ⟨hd0, hr⟩ | ⟨-, hr⟩
      · have hd0 := a_ofDec hd0
        refine a_push_ok (aMk.here (f := a_push nx L S') (v := x) hr hd ?_) hL hS
        have e : (if 0 < zx then zx else (-Int64.ofInt zx).toInt) = zx := by
          by_cases h0 : 0 < zx
          · rw [if_pos h0]
          · have hz : zx = 0 := by omega
            rw [if_neg h0, hz]; rfl
        rw [e]
        exact hx
      · rcases x_condT hr with ⟨hd1, hr⟩ | ⟨-, hr⟩
        · rw [Bool.and_eq_true, a_dec_eq, a_dec_eq] at hd1
          have m := a_max_ok (-lx) hxx
          have h1 : (-9223372036854775808 : Int) < lx := hd1.1
          have h2 : hxx ≤ (9223372036854775807 : Int) := hd1.2
          have key : 0 < zx ∨ (-Int64.ofInt zx).toInt = -zx := by
            rw [← Int64.ofInt_neg]
            by_cases h0 : 0 < zx
            · exact Or.inl h0
            · exact Or.inr (a64of (by show (-9223372036854775808 : Int) ≤ -zx; omega) (by show -zx ≤ (9223372036854775807 : Int); omega))
          refine a_push_ok (a_newK_ok hr hd ?_ ?_) hL hS
          · by_cases h0 : 0 < zx
            · rw [if_pos h0]; omega
            · rw [if_neg h0, key.resolve_left h0]; omega
          · by_cases h0 : 0 < zx
            · rw [if_pos h0]; omega
            · rw [if_neg h0, key.resolve_left h0]; omega
        · rcases x_condT hr with ⟨hin, hr⟩ | ⟨-, hr⟩
          · have c := a_in_ok hin
            have hz64 : a_lo 1 ≤ (if 0 < zx then zx else (-Int64.ofInt zx).toInt) ∧ (if 0 < zx then zx else (-Int64.ofInt zx).toInt) ≤ a_hi 1 := by
              by_cases h0 : 0 < zx
              · rw [if_pos h0]; omega
              · rw [if_neg h0]; exact a64 _
            exact a_push_ok (a_anyK_ok hr hd hz64.1 hz64.2) hL hS
          · cases hr
    · cases hr
  | b + 4, hr => cases hr
theorem a_accsT {g : Nat → zV} {z : Nat → zV} {t : Nat} {vl vh lo hi : Int} (hz : ∀ k : Nat, lo ≤ (k : Int) → (k : Int) ≤ hi → (z k).1 = t ∧ vl ≤ (z k).2 ∧ (z k).2 ≤ vh) {g' : Nat → zV} (h1 : ∀ k : Nat, lo ≤ (k : Int) → (k : Int) ≤ hi → g' k = z k ∨ g' k = g k) (h2 : ∀ k : Nat, ¬ (lo ≤ (k : Int) ∧ (k : Int) ≤ hi) → g' k = g k) : ∀ {l : List (Nat × aT)} {p : Nat}, a_accs lo hi (t, 0, 0) vl vh l (p : Int) = true → atyOK g l p → atyOK g' l p
  | [], _, _, _ => trivial
  | s :: l, p, h, ⟨ha, hl⟩ => by
    have h : cond (@decide (hi < (p : Int)) (a_decLt _ _)) true (a_bZ ((p : Int) + Int.ofNat s.1) (fun p' => (@decide (p' ≤ lo) (a_decLe _ _) || a_acc s.2 (t, 0, 0) vl vh) && a_accs lo hi (t, 0, 0) vl vh l p')) = true := h
    cases hb : @decide (hi < (p : Int)) (a_decLt _ _) with
    | true =>
      have hb := a_ofDec hb
      exact atyOK_congr (l := s :: l) (fun j hj => h2 j (by omega)) ⟨ha, hl⟩
    | false =>
    rw [hb, cond_false, a_bZ_eq, Bool.and_eq_true, Bool.or_eq_true, a_dec_eq] at h
    refine ⟨fun j j1 j2 => ?_, a_accsT hz h1 h2 h.2 hl⟩
    by_cases hj : lo ≤ (j : Int) ∧ (j : Int) ≤ hi
    · rcases h1 j hj.1 hj.2 with e | e
      · rw [e]
        obtain ⟨z1, z2, z3⟩ := hz j hj.1 hj.2
        rcases h.1 with e | e
        · have e : ((p + s.1 : Nat) : Int) ≤ lo := e
          omega
        · exact a_acc_ok e z1 z2 z3
      · rw [e]; exact ha j j1 j2
    · rw [h2 j hj]; exact ha j j1 j2
theorem a_accsCT {g : Nat → zV} {z : Nat → zV} {t : Nat} {vl vh : Int} {lo hi : Nat} (hz : ∀ k : Nat, lo ≤ k → k ≤ hi → (z k).1 = t ∧ vl ≤ (z k).2 ∧ (z k).2 ≤ vh) {g' : Nat → zV} (h1 : ∀ k : Nat, lo ≤ k → k ≤ hi → g' k = z k ∨ g' k = g k) (h2 : ∀ k : Nat, ¬ (lo ≤ k ∧ k ≤ hi) → g' k = g k) : ∀ {l : aTc} {p : Nat}, a_accsC lo hi (t, 0, 0) vl vh l p = true → atyC g l p → atyC g' l p
  | [], _, _, _ => trivial
  | s :: l, p, h, ⟨ha, hw, hl⟩ => by
    have h : cond (Nat.blt hi p) true (a_bN (p + s.1) (fun p' => (Nat.ble p' lo || a_accsN lo hi (t, 0, 0) vl vh s.2 p) && a_accsC lo hi (t, 0, 0) vl vh l p')) = true := h
    cases hb : Nat.blt hi p with
    | true =>
      have hb : hi + 1 ≤ p := Nat.le_of_ble_eq_true hb
      exact atyC_congr (l := s :: l) (fun j hj => h2 j (by omega)) ⟨ha, hw, hl⟩
    | false =>
    rw [hb, cond_false, a_bN_eq, Bool.and_eq_true, Bool.or_eq_true] at h
    refine ⟨?_, hw, a_accsCT hz h1 h2 h.2 hl⟩
    rcases h.1 with e | e
    · have e := Nat.le_of_ble_eq_true e
      exact atyOK_in (fun j j1 j2 => h2 j (by omega)) ha
    · rw [a_accsN_eq] at e
      exact a_accsT (lo := (lo : Int)) (hi := (hi : Int)) (fun k a b => hz k (by omega) (by omega)) (fun k a b => h1 k (by omega) (by omega)) (fun k c => h2 k (fun d => c (by omega))) e ha
theorem a_accsFT {g : Nat → zV} {z : Nat → zV} {t : Nat} {vl vh lo hi : Int} (hz : ∀ k : Nat, lo ≤ (k : Int) → (k : Int) ≤ hi → (z k).1 = t ∧ vl ≤ (z k).2 ∧ (z k).2 ≤ vh) {g' : Nat → zV} (h1 : ∀ k : Nat, lo ≤ (k : Int) → (k : Int) ≤ hi → g' k = z k ∨ g' k = g k) (h2 : ∀ k : Nat, ¬ (lo ≤ (k : Int) ∧ (k : Int) ≤ hi) → g' k = g k) {l : aTc} (h : a_accsF lo hi (t, 0, 0) vl vh l = true) (hl : atyC g l 0) : atyC g' l 0 := by
  unfold a_accsF at h
  by_cases c : 0 ≤ hi
  · rw [a_decT c, cond_true] at h
    cases h2' : @decide (0 ≤ lo) (a_decLe _ _) with
    | true =>
      have h0 := a_ofDec h2'
      rw [h2', cond_true, a_bN_eq, a_bN_eq] at h
      exact a_accsCT (fun k a b => hz k (by omega) (by omega)) (fun k a b => h1 k (by omega) (by omega)) (fun k c => h2 k (fun d => c (by omega))) h hl
    | false =>
      rw [h2'] at h
      cases h
  · exact atyC_congr (fun j _ => h2 j (by omega)) hl
theorem a_okeepR_ok {E : aB} {n : Nat} (he : ∀ x ∈ E, x.1 < n ∧ x.2.1 ≤ ρ x.1 ∧ ρ x.1 ≤ x.2.2) {r : Nat} {lo hi : Int} {e : (Nat × Nat × Int) × aV} (hk : a_okeepR E r lo hi e = true) : e.1.1 ≠ r ∨ aev ρ e.1.2.1 e.1.2.2 < lo ∨ hi < aev ρ e.1.2.1 e.1.2.2 := by
  unfold a_okeepR at hk
  rw [Bool.or_eq_true] at hk
  rcases hk with hk | hk
  · left
    intro e1
    rw [e1, Nat.beq_refl] at hk
    cases hk
  · right
    split at hk
    · rename_i b hb
      obtain ⟨l, u, hf, h1, h2⟩ := a_rngK_ok (ρ := ρ) hb he
      have hf := Option.some.inj hf
      rw [hk, Bool.or_eq_true, a_dec_eq, a_dec_eq] at hf
      have h1 : l ≤ aev ρ e.1.2.1 e.1.2.2 := h1
      have h2 : aev ρ e.1.2.1 e.1.2.2 ≤ u := h2
      omega
    · cases hk
theorem a_carryK_eq {β : Type} {r0 r1 : Nat} {sl dl nl : Int} : ∀ {O : aO} {f : aO → Option β}, a_carryK r0 r1 sl dl nl O f = f (a_carry r0 r1 sl dl nl O)
  | [], f => rfl
  | e :: O, f => by
    have h : a_carryK r0 r1 sl dl nl (e :: O) f = a_carryK r0 r1 sl dl nl O (fun l => cond (Nat.beq e.1.1 r0 && (Nat.beq e.1.2.1 0 && (@decide (sl ≤ e.1.2.2) (a_decLe _ _) && @decide (e.1.2.2 < sl + nl) (a_decLt _ _)))) (x_kZ (e.1.2.2 - sl + dl) (fun o => f (((r1, 0, o), e.2) :: l))) (f l)) := rfl
    rw [h, a_carryK_eq, x_kZ_eq]
    show _ = f (cond (Nat.beq e.1.1 r0 && (Nat.beq e.1.2.1 0 && (@decide (sl ≤ e.1.2.2) (a_decLe _ _) && @decide (e.1.2.2 < sl + nl) (a_decLt _ _)))) (((r1, 0, e.1.2.2 - sl + dl), e.2) :: a_carry r0 r1 sl dl nl O) (a_carry r0 r1 sl dl nl O))
    cases (Nat.beq e.1.1 r0 && (Nat.beq e.1.2.1 0 && (@decide (sl ≤ e.1.2.2) (a_decLe _ _) && @decide (e.1.2.2 < sl + nl) (a_decLt _ _)))) <;> rfl
theorem a_carry_mem {r0 r1 : Nat} {sl dl nl : Int} {x : (Nat × Nat × Int) × aV} : ∀ {O : aO}, x ∈ a_carry r0 r1 sl dl nl O → ∃ e ∈ O, e.1.1 = r0 ∧ e.1.2.1 = 0 ∧ sl ≤ e.1.2.2 ∧ e.1.2.2 < sl + nl ∧ x = ((r1, 0, e.1.2.2 - sl + dl), e.2)
  | [], h => absurd h List.not_mem_nil
  | e :: O, h => by
    have h : x ∈ cond (Nat.beq e.1.1 r0 && (Nat.beq e.1.2.1 0 && (@decide (sl ≤ e.1.2.2) (a_decLe _ _) && @decide (e.1.2.2 < sl + nl) (a_decLt _ _)))) (((r1, 0, e.1.2.2 - sl + dl), e.2) :: a_carry r0 r1 sl dl nl O) (a_carry r0 r1 sl dl nl O) := h
    cases hb : (Nat.beq e.1.1 r0 && (Nat.beq e.1.2.1 0 && (@decide (sl ≤ e.1.2.2) (a_decLe _ _) && @decide (e.1.2.2 < sl + nl) (a_decLt _ _)))) with
    | false =>
      rw [hb] at h
      obtain ⟨e', h1, h2⟩ := a_carry_mem (O := O) h
      exact ⟨e', List.mem_cons_of_mem _ h1, h2⟩
    | true =>
      rw [hb] at h
      simp only [Bool.and_eq_true, a_dec_eq] at hb
      rcases List.mem_cons.mp h with k | k
      · exact ⟨e, List.mem_cons_self, Nat.eq_of_beq_eq_true hb.1, Nat.eq_of_beq_eq_true hb.2.1, hb.2.2.1, hb.2.2.2, k⟩
      · obtain ⟨e', h1, h2⟩ := a_carry_mem (O := O) k
        exact ⟨e', List.mem_cons_of_mem _ h1, h2⟩
theorem ap_copy (hX : aOK X) (a b : Nat) (z : Int) (cs : List (Int × Nat)) : aStepOK X (28, nx, a, b, z, cs) := by
  intro ρ q L S outs h M Z hr hd hL hS
  have hr : a_copy X.1 X.2.2.2.2 nx a q L S = some outs := hr
  unfold a_copy at hr
  split at hr
  · rename_i n dp x1 sp x0 S' _
    rcases x_condT hr with ⟨hc, hr⟩ | ⟨-, hr⟩
    · simp only [Bool.and_eq_true, a_dec_eq] at hc
      obtain ⟨c1, c2, c3, c4, c5, c6, c7, c8, c9, c10, c11⟩ := hc
      match Z, hS with
      | zn :: zd :: z1 :: zs :: z0 :: Z, ⟨hn, hdp, hx1, hsp, hx0, hS⟩ =>
        have e1 : zn = (0, zn.2) := by rw [hn.2, Nat.eq_of_beq_eq_true c1]
        have e2 : zd = (0, zd.2) := by rw [hdp.2, Nat.eq_of_beq_eq_true c2]
        have e3 : zs = (0, zs.2) := by rw [hsp.2, Nat.eq_of_beq_eq_true c3]
        have e4 : z1 = (2, z1.2) := by rw [hx1.2, Nat.eq_of_beq_eq_true c4]
        have e5 : z0 = (2, z0.2) := by rw [hx0.2, Nat.eq_of_beq_eq_true c5]
        have v1 := aR_const c6 hx1
        have v0 := aR_const c7 hx0
        have hsum : zsum Z ≤ 8 := by rw [a_sum_ok hS]; exact Nat.le_of_ble_eq_true c8
        have c9 : a < 2 := Nat.le_of_ble_eq_true c9
        rw [← v1, ← v0] at hr
        rw [← v1] at c10
        rw [← v0] at c11
        obtain ⟨nl, nh, hr, n1, n2⟩ := a_rng_den hr hd hn
        obtain ⟨dl, dh, hr, d1, d2⟩ := a_rng_den hr hd hdp
        obtain ⟨sl, sh, hr, s1, s2⟩ := a_rng_den hr hd hsp
        split at hr
        · rename_i w0 w1 hw0 hw1
          rw [a_shp_eq] at hw0 hw1
          rcases x_condT hr with ⟨hg, hr⟩ | ⟨-, hr⟩
          · simp only [Bool.and_eq_true, Bool.or_eq_true, a_dec_eq] at hg
            obtain ⟨g1, g2, g3, g4, g5, g6, g7⟩ := hg
            have lim : ∀ (x : aV) (zx : zV) (lx hx : Int) (w : Nat), aR ρ q.1 x zx → zx.2 ≤ hx → (hx + nh ≤ Int.ofNat w ∨ a_ent q.2.1 q.2.2.1 3 (a_less (a_tm 1 n) (a_tm (-1) x)) (Int.ofNat w - n.2.2 - x.2.2) = true) → zx.2 + zn.2 ≤ (w : Int) := by
              intro x zx lx hx w hR hle hor
              rcases hor with hor | hor
              · have hor : hx + nh ≤ (w : Int) := hor
                omega
              · have k := a_ent_ok hd.1 3 hor
                rw [a_less_ok] at k
                have l1 := alin_tm ρ 1 n
                have l2 := alin_tm ρ (-1) x
                rw [← aR_val hn] at l1
                rw [← aR_val hR] at l2
                have k : alin ρ (a_tm 1 n) - alin ρ (a_tm (-1) x) ≤ (w : Int) - n.2.2 - x.2.2 := k
                omega
            have k0 := lim sp zs sl sh w0.2 hsp s2 g6
            have k1 := lim dp zd dl dh w1.2 hdp d2 g7
            have r0 : zroom a z0.2 zs.2 zn.2 = true := by
              unfold zroom
              rw [hw0]
              show (zcode w0.1 == a && (decide (0 ≤ zs.2) && (decide (0 ≤ zn.2) && decide (zs.2 + zn.2 ≤ (w0.2 : Int))))) = true
              rw [Nat.eq_of_beq_eq_true g1, beq_self_eq_true, a_decT (show 0 ≤ zs.2 by omega), a_decT (show 0 ≤ zn.2 by omega), a_decT k0]; rfl
            have r1 : zroom a z1.2 zd.2 zn.2 = true := by
              unfold zroom
              rw [hw1]
              show (zcode w1.1 == a && (decide (0 ≤ zd.2) && (decide (0 ≤ zn.2) && decide (zd.2 + zn.2 ≤ (w1.2 : Int))))) = true
              rw [Nat.eq_of_beq_eq_true g2, beq_self_eq_true, a_decT (show 0 ≤ zd.2 by omega), a_decT (show 0 ≤ zn.2 by omega), a_decT k1]; rfl
            refine ⟨_, (show z_copy nx a (h, M, zn :: zd :: z1 :: zs :: z0 :: Z) = some (.inr (.inl (nx, zcopy h z0.2.toNat zs.2.toNat z1.2.toNat zd.2.toNat zn.2.toNat, M, Z))) from ?_), ?_⟩
            · rw [e1, e2, e3, e4, e5]
              show (if zroom a z0.2 zs.2 zn.2 ∧ zroom a z1.2 zd.2 zn.2 ∧ zsum Z ≤ 8 ∧ a < 2 then znx nx (zcopy h z0.2.toNat zs.2.toNat z1.2.toNat zd.2.toNat zn.2.toNat, M, Z) else none) = _
              rw [if_pos ⟨r0, r1, hsum, c9⟩]; rfl
            · rcases x_condT hr with ⟨hself, hr⟩ | ⟨-, hr⟩
              · simp only [Bool.and_eq_true, a_dec_eq] at hself
                obtain ⟨u1, u2, u3, u4⟩ := hself
                have u1 := Nat.eq_of_beq_eq_true u1
                have e0 : zcopy h z0.2.toNat zs.2.toNat z1.2.toNat zd.2.toNat zn.2.toNat = h := by
                  funext a' k
                  show (if a' = z1.2.toNat ∧ zd.2.toNat ≤ k ∧ k < zd.2.toNat + zn.2.toNat then h z0.2.toNat (zs.2.toNat + (k - zd.2.toNat)) else h a' k) = h a' k
                  by_cases hk : a' = z1.2.toNat ∧ zd.2.toNat ≤ k ∧ k < zd.2.toNat + zn.2.toNat
                  · rw [if_pos hk, hk.1, u1, show zs.2.toNat + (k - zd.2.toNat) = k by omega]
                  · rw [if_neg hk]
                rw [e0]
                exact a_go_ok hr (Nat.le_refl _) ⟨hd, hL, hS⟩
              split at hr
              · rename_i l0 l1 hl0 hl1
                rw [x_kZ_eq, x_kN_eq] at hr
                split at hr
                · rename_i t ht
                  rcases x_condT hr with ⟨hf, hr⟩ | ⟨-, hr⟩
                  · rw [Bool.and_eq_true, Bool.and_eq_true] at hf
                    obtain ⟨f1, f2, f3⟩ := hf
                    have f1 : t.1 < 2 := Nat.le_of_ble_eq_true f1
                    rw [x_spine_eq, x_spine_eq] at hr
                    have mh := a_min_ok (dh + nh) (Int.ofNat w1.2)
                    have ms := a_min_ok (sh + nh) (Int.ofNat w0.2)
                    have mh3 : a_min (dh + nh) (Int.ofNat w1.2) = dh + nh ∨ a_min (dh + nh) (Int.ofNat w1.2) = (w1.2 : Int) := mh.2.2
                    have ms3 : a_min (sh + nh) (Int.ofNat w0.2) = sh + nh ∨ a_min (sh + nh) (Int.ofNat w0.2) = (w0.2 : Int) := ms.2.2
                    obtain ⟨hi, hhi⟩ : ∃ hi, hi = a_min (dh + nh) (Int.ofNat w1.2) - 1 := ⟨_, rfl⟩
                    rw [← hhi] at hr f2 f3
                    obtain ⟨shi, hshi⟩ : ∃ shi, shi = a_min (sh + nh) (Int.ofNat w0.2) - 1 := ⟨_, rfl⟩
                    rw [← hshi] at ht
                    -- the places that are written
                    have inD : ∀ k : Nat, zd.2.toNat ≤ k → k < zd.2.toNat + zn.2.toNat → dl ≤ (k : Int) ∧ (k : Int) ≤ hi := fun k k1 k2 => ⟨by omega, by omega⟩
                    have src : ∀ k : Nat, zd.2.toNat ≤ k → k < zd.2.toNat + zn.2.toNat → atin t (h z0.2.toNat (zs.2.toNat + (k - zd.2.toNat))) := fun k k1 k2 =>
                      a_uniF_ok (j := zs.2.toNat + (k - zd.2.toNat)) ht (hd.2.1 _ _ hl0) (by omega) (by omega)
                    have num : ∀ zv : zV, atin t zv → zv.1 = t.1 ∧ t.2.1 ≤ zv.2 ∧ zv.2 ≤ t.2.2.1 := by
                      intro zv hz
                      obtain ⟨tk, tl, tu, tr⟩ := t
                      match tk, f1, hz with
                      | 0, _, hz => exact hz
                      | 1, _, hz => exact hz
                    have hh : ∀ a' k : Nat, ¬ (a' = z1.2.toNat ∧ dl ≤ (k : Int) ∧ (k : Int) ≤ hi) → zcopy h z0.2.toNat zs.2.toNat z1.2.toNat zd.2.toNat zn.2.toNat a' k = h a' k := by
                      intro a' k hne
                      show (if a' = z1.2.toNat ∧ zd.2.toNat ≤ k ∧ k < zd.2.toNat + zn.2.toNat then _ else h a' k) = h a' k
                      rw [if_neg (fun e => hne ⟨e.1, inD k e.2.1 e.2.2⟩)]
                    have hOk : aOv ρ q.1 (a_flt (a_okeepR q.2.1 z1.2.toNat dl hi) q.2.2.2.1) (zcopy h z0.2.toNat zs.2.toNat z1.2.toNat zd.2.toNat zn.2.toNat) := by
                      intro e he
                      obtain ⟨m1, m2⟩ := a_flt_mem he
                      obtain ⟨o1, o2, o3⟩ := hd.2.2.1 e m1
                      refine ⟨o1, o2, ?_⟩
                      show aR ρ q.1 e.2 (zcopy h z0.2.toNat zs.2.toNat z1.2.toNat zd.2.toNat zn.2.toNat e.1.1 (aev ρ e.1.2.1 e.1.2.2).toNat)
                      rw [hh _ _ (fun k => ?_)]
                      · exact o3
                      · have := a_okeepR_ok hd.1.1 m2
                        rcases this with d | d
                        · exact d k.1
                        · omega
                    have key : ∀ O', some [Sum.inr (Sum.inl (nx, (q.1, q.2.1, q.2.2.1, O', a_flt (a_fkeep X.1.2.1 z1.2.toNat dl hi) q.2.2.2.2), L, S'))] = some outs → aOv ρ q.1 O' (zcopy h z0.2.toNat zs.2.toNat z1.2.toNat zd.2.toNat zn.2.toNat) → aCov X ρ q.1 outs (.inr (.inl (nx, zcopy h z0.2.toNat zs.2.toNat z1.2.toNat zd.2.toNat zn.2.toNat, M, Z))) := by
                      intro O' hr hO
                      refine a_go_ok hr (Nat.le_refl _) ⟨⟨hd.1, fun a' l' hl' => ?_, hO, a_fkeep_ok hX hd hh, fun a' k hne => ?_, hd.2.2.2.2.2⟩, hL, hS⟩
                      · by_cases ea : a' = z1.2.toNat
                        · subst ea
                          rw [hl1] at hl'
                          cases hl'
                          -- what is written, or any number that fits
                          obtain ⟨zz, hzz⟩ : ∃ zz : Nat → zV, zz = fun k => if zd.2.toNat ≤ k ∧ k < zd.2.toNat + zn.2.toNat then h z0.2.toNat (zs.2.toNat + (k - zd.2.toNat)) else (t.1, t.2.1) := ⟨_, rfl⟩
                          by_cases hne : t.2.1 ≤ t.2.2.1
                          · refine a_accsFT (z := zz) (t := t.1) (vl := t.2.1) (vh := t.2.2.1) (lo := dl) (hi := hi) (g := h z1.2.toNat) (fun k _ _ => ?_) (fun k _ _ => ?_) (fun k hk => ?_) f2 (hd.2.1 _ _ hl1)
                            · rw [hzz]
                              dsimp only
                              by_cases hk : zd.2.toNat ≤ k ∧ k < zd.2.toNat + zn.2.toNat
                              · rw [if_pos hk]; exact num _ (src k hk.1 hk.2)
                              · rw [if_neg hk]; exact ⟨rfl, Int.le_refl _, hne⟩
                            · show zcopy h z0.2.toNat zs.2.toNat z1.2.toNat zd.2.toNat zn.2.toNat z1.2.toNat k = zz k ∨ _
                              rw [hzz]
                              by_cases hk : zd.2.toNat ≤ k ∧ k < zd.2.toNat + zn.2.toNat
                              · left
                                show (if z1.2.toNat = z1.2.toNat ∧ zd.2.toNat ≤ k ∧ k < zd.2.toNat + zn.2.toNat then _ else _) = (if _ then _ else _)
                                rw [if_pos ⟨rfl, hk⟩, if_pos hk]
                              · right
                                show (if z1.2.toNat = z1.2.toNat ∧ zd.2.toNat ≤ k ∧ k < zd.2.toNat + zn.2.toNat then _ else h z1.2.toNat k) = h z1.2.toNat k
                                rw [if_neg (fun e => hk e.2)]
                            · exact hh _ k (fun e => hk e.2)
                          · have emp : ∀ k : Nat, ¬ (zd.2.toNat ≤ k ∧ k < zd.2.toNat + zn.2.toNat) := fun k hk => by
                              have := num _ (src k hk.1 hk.2)
                              omega
                            have e0 : zcopy h z0.2.toNat zs.2.toNat z1.2.toNat zd.2.toNat zn.2.toNat z1.2.toNat = h z1.2.toNat := by
                              funext k
                              show (if z1.2.toNat = z1.2.toNat ∧ zd.2.toNat ≤ k ∧ k < zd.2.toNat + zn.2.toNat then _ else h z1.2.toNat k) = h z1.2.toNat k
                              rw [if_neg (fun e => emp k e.2)]
                            show atyC (zcopy h z0.2.toNat zs.2.toNat z1.2.toNat zd.2.toNat zn.2.toNat z1.2.toNat) _ 0
                            rw [e0]
                            exact hd.2.1 _ _ hl1
                        · have e0 : zcopy h z0.2.toNat zs.2.toNat z1.2.toNat zd.2.toNat zn.2.toNat a' = h a' := by
                            funext k
                            exact hh a' k (fun e => ea e.1)
                          show atyC (zcopy h z0.2.toNat zs.2.toNat z1.2.toNat zd.2.toNat zn.2.toNat a') _ 0
                          rw [e0]
                          exact hd.2.1 _ _ hl'
                      · show zcopy h z0.2.toNat zs.2.toNat z1.2.toNat zd.2.toNat zn.2.toNat a' k = _
                        rw [hh a' k (fun e => hne ?_)]
                        · exact hd.2.2.2.2.1 a' k hne
                        · obtain ⟨ea, eb, ec⟩ := e
                          subst ea
                          exact a_mod_ok eb ec f3
                    rcases x_condT hr with ⟨hcar, hr⟩ | ⟨-, hr⟩
                    · simp only [Bool.and_eq_true, a_dec_eq] at hcar
                      obtain ⟨u1, u2, u3⟩ := hcar
                      rw [a_carryK_eq, x_spine_eq] at hr
                      refine key _ hr (fun e he => (List.mem_append.mp he).elim (fun he => ?_) (hOk e))
                      obtain ⟨e0, m1, m2, m3, m4, m5, rfl⟩ := a_carry_mem he
                      obtain ⟨o1, o2, o3⟩ := hd.2.2.1 e0 m1
                      rw [m3] at o2 o3
                      rw [m2] at o3
                      have o2 : 0 ≤ e0.1.2.2 := o2
                      refine ⟨Nat.zero_le _, ?_, ?_⟩
                      · show 0 ≤ e0.1.2.2 - sl + dl
                        omega
                      · show aR ρ q.1 e0.2 (if z1.2.toNat = z1.2.toNat ∧ zd.2.toNat ≤ (e0.1.2.2 - sl + dl).toNat ∧ (e0.1.2.2 - sl + dl).toNat < zd.2.toNat + zn.2.toNat then h z0.2.toNat (zs.2.toNat + ((e0.1.2.2 - sl + dl).toNat - zd.2.toNat)) else h z1.2.toNat (e0.1.2.2 - sl + dl).toNat)
                        rw [if_pos ⟨rfl, by omega, by omega⟩, show zs.2.toNat + ((e0.1.2.2 - sl + dl).toNat - zd.2.toNat) = e0.1.2.2.toNat by omega]
                        exact o3
                    · exact key _ hr hOk
                  · cases hr
                · cases hr
              · cases hr
          · cases hr
        · cases hr
    · cases hr
  · cases hr
theorem ap_call (a b : Nat) (z : Int) (cs : List (Int × Nat)) : aStepOK X (29, nx, a, b, z, cs) := by
  intro ρ q L S outs h M Z hr hd hL hS
  obtain ⟨w, hw⟩ : ∃ w, w = cs.head?.elim 0 (fun q => q.2) := ⟨_, rfl⟩
  have hr : a_call nx a b z (cs.head?.elim 0 (fun q => q.2)) q L S = some outs := hr
  rw [← hw] at hr
  have take : ∀ (n : Nat) (S acc : List aV) (Z accz : List zV) (as S' : List aV), a_take n S acc = some (as, S') → aRl ρ q.1 S Z → aRl ρ q.1 acc accz → ∃ bs Z', ztake n Z accz = some (bs, Z') ∧ aRl ρ q.1 as bs ∧ aRl ρ q.1 S' Z' := by
    intro n
    induction n with
    | zero =>
      intro S acc Z accz as S' ht h1 h2
      have ht : some (acc, S) = some (as, S') := ht
      cases ht
      exact ⟨accz, Z, rfl, h2, h1⟩
    | succ n ih =>
      intro S acc Z accz as S' ht h1 h2
      match S, Z, h1, ht with
      | [], _, _, ht => cases ht
      | v :: S, zv :: Z, ⟨hv, h1⟩, ht =>
        have ht : a_take n S (v :: acc) = some (as, S') := ht
        exact ih S (v :: acc) Z (zv :: accz) as S' ht h1 ⟨hv, h2⟩
  unfold a_call at hr
  split at hr
  · rename_i as S' hts
    obtain ⟨bs, Z', t1, t2, t3⟩ := take b S [] Z [] as S' hts hS trivial
    rcases x_condT hr with ⟨hc, hr⟩ | ⟨-, hr⟩
    · rw [Bool.and_eq_true, Bool.and_eq_true, Bool.or_eq_true, a_dec_eq] at hc
      obtain ⟨c1, c2, c3⟩ := hc
      have s1 : zsum Z' ≤ 8 := by rw [a_sum_ok t3]; exact Nat.le_of_ble_eq_true c1
      have s2 : zsum bs ≤ w := by rw [a_sum_ok t2]; exact Nat.le_of_ble_eq_true c2
      have s3 : 0 ≤ z → (bs.head?.any fun v => v.1 == 2 && zisO z.toNat v.2) = true := by
        intro hz
        rcases c3 with c3 | c3
        · omega
        · split at c3
          · rename_i v as'
            rw [Bool.and_eq_true, Bool.and_eq_true] at c3
            match bs, t2 with
            | zv :: bs, ⟨hv, _⟩ =>
              have e1 : zv.1 = 2 := by rw [hv.2]; exact Nat.eq_of_beq_eq_true c3.1
              have e2 := aR_const c3.2.1 hv
              show (zv.1 == 2 && zisO z.toNat zv.2) = true
              rw [e1, e2, a_isO_ok c3.2.2]; rfl
          · cases c3
      have hr := Option.some.inj hr
      subst hr
      refine ⟨_, (show z_call nx a b z (cs.head?.elim 0 (fun q => q.2)) (h, M, Z) = some (.inr (.inr (a, bs, nx, (h, M, Z')))) from ?_), _, List.mem_singleton.mpr rfl, ρ, aAg.refl _ _, Nat.le_refl _, rfl, rfl, t2, hd, hL, t3⟩
      rw [← hw]
      unfold z_call
      rw [show ztake b (h, M, Z).2.2 [] = some (bs, Z') from t1]
      exact if_pos ⟨s1, s2, s3⟩
    · cases hr
  · cases hr
theorem ap_ret (a b : Nat) (z : Int) (cs : List (Int × Nat)) : aStepOK X (30, nx, a, b, z, cs) := by
  intro ρ q L S outs h M Z hr hd hL hS
  have hr : a_ret b a q S = some outs := hr
  unfold a_ret at hr
  split at hr
  · match Z, hS with
    | [], _ =>
      have hr := Option.some.inj hr
      subst hr
      exact ⟨_, rfl, _, List.mem_singleton.mpr rfl, ρ, aAg.refl _ _, Nat.le_refl _, hd, trivial⟩
  · rename_i v _
    match Z, hS with
    | [zv], ⟨hv, _⟩ =>
      obtain ⟨lo, hi, hr, b1, b2⟩ := a_rng_den hr hd hv
      rcases x_condT hr with ⟨hc, hr⟩ | ⟨-, hr⟩
      · rw [Bool.and_eq_true] at hc
        have hf := a_fitc_ok hc.1 hv b1 b2
        have e1 : zv.1 = 0 := by rw [hv.2]; exact Nat.eq_of_beq_eq_true hc.2
        have hr := Option.some.inj hr
        subst hr
        refine ⟨_, (show (if zfit a zv ∧ zv.1 = 0 then some (Sum.inl (h, some zv)) else none) = some (.inl (h, some zv)) from if_pos ⟨hf, e1⟩), _, List.mem_singleton.mpr rfl, ρ, aAg.refl _ _, Nat.le_refl _, hd, hv⟩
      · cases hr
  · rename_i v _
    match Z, hS with
    | [zv], ⟨hv, _⟩ =>
      rcases x_condT hr with ⟨hc, hr⟩ | ⟨-, hr⟩
      · have e1 : zv.1 = 1 := by rw [hv.2]; exact Nat.eq_of_beq_eq_true hc
        have hr := Option.some.inj hr
        subst hr
        refine ⟨_, (show (if zv.1 = 1 then some (Sum.inl (h, some zv)) else none) = some (.inl (h, some zv)) from if_pos e1), _, List.mem_singleton.mpr rfl, ρ, aAg.refl _ _, Nat.le_refl _, hd, hv⟩
      · cases hr
  · cases hr
end AI3
end
section
/-! THE WATCHER: runs, matching, contracts -/
theorem ai_ok {X : aX} (hX : aOK X) : ∀ i : zX, aStepOK X i
  | (0, nx, a, b, z, cs) => ap_push a z b cs
  | (1, nx, a, b, z, cs) => ap_goto a b z cs
  | (2, nx, a, b, z, cs) => ap_load a b z cs
  | (3, nx, a, b, z, cs) => ap_store1 a b z cs
  | (4, nx, a, b, z, cs) => ap_store2 a b z cs
  | (5, nx, a, b, z, cs) => ap_iinc a b z cs
  | (6, nx, a, b, z, cs) => ap_un32 a b z cs
  | (7, nx, a, b, z, cs) => ap_bin32 a b z cs
  | (8, nx, a, b, z, cs) => ap_div32 a b z cs
  | (9, nx, a, b, z, cs) => ap_neg64 a b z cs
  | (10, nx, a, b, z, cs) => ap_bin64 a b z cs
  | (11, nx, a, b, z, cs) => ap_div64 a b z cs
  | (12, nx, a, b, z, cs) => ap_sh64 a b z cs
  | (13, nx, a, b, z, cs) => ap_i2l a b z cs
  | (14, nx, a, b, z, cs) => ap_l2i a b z cs
  | (15, nx, a, b, z, cs) => ap_stk a b z cs
  | (16, nx, a, b, z, cs) => ap_if a b z cs
  | (17, nx, a, b, z, cs) => ap_icmp a b z cs
  | (18, nx, a, b, z, cs) => ap_lcmp a b z cs
  | (19, nx, a, b, z, cs) => ap_sw a b z cs
  | (20, nx, a, b, z, cs) => ap_getf a b z cs
  | (21, nx, a, b, z, cs) => ap_putf hX a b z cs
  | (22, nx, a, b, z, cs) => ap_ald hX a b z cs
  | (23, nx, a, b, z, cs) => ap_ast hX a b z cs
  | (24, nx, a, b, z, cs) => ap_alen a b z cs
  | (25, nx, a, b, z, cs) => ap_slen a b z cs
  | (26, nx, a, b, z, cs) => ap_char a b z cs
  | (27, nx, a, b, z, cs) => ap_math a b z cs
  | (28, nx, a, b, z, cs) => ap_copy hX a b z cs
  | (29, nx, a, b, z, cs) => ap_call a b z cs
  | (30, nx, a, b, z, cs) => ap_ret a b z cs
  | (n + 31, nx, a, b, z, cs) => fun ρ q L S outs h M Z hr _ _ _ => by
    have e : ∀ k, k < 31 → Nat.beq (n + 31) k = false := fun k hk => by
      cases hb : Nat.beq (n + 31) k with
      | false => rfl
      | true => have := Nat.eq_of_beq_eq_true hb; omega
    unfold ai ai1 ai2 ai3 at hr
    rw [e 2 (by omega), e 0 (by omega), e 20 (by omega), e 7 (by omega), e 30 (by omega), e 23 (by omega), e 1 (by omega), e 17 (by omega), e 22 (by omega), e 16 (by omega)] at hr
    have hr : (none : Option (List aOut)) = some outs := hr
    cases hr
-- hints: method, place, kind (0: split a local at bounds), which, numbers
abbrev aHt : Type := List (Nat × Nat × Nat × Nat × List Int)
abbrev aLm : Type := Nat → Nat → List Int → aS → Option (List aS)
abbrev aTh : Type := List (Nat × Nat × Int)
-- a contract: method, depth, at the entry, its arguments, what it may write, what it comes to
abbrev aK : Type := Nat × Nat × aQ × List aV × aM × List aRs
abbrev aRes : Type := (Nat × aS) ⊕ aRs
noncomputable def a_splitR (v : aV) (L : aL) (S : List aV) (bs : List Int) : aQ → Option (List aS) := List.rec (motive := fun _ => aQ → Option (List aS)) (fun q => some [(q, L, S)]) (fun b _ ih q => a_br 0 q v (0, 0, b) (fun q => some [(q, L, S)]) ih) bs
noncomputable def a_split (i : Nat) (bs : List Int) (st : aS) : Option (List aS) := match a_lget st.2.1 i with
  | some v => cond (Nat.beq v.1 0) (a_splitR v st.2.1 st.2.2 bs st.1) none
  | none => none
noncomputable def a_hint (lm : aLm) (k w : Nat) (bs : List Int) (st : aS) : Option (List aS) := match k with
  | 0 => a_split w bs st
  | k + 1 => lm k w bs st
-- each, then all together
noncomputable def a_gath {α β : Type} (f : α → Option (List β)) (l : List α) : Option (List β) := List.rec (motive := fun _ => Option (List β)) (some []) (fun a t ih => match t with
  | [] => f a
  | _ :: _ => a_app (f a) ih) l
noncomputable def a_hints {β : Type} (lm : aLm) (mi pc : Nat) (f : aS → Option (List β)) (hs : aHt) : aS → Option (List β) := List.rec (motive := fun _ => aS → Option (List β)) f (fun x _ ih st => cond (Nat.beq x.1 mi && Nat.beq x.2.1 pc) (match a_hint lm x.2.2.1 x.2.2.2.1 x.2.2.2.2 st with
  | some l => a_gath ih l
  | none => none) (ih st)) hs
/-! matching -/
noncomputable def a_th (θ : aTh) (j : Nat) : Option (Nat × Int) := List.rec (motive := fun _ => Option (Nat × Int)) none (fun e _ ih => cond (Nat.beq e.1 j) (some e.2) ih) θ
-- a pattern's value (of N unknowns) is this one
noncomputable def a_bindK {β : Type} (N : Nat) (E : aB) (θ : aTh) (p v : aV) (f : aTh → Option β) : Option β := cond (Nat.beq p.1 v.1 && Nat.ble p.2.1 N) (Nat.rec (motive := fun _ => Option β) (a_rngK E v (fun lo hi => cond (@decide (lo = p.2.2) (a_decEqZ _ _) && @decide (hi = p.2.2) (a_decEqZ _ _)) (f θ) none)) (fun j _ => match a_th θ j with
  | some e => cond (Nat.beq e.1 v.2.1 && @decide (e.2 + p.2.2 = v.2.2) (a_decEqZ _ _)) (f θ) (a_rngK E (0, e) (fun l h => a_rngK E v (fun l2 h2 => cond (@decide (l = h) (a_decEqZ _ _) && (@decide (l2 = h2) (a_decEqZ _ _) && @decide (l + p.2.2 = l2) (a_decEqZ _ _))) (f θ) none)))
  | none => x_kN v.2.1 (fun s => x_kZ (v.2.2 - p.2.2) (fun o => f ((j, s, o) :: θ)))) p.2.1) none
noncomputable def a_bindsK {β : Type} (N : Nat) (E : aB) (f : aTh → Option β) (ps : List aV) : List aV → aTh → Option β := List.rec (motive := fun _ => List aV → aTh → Option β) (fun vs θ => match vs with
  | [] => f θ
  | _ => none) (fun p _ ih vs θ => match vs with
  | v :: vs => a_bindK N E θ p v (ih vs)
  | [] => none) ps
noncomputable def a_bindLK {β : Type} (N : Nat) (E : aB) (L : aL) (f : aTh → Option β) (ps : aL) : aTh → Option β := List.rec (motive := fun _ => aTh → Option β) f (fun p _ ih θ => match a_lget L p.1 with
  | some v => a_bindK N E θ p.2 v ih
  | none => none) ps
-- a pattern's sum: here
noncomputable def a_thK {β : Type} (N : Nat) (θ : aTh) (s : Nat) (o : Int) (f : Nat → Int → Option β) : Option β := cond (Nat.ble s N) (Nat.rec (motive := fun _ => Option β) (f 0 o) (fun j _ => match a_th θ j with
  | some e => x_kZ (e.2 + o) (fun o => f e.1 o)
  | none => none) s) none
noncomputable def a_bindOK {β : Type} (N : Nat) (q : aQ) (f : aTh → Option β) (ps : aO) : aTh → Option β := List.rec (motive := fun _ => aTh → Option β) f (fun p _ ih θ => a_thK N θ p.1.2.1 p.1.2.2 (fun s o => match a_oget q.2.2.2.1 p.1.1 s o with
  | some v => a_bindK N q.2.1 θ p.2 v ih
  | none => none)) ps
noncomputable def a_all {α : Type} (f : α → Bool) (l : List α) : Bool := List.rec (motive := fun _ => Bool) true (fun a _ ih => f a && ih) l
noncomputable def a_any {α : Type} (f : α → Bool) (l : List α) : Bool := List.rec (motive := fun _ => Bool) false (fun a _ ih => f a || ih) l
noncomputable def a_inE (N : Nat) (q : aQ) (θ : aTh) (x : Nat × Int × Int) : Bool := Nat.blt x.1 N && (match a_th θ x.1 with
  | some e => (match a_rngK q.2.1 (0, e) (fun l h => some (@decide (x.2.1 ≤ l) (a_decLe _ _) && @decide (h ≤ x.2.2) (a_decLe _ _))) with
    | some b => b
    | none => false) || (a_leq q (0, 0, x.2.1) (0, e) 0 && a_leq q (0, e) (0, 0, x.2.2) 0)
  | none => false)
-- a sum by the matched unknowns: terms, and what is left of the number
noncomputable def a_subF (θ : aTh) (ts : List (Int × Nat)) : Option (List (Int × Nat) × Int) := List.rec (motive := fun _ => Option (List (Int × Nat) × Int)) (some ([], 0)) (fun p _ ih => match ih with
  | some r => match a_th θ p.2 with
    | some e => Nat.rec (motive := fun _ => Option (List (Int × Nat) × Int)) (some (r.1, p.1 * e.2 + r.2)) (fun i _ => some (a_ins p.1 i r.1, p.1 * e.2 + r.2)) e.1
    | none => none
  | none => none) ts
noncomputable def a_scp (N : Nat) (ts : List (Int × Nat)) : Bool := a_all (fun p => Nat.blt p.2 N) ts
noncomputable def a_inF (N : Nat) (q : aQ) (θ : aTh) (x : aF) : Bool := a_scp N x.1 && (match a_subF θ x.1 with
  | some r => a_ent q.2.1 q.2.2.1 3 r.1 (x.2 - r.2)
  | none => false)
noncomputable def a_memN (j : Nat) (l : List Nat) : Bool := List.rec (motive := fun _ => Bool) false (fun a _ ih => Nat.beq a j || ih) l
-- all but values: bounds, facts, flags, the script's length
noncomputable def a_rest (lenS : Bool) (p q : aQ) (θ : aTh) : Bool := a_all (a_inE p.1 q θ) p.2.1 && (a_all (a_inF p.1 q θ) p.2.2.1 && (a_all (fun j => a_memN j q.2.2.2.2) p.2.2.2.2 && (!lenS || (Nat.blt 0 p.1 && (match a_th θ 0 with
  | some e => Nat.beq e.1 1 && @decide (e.2 = 0) (a_decEqZ _ _)
  | none => false)))))
noncomputable def a_id (k : Nat) : aTh := Nat.rec (motive := fun _ => aTh) [] (fun j ih => (j, j + 1, 0) :: ih) k
-- measures fall: news by the matched unknowns, olds by ours
noncomputable def a_lexR (q : aQ) (θ : aTh) (ns : List aF) : List aF → Bool := List.rec (motive := fun _ => List aF → Bool) (fun _ => false) (fun n _ ih os => match os with
  | o :: os => (match a_subF θ n.1 with
    | some r => (a_ent q.2.1 q.2.2.1 3 (a_less r.1 o.1) (o.2 - n.2 - r.2 - 1) && a_ent q.2.1 q.2.2.1 3 (a_less [] r.1) (n.2 + r.2)) || (a_ent q.2.1 q.2.2.1 3 (a_less r.1 o.1) (o.2 - n.2 - r.2) && ih os)
    | none => false)
  | [] => false) ns

/-! contracts, used -/
noncomputable def a_ext (kn n0 c : Nat) (θ : aTh) : aTh := Nat.rec (motive := fun _ => aTh) θ (fun j ih => (kn + j, n0 + j + 1, 0) :: ih) c
noncomputable def a_newE {β : Type} (θ : aTh) (f : aB → Option (List β)) (Es : aB) : aB → Option (List β) := List.rec (motive := fun _ => aB → Option (List β)) f (fun x _ ih E => match a_th θ x.1 with
  | some e => Nat.rec (motive := fun _ => Option (List β)) (cond (@decide (x.2.1 ≤ e.2) (a_decLe _ _) && @decide (e.2 ≤ x.2.2) (a_decLe _ _)) (ih E) (some [])) (fun i _ => match a_get E i with
    | some u => x_kZ (a_max u.1 (x.2.1 - e.2)) (fun l => x_kZ (a_min u.2 (x.2.2 - e.2)) (fun h => cond (@decide (l ≤ h) (a_decLe _ _)) (x_kN i (fun i => ih ((i, l, h) :: E))) (some [])))
    | none => x_kZ (x.2.1 - e.2) (fun l => x_kZ (x.2.2 - e.2) (fun h => x_kN i (fun i => ih ((i, l, h) :: E))))) e.1
  | none => none) Es
noncomputable def a_newF {β : Type} (θ : aTh) (f : List aF → Option β) (Fs : List aF) : List aF → Option β := List.rec (motive := fun _ => List aF → Option β) f (fun x _ ih Gs => match a_subF θ x.1 with
  | some r => x_spine r.1 (fun ts => x_kZ (x.2 - r.2) (fun b => ih ((ts, b) :: Gs)))
  | none => none) Fs
noncomputable def a_newO {β : Type} (N : Nat) (θ : aTh) (f : aO → Option β) (Os : aO) : aO → Option β := List.rec (motive := fun _ => aO → Option β) f (fun x _ ih O => a_thK N θ x.1.2.1 x.1.2.2 (fun s o => a_thK N θ x.2.2.1 x.2.2.2 (fun s2 o2 => ih (((x.1.1, s, o), (x.2.1, s2, o2)) :: O)))) Os
noncomputable def a_okept (E : aB) (m : aM) (e : (Nat × Nat × Int) × aV) : Bool := a_all (fun x => a_okeepR E x.1 (Int.ofNat x.2.1) (Int.ofNat x.2.2) e) m
noncomputable def a_fkept (sup : List (List aM)) (m : aM) (j : Nat) : Bool := a_all (fun x => a_fkeep sup x.1 (Int.ofNat x.2.1) (Int.ofNat x.2.2) j) m
noncomputable def a_retK {β : Type} (N : Nat) (θ : aTh) (v : Option aV) (f : Option aV → Option β) : Option β := match v with
  | none => f none
  | some v => a_thK N θ v.2.1 v.2.2 (fun s o => f (some (v.1, s, o)))
noncomputable def a_postK (G : aG) (κ : aK) (q : aQ) (θ : aTh) (p : aRs) : Option (List aRs) := cond (Nat.ble κ.2.2.1.1 p.1.1) (x_spine (a_ext κ.2.2.1.1 q.1 (p.1.1 - κ.2.2.1.1) θ) (fun θ => a_newE θ (fun E => a_newF θ (fun Fs => x_spine (a_flt (a_okept q.2.1 κ.2.2.2.2.1) q.2.2.2.1) (fun O => a_newO p.1.1 θ (fun O => x_spine (p.1.2.2.2.2 ++ a_flt (a_fkept G.2.1 κ.2.2.2.2.1) q.2.2.2.2) (fun fl => a_retK p.1.1 θ p.2 (fun v => x_kN (q.1 + (p.1.1 - κ.2.2.1.1)) (fun n => some [((n, E, Fs, O, fl), v)])))) p.1.2.2.2.1 O)) p.1.2.2.1 q.2.2.1) p.1.2.1 q.2.1)) none
noncomputable def a_callK (G : aG) (m : aM) (κ : aK) (q : aQ) (as : List aV) : Option (List aRs) := a_bindsK κ.2.2.1.1 q.2.1 (a_bindOK κ.2.2.1.1 q (fun θ => cond (a_rest false κ.2.2.1 q θ && a_all (fun x => a_mod m x.1 (Int.ofNat x.2.1) (Int.ofNat x.2.2)) κ.2.2.2.2.1) (a_gath (a_postK G κ q θ) κ.2.2.2.2.2) none) κ.2.2.1.2.2.2.1) κ.2.2.2.1 as []
noncomputable def a_pick (G : aG) (m : aM) (d mj : Nat) (q : aQ) (as : List aV) (Ks : List aK) : Option (List aRs) := List.rec (motive := fun _ => Option (List aRs)) none (fun κ _ ih => cond (Nat.beq κ.1 mj && Nat.ble κ.2.1 d) (match a_callK G m κ q as with
  | some r => some r
  | none => ih) ih) Ks
/-! runs -/
noncomputable def a_args (as : List aV) : Nat → aL := List.rec (motive := fun _ => Nat → aL) (fun _ => []) (fun v _ ih i => (i, v) :: ih (cond (Nat.beq (a_cat v) 2) (i + 2) (i + 1))) as
def a_pushO (v : Option aV) (S : List aV) : List aV := match v with
  | none => S
  | some v => v :: S
abbrev aCut0 : Type := Nat × aS × List aF
abbrev aGo : Type := Nat → Nat → List (List (Option zX)) → Nat → Bool → Nat → aS → Option (List aRes)
-- cuts as bits
noncomputable def a_bit (k pc : Nat) : Bool := Nat.beq (Nat.land 1 (Nat.shiftRight k pc)) 1
noncomputable def a_mask (cuts : List aCut0) : Nat := List.rec (motive := fun _ => Nat) 0 (fun c _ ih => Nat.lor (Nat.shiftLeft 1 c.1) ih) cuts
noncomputable def a_cont (G : aG) (m : aM) (Ks : List aK) (ih : aGo) (d mi : Nat) (t : List (List (Option zX))) (cuts : Nat) (o : aOut) : Option (List aRes) := match o with
  | .inl r => some [.inr r]
  | .inr (.inl (pc, st)) => ih d mi t cuts false pc st
  | .inr (.inr (mj, as, nx, st)) => match d with
    | 0 => none
    | d' + 1 => match a_pick G m d' mj st.1 as Ks with
      | some rets => a_gath (fun r => ih (d' + 1) mi t cuts false nx (r.1, st.2.1, a_pushO r.2 st.2.2)) rets
      | none => match x_nth zMT mj with
        | some t' => match ih d' mj t' 0 true 0 (st.1, a_args as 0, []) with
          | some rs => a_gath (fun x => match x with
            | .inr r => ih (d' + 1) mi t cuts false nx (r.1, st.2.1, a_pushO r.2 st.2.2)
            | .inl _ => none) rs
          | none => none
        | none => none
noncomputable def a_run (G : aG) (m : aM) (lm : aLm) (hs : aHt) (Ks : List aK) (n : Nat) : aGo := Nat.rec (motive := fun _ => aGo) (fun _ _ _ _ _ _ _ => none) (fun _ ih d mi t cuts first pc st => cond (!first && a_bit cuts pc) (some [.inl (pc, st)]) (a_hints lm mi pc (fun st => match z_at t pc with
  | some i => match ai G m i st.1 st.2.1 st.2.2 with
    | some outs => a_gath (a_cont G m Ks ih d mi t cuts) outs
    | none => none
  | none => none) hs st)) n
/-! a method's check -/
abbrev aCut : Type := Nat × aS × List aF
noncomputable def a_retOK (G : aG) (k : Nat) (r p : aRs) : Bool := match (match p.2, r.2 with
    | none, none => a_bindOK p.1.1 r.1 (fun θ => some (a_rest G.2.2 p.1 r.1 θ)) p.1.2.2.2.1 (a_id k)
    | some pv, some v => a_bindK p.1.1 r.1.2.1 (a_id k) pv v (a_bindOK p.1.1 r.1 (fun θ => some (a_rest G.2.2 p.1 r.1 θ)) p.1.2.2.2.1)
    | _, _ => none) with
  | some b => b && Nat.ble k p.1.1
  | none => false
noncomputable def a_cutOK (G : aG) (k : Nat) (olds : Option (List aF)) (st : aS) (c : aCut) : Bool := match a_bindLK c.2.1.1.1 st.1.2.1 st.2.1 (a_bindsK c.2.1.1.1 st.1.2.1 (a_bindOK c.2.1.1.1 st.1 (fun θ => some (a_rest G.2.2 c.2.1.1 st.1 θ && (match olds with
    | some os => a_lexR st.1 θ c.2.2 os
    | none => true))) c.2.1.1.2.2.2.1) c.2.1.2.2 st.2.2) c.2.1.2.1 (a_id k) with
  | some b => b && Nat.ble k c.2.1.1.1
  | none => false
noncomputable def a_fine (G : aG) (κ : aK) (cuts : List aCut) (olds : Option (List aF)) (x : aRes) : Bool := match x with
  | .inl (pc, st) => a_any (fun c => Nat.beq c.1 pc && a_cutOK G κ.2.2.1.1 olds st c) cuts
  | .inr r => a_any (a_retOK G κ.2.2.1.1 r) κ.2.2.2.2.2
noncomputable def a_from (G : aG) (lm : aLm) (hs : aHt) (Ks : List aK) (n : Nat) (κ : aK) (cuts : List aCut) (t : List (List (Option zX))) (olds : Option (List aF)) (pc : Nat) (st : aS) : Bool := a_bN (a_mask cuts) (fun k => match a_run G κ.2.2.2.2.1 lm hs Ks n κ.2.1 κ.1 t k true pc st with
  | some rs => a_all (a_fine G κ cuts olds) rs
  | none => false)
noncomputable def a_check (G : aG) (lm : aLm) (hs : aHt) (Ks : List aK) (n : Nat) (κ : aK) (cuts : List aCut) : Bool := match x_nth zMT κ.1 with
  | some t => a_from G lm hs Ks n κ cuts t none 0 (κ.2.2.1, a_args κ.2.2.2.1 0, []) && a_all (fun c => a_all (fun x => a_scp c.2.1.1.1 x.1) c.2.2 && a_from G lm hs Ks n κ cuts t (some c.2.2) c.1 c.2.1) cuts
  | none => false
/-! the walk once more, without cond and Decidable (wip/z/genq.py); that it comes to the same -/
noncomputable def aq_splitR (v : aV) (L : aL) (S : List aV) (bs : List Int) : aQ → Option (List aS) := List.rec (motive := fun _ => aQ → Option (List aS)) (fun q => some [(q, L, S)]) (fun b _ ih q => aq_br 0 q v (0, 0, b) (fun q => some [(q, L, S)]) ih) bs
theorem aq_splitR_e : @aq_splitR = @a_splitR := by
  delta aq_splitR
  simp only [aq_br_e]
  rfl
noncomputable def aq_split (i : Nat) (bs : List Int) (st : aS) : Option (List aS) := match aq_lget st.2.1 i with
  | some v => (Bool.rec (motive := fun _ => _) none (aq_splitR v st.2.1 st.2.2 bs st.1) (Nat.beq v.1 0))
  | none => none
theorem aq_split_e : @aq_split = @a_split := by
  delta aq_split
  simp only [aq_lget_e, aq_splitR_e]
  try simp only [a_cqx]
  rfl
noncomputable def aq_hint (lm : aLm) (k w : Nat) (bs : List Int) (st : aS) : Option (List aS) := match k with
  | 0 => aq_split w bs st
  | k + 1 => lm k w bs st
theorem aq_hint_e : @aq_hint = @a_hint := by
  delta aq_hint
  simp only [aq_split_e]
  rfl
noncomputable def aq_hints {β : Type} (lm : aLm) (mi pc : Nat) (f : aS → Option (List β)) (hs : aHt) : aS → Option (List β) := List.rec (motive := fun _ => aS → Option (List β)) f (fun x _ ih st => (Bool.rec (motive := fun _ => _) (ih st) (match aq_hint lm x.2.2.1 x.2.2.2.1 x.2.2.2.2 st with
  | some l => a_gath ih l
  | none => none) ((Bool.rec (motive := fun _ => Bool) false (Nat.beq x.2.1 pc) (Nat.beq x.1 mi))))) hs
theorem aq_hints_e : @aq_hints = @a_hints := by
  delta aq_hints
  simp only [aq_hint_e, a_aq, a_oq, a_nq]
  try simp only [a_cqx]
  rfl
noncomputable def aq_th (θ : aTh) (j : Nat) : Option (Nat × Int) := List.rec (motive := fun _ => Option (Nat × Int)) none (fun e _ ih => (Bool.rec (motive := fun _ => _) ih (some e.2) (Nat.beq e.1 j))) θ
theorem aq_th_e : @aq_th = @a_th := by
  delta aq_th
  try simp only [a_cqx]
  rfl
noncomputable def aq_bindK {β : Type} (N : Nat) (E : aB) (θ : aTh) (p v : aV) (f : aTh → Option β) : Option β := (Bool.rec (motive := fun _ => _) none (Nat.rec (motive := fun _ => Option β) (aq_rngK E v (fun lo hi => (Bool.rec (motive := fun _ => _) none (f θ) ((Bool.rec (motive := fun _ => Bool) false ((a_eqZ (hi) (p.2.2))) ((a_eqZ (lo) (p.2.2)))))))) (fun j _ => match aq_th θ j with
  | some e => (Bool.rec (motive := fun _ => _) (aq_rngK E (0, e) (fun l h => aq_rngK E v (fun l2 h2 => (Bool.rec (motive := fun _ => _) none (f θ) ((Bool.rec (motive := fun _ => Bool) false (((Bool.rec (motive := fun _ => Bool) false ((a_eqZ (l + p.2.2) (l2))) ((a_eqZ (l2) (h2)))))) ((a_eqZ (l) (h))))))))) (f θ) ((Bool.rec (motive := fun _ => Bool) false ((a_eqZ (e.2 + p.2.2) (v.2.2))) (Nat.beq e.1 v.2.1))))
  | none => x_kN v.2.1 (fun s => x_kZ (v.2.2 - p.2.2) (fun o => f ((j, s, o) :: θ)))) p.2.1) ((Bool.rec (motive := fun _ => Bool) false (Nat.ble p.2.1 N) (Nat.beq p.1 v.1))))
theorem aq_bindK_e : @aq_bindK = @a_bindK := by
  delta aq_bindK
  simp only [aq_rngK_e, aq_th_e, a_eqZ_q, a_aq, a_oq, a_nq]
  try simp only [a_cqx]
  rfl
noncomputable def aq_bindsK {β : Type} (N : Nat) (E : aB) (f : aTh → Option β) (ps : List aV) : List aV → aTh → Option β := List.rec (motive := fun _ => List aV → aTh → Option β) (fun vs θ => match vs with
  | [] => f θ
  | _ => none) (fun p _ ih vs θ => match vs with
  | v :: vs => aq_bindK N E θ p v (ih vs)
  | [] => none) ps
theorem aq_bindsK_e : @aq_bindsK = @a_bindsK := by
  delta aq_bindsK
  simp only [aq_bindK_e]
  rfl
noncomputable def aq_bindLK {β : Type} (N : Nat) (E : aB) (L : aL) (f : aTh → Option β) (ps : aL) : aTh → Option β := List.rec (motive := fun _ => aTh → Option β) f (fun p _ ih θ => match aq_lget L p.1 with
  | some v => aq_bindK N E θ p.2 v ih
  | none => none) ps
theorem aq_bindLK_e : @aq_bindLK = @a_bindLK := by
  delta aq_bindLK
  simp only [aq_lget_e, aq_bindK_e]
  rfl
noncomputable def aq_thK {β : Type} (N : Nat) (θ : aTh) (s : Nat) (o : Int) (f : Nat → Int → Option β) : Option β := (Bool.rec (motive := fun _ => _) none (Nat.rec (motive := fun _ => Option β) (f 0 o) (fun j _ => match aq_th θ j with
  | some e => x_kZ (e.2 + o) (fun o => f e.1 o)
  | none => none) s) (Nat.ble s N))
theorem aq_thK_e : @aq_thK = @a_thK := by
  delta aq_thK
  simp only [aq_th_e]
  try simp only [a_cqx]
  rfl
noncomputable def aq_bindOK {β : Type} (N : Nat) (q : aQ) (f : aTh → Option β) (ps : aO) : aTh → Option β := List.rec (motive := fun _ => aTh → Option β) f (fun p _ ih θ => aq_thK N θ p.1.2.1 p.1.2.2 (fun s o => match aq_oget q.2.2.2.1 p.1.1 s o with
  | some v => aq_bindK N q.2.1 θ p.2 v ih
  | none => none)) ps
theorem aq_bindOK_e : @aq_bindOK = @a_bindOK := by
  delta aq_bindOK
  simp only [aq_oget_e, aq_bindK_e, aq_thK_e]
  rfl
noncomputable def aq_all {α : Type} (f : α → Bool) (l : List α) : Bool := List.rec (motive := fun _ => Bool) true (fun a _ ih => (Bool.rec (motive := fun _ => Bool) false (ih) (f a))) l
theorem aq_all_e : @aq_all = @a_all := by
  delta aq_all
  simp only [a_aq, a_oq, a_nq]
  rfl
noncomputable def aq_any {α : Type} (f : α → Bool) (l : List α) : Bool := List.rec (motive := fun _ => Bool) false (fun a _ ih => (Bool.rec (motive := fun _ => Bool) (ih) true (f a))) l
theorem aq_any_e : @aq_any = @a_any := by
  delta aq_any
  simp only [a_aq, a_oq, a_nq]
  rfl
noncomputable def aq_inE (N : Nat) (q : aQ) (θ : aTh) (x : Nat × Int × Int) : Bool := (Bool.rec (motive := fun _ => Bool) false ((match aq_th θ x.1 with
  | some e => (Bool.rec (motive := fun _ => Bool) (((Bool.rec (motive := fun _ => Bool) false (aq_leq q (0, e) (0, 0, x.2.2) 0) (aq_leq q (0, 0, x.2.1) (0, e) 0)))) true ((match aq_rngK q.2.1 (0, e) (fun l h => some ((Bool.rec (motive := fun _ => Bool) false ((a_leZ (h) (x.2.2))) ((a_leZ (x.2.1) (l)))))) with
    | some b => b
    | none => false)))
  | none => false)) (Nat.blt x.1 N))
theorem aq_inE_e : @aq_inE = @a_inE := by
  delta aq_inE
  simp only [aq_rngK_e, aq_leq_e, aq_th_e, a_leZ_q, a_aq, a_oq, a_nq]
  rfl
noncomputable def aq_subF (θ : aTh) (ts : List (Int × Nat)) : Option (List (Int × Nat) × Int) := List.rec (motive := fun _ => Option (List (Int × Nat) × Int)) (some ([], 0)) (fun p _ ih => match ih with
  | some r => match aq_th θ p.2 with
    | some e => Nat.rec (motive := fun _ => Option (List (Int × Nat) × Int)) (some (r.1, p.1 * e.2 + r.2)) (fun i _ => some (aq_ins p.1 i r.1, p.1 * e.2 + r.2)) e.1
    | none => none
  | none => none) ts
theorem aq_subF_e : @aq_subF = @a_subF := by
  delta aq_subF
  simp only [aq_ins_e, aq_th_e]
  rfl
noncomputable def aq_scp (N : Nat) (ts : List (Int × Nat)) : Bool := aq_all (fun p => Nat.blt p.2 N) ts
theorem aq_scp_e : @aq_scp = @a_scp := by
  delta aq_scp
  simp only [aq_all_e]
  rfl
noncomputable def aq_inF (N : Nat) (q : aQ) (θ : aTh) (x : aF) : Bool := (Bool.rec (motive := fun _ => Bool) false ((match aq_subF θ x.1 with
  | some r => aq_ent q.2.1 q.2.2.1 3 r.1 (x.2 - r.2)
  | none => false)) (aq_scp N x.1))
theorem aq_inF_e : @aq_inF = @a_inF := by
  delta aq_inF
  simp only [aq_ent_e, aq_subF_e, aq_scp_e, a_aq, a_oq, a_nq]
  rfl
noncomputable def aq_memN (j : Nat) (l : List Nat) : Bool := List.rec (motive := fun _ => Bool) false (fun a _ ih => (Bool.rec (motive := fun _ => Bool) (ih) true (Nat.beq a j))) l
theorem aq_memN_e : @aq_memN = @a_memN := by
  delta aq_memN
  simp only [a_aq, a_oq, a_nq]
  rfl
noncomputable def aq_rest (lenS : Bool) (p q : aQ) (θ : aTh) : Bool := (Bool.rec (motive := fun _ => Bool) false (((Bool.rec (motive := fun _ => Bool) false (((Bool.rec (motive := fun _ => Bool) false (((Bool.rec (motive := fun _ => Bool) (((Bool.rec (motive := fun _ => Bool) false ((match aq_th θ 0 with
  | some e => (Bool.rec (motive := fun _ => Bool) false ((a_eqZ (e.2) (0))) (Nat.beq e.1 1))
  | none => false)) (Nat.blt 0 p.1)))) true ((Bool.rec (motive := fun _ => Bool) true false (lenS)))))) (aq_all (fun j => aq_memN j q.2.2.2.2) p.2.2.2.2)))) (aq_all (aq_inF p.1 q θ) p.2.2.1)))) (aq_all (aq_inE p.1 q θ) p.2.1))
theorem aq_rest_e : @aq_rest = @a_rest := by
  delta aq_rest
  simp only [aq_th_e, aq_all_e, aq_inE_e, aq_inF_e, aq_memN_e, a_eqZ_q, a_aq, a_oq, a_nq]
  rfl
noncomputable def aq_lexR (q : aQ) (θ : aTh) (ns : List aF) : List aF → Bool := List.rec (motive := fun _ => List aF → Bool) (fun _ => false) (fun n _ ih os => match os with
  | o :: os => (match aq_subF θ n.1 with
    | some r => (Bool.rec (motive := fun _ => Bool) (((Bool.rec (motive := fun _ => Bool) false (ih os) (aq_ent q.2.1 q.2.2.1 3 (aq_less r.1 o.1) (o.2 - n.2 - r.2))))) true (((Bool.rec (motive := fun _ => Bool) false (aq_ent q.2.1 q.2.2.1 3 (aq_less [] r.1) (n.2 + r.2)) (aq_ent q.2.1 q.2.2.1 3 (aq_less r.1 o.1) (o.2 - n.2 - r.2 - 1))))))
    | none => false)
  | [] => false) ns
theorem aq_lexR_e : @aq_lexR = @a_lexR := by
  delta aq_lexR
  simp only [aq_less_e, aq_ent_e, aq_subF_e, a_aq, a_oq, a_nq]
  rfl
noncomputable def aq_newE {β : Type} (θ : aTh) (f : aB → Option (List β)) (Es : aB) : aB → Option (List β) := List.rec (motive := fun _ => aB → Option (List β)) f (fun x _ ih E => match aq_th θ x.1 with
  | some e => Nat.rec (motive := fun _ => Option (List β)) ((Bool.rec (motive := fun _ => _) (some []) (ih E) ((Bool.rec (motive := fun _ => Bool) false ((a_leZ (e.2) (x.2.2))) ((a_leZ (x.2.1) (e.2))))))) (fun i _ => match aq_get E i with
    | some u => x_kZ (aq_max u.1 (x.2.1 - e.2)) (fun l => x_kZ (aq_min u.2 (x.2.2 - e.2)) (fun h => (Bool.rec (motive := fun _ => _) (some []) (x_kN i (fun i => ih ((i, l, h) :: E))) ((a_leZ (l) (h))))))
    | none => x_kZ (x.2.1 - e.2) (fun l => x_kZ (x.2.2 - e.2) (fun h => x_kN i (fun i => ih ((i, l, h) :: E))))) e.1
  | none => none) Es
theorem aq_newE_e : @aq_newE = @a_newE := by
  delta aq_newE
  simp only [aq_min_e, aq_max_e, aq_get_e, aq_th_e, a_leZ_q, a_aq, a_oq, a_nq]
  try simp only [a_cqx]
  rfl
noncomputable def aq_newF {β : Type} (θ : aTh) (f : List aF → Option β) (Fs : List aF) : List aF → Option β := List.rec (motive := fun _ => List aF → Option β) f (fun x _ ih Gs => match aq_subF θ x.1 with
  | some r => x_spine r.1 (fun ts => x_kZ (x.2 - r.2) (fun b => ih ((ts, b) :: Gs)))
  | none => none) Fs
theorem aq_newF_e : @aq_newF = @a_newF := by
  delta aq_newF
  simp only [aq_subF_e]
  rfl
noncomputable def aq_newO {β : Type} (N : Nat) (θ : aTh) (f : aO → Option β) (Os : aO) : aO → Option β := List.rec (motive := fun _ => aO → Option β) f (fun x _ ih O => aq_thK N θ x.1.2.1 x.1.2.2 (fun s o => aq_thK N θ x.2.2.1 x.2.2.2 (fun s2 o2 => ih (((x.1.1, s, o), (x.2.1, s2, o2)) :: O)))) Os
theorem aq_newO_e : @aq_newO = @a_newO := by
  delta aq_newO
  simp only [aq_thK_e]
  rfl
noncomputable def aq_okept (E : aB) (m : aM) (e : (Nat × Nat × Int) × aV) : Bool := aq_all (fun x => aq_okeepR E x.1 (Int.ofNat x.2.1) (Int.ofNat x.2.2) e) m
theorem aq_okept_e : @aq_okept = @a_okept := by
  delta aq_okept
  simp only [aq_okeepR_e, aq_all_e]
  rfl
noncomputable def aq_fkept (sup : List (List aM)) (m : aM) (j : Nat) : Bool := aq_all (fun x => aq_fkeep sup x.1 (Int.ofNat x.2.1) (Int.ofNat x.2.2) j) m
theorem aq_fkept_e : @aq_fkept = @a_fkept := by
  delta aq_fkept
  simp only [aq_fkeep_e, aq_all_e]
  rfl
noncomputable def aq_retK {β : Type} (N : Nat) (θ : aTh) (v : Option aV) (f : Option aV → Option β) : Option β := match v with
  | none => f none
  | some v => aq_thK N θ v.2.1 v.2.2 (fun s o => f (some (v.1, s, o)))
theorem aq_retK_e : @aq_retK = @a_retK := by
  delta aq_retK
  simp only [aq_thK_e]
  rfl
noncomputable def aq_postK (G : aG) (κ : aK) (q : aQ) (θ : aTh) (p : aRs) : Option (List aRs) := (Bool.rec (motive := fun _ => _) none (x_spine (a_ext κ.2.2.1.1 q.1 (p.1.1 - κ.2.2.1.1) θ) (fun θ => aq_newE θ (fun E => aq_newF θ (fun Fs => x_spine (aq_flt (aq_okept q.2.1 κ.2.2.2.2.1) q.2.2.2.1) (fun O => aq_newO p.1.1 θ (fun O => x_spine (p.1.2.2.2.2 ++ aq_flt (aq_fkept G.2.1 κ.2.2.2.2.1) q.2.2.2.2) (fun fl => aq_retK p.1.1 θ p.2 (fun v => x_kN (q.1 + (p.1.1 - κ.2.2.1.1)) (fun n => some [((n, E, Fs, O, fl), v)])))) p.1.2.2.2.1 O)) p.1.2.2.1 q.2.2.1) p.1.2.1 q.2.1)) (Nat.ble κ.2.2.1.1 p.1.1))
theorem aq_postK_e : @aq_postK = @a_postK := by
  delta aq_postK
  simp only [aq_flt_e, aq_newE_e, aq_newF_e, aq_newO_e, aq_okept_e, aq_fkept_e, aq_retK_e]
  try simp only [a_cqx]
  rfl
noncomputable def aq_callK (G : aG) (m : aM) (κ : aK) (q : aQ) (as : List aV) : Option (List aRs) := aq_bindsK κ.2.2.1.1 q.2.1 (aq_bindOK κ.2.2.1.1 q (fun θ => (Bool.rec (motive := fun _ => _) none (a_gath (aq_postK G κ q θ) κ.2.2.2.2.2) ((Bool.rec (motive := fun _ => Bool) false (aq_all (fun x => aq_mod m x.1 (Int.ofNat x.2.1) (Int.ofNat x.2.2)) κ.2.2.2.2.1) (aq_rest false κ.2.2.1 q θ))))) κ.2.2.1.2.2.2.1) κ.2.2.2.1 as []
theorem aq_callK_e : @aq_callK = @a_callK := by
  delta aq_callK
  simp only [aq_mod_e, aq_bindsK_e, aq_bindOK_e, aq_all_e, aq_rest_e, aq_postK_e, a_aq, a_oq, a_nq]
  try simp only [a_cqx]
  rfl
noncomputable def aq_pick (G : aG) (m : aM) (d mj : Nat) (q : aQ) (as : List aV) (Ks : List aK) : Option (List aRs) := List.rec (motive := fun _ => Option (List aRs)) none (fun κ _ ih => (Bool.rec (motive := fun _ => _) ih (match aq_callK G m κ q as with
  | some r => some r
  | none => ih) ((Bool.rec (motive := fun _ => Bool) false (Nat.ble κ.2.1 d) (Nat.beq κ.1 mj))))) Ks
theorem aq_pick_e : @aq_pick = @a_pick := by
  delta aq_pick
  simp only [aq_callK_e, a_aq, a_oq, a_nq]
  try simp only [a_cqx]
  rfl
noncomputable def aq_args (as : List aV) : Nat → aL := List.rec (motive := fun _ => Nat → aL) (fun _ => []) (fun v _ ih i => (i, v) :: ih ((Bool.rec (motive := fun _ => _) (i + 1) (i + 2) (Nat.beq (aq_cat v) 2)))) as
theorem aq_args_e : @aq_args = @a_args := by
  delta aq_args
  simp only [aq_cat_e]
  try simp only [a_cqx]
  rfl
noncomputable def aq_cont (G : aG) (m : aM) (Ks : List aK) (ih : aGo) (d mi : Nat) (t : List (List (Option zX))) (cuts : Nat) (o : aOut) : Option (List aRes) := match o with
  | .inl r => some [.inr r]
  | .inr (.inl (pc, st)) => ih d mi t cuts false pc st
  | .inr (.inr (mj, as, nx, st)) => match d with
    | 0 => none
    | d' + 1 => match aq_pick G m d' mj st.1 as Ks with
      | some rets => a_gath (fun r => ih (d' + 1) mi t cuts false nx (r.1, st.2.1, a_pushO r.2 st.2.2)) rets
      | none => match x_nth zMT mj with
        | some t' => match ih d' mj t' 0 true 0 (st.1, aq_args as 0, []) with
          | some rs => a_gath (fun x => match x with
            | .inr r => ih (d' + 1) mi t cuts false nx (r.1, st.2.1, a_pushO r.2 st.2.2)
            | .inl _ => none) rs
          | none => none
        | none => none
theorem aq_cont_e : @aq_cont = @a_cont := by
  delta aq_cont
  simp only [aq_pick_e, aq_args_e]
  rfl
noncomputable def aq_run (G : aG) (m : aM) (lm : aLm) (hs : aHt) (Ks : List aK) (n : Nat) : aGo := Nat.rec (motive := fun _ => aGo) (fun _ _ _ _ _ _ _ => none) (fun _ ih d mi t cuts first pc st => (Bool.rec (motive := fun _ => _) (aq_hints lm mi pc (fun st => match z_at t pc with
  | some i => match aqi G m i st.1 st.2.1 st.2.2 with
    | some outs => a_gath (aq_cont G m Ks ih d mi t cuts) outs
    | none => none
  | none => none) hs st) (some [.inl (pc, st)]) ((Bool.rec (motive := fun _ => Bool) false (a_bit cuts pc) ((Bool.rec (motive := fun _ => Bool) true false (first))))))) n
theorem aq_run_e : @aq_run = @a_run := by
  delta aq_run
  simp only [aqi_e, aq_hints_e, aq_cont_e, a_aq, a_oq, a_nq]
  try simp only [a_cqx]
  rfl
noncomputable def aq_retOK (G : aG) (k : Nat) (r p : aRs) : Bool := match (match p.2, r.2 with
    | none, none => aq_bindOK p.1.1 r.1 (fun θ => some (aq_rest G.2.2 p.1 r.1 θ)) p.1.2.2.2.1 (a_id k)
    | some pv, some v => aq_bindK p.1.1 r.1.2.1 (a_id k) pv v (aq_bindOK p.1.1 r.1 (fun θ => some (aq_rest G.2.2 p.1 r.1 θ)) p.1.2.2.2.1)
    | _, _ => none) with
  | some b => (Bool.rec (motive := fun _ => Bool) false (Nat.ble k p.1.1) (b))
  | none => false
theorem aq_retOK_e : @aq_retOK = @a_retOK := by
  delta aq_retOK
  simp only [aq_bindK_e, aq_bindOK_e, aq_rest_e, a_aq, a_oq, a_nq]
  rfl
noncomputable def aq_cutOK (G : aG) (k : Nat) (olds : Option (List aF)) (st : aS) (c : aCut) : Bool := match aq_bindLK c.2.1.1.1 st.1.2.1 st.2.1 (aq_bindsK c.2.1.1.1 st.1.2.1 (aq_bindOK c.2.1.1.1 st.1 (fun θ => some ((Bool.rec (motive := fun _ => Bool) false ((match olds with
    | some os => aq_lexR st.1 θ c.2.2 os
    | none => true)) (aq_rest G.2.2 c.2.1.1 st.1 θ)))) c.2.1.1.2.2.2.1) c.2.1.2.2 st.2.2) c.2.1.2.1 (a_id k) with
  | some b => (Bool.rec (motive := fun _ => Bool) false (Nat.ble k c.2.1.1.1) (b))
  | none => false
theorem aq_cutOK_e : @aq_cutOK = @a_cutOK := by
  delta aq_cutOK
  simp only [aq_bindsK_e, aq_bindLK_e, aq_bindOK_e, aq_rest_e, aq_lexR_e, a_aq, a_oq, a_nq]
  rfl
noncomputable def aq_fine (G : aG) (κ : aK) (cuts : List aCut) (olds : Option (List aF)) (x : aRes) : Bool := match x with
  | .inl (pc, st) => aq_any (fun c => (Bool.rec (motive := fun _ => Bool) false (aq_cutOK G κ.2.2.1.1 olds st c) (Nat.beq c.1 pc))) cuts
  | .inr r => aq_any (aq_retOK G κ.2.2.1.1 r) κ.2.2.2.2.2
theorem aq_fine_e : @aq_fine = @a_fine := by
  delta aq_fine
  simp only [aq_any_e, aq_retOK_e, aq_cutOK_e, a_aq, a_oq, a_nq]
  rfl
noncomputable def aq_from (G : aG) (lm : aLm) (hs : aHt) (Ks : List aK) (n : Nat) (κ : aK) (cuts : List aCut) (t : List (List (Option zX))) (olds : Option (List aF)) (pc : Nat) (st : aS) : Bool := a_bN (a_mask cuts) (fun k => match aq_run G κ.2.2.2.2.1 lm hs Ks n κ.2.1 κ.1 t k true pc st with
  | some rs => aq_all (aq_fine G κ cuts olds) rs
  | none => false)
theorem aq_from_e : @aq_from = @a_from := by
  delta aq_from
  simp only [aq_all_e, aq_run_e, aq_fine_e]
  rfl
noncomputable def aq_check (G : aG) (lm : aLm) (hs : aHt) (Ks : List aK) (n : Nat) (κ : aK) (cuts : List aCut) : Bool := match x_nth zMT κ.1 with
  | some t => (Bool.rec (motive := fun _ => Bool) false (aq_all (fun c => (Bool.rec (motive := fun _ => Bool) false (aq_from G lm hs Ks n κ cuts t (some c.2.2) c.1 c.2.1) (aq_all (fun x => aq_scp c.2.1.1.1 x.1) c.2.2))) cuts) (aq_from G lm hs Ks n κ cuts t none 0 (κ.2.2.1, aq_args κ.2.2.2.1 0, [])))
  | none => false
theorem aq_check_e : @aq_check = @a_check := by
  delta aq_check
  simp only [aq_all_e, aq_scp_e, aq_args_e, aq_from_e, a_aq, a_oq, a_nq]
  rfl
end
section
/-! THE WATCHER'S MATCHING AND CONTRACTS HOLD -/
def aG0 (G : aG) : aG := (G.1, G.2.1, false)
-- o: how much deeper
def aSpecO (o : Nat) (G : aG) (D : zD) (Fl : Nat → zH → Prop) (T : zT) (κ : aK) : Prop := ∀ (ρ : Nat → Int) (h : zH) (bs : List zV), aDen (aG0 G, D, Fl, h, κ.2.2.2.2.1) ρ κ.2.2.1 h → aRl ρ κ.2.2.1.1 κ.2.2.2.1 bs → ∃ r, zRun D T (o + κ.2.1) κ.1 0 (h, zargs 0 bs, []) r ∧ ∃ p ∈ κ.2.2.2.2.2, ∃ ρ', aAg ρ ρ' κ.2.2.1.1 ∧ κ.2.2.1.1 ≤ p.1.1 ∧ aDen (aG0 G, D, Fl, h, κ.2.2.2.2.1) ρ' p.1 r.1 ∧ aRo ρ' p.1.1 p.2 r.2
-- what the unknowns of a pattern are here; σ: theirs, ρ: ours
def aVal (ρ σ : Nat → Int) (θ : aTh) : Prop := ∀ j e, a_th θ j = some e → σ j = aev ρ e.1 e.2
def aThS (n N : Nat) (θ : aTh) : Prop := ∀ j e, a_th θ j = some e → e.1 ≤ n ∧ j < N
def aExt (θ θ' : aTh) : Prop := ∀ j e, a_th θ j = some e → a_th θ' j = some e
theorem aExt.refl (θ : aTh) : aExt θ θ := fun _ _ h => h
theorem aExt.trans {a b c : aTh} (h : aExt a b) (h' : aExt b c) : aExt a c := fun j e hj => h' j e (h j e hj)
theorem aVal.sub {ρ σ : Nat → Int} {θ θ' : aTh} (h : aVal ρ σ θ') (he : aExt θ θ') : aVal ρ σ θ := fun j e hj => h j e (he j e hj)
noncomputable def aSig (ρ : Nat → Int) (θ : aTh) : Nat → Int := fun j => match a_th θ j with
  | some e => aev ρ e.1 e.2
  | none => 0
theorem aSig_val (ρ : Nat → Int) (θ : aTh) : aVal ρ (aSig ρ θ) θ := fun j e h => by
  show (match a_th θ j with
    | some e => aev ρ e.1 e.2
    | none => 0) = _
  rw [h]
theorem a_th_cons {θ : aTh} {x : Nat × Nat × Int} {j : Nat} : a_th (x :: θ) j = if x.1 = j then some x.2 else a_th θ j := by
  show cond (Nat.beq x.1 j) (some x.2) (a_th θ j) = _
  cases hb : Nat.beq x.1 j with
  | true => rw [if_pos (Nat.eq_of_beq_eq_true hb)]; rfl
  | false => rw [if_neg (Nat.ne_of_beq_eq_false hb)]; rfl
def aBnd (ρ : Nat → Int) (n : Nat) (E : aB) : Prop := ∀ x ∈ E, x.1 < n ∧ x.2.1 ≤ ρ x.1 ∧ ρ x.1 ≤ x.2.2
theorem a_bindK_ok {β : Type} {N n : Nat} {E : aB} {ρ : Nat → Int} {θ : aTh} {p v : aV} {z : zV} {f : aTh → Option β} {r : β} (hr : a_bindK N E θ p v f = some r) (he : aBnd ρ n E) (hv : aR ρ n v z) (hs : aThS n N θ) : ∃ θ', f θ' = some r ∧ aExt θ θ' ∧ aThS n N θ' ∧ ∀ σ, aVal ρ σ θ' → aR σ N p z := by
  unfold a_bindK at hr
  rcases x_condT hr with ⟨hc, hr⟩ | ⟨-, hr⟩
  · rw [Bool.and_eq_true] at hc
    have h1 := Nat.eq_of_beq_eq_true hc.1
    have h2 := Nat.le_of_ble_eq_true hc.2
    have hval := aR_val hv
    have hz1 : z.1 = p.1 := by rw [hv.2, h1]
    obtain ⟨pt, ps, po⟩ := p
    cases ps with
    | zero =>
      obtain ⟨lo, hi, hr, b1, b2⟩ := a_rngK_ok (ρ := ρ) hr he
      rcases x_condT hr with ⟨hd, hr⟩ | ⟨-, hr⟩
      · rw [Bool.and_eq_true, a_dec_eq, a_dec_eq] at hd
        obtain ⟨d1, d2⟩ := hd
        have d1 : lo = po := d1
        have d2 : hi = po := d2
        refine ⟨θ, hr, aExt.refl _, hs, fun σ _ => ⟨Nat.zero_le _, ?_⟩⟩
        have e : z.2 = po := by omega
        have hz1 : z.1 = pt := hz1
        show z = (pt, po)
        rw [← hz1, ← e]
      · cases hr
    | succ j =>
      have hz1 : z.1 = pt := hz1
      have hr : (match a_th θ j with
        | some e => cond (Nat.beq e.1 v.2.1 && @decide (e.2 + po = v.2.2) (a_decEqZ _ _)) (f θ) (a_rngK E (0, e) (fun l h => a_rngK E v (fun l2 h2 => cond (@decide (l = h) (a_decEqZ _ _) && (@decide (l2 = h2) (a_decEqZ _ _) && @decide (l + po = l2) (a_decEqZ _ _))) (f θ) none)))
        | none => x_kN v.2.1 (fun s => x_kZ (v.2.2 - po) (fun o => f ((j, s, o) :: θ)))) = some r := hr
      split at hr
      · rename_i e he1
        have key : aev ρ e.1 e.2 + po = z.2 → ∃ θ', f θ' = some r ∧ aExt θ θ' ∧ aThS n N θ' ∧ ∀ σ, aVal ρ σ θ' → aR σ N (pt, j + 1, po) z := by
          intro hk
          have hf : f θ = some r := by
            rcases x_condT hr with ⟨-, hr⟩ | ⟨-, hr⟩
            · exact hr
            · obtain ⟨l, u, hr, -, -⟩ := a_rngK_ok (ρ := ρ) hr he
              obtain ⟨l2, u2, hr, -, -⟩ := a_rngK_ok (ρ := ρ) hr he
              rcases x_condT hr with ⟨-, hr⟩ | ⟨-, hr⟩
              · exact hr
              · cases hr
          refine ⟨θ, hf, aExt.refl _, hs, fun σ hσ => ⟨h2, ?_⟩⟩
          have := hσ j e he1
          show z = (pt, σ j + po)
          rw [this, hk, ← hz1]
        apply key
        rcases x_condT hr with ⟨hd, -⟩ | ⟨-, hr⟩
        · rw [Bool.and_eq_true, a_dec_eq] at hd
          rw [hval, ← Nat.eq_of_beq_eq_true hd.1, ← hd.2, aev_add]
        · obtain ⟨l, u, hr, b1, b2⟩ := a_rngK_ok (ρ := ρ) hr he
          obtain ⟨l2, u2, hr, b3, b4⟩ := a_rngK_ok (ρ := ρ) hr he
          rcases x_condT hr with ⟨hd, hr⟩ | ⟨-, hr⟩
          · rw [Bool.and_eq_true, Bool.and_eq_true, a_dec_eq, a_dec_eq, a_dec_eq] at hd
            have b1 : l ≤ aev ρ e.1 e.2 := b1
            have b2 : aev ρ e.1 e.2 ≤ u := b2
            omega
          · cases hr
      · rename_i hnone
        rw [x_kN_eq, x_kZ_eq] at hr
        refine ⟨_, hr, fun k e hk => ?_, fun k e hk => ?_, fun σ hσ => ⟨h2, ?_⟩⟩
        · rw [a_th_cons, if_neg]
          · exact hk
          · intro hjk
            have hjk : j = k := hjk
            rw [← hjk, hnone] at hk
            cases hk
        · rw [a_th_cons] at hk
          by_cases hjk : j = k
          · rw [if_pos hjk] at hk
            cases hk
            exact ⟨hv.1, by rw [← hjk]; exact h2⟩
          · rw [if_neg hjk] at hk
            exact hs k e hk
        · have := hσ j (v.2.1, v.2.2 - po) (by rw [a_th_cons, if_pos rfl])
          show z = (pt, σ j + po)
          rw [this]
          show z = (pt, aev ρ v.2.1 (v.2.2 - po) + po)
          rw [← aev_add, Int.sub_add_cancel, ← hval, ← hz1]
  · cases hr
theorem a_bindsK_ok {β : Type} {N n : Nat} {E : aB} {ρ : Nat → Int} {f : aTh → Option β} {r : β} (he : aBnd ρ n E) : ∀ {ps vs : List aV} {zs : List zV} {θ : aTh}, a_bindsK N E f ps vs θ = some r → aRl ρ n vs zs → aThS n N θ → ∃ θ', f θ' = some r ∧ aExt θ θ' ∧ aThS n N θ' ∧ ∀ σ, aVal ρ σ θ' → aRl σ N ps zs
  | [], [], [], θ, hr, _, hs => ⟨θ, hr, aExt.refl _, hs, fun _ _ => trivial⟩
  | [], _ :: _, _ :: _, θ, hr, _, hs => by cases hr
  | p :: ps, [], [], θ, hr, _, hs => by cases hr
  | p :: ps, v :: vs, z :: zs, θ, hr, ⟨hv, hvs⟩, hs => by
    have hr : a_bindK N E θ p v (fun θ => a_bindsK N E f ps vs θ) = some r := hr
    obtain ⟨θ1, hr, e1, s1, k1⟩ := a_bindK_ok hr he hv hs
    obtain ⟨θ2, hr, e2, s2, k2⟩ := a_bindsK_ok he hr hvs s1
    exact ⟨θ2, hr, e1.trans e2, s2, fun σ hσ => ⟨k1 σ (hσ.sub e2), k2 σ hσ⟩⟩
theorem a_bindLK_ok {β : Type} {N n : Nat} {E : aB} {ρ : Nat → Int} {L : aL} {M : zL} {f : aTh → Option β} {r : β} (he : aBnd ρ n E) (hL : aRL ρ n L M) : ∀ {ps : aL} {θ : aTh}, a_bindLK N E L f ps θ = some r → aThS n N θ → ∃ θ', f θ' = some r ∧ aExt θ θ' ∧ aThS n N θ' ∧ ∀ σ, aVal ρ σ θ' → aRL σ N ps M
  | [], θ, hr, hs => ⟨θ, hr, aExt.refl _, hs, fun _ _ q hq => by cases hq⟩
  | p :: ps, θ, hr, hs => by
    have hr : (match a_lget L p.1 with
      | some v => a_bindK N E θ p.2 v (fun θ => a_bindLK N E L f ps θ)
      | none => none) = some r := hr
    split at hr
    · rename_i v hg
      obtain ⟨z, hz, hv⟩ := a_lget_ok hL hg
      obtain ⟨θ1, hr, e1, s1, k1⟩ := a_bindK_ok hr he hv hs
      obtain ⟨θ2, hr, e2, s2, k2⟩ := a_bindLK_ok he hL hr s1
      refine ⟨θ2, hr, e1.trans e2, s2, fun σ hσ q hq => ?_⟩
      rcases List.mem_cons.mp hq with e | e
      · rw [e]; exact ⟨z, hz, k1 σ (hσ.sub e2)⟩
      · exact k2 σ hσ q e
    · cases hr
theorem a_thK_ok {β : Type} {N n : Nat} {θ : aTh} {s : Nat} {o : Int} {f : Nat → Int → Option β} {r : β} (hr : a_thK N θ s o f = some r) (hs : aThS n N θ) : ∃ s' o', f s' o' = some r ∧ s' ≤ n ∧ s ≤ N ∧ ∀ ρ σ, aVal ρ σ θ → aev σ s o = aev ρ s' o' := by
  unfold a_thK at hr
  rcases x_condT hr with ⟨hc, hr⟩ | ⟨-, hr⟩
  · have hc := Nat.le_of_ble_eq_true hc
    cases s with
    | zero => exact ⟨0, o, hr, Nat.zero_le _, hc, fun _ _ _ => rfl⟩
    | succ j =>
      have hr : (match a_th θ j with
        | some e => x_kZ (e.2 + o) (fun o => f e.1 o)
        | none => none) = some r := hr
      split at hr
      · rename_i e he
        rw [x_kZ_eq] at hr
        refine ⟨_, _, hr, (hs j e he).1, hc, fun ρ σ hσ => ?_⟩
        show σ j + o = _
        rw [hσ j e he, aev_add]
      · cases hr
  · cases hr
theorem a_bindOK_ok {β : Type} {X : aX} {N : Nat} {q : aQ} {h : zH} {ρ : Nat → Int} {f : aTh → Option β} {r : β} (g : aDen X ρ q h) : ∀ {ps : aO} {θ : aTh}, a_bindOK N q f ps θ = some r → aThS q.1 N θ → ∃ θ', f θ' = some r ∧ aExt θ θ' ∧ aThS q.1 N θ' ∧ ∀ σ, aVal ρ σ θ' → aOv σ N ps h
  | [], θ, hr, hs => ⟨θ, hr, aExt.refl _, hs, fun _ _ q hq => by cases hq⟩
  | p :: ps, θ, hr, hs => by
    have hr : a_thK N θ p.1.2.1 p.1.2.2 (fun s o => match a_oget q.2.2.2.1 p.1.1 s o with
      | some v => a_bindK N q.2.1 θ p.2 v (fun θ => a_bindOK N q f ps θ)
      | none => none) = some r := hr
    obtain ⟨s, o, hr, hs1, hs2, hk⟩ := a_thK_ok hr hs
    split at hr
    · rename_i v hg
      obtain ⟨h0, hv⟩ := a_oget_ok g.2.2.1 hg
      obtain ⟨θ1, hr, e1, s1, k1⟩ := a_bindK_ok hr g.1.1 hv hs
      obtain ⟨θ2, hr, e2, s2, k2⟩ := a_bindOK_ok g hr s1
      refine ⟨θ2, hr, e1.trans e2, s2, fun σ hσ x hx => ?_⟩
      rcases List.mem_cons.mp hx with e | e
      · rw [e]
        have hi := hk ρ σ (hσ.sub (e1.trans e2))
        refine ⟨hs2, by rw [hi]; exact h0, ?_⟩
        rw [hi]
        exact k1 σ (hσ.sub e2)
      · exact k2 σ hσ x e
    · cases hr
theorem a_all_ok {α : Type} {f : α → Bool} : ∀ {l : List α}, a_all f l = true → ∀ x ∈ l, f x = true
  | [], _, x, hx => by cases hx
  | a :: l, h, x, hx => by
    have h : (f a && a_all f l) = true := h
    rw [Bool.and_eq_true] at h
    rcases List.mem_cons.mp hx with e | e
    · rw [e]; exact h.1
    · exact a_all_ok h.2 x e
theorem a_any_ok {α : Type} {f : α → Bool} : ∀ {l : List α}, a_any f l = true → ∃ x ∈ l, f x = true
  | [], h => by cases h
  | a :: l, h => by
    have h : (f a || a_any f l) = true := h
    rw [Bool.or_eq_true] at h
    rcases h with h | h
    · exact ⟨a, List.mem_cons_self, h⟩
    · obtain ⟨x, h1, h2⟩ := a_any_ok h
      exact ⟨x, List.mem_cons_of_mem _ h1, h2⟩
theorem a_memN_ok {j : Nat} : ∀ {l : List Nat}, a_memN j l = true → j ∈ l
  | [], h => by cases h
  | a :: l, h => by
    have h : (Nat.beq a j || a_memN j l) = true := h
    rw [Bool.or_eq_true] at h
    rcases h with h | h
    · rw [Nat.eq_of_beq_eq_true h]; exact List.mem_cons_self
    · exact List.mem_cons_of_mem _ (a_memN_ok h)
theorem a_ins_scope {n i : Nat} {c : Int} (hi : i < n) : ∀ {l : List (Int × Nat)}, aScope n l → aScope n (a_ins c i l)
  | [], _ => fun p hp => by
    have : p = (c, i) := List.mem_singleton.mp hp
    rw [this]; exact hi
  | a :: t, hl => by
    intro p hp
    have hp : p ∈ cond (Nat.beq a.2 i) (cond (@decide (a.1 + c = 0) (a_decEqZ _ _)) t ((a.1 + c, i) :: t)) (a :: a_ins c i t) := hp
    have ht : aScope n t := fun q hq => hl q (List.mem_cons_of_mem _ hq)
    cases hb : Nat.beq a.2 i with
    | true =>
      rw [hb] at hp
      have hp : p ∈ cond (@decide (a.1 + c = 0) (a_decEqZ _ _)) t ((a.1 + c, i) :: t) := hp
      cases hd : @decide (a.1 + c = 0) (a_decEqZ _ _) with
      | true => rw [hd] at hp; exact ht p hp
      | false =>
        rw [hd] at hp
        rcases List.mem_cons.mp hp with e | e
        · rw [e]; exact hi
        · exact ht p e
    | false =>
      rw [hb] at hp
      rcases List.mem_cons.mp hp with e | e
      · rw [e]; exact hl a List.mem_cons_self
      · exact a_ins_scope hi ht p e
theorem a_subF_ok {n N : Nat} {θ : aTh} (hs : aThS n N θ) : ∀ {ts : List (Int × Nat)} {r : List (Int × Nat) × Int}, a_subF θ ts = some r → aScope n r.1 ∧ ∀ ρ σ, aVal ρ σ θ → alin σ ts = alin ρ r.1 + r.2
  | [], r, h => by
    cases h
    exact ⟨fun p hp => (by cases hp), fun _ _ _ => rfl⟩
  | p :: ts, r, h => by
    have h : (match a_subF θ ts with
      | some r => match a_th θ p.2 with
        | some e => Nat.rec (motive := fun _ => Option (List (Int × Nat) × Int)) (some (r.1, p.1 * e.2 + r.2)) (fun i _ => some (a_ins p.1 i r.1, p.1 * e.2 + r.2)) e.1
        | none => none
      | none => none) = some r := h
    split at h
    · rename_i r0 hr0
      obtain ⟨i1, i2⟩ := a_subF_ok hs hr0
      split at h
      · rename_i e he
        obtain ⟨e1, e2⟩ := e
        have hse := (hs _ _ he).1
        cases e1 with
        | zero =>
          have h : some (r0.1, p.1 * e2 + r0.2) = some r := h
          cases h
          refine ⟨i1, fun ρ σ hσ => ?_⟩
          show p.1 * σ p.2 + alin σ ts = alin ρ r0.1 + (p.1 * e2 + r0.2)
          rw [i2 ρ σ hσ, hσ _ _ he]
          show p.1 * e2 + _ = _
          omega
        | succ i =>
          have h : some (a_ins p.1 i r0.1, p.1 * e2 + r0.2) = some r := h
          cases h
          refine ⟨a_ins_scope hse i1, fun ρ σ hσ => ?_⟩
          show p.1 * σ p.2 + alin σ ts = alin ρ (a_ins p.1 i r0.1) + (p.1 * e2 + r0.2)
          rw [i2 ρ σ hσ, hσ _ _ he, a_ins_ok]
          show p.1 * (ρ i + e2) + _ = _
          rw [Int.mul_add]
          omega
      · cases h
    · cases h
theorem a_rest_ok {X : aX} {lenS : Bool} {p q : aQ} {θ : aTh} {ρ σ : Nat → Int} {h : zH} (hr : a_rest lenS p q θ = true) (g : aDen X ρ q h) (hlen : lenS = true → X.1.2.2 = true) (hs : aThS q.1 p.1 θ) (hσ : aVal ρ σ θ) : aEnv σ p.1 p.2.1 p.2.2.1 ∧ (∀ j ∈ p.2.2.2.2, X.2.2.1 j h) ∧ (lenS = true → 0 < p.1 ∧ σ 0 = (X.2.1.1 : Int)) := by
  unfold a_rest at hr
  rw [Bool.and_eq_true, Bool.and_eq_true, Bool.and_eq_true] at hr
  obtain ⟨h1, h2, h3, h4⟩ := hr
  refine ⟨⟨fun x hx => ?_, fun x hx => ?_⟩, fun j hj => g.2.2.2.1 j (a_memN_ok (a_all_ok h3 j hj)), fun hl => ?_⟩
  · have hb := a_all_ok h1 x hx
    unfold a_inE at hb
    rw [Bool.and_eq_true] at hb
    obtain ⟨b1, b2⟩ := hb
    refine ⟨Nat.le_of_ble_eq_true b1, ?_⟩
    split at b2
    · rename_i e he
      rw [hσ _ _ he]
      rw [Bool.or_eq_true] at b2
      rcases b2 with b2 | b2
      · split at b2
        · rename_i b hb
          obtain ⟨l, u, hf, c1, c2⟩ := a_rngK_ok (ρ := ρ) hb g.1.1
          have hf := Option.some.inj hf
          rw [b2, Bool.and_eq_true, a_dec_eq, a_dec_eq] at hf
          have c1 : l ≤ aev ρ e.1 e.2 := c1
          have c2 : aev ρ e.1 e.2 ≤ u := c2
          omega
        · cases b2
      · rw [Bool.and_eq_true] at b2
        have d1 := a_leq_ok g b2.1
        have d2 := a_leq_ok g b2.2
        have d1 : x.2.1 ≤ aev ρ e.1 e.2 + 0 := d1
        have d2 : aev ρ e.1 e.2 ≤ x.2.2 + 0 := d2
        omega
    · cases b2
  · have hb := a_all_ok h2 x hx
    unfold a_inF at hb
    rw [Bool.and_eq_true] at hb
    obtain ⟨b1, b2⟩ := hb
    refine ⟨fun p hp => Nat.le_of_ble_eq_true (a_all_ok b1 p hp), ?_⟩
    split at b2
    · rename_i r hr
      have e := (a_subF_ok hs hr).2 ρ σ hσ
      have d := a_ent_ok g.1 3 b2
      omega
    · cases b2
  · rw [hl] at h4
    have h4 : (Nat.blt 0 p.1 && (match a_th θ 0 with
      | some e => Nat.beq e.1 1 && @decide (e.2 = 0) (a_decEqZ _ _)
      | none => false)) = true := h4
    rw [Bool.and_eq_true] at h4
    refine ⟨Nat.le_of_ble_eq_true h4.1, ?_⟩
    have h5 := h4.2
    split at h5
    · rename_i e he
      rw [Bool.and_eq_true, a_dec_eq] at h5
      rw [hσ _ _ he, Nat.eq_of_beq_eq_true h5.1, h5.2]
      show ρ 0 + 0 = _
      rw [Int.add_zero]
      exact (g.2.2.2.2.2 (hlen hl)).2
    · cases h5
theorem a_id_th {k j : Nat} : a_th (a_id k) j = if j < k then some (j + 1, 0) else none := by
  induction k with
  | zero => rw [if_neg (by omega)]; rfl
  | succ k ih =>
    show a_th ((k, k + 1, 0) :: a_id k) j = _
    rw [a_th_cons, ih]
    by_cases h : k = j
    · subst h
      rw [if_pos rfl, if_pos (by omega)]
    · rw [if_neg h]
      by_cases h2 : j < k
      · rw [if_pos h2, if_pos (by omega)]
      · rw [if_neg h2, if_neg (by omega)]
theorem a_id_scope {n N k : Nat} (hk : k ≤ n) (hN : k ≤ N) : aThS n N (a_id k) := by
  intro j e h
  rw [a_id_th] at h
  by_cases h2 : j < k
  · rw [if_pos h2] at h
    cases h
    exact ⟨by show j + 1 ≤ n; omega, by omega⟩
  · rw [if_neg h2] at h
    cases h
theorem a_id_ag {k : Nat} {ρ σ : Nat → Int} {θ : aTh} (he : aExt (a_id k) θ) (hσ : aVal ρ σ θ) : aAg ρ σ k := by
  intro j hj
  rw [hσ j (j + 1, 0) (he j _ (by rw [a_id_th, if_pos hj]))]
  show ρ j + 0 = ρ j
  omega
end
section
/-! THE WATCHER'S CONTRACTS, USED -/
theorem a_gath_ok {α β : Type} {f : α → Option (List β)} : ∀ {l : List α} {r : List β}, a_gath f l = some r → ∀ x ∈ l, ∃ rx, f x = some rx ∧ ∀ o ∈ rx, o ∈ r
  | [], _, _, x, hx => by cases hx
  | [a], r, h, x, hx => by
    have h : f a = some r := h
    rcases List.mem_cons.mp hx with e | e
    · rw [e]
      exact ⟨r, h, fun o ho => ho⟩
    · cases e
  | a :: b :: l, r, h, x, hx => by
    have h : a_app (f a) (a_gath f (b :: l)) = some r := h
    obtain ⟨ra, rb, h1, h2, h3⟩ := a_app_ok h
    rw [h3]
    rcases List.mem_cons.mp hx with e | e
    · rw [e]
      exact ⟨ra, h1, fun o ho => List.mem_append.mpr (Or.inl ho)⟩
    · obtain ⟨rx, k1, k2⟩ := a_gath_ok h2 x e
      exact ⟨rx, k1, fun o ho => List.mem_append.mpr (Or.inr (k2 o ho))⟩
theorem a_ext_th {kn n0 c : Nat} {θ : aTh} {j : Nat} : a_th (a_ext kn n0 c θ) j = if kn ≤ j ∧ j < kn + c then some (n0 + (j - kn) + 1, 0) else a_th θ j := by
  induction c with
  | zero => rw [if_neg (by omega)]; rfl
  | succ c ih =>
    show a_th ((kn + c, n0 + c + 1, 0) :: a_ext kn n0 c θ) j = _
    rw [a_th_cons, ih]
    by_cases h : kn + c = j
    · subst h
      rw [if_pos rfl, if_pos (by omega), Nat.add_sub_cancel_left]
    · rw [if_neg h]
      by_cases h2 : kn ≤ j ∧ j < kn + c
      · rw [if_pos h2, if_pos (by omega)]
      · rw [if_neg h2, if_neg (by omega)]
-- the caller's unknowns, then the callee's new ones
def aGlue (ρ ρp : Nat → Int) (n kn : Nat) : Nat → Int := fun i => if i < n then ρ i else ρp (kn + (i - n))
theorem aGlue_ag (ρ ρp : Nat → Int) (n kn : Nat) : aAg ρ (aGlue ρ ρp n kn) n := fun i hi => if_pos hi
theorem a_ext_ok {ρ ρp σ : Nat → Int} {n kn c : Nat} {θ : aTh} (hs : aThS n kn θ) (hσ : aVal ρ σ θ) (ha : aAg σ ρp kn) : aVal (aGlue ρ ρp n kn) ρp (a_ext kn n c θ) ∧ aThS (n + c) (kn + c) (a_ext kn n c θ) := by
  refine ⟨fun j e he => ?_, fun j e he => ?_⟩
  · rw [a_ext_th] at he
    by_cases h2 : kn ≤ j ∧ j < kn + c
    · rw [if_pos h2] at he
      cases he
      show ρp j = (if n + (j - kn) < n then ρ (n + (j - kn)) else ρp (kn + (n + (j - kn) - n))) + 0
      rw [if_neg (by omega), Nat.add_sub_cancel_left, show kn + (j - kn) = j from by omega, Int.add_zero]
    · rw [if_neg h2] at he
      obtain ⟨s1, s2⟩ := hs j e he
      rw [ha j s2, hσ j e he, aev_ag (aGlue_ag ρ ρp n kn) s1]
  · rw [a_ext_th] at he
    by_cases h2 : kn ≤ j ∧ j < kn + c
    · rw [if_pos h2] at he
      cases he
      exact ⟨by show n + (j - kn) + 1 ≤ n + c; omega, h2.2⟩
    · rw [if_neg h2] at he
      obtain ⟨s1, s2⟩ := hs j e he
      exact ⟨by omega, by omega⟩
theorem a_newE_ok {β : Type} {ρ σ : Nat → Int} {n N : Nat} {θ : aTh} {f : aB → Option (List β)} {r : List β} (hs : aThS n N θ) (hσ : aVal ρ σ θ) : ∀ {Es E : aB}, a_newE θ f Es E = some r → (∀ x ∈ Es, x.2.1 ≤ σ x.1 ∧ σ x.1 ≤ x.2.2) → aBnd ρ n E → ∃ E', f E' = some r ∧ aBnd ρ n E'
  | [], E, hr, _, he => ⟨E, hr, he⟩
  | x :: Es, E, hr, hx, he => by
    have hx1 := hx x List.mem_cons_self
    have hxs : ∀ y ∈ Es, y.2.1 ≤ σ y.1 ∧ σ y.1 ≤ y.2.2 := fun y hy => hx y (List.mem_cons_of_mem _ hy)
    have hr : (match a_th θ x.1 with
      | some e => Nat.rec (motive := fun _ => Option (List β)) (cond (@decide (x.2.1 ≤ e.2) (a_decLe _ _) && @decide (e.2 ≤ x.2.2) (a_decLe _ _)) (a_newE θ f Es E) (some [])) (fun i _ => match a_get E i with
        | some u => x_kZ (a_max u.1 (x.2.1 - e.2)) (fun l => x_kZ (a_min u.2 (x.2.2 - e.2)) (fun h => cond (@decide (l ≤ h) (a_decLe _ _)) (x_kN i (fun i => a_newE θ f Es ((i, l, h) :: E))) (some [])))
        | none => x_kZ (x.2.1 - e.2) (fun l => x_kZ (x.2.2 - e.2) (fun h => x_kN i (fun i => a_newE θ f Es ((i, l, h) :: E))))) e.1
      | none => none) = some r := hr
    cases hth : a_th θ x.1 with
    | none => rw [hth] at hr; cases hr
    | some e =>
      rw [hth] at hr
      obtain ⟨e1, e2⟩ := e
      have hv := hσ _ _ hth
      have hsc := (hs _ _ hth).1
      cases e1 with
      | zero =>
        have hr : cond (@decide (x.2.1 ≤ e2) (a_decLe _ _) && @decide (e2 ≤ x.2.2) (a_decLe _ _)) (a_newE θ f Es E) (some []) = some r := hr
        have hv : σ x.1 = e2 := hv
        rw [a_decT (by omega : x.2.1 ≤ e2), a_decT (by omega : e2 ≤ x.2.2)] at hr
        exact a_newE_ok hs hσ hr hxs he
      | succ i =>
        have hv : σ x.1 = ρ i + e2 := hv
        have hi : i < n := hsc
        have hr : (match a_get E i with
          | some u => x_kZ (a_max u.1 (x.2.1 - e2)) (fun l => x_kZ (a_min u.2 (x.2.2 - e2)) (fun h => cond (@decide (l ≤ h) (a_decLe _ _)) (x_kN i (fun i => a_newE θ f Es ((i, l, h) :: E))) (some [])))
          | none => x_kZ (x.2.1 - e2) (fun l => x_kZ (x.2.2 - e2) (fun h => x_kN i (fun i => a_newE θ f Es ((i, l, h) :: E))))) = some r := hr
        cases hg : a_get E i with
        | none =>
          rw [hg] at hr
          have hr : x_kZ (x.2.1 - e2) (fun l => x_kZ (x.2.2 - e2) (fun h => x_kN i (fun i => a_newE θ f Es ((i, l, h) :: E)))) = some r := hr
          rw [x_kZ_eq, x_kZ_eq, x_kN_eq] at hr
          refine a_newE_ok hs hσ hr hxs (fun y hy => ?_)
          rcases List.mem_cons.mp hy with e | e
          · rw [e]
            exact ⟨hi, by show x.2.1 - e2 ≤ ρ i; omega, by show ρ i ≤ x.2.2 - e2; omega⟩
          · exact he y e
        | some u =>
          rw [hg] at hr
          obtain ⟨-, u1, u2⟩ := a_get_ok he hg
          have hr : x_kZ (a_max u.1 (x.2.1 - e2)) (fun l => x_kZ (a_min u.2 (x.2.2 - e2)) (fun h => cond (@decide (l ≤ h) (a_decLe _ _)) (x_kN i (fun i => a_newE θ f Es ((i, l, h) :: E))) (some []))) = some r := hr
          rw [x_kZ_eq, x_kZ_eq] at hr
          obtain ⟨-, -, m1⟩ := a_max_ok u.1 (x.2.1 - e2)
          obtain ⟨-, -, m2⟩ := a_min_ok u.2 (x.2.2 - e2)
          rw [a_decT (by omega : a_max u.1 (x.2.1 - e2) ≤ a_min u.2 (x.2.2 - e2))] at hr
          have hr : x_kN i (fun i => a_newE θ f Es ((i, a_max u.1 (x.2.1 - e2), a_min u.2 (x.2.2 - e2)) :: E)) = some r := hr
          rw [x_kN_eq] at hr
          refine a_newE_ok hs hσ hr hxs (fun y hy => ?_)
          rcases List.mem_cons.mp hy with e | e
          · rw [e]
            exact ⟨hi, by show a_max u.1 (x.2.1 - e2) ≤ ρ i; omega, by show ρ i ≤ a_min u.2 (x.2.2 - e2); omega⟩
          · exact he y e
theorem a_newF_ok {β : Type} {ρ σ : Nat → Int} {n N : Nat} {θ : aTh} {f : List aF → Option β} {r : β} (hs : aThS n N θ) (hσ : aVal ρ σ θ) : ∀ {Fs Gs : List aF}, a_newF θ f Fs Gs = some r → (∀ x ∈ Fs, alin σ x.1 ≤ x.2) → (∀ x ∈ Gs, aScope n x.1 ∧ alin ρ x.1 ≤ x.2) → ∃ Gs', f Gs' = some r ∧ ∀ x ∈ Gs', aScope n x.1 ∧ alin ρ x.1 ≤ x.2
  | [], Gs, hr, _, he => ⟨Gs, hr, he⟩
  | x :: Fs, Gs, hr, hx, he => by
    have hx1 := hx x List.mem_cons_self
    have hr : (match a_subF θ x.1 with
      | some r => x_spine r.1 (fun ts => x_kZ (x.2 - r.2) (fun b => a_newF θ f Fs ((ts, b) :: Gs)))
      | none => none) = some r := hr
    cases hq : a_subF θ x.1 with
    | none => rw [hq] at hr; cases hr
    | some w =>
      rw [hq] at hr
      obtain ⟨k1, k2⟩ := a_subF_ok hs hq
      have hr : x_spine w.1 (fun ts => x_kZ (x.2 - w.2) (fun b => a_newF θ f Fs ((ts, b) :: Gs))) = some r := hr
      rw [x_spine_eq, x_kZ_eq] at hr
      refine a_newF_ok hs hσ hr (fun y hy => hx y (List.mem_cons_of_mem _ hy)) (fun y hy => ?_)
      rcases List.mem_cons.mp hy with e | e
      · rw [e]
        have := k2 ρ σ hσ
        exact ⟨k1, by show alin ρ w.1 ≤ x.2 - w.2; omega⟩
      · exact he y e
theorem a_newO_ok {β : Type} {ρ σ : Nat → Int} {n N : Nat} {θ : aTh} {f : aO → Option β} {r : β} {h : zH} (hs : aThS n N θ) (hσ : aVal ρ σ θ) : ∀ {Os O : aO}, a_newO N θ f Os O = some r → aOv σ N Os h → aOv ρ n O h → ∃ O', f O' = some r ∧ aOv ρ n O' h
  | [], O, hr, _, he => ⟨O, hr, he⟩
  | x :: Os, O, hr, hx, he => by
    obtain ⟨x1, x2, x3⟩ := hx x List.mem_cons_self
    have hr : a_thK N θ x.1.2.1 x.1.2.2 (fun s o => a_thK N θ x.2.2.1 x.2.2.2 (fun s2 o2 => a_newO N θ f Os (((x.1.1, s, o), (x.2.1, s2, o2)) :: O))) = some r := hr
    obtain ⟨s, o, hr, hs1, -, hk⟩ := a_thK_ok hr hs
    obtain ⟨s2, o2, hr, hs2, -, hk2⟩ := a_thK_ok hr hs
    have hk := hk ρ σ hσ
    have hk2 := hk2 ρ σ hσ
    refine a_newO_ok hs hσ hr (fun y hy => hx y (List.mem_cons_of_mem _ hy)) (fun y hy => ?_)
    rcases List.mem_cons.mp hy with e | e
    · rw [e]
      rw [hk] at x2 x3
      refine ⟨hs1, x2, hs2, ?_⟩
      show _ = (x.2.1, aev ρ s2 o2)
      rw [← hk2]
      exact x3.2
    · exact he y e
theorem a_okept_ok {ρ : Nat → Int} {n : Nat} {E : aB} {O : aO} {κm : aM} {h h' : zH} (he : aBnd ρ n E) (hO : aOv ρ n O h) (hf : aFr κm h h') : aOv ρ n (a_flt (a_okept E κm) O) h' := by
  intro e hm
  obtain ⟨h1, h2⟩ := a_flt_mem hm
  obtain ⟨o1, o2, o3⟩ := hO e h1
  refine ⟨o1, o2, ?_⟩
  rw [hf]
  · exact o3
  · rintro ⟨q, hq, q1, q2, q3⟩
    have hk := a_okeepR_ok he (a_all_ok h2 q hq)
    have e1 : (Int.ofNat q.2.1 : Int) = ((q.2.1 : Nat) : Int) := rfl
    have e2 : (Int.ofNat q.2.2 : Int) = ((q.2.2 : Nat) : Int) := rfl
    rw [e1, e2] at hk
    rcases hk with hk | hk | hk
    · exact hk q1.symm
    · omega
    · omega
theorem a_fkept_ok {X : aX} (hX : aOK X) {fl : List Nat} {κm : aM} {h h' : zH} (hfl : ∀ j ∈ fl, X.2.2.1 j h) (hf : aFr κm h h') : ∀ j ∈ a_flt (a_fkept X.1.2.1 κm) fl, X.2.2.1 j h' := by
  intro j hj
  obtain ⟨h1, h2⟩ := a_flt_mem hj
  have h2 : a_all (fun x => a_fkeep X.1.2.1 x.1 (Int.ofNat x.2.1) (Int.ofNat x.2.2) j) κm = true := h2
  cases hc : a_at X.1.2.1 j with
  | none =>
    have e : h' = h := by
      funext r k
      refine hf r k ?_
      rintro ⟨q, hq, -⟩
      have hk := a_all_ok h2 q hq
      unfold a_fkeep at hk
      rw [hc] at hk
      cases hk
    rw [e]
    exact hfl j h1
  | some m =>
    have hc' := hc
    refine hX.1.1 j m hc' h h' (fun r k hin => hf r k ?_) (hfl j h1)
    rintro ⟨q, hq, q1, q2, q3⟩
    have hk := a_all_ok h2 q hq
    unfold a_fkeep at hk
    rw [hc] at hk
    have hk : (!(a_hits m q.1 (Int.ofNat q.2.1) (Int.ofNat q.2.2))) = true := hk
    rw [Bool.not_eq_true'] at hk
    rw [q1] at hk
    exact a_hits_ok (k := k) (by show ((q.2.1 : Nat) : Int) ≤ _; omega) (by show _ ≤ ((q.2.2 : Nat) : Int); omega) hk hin
theorem a_retK_ok {β : Type} {ρ σ : Nat → Int} {n N : Nat} {θ : aTh} {v : Option aV} {w : Option zV} {f : Option aV → Option β} {r : β} (hr : a_retK N θ v f = some r) (hs : aThS n N θ) (hσ : aVal ρ σ θ) (hv : aRo σ N v w) : ∃ v', f v' = some r ∧ aRo ρ n v' w := by
  match v, w, hv with
  | none, none, _ => exact ⟨none, hr, trivial⟩
  | some v, some w, hv =>
    have hr : a_thK N θ v.2.1 v.2.2 (fun s o => f (some (v.1, s, o))) = some r := hr
    obtain ⟨s, o, hr, hs1, -, hk⟩ := a_thK_ok hr hs
    refine ⟨_, hr, hs1, ?_⟩
    show _ = (v.1, aev ρ s o)
    rw [← hk ρ σ hσ]
    exact hv.2
-- what a call comes to
def aCall (o : Nat) (X : aX) (T : zT) (ρ : Nat → Int) (q : aQ) (h : zH) (d mj : Nat) (bs : List zV) (rets : List aRs) : Prop := ∃ r, zRun X.2.1 T (o + d) mj 0 (h, zargs 0 bs, []) r ∧ ∃ x ∈ rets, ∃ ρ', aAg ρ ρ' q.1 ∧ q.1 ≤ x.1.1 ∧ aDen X ρ' x.1 r.1 ∧ aRo ρ' x.1.1 x.2 r.2
theorem a_callK_ok {o : Nat} {X : aX} (hX : aOK X) {T : zT} {κ : aK} (hκ : aSpecO o X.1 X.2.1 X.2.2.1 T κ) {ρ : Nat → Int} {q : aQ} {h : zH} {as : List aV} {bs : List zV} {rets : List aRs} (hr : a_callK X.1 X.2.2.2.2 κ q as = some rets) (g : aDen X ρ q h) (has : aRl ρ q.1 as bs) : aCall o X T ρ q h κ.2.1 κ.1 bs rets := by
  unfold a_callK at hr
  obtain ⟨θ1, hr, -, s1, k1⟩ := a_bindsK_ok g.1.1 hr has (fun j e h => by cases h)
  obtain ⟨θ, hr, e2, s2, k2⟩ := a_bindOK_ok g hr s1
  rcases x_condT hr with ⟨hc, hr⟩ | ⟨-, hr⟩
  · rw [Bool.and_eq_true] at hc
    obtain ⟨hc1, hc2⟩ := hc
    have hσ := aSig_val ρ θ
    obtain ⟨r1, r2, -⟩ := a_rest_ok (X := X) hc1 g (fun h => by cases h) s2 hσ
    have hden : aDen (aG0 X.1, X.2.1, X.2.2.1, h, κ.2.2.2.2.1) (aSig ρ θ) κ.2.2.1 h := ⟨r1, g.2.1, k2 _ hσ, r2, fun _ _ _ => rfl, fun h => by cases h⟩
    obtain ⟨zr, hrun, p, hp, ρp, p1, p2, p3, p4⟩ := hκ _ h bs hden (k1 _ (hσ.sub e2))
    refine ⟨zr, hrun, ?_⟩
    obtain ⟨rx, hrx, hsub⟩ := a_gath_ok hr p hp
    unfold a_postK at hrx
    rcases x_condT hrx with ⟨hle, hrx⟩ | ⟨-, hrx⟩
    · have hle := Nat.le_of_ble_eq_true hle
      rw [x_spine_eq] at hrx
      obtain ⟨c, hcc⟩ : ∃ c, p.1.1 = κ.2.2.1.1 + c := ⟨p.1.1 - κ.2.2.1.1, by omega⟩
      have hcs : p.1.1 - κ.2.2.1.1 = c := by omega
      rw [hcs] at hrx
      obtain ⟨v1, s3⟩ := a_ext_ok (c := c) s2 hσ p1
      rw [← hcc] at s3
      have hag := aGlue_ag ρ ρp q.1 κ.2.2.1.1
      obtain ⟨E', hrx, b1⟩ := a_newE_ok s3 v1 hrx (fun x hx => (p3.1.1 x hx).2) (fun x hx => by
        obtain ⟨a1, a2⟩ := g.1.1 x hx
        rw [hag x.1 a1]
        exact ⟨by omega, a2⟩)
      obtain ⟨Fs', hrx, b2⟩ := a_newF_ok s3 v1 hrx (fun x hx => (p3.1.2 x hx).2) (g.1.mono (Nat.le_add_right q.1 c) hag).2
      rw [x_spine_eq] at hrx
      obtain ⟨O', hrx, b3⟩ := a_newO_ok (h := zr.1) s3 v1 hrx p3.2.2.1 (aOv.mono (a_okept_ok g.1.1 g.2.2.1 p3.2.2.2.2.1) (Nat.le_add_right q.1 c) hag)
      rw [x_spine_eq] at hrx
      obtain ⟨v', hrx, b4⟩ := a_retK_ok hrx s3 v1 p4
      rw [x_kN_eq] at hrx
      cases hrx
      refine ⟨_, hsub _ List.mem_cons_self, _, hag, Nat.le_add_right _ _, ⟨⟨b1, b2⟩, p3.2.1, b3, ?_, ?_, ?_⟩, b4⟩
      · intro j hj
        rcases List.mem_append.mp hj with e | e
        · exact p3.2.2.2.1 j e
        · exact a_fkept_ok hX g.2.2.2.1 p3.2.2.2.2.1 j e
      · intro a k hn
        refine (p3.2.2.2.2.1 a k ?_).trans (g.2.2.2.2.1 a k hn)
        rintro ⟨w, hw, w1, w2, w3⟩
        apply hn
        have := a_mod_ok (k := k) (by show ((w.2.1 : Nat) : Int) ≤ _; omega) (by show _ ≤ ((w.2.2 : Nat) : Int); omega) (a_all_ok hc2 w hw)
        rw [w1] at this
        exact this
      · intro hl
        obtain ⟨l1, l2⟩ := g.2.2.2.2.2 hl
        exact ⟨Nat.lt_of_lt_of_le l1 (Nat.le_add_right _ _), by rw [hag 0 l1]; exact l2⟩
    · cases hrx
  · cases hr
theorem a_pick_ok {o : Nat} {X : aX} (hX : aOK X) {T : zT} {ρ : Nat → Int} {q : aQ} {h : zH} {as : List aV} {bs : List zV} {d mj : Nat} (g : aDen X ρ q h) (has : aRl ρ q.1 as bs) : ∀ {Ks : List aK} {rets : List aRs}, (∀ κ ∈ Ks, aSpecO o X.1 X.2.1 X.2.2.1 T κ) → a_pick X.1 X.2.2.2.2 d mj q as Ks = some rets → aCall o X T ρ q h d mj bs rets
  | [], _, _, hr => by cases hr
  | κ :: Ks, rets, hK, hr => by
    have hK' : ∀ κ ∈ Ks, aSpecO o X.1 X.2.1 X.2.2.1 T κ := fun x hx => hK x (List.mem_cons_of_mem _ hx)
    have hr : cond (Nat.beq κ.1 mj && Nat.ble κ.2.1 d) (match a_callK X.1 X.2.2.2.2 κ q as with
      | some r => some r
      | none => a_pick X.1 X.2.2.2.2 d mj q as Ks) (a_pick X.1 X.2.2.2.2 d mj q as Ks) = some rets := hr
    rcases x_condT hr with ⟨hc, hr⟩ | ⟨-, hr⟩
    · rw [Bool.and_eq_true] at hc
      have c1 := Nat.eq_of_beq_eq_true hc.1
      have c2 := Nat.le_of_ble_eq_true hc.2
      cases hq : a_callK X.1 X.2.2.2.2 κ q as with
      | none => rw [hq] at hr; exact a_pick_ok hX g has hK' hr
      | some r =>
        rw [hq] at hr
        cases hr
        obtain ⟨zr, k1, k2⟩ := a_callK_ok hX (hK κ List.mem_cons_self) hq g has
        rw [c1] at k1
        exact ⟨zr, k1.deeper (o + d) (Nat.add_le_add_left c2 o), k2⟩
    · exact a_pick_ok hX g has hK' hr
end
