/-! WHAT THE WATCHER'S STATES MEAN -/
def aev (ρ : Nat → Int) (s : Nat) (o : Int) : Int := match s with
  | 0 => o
  | i + 1 => ρ i + o
def aR (ρ : Nat → Int) (n : Nat) (v : aV) (z : zV) : Prop := v.2.1 ≤ n ∧ z = (v.1, aev ρ v.2.1 v.2.2)
def aAg (ρ ρ' : Nat → Int) (n : Nat) : Prop := ∀ i, i < n → ρ' i = ρ i
theorem aAg.refl (ρ : Nat → Int) (n : Nat) : aAg ρ ρ n := fun _ _ => rfl
theorem aAg.trans {ρ ρ' ρ'' : Nat → Int} {n m : Nat} (h : aAg ρ ρ' n) (h' : aAg ρ' ρ'' m) (hn : n ≤ m) : aAg ρ ρ'' n := fun i hi => (h' i (by omega)).trans (h i hi)
theorem aev_ag {ρ ρ' : Nat → Int} {n : Nat} (h : aAg ρ ρ' n) {s : Nat} {o : Int} (hs : s ≤ n) : aev ρ' s o = aev ρ s o := by
  cases s with
  | zero => rfl
  | succ i => show ρ' i + o = ρ i + o; rw [h i (by omega)]
theorem aR.mono {ρ ρ' : Nat → Int} {n n' : Nat} {v : aV} {z : zV} (h : aR ρ n v z) (hn : n ≤ n') (ha : aAg ρ ρ' n) : aR ρ' n' v z := ⟨Nat.le_trans h.1 hn, by rw [aev_ag ha h.1]; exact h.2⟩
def aRl (ρ : Nat → Int) (n : Nat) : List aV → List zV → Prop
  | [], [] => True
  | v :: vs, z :: zs => aR ρ n v z ∧ aRl ρ n vs zs
  | _, _ => False
theorem aRl.mono {ρ ρ' : Nat → Int} {n n' : Nat} (hn : n ≤ n') (ha : aAg ρ ρ' n) : ∀ {vs : List aV} {zs : List zV}, aRl ρ n vs zs → aRl ρ' n' vs zs
  | [], [], _ => trivial
  | _ :: _, _ :: _, ⟨h, hs⟩ => ⟨h.mono hn ha, aRl.mono hn ha hs⟩
def aRL (ρ : Nat → Int) (n : Nat) (L : aL) (M : zL) : Prop := ∀ q ∈ L, ∃ z, M q.1 = some z ∧ aR ρ n q.2 z
theorem aRL.mono {ρ ρ' : Nat → Int} {n n' : Nat} {L : aL} {M : zL} (hn : n ≤ n') (ha : aAg ρ ρ' n) (h : aRL ρ n L M) : aRL ρ' n' L M := fun q hq => by
  obtain ⟨z, h1, h2⟩ := h q hq
  exact ⟨z, h1, h2.mono hn ha⟩
def aRo (ρ : Nat → Int) (n : Nat) (v : Option aV) (z : Option zV) : Prop := match v, z with
  | none, none => True
  | some v, some z => aR ρ n v z
  | _, _ => False
def alin (ρ : Nat → Int) : List (Int × Nat) → Int
  | [] => 0
  | p :: t => p.1 * ρ p.2 + alin ρ t
def aScope (n : Nat) (ts : List (Int × Nat)) : Prop := ∀ p ∈ ts, p.2 < n
theorem alin_ag {ρ ρ' : Nat → Int} {n : Nat} (ha : aAg ρ ρ' n) : ∀ {ts : List (Int × Nat)}, aScope n ts → alin ρ' ts = alin ρ ts
  | [], _ => rfl
  | p :: t, h => by
    show p.1 * ρ' p.2 + alin ρ' t = p.1 * ρ p.2 + alin ρ t
    rw [ha p.2 (h p List.mem_cons_self), alin_ag ha (fun q hq => h q (List.mem_cons_of_mem _ hq))]
def aEnv (ρ : Nat → Int) (n : Nat) (E : aB) (Fs : List aF) : Prop := (∀ q ∈ E, q.1 < n ∧ q.2.1 ≤ ρ q.1 ∧ ρ q.1 ≤ q.2.2) ∧ ∀ x ∈ Fs, aScope n x.1 ∧ alin ρ x.1 ≤ x.2
theorem aEnv.mono {ρ ρ' : Nat → Int} {n n' : Nat} {E : aB} {Fs : List aF} (h : aEnv ρ n E Fs) (hn : n ≤ n') (ha : aAg ρ ρ' n) : aEnv ρ' n' E Fs := by
  refine ⟨fun q hq => ?_, fun x hx => ?_⟩
  · obtain ⟨h1, h2⟩ := h.1 q hq
    rw [ha q.1 h1]
    exact ⟨by omega, h2⟩
  · obtain ⟨h1, h2⟩ := h.2 x hx
    rw [alin_ag ha h1]
    exact ⟨fun p hp => Nat.lt_of_lt_of_le (h1 p hp) hn, h2⟩
def atin (t : aT) (v : zV) : Prop := match t.1 with
  | 0 => v.1 = 0 ∧ t.2.1 ≤ v.2 ∧ v.2 ≤ t.2.2.1
  | 1 => v.1 = 1 ∧ t.2.1 ≤ v.2 ∧ v.2 ≤ t.2.2.1
  | 2 => ∃ k ∈ t.2.2.2, v = if k = -1 then (4, 0) else (2, k)
  | _ => True
def atyOK (g : Nat → zV) : List (Nat × aT) → Nat → Prop
  | [], _ => True
  | s :: l, p => (∀ j, p ≤ j → j < p + s.1 → atin s.2 (g j)) ∧ atyOK g l (p + s.1)
noncomputable def a_wid (l : List (Nat × aT)) : Nat := List.rec (motive := fun _ => Nat) 0 (fun s _ ih => s.1 + ih) l
def atyC (g : Nat → zV) : aTc → Nat → Prop
  | [], _ => True
  | s :: l, p => atyOK g s.2 p ∧ a_wid s.2 ≤ s.1 ∧ atyC g l (p + s.1)
def aTyped (ty : aTy) (h : zH) : Prop := ∀ r l, a_at ty r = some l → atyC (h r) l 0
def aIn (m : aM) (r k : Nat) : Prop := ∃ q ∈ m, q.1 = r ∧ q.2.1 ≤ k ∧ k ≤ q.2.2
def aFr (m : aM) (h0 h : zH) : Prop := ∀ r k, ¬ aIn m r k → h r k = h0 r k
def aOv (ρ : Nat → Int) (n : Nat) (O : aO) (h : zH) : Prop := ∀ e ∈ O, e.1.2.1 ≤ n ∧ 0 ≤ aev ρ e.1.2.1 e.1.2.2 ∧ aR ρ n e.2 (h e.1.1 (aev ρ e.1.2.1 e.1.2.2).toNat)
theorem aOv.mono {ρ ρ' : Nat → Int} {n n' : Nat} {O : aO} {h : zH} (g : aOv ρ n O h) (hn : n ≤ n') (ha : aAg ρ ρ' n) : aOv ρ' n' O h := fun e he => by
  obtain ⟨h1, h2, h3⟩ := g e he
  refine ⟨by omega, ?_, ?_⟩
  · rw [aev_ag ha h1]; exact h2
  · rw [aev_ag ha h1]; exact h3.mono hn ha
-- what doesn't change in a run: types, supports, the script, flags' meanings, the heap at the entry, what may be written
abbrev aX : Type := aG × zD × (Nat → zH → Prop) × zH × aM
def aDen (X : aX) (ρ : Nat → Int) (q : aQ) (h : zH) : Prop := aEnv ρ q.1 q.2.1 q.2.2.1 ∧ aTyped X.1.1 h ∧ aOv ρ q.1 q.2.2.2.1 h ∧ (∀ j ∈ q.2.2.2.2, X.2.2.1 j h) ∧ aFr X.2.2.2.2 X.2.2.2.1 h ∧ (X.1.2.2 = true → 0 < q.1 ∧ ρ 0 = (X.2.1.1 : Int))
-- a cell of the ground that begins at place B of cell r (or the first)
def rCb (h : zH) (r B : Nat) (z : Int) : Prop := z = 0 ∨ z < (h r B).2 * (h r (B + 1)).2
def rIn (B k : Nat) : Prop := (B + 245 ≤ k ∧ k ≤ B + 250) ∨ (B + 257 ≤ k ∧ k ≤ B + 262)
def rAl (h : zH) (r B : Nat) : Prop := ∀ k, rIn B k → rCb h r B (h r k).2
def rRow (h : zH) : Prop := ∀ i : Nat, i < 49 → (i : Int) < (h 121 31).2 → rCb h 126 0 (h 132 i).2
def rZe (h : zH) : Prop := ∀ k, rIn 2200 k → (h 126 k).2 = 0
-- the flags 345 to 352
def rFx (j : Nat) (h : zH) : Prop := if j < 350 then rAl h 126 (550 * (j - 345)) else if j = 350 then rAl h 127 0 else if j = 351 then rRow h else rZe h
-- the script stands beside the heap, as cell 1000, for the law alone
def aOK (X : aX) : Prop := ((∀ j m, a_at X.1.2.1 j = some m → ∀ h h' : zH, (∀ r k, aIn m r k → h' r k = h r k) → X.2.2.1 j h → X.2.2.1 j h') ∧ (X.1.2.2 = true → ∀ k, X.2.2.2.1 1000 k = (0, X.2.1.2 k) ∧ ¬ aIn X.2.2.2.2 1000 k)) ∧ (∀ i, -2147483648 ≤ X.2.1.2 i ∧ X.2.1.2 i ≤ 2147483647) ∧ ∀ j h, 345 ≤ j → j < 353 → (X.2.2.1 j h ↔ rFx j h)
def aStD (X : aX) (ρ : Nat → Int) (st : aS) (z : zS) : Prop := aDen X ρ st.1 z.1 ∧ aRL ρ st.1.1 st.2.1 z.2.1 ∧ aRl ρ st.1.1 st.2.2 z.2.2
def aOutD (X : aX) (ρ : Nat → Int) (o : aOut) (z : zO) : Prop := match o, z with
  | .inl (q, v), .inl (h, w) => aDen X ρ q h ∧ aRo ρ q.1 v w
  | .inr (.inl (pc, st)), .inr (.inl (pc', z)) => pc = pc' ∧ aStD X ρ st z
  | .inr (.inr (mi, as, nx, st)), .inr (.inr (mi', bs, nx', z)) => mi = mi' ∧ nx = nx' ∧ aRl ρ st.1.1 as bs ∧ aStD X ρ st z
  | _, _ => False
/-! values -/
def aup (ρ : Nat → Int) (n : Nat) (z : Int) : Nat → Int := fun i => if i = n then z else ρ i
theorem aup_ag (ρ : Nat → Int) (n : Nat) (z : Int) : aAg ρ (aup ρ n z) n := fun i hi => if_neg (by omega)
theorem aup_at (ρ : Nat → Int) (n : Nat) (z : Int) : aup ρ n z n = z := if_pos rfl
theorem aDen.push {X : aX} {ρ : Nat → Int} {q : aQ} {h : zH} (g : aDen X ρ q h) {lo hi z : Int} (h1 : lo ≤ z) (h2 : z ≤ hi) : aDen X (aup ρ q.1 z) (q.1 + 1, (q.1, lo, hi) :: q.2.1, q.2.2) h := by
  obtain ⟨g1, g2, g3, g4, g5, g6⟩ := g
  have ha := aup_ag ρ q.1 z
  have g1' := g1.mono (Nat.le_succ _) ha
  refine ⟨⟨fun x hx => ?_, g1'.2⟩, g2, g3.mono (Nat.le_succ _) ha, g4, g5, fun hs => ?_⟩
  · rcases List.mem_cons.mp hx with e | e
    · rw [e]
      show q.1 < q.1 + 1 ∧ lo ≤ aup ρ q.1 z q.1 ∧ aup ρ q.1 z q.1 ≤ hi
      rw [aup_at]
      exact ⟨Nat.lt_succ_self _, h1, h2⟩
    · exact g1'.1 x e
  · obtain ⟨a, b⟩ := g6 hs
    exact ⟨Nat.succ_pos _, by rw [ha 0 a]; exact b⟩
theorem aDen.fact {X : aX} {ρ : Nat → Int} {q : aQ} {h : zH} (g : aDen X ρ q h) {x : aF} (h1 : aScope q.1 x.1) (h2 : alin ρ x.1 ≤ x.2) : aDen X ρ (a_fact q x) h := by
  obtain ⟨g1, g⟩ := g
  refine ⟨⟨g1.1, fun y hy => ?_⟩, g⟩
  rcases List.mem_cons.mp hy with e | e
  · rw [e]; exact ⟨h1, h2⟩
  · exact g1.2 y e
theorem aDen.bound {X : aX} {ρ : Nat → Int} {q : aQ} {h : zH} (g : aDen X ρ q h) {E : aB} (hE : ∀ x ∈ E, x.1 < q.1 ∧ x.2.1 ≤ ρ x.1 ∧ ρ x.1 ≤ x.2.2) : aDen X ρ (q.1, E, q.2.2) h := ⟨⟨hE, g.1.2⟩, g.2⟩
theorem a_get_ok {ρ : Nat → Int} {n : Nat} {i : Nat} {q : Int × Int} : ∀ {E : aB}, (∀ x ∈ E, x.1 < n ∧ x.2.1 ≤ ρ x.1 ∧ ρ x.1 ≤ x.2.2) → a_get E i = some q → i < n ∧ q.1 ≤ ρ i ∧ ρ i ≤ q.2
  | [], _, h => by cases h
  | x :: E, he, h => by
    have h : cond (Nat.beq x.1 i) (some x.2) (a_get E i) = some q := h
    cases hb : Nat.beq x.1 i with
    | true =>
      rw [hb] at h
      cases h
      have := Nat.eq_of_beq_eq_true hb
      subst this
      exact he x List.mem_cons_self
    | false =>
      rw [hb] at h
      exact a_get_ok (fun y hy => he y (List.mem_cons_of_mem _ hy)) h
theorem a_rngK_ok {β : Type} {ρ : Nat → Int} {n : Nat} {E : aB} {v : aV} {f : Int → Int → Option β} {r : β} (h : a_rngK E v f = some r) (he : ∀ x ∈ E, x.1 < n ∧ x.2.1 ≤ ρ x.1 ∧ ρ x.1 ≤ x.2.2) : ∃ lo hi, f lo hi = some r ∧ lo ≤ aev ρ v.2.1 v.2.2 ∧ aev ρ v.2.1 v.2.2 ≤ hi := by
  obtain ⟨t, s, o⟩ := v
  unfold a_rngK at h
  cases s with
  | zero => exact ⟨o, o, h, Int.le_refl _, Int.le_refl _⟩
  | succ i =>
    have h : (match a_get E i with
      | some q => x_kZ (q.1 + o) (fun lo => x_kZ (q.2 + o) (fun hi => f lo hi))
      | none => none) = some r := h
    split at h
    · rename_i q hq
      obtain ⟨h1, h2, h3⟩ := a_get_ok he hq
      rw [x_kZ_eq, x_kZ_eq] at h
      exact ⟨_, _, h, by show _ ≤ ρ i + o; omega, by show ρ i + o ≤ _; omega⟩
    · cases h
theorem a_newK_eq {β : Type} {t : Nat} {lo hi : Int} {q : aQ} {f : aQ → aV → Option β} : a_newK t lo hi q f = f (q.1 + 1, (q.1, lo, hi) :: q.2.1, q.2.2) (t, q.1 + 1, 0) := by
  unfold a_newK
  rw [x_kZ_eq, x_kZ_eq, x_kN_eq]
/-- what comes of a making: a value that is z -/
def aMk {β : Type} (X : aX) (ρ : Nat → Int) (q : aQ) (h : zH) (z : zV) (f : aQ → aV → Option β) (r : β) : Prop := ∃ q' v ρ', f q' v = some r ∧ aAg ρ ρ' q.1 ∧ q.1 ≤ q'.1 ∧ aDen X ρ' q' h ∧ aR ρ' q'.1 v z
section AK
variable {β : Type} {X : aX} {ρ : Nat → Int} {q : aQ} {h : zH} {f : aQ → aV → Option β} {r : β} {t : Nat}
theorem a_newK_ok {lo hi z : Int} (hr : a_newK t lo hi q f = some r) (g : aDen X ρ q h) (h1 : lo ≤ z) (h2 : z ≤ hi) : aMk X ρ q h (t, z) f r := by
  rw [a_newK_eq] at hr
  refine ⟨_, _, _, hr, aup_ag ρ q.1 z, Nat.le_succ _, g.push h1 h2, Nat.le_refl _, ?_⟩
  show (t, z) = (t, aup ρ q.1 z q.1 + 0)
  rw [aup_at, Int.add_zero]
theorem a_anyK_ok {z : Int} (hr : a_anyK t q f = some r) (g : aDen X ρ q h) (h1 : a_lo t ≤ z) (h2 : z ≤ a_hi t) : aMk X ρ q h (t, z) f r := a_newK_ok hr g h1 h2
theorem aMk.here {v : aV} {z : zV} (hr : f q v = some r) (g : aDen X ρ q h) (hv : aR ρ q.1 v z) : aMk X ρ q h z f r := ⟨q, v, ρ, hr, aAg.refl _ _, Nat.le_refl _, g, hv⟩
theorem x_condT {b : Bool} {α : Type} {x y : Option α} {r : α} (h : cond b x y = some r) : (b = true ∧ x = some r) ∨ (b = false ∧ y = some r) := by
  cases b with
  | false => exact Or.inr ⟨rfl, h⟩
  | true => exact Or.inl ⟨rfl, h⟩
theorem a_in_ok {lo hi : Int} (h : a_in t lo hi = true) : a_lo t ≤ lo ∧ hi ≤ a_hi t := by
  unfold a_in at h
  rw [Bool.and_eq_true, a_dec_eq, a_dec_eq] at h
  exact h
theorem aR_val {n : Nat} {v : aV} {z : zV} (hv : aR ρ n v z) : z.2 = aev ρ v.2.1 v.2.2 := by rw [hv.2]
theorem aev_add (ρ : Nat → Int) (s : Nat) (o c : Int) : aev ρ s (o + c) = aev ρ s o + c := by
  cases s with
  | zero => rfl
  | succ i => show ρ i + (o + c) = ρ i + o + c; omega
theorem a_rng_den {γ : Type} {v : aV} {k : Int → Int → Option γ} {r : γ} (h0 : a_rngK q.2.1 v k = some r) (g : aDen X ρ q h) {z : zV} (hv : aR ρ q.1 v z) : ∃ lo hi, k lo hi = some r ∧ lo ≤ z.2 ∧ z.2 ≤ hi := by
  obtain ⟨lo, hi, h1, h2, h3⟩ := a_rngK_ok h0 g.1.1
  rw [← aR_val hv] at h2 h3
  exact ⟨lo, hi, h1, h2, h3⟩
theorem a_isC_ok {v : aV} (h : a_isC v = true) : v.2.1 = 0 := Nat.eq_of_beq_eq_true h
theorem aR_const {n : Nat} {v : aV} {z : zV} (hc : a_isC v = true) (hv : aR ρ n v z) : z.2 = v.2.2 := by
  rw [aR_val hv, a_isC_ok hc]; rfl
theorem a_shiftK_ok {x : aV} {zx : zV} {c z : Int} (hr : a_shiftK t q x c f = some r) (g : aDen X ρ q h) (hx : aR ρ q.1 x zx) (hz : a_lo t ≤ zx.2 + c → zx.2 + c ≤ a_hi t → z = zx.2 + c) (hb : a_lo t ≤ z ∧ z ≤ a_hi t) : aMk X ρ q h (t, z) f r := by
  unfold a_shiftK at hr
  obtain ⟨lo, hi, hr, b1, b2⟩ := a_rng_den hr g hx
  rcases x_condT hr with ⟨hc, hr⟩ | ⟨-, hr⟩
  · obtain ⟨c1, c2⟩ := a_in_ok hc
    rw [x_kZ_eq] at hr
    refine aMk.here hr g ⟨hx.1, ?_⟩
    rw [hz (by omega) (by omega), aR_val hx]
    show (t, _) = (t, aev ρ x.2.1 (x.2.2 + c))
    rw [aev_add]
  · exact a_anyK_ok hr g hb.1 hb.2
theorem alin_app (ρ : Nat → Int) : ∀ a b : List (Int × Nat), alin ρ (a ++ b) = alin ρ a + alin ρ b
  | [], b => by show alin ρ b = 0 + alin ρ b; omega
  | p :: a, b => by
    show p.1 * ρ p.2 + alin ρ (a ++ b) = p.1 * ρ p.2 + alin ρ a + alin ρ b
    rw [alin_app ρ a b]; omega
theorem alin_tm (ρ : Nat → Int) (c : Int) (v : aV) : alin ρ (a_tm c v) + c * v.2.2 = c * aev ρ v.2.1 v.2.2 := by
  obtain ⟨t, s, o⟩ := v
  cases s with
  | zero => show (0 : Int) + c * o = c * o; omega
  | succ i =>
    show c * ρ i + 0 + c * o = c * (ρ i + o)
    rw [Int.mul_add]; omega
theorem aScope_tm {n : Nat} {c : Int} {v : aV} (h : v.2.1 ≤ n) : aScope n (a_tm c v) := by
  obtain ⟨t, s, o⟩ := v
  cases s with
  | zero => intro p hp; cases hp
  | succ i =>
    intro p hp
    have : p = (c, i) := List.mem_singleton.mp hp
    rw [this]
    exact h
theorem aScope_app {n : Nat} {a b : List (Int × Nat)} (ha : aScope n a) (hb : aScope n b) : aScope n (a ++ b) := fun p hp => (List.mem_append.mp hp).elim (ha p) (hb p)
theorem aScope.up {n : Nat} {a : List (Int × Nat)} (ha : aScope n a) : aScope (n + 1) a := fun p hp => Nat.lt_succ_of_lt (ha p hp)
theorem a_linK_ok {lo hi z b : Int} {ts ns : List (Int × Nat)} (hr : a_linK t lo hi q ts ns b f = some r) (g : aDen X ρ q h) (h1 : lo ≤ z) (h2 : z ≤ hi) (hts : aScope q.1 ts) (hns : aScope q.1 ns) (e1 : alin ρ ts + b = z) (e2 : alin ρ ns - b = -z) : aMk X ρ q h (t, z) f r := by
  unfold a_linK at hr
  rw [x_spine_eq, x_spine_eq, x_kZ_eq, x_kZ_eq, a_newK_eq] at hr
  have ha := aup_ag ρ q.1 z
  refine ⟨_, _, aup ρ q.1 z, hr, ha, Nat.le_succ _, aDen.fact (aDen.fact (g.push h1 h2) ?_ ?_) ?_ ?_, Nat.le_refl _, ?_⟩
  · intro p hp
    rcases List.mem_cons.mp hp with e | e
    · rw [e]; exact Nat.lt_succ_self _
    · exact hts.up p e
  · show (-1) * aup ρ q.1 z q.1 + alin (aup ρ q.1 z) ts ≤ -b
    rw [aup_at, alin_ag ha hts]; omega
  · intro p hp
    rcases List.mem_cons.mp hp with e | e
    · rw [e]; exact Nat.lt_succ_self _
    · exact hns.up p e
  · show 1 * aup ρ q.1 z q.1 + alin (aup ρ q.1 z) ns ≤ b
    rw [aup_at, alin_ag ha hns]; omega
  · show (t, z) = (t, aup ρ q.1 z q.1 + 0)
    rw [aup_at, Int.add_zero]
theorem a_addK_ok {x y : aV} {zx zy : zV} {z : Int} (hr : a_addK t q x y f = some r) (g : aDen X ρ q h) (hx : aR ρ q.1 x zx) (hy : aR ρ q.1 y zy) (hz : a_lo t ≤ zx.2 + zy.2 → zx.2 + zy.2 ≤ a_hi t → z = zx.2 + zy.2) (hb : a_lo t ≤ z ∧ z ≤ a_hi t) : aMk X ρ q h (t, z) f r := by
  unfold a_addK at hr
  rcases x_condT hr with ⟨hc, hr⟩ | ⟨-, hr⟩
  · have hcy := aR_const hc hy
    exact a_shiftK_ok hr g hx (by rw [← hcy]; exact hz) hb
  · rcases x_condT hr with ⟨hc, hr⟩ | ⟨-, hr⟩
    · have hcx := aR_const hc hx
      exact a_shiftK_ok hr g hy (by rw [← hcx, Int.add_comm]; exact hz) hb
    · obtain ⟨lx, hxx, hr, b1, b2⟩ := a_rng_den hr g hx
      obtain ⟨ly, hyy, hr, b3, b4⟩ := a_rng_den hr g hy
      rcases x_condT hr with ⟨hc, hr⟩ | ⟨-, hr⟩
      · obtain ⟨c1, c2⟩ := a_in_ok hc
        have hz := hz (by omega) (by omega)
        have l1 := alin_tm ρ 1 x
        have l2 := alin_tm ρ 1 y
        have l3 := alin_tm ρ (-1) x
        have l4 := alin_tm ρ (-1) y
        rw [← aR_val hx] at l1 l3
        rw [← aR_val hy] at l2 l4
        refine a_linK_ok hr g (by omega) (by omega) (aScope_app (aScope_tm hx.1) (aScope_tm hy.1)) (aScope_app (aScope_tm hx.1) (aScope_tm hy.1)) ?_ ?_
        · rw [alin_app]; omega
        · rw [alin_app]; omega
      · exact a_anyK_ok hr g hb.1 hb.2
theorem a_subK_ok {x y : aV} {zx zy : zV} {z : Int} (hr : a_subK t q x y f = some r) (g : aDen X ρ q h) (hx : aR ρ q.1 x zx) (hy : aR ρ q.1 y zy) (hz : a_lo t ≤ zx.2 - zy.2 → zx.2 - zy.2 ≤ a_hi t → z = zx.2 - zy.2) (hb : a_lo t ≤ z ∧ z ≤ a_hi t) : aMk X ρ q h (t, z) f r := by
  unfold a_subK at hr
  rcases x_condT hr with ⟨hc, hr⟩ | ⟨-, hr⟩
  · have hcy := aR_const hc hy
    refine a_shiftK_ok hr g hx ?_ hb
    rw [← hcy]
    intro h1 h2
    have := hz (by omega) (by omega)
    omega
  · rcases x_condT hr with ⟨hc, hr⟩ | ⟨-, hr⟩
    · have hs := Nat.eq_of_beq_eq_true hc
      have e1 := aR_val hx
      have e2 := aR_val hy
      refine a_shiftK_ok (x := (t, 0, x.2.2)) (zx := (t, x.2.2)) hr g ⟨Nat.zero_le _, rfl⟩ ?_ hb
      have e3 : zx.2 - zy.2 = x.2.2 + -y.2.2 := by
        rw [e1, e2, hs]
        cases y.2.1 with
        | zero => show x.2.2 - y.2.2 = _; omega
        | succ i => show ρ i + x.2.2 - (ρ i + y.2.2) = _; omega
      rw [e3] at hz
      exact hz
    · obtain ⟨lx, hxx, hr, b1, b2⟩ := a_rng_den hr g hx
      obtain ⟨ly, hyy, hr, b3, b4⟩ := a_rng_den hr g hy
      rcases x_condT hr with ⟨hc, hr⟩ | ⟨-, hr⟩
      · obtain ⟨c1, c2⟩ := a_in_ok hc
        have hz := hz (by omega) (by omega)
        have l1 := alin_tm ρ 1 x
        have l2 := alin_tm ρ 1 y
        have l3 := alin_tm ρ (-1) x
        have l4 := alin_tm ρ (-1) y
        rw [← aR_val hx] at l1 l3
        rw [← aR_val hy] at l2 l4
        refine a_linK_ok hr g (by omega) (by omega) (aScope_app (aScope_tm hx.1) (aScope_tm hy.1)) (aScope_app (aScope_tm hx.1) (aScope_tm hy.1)) ?_ ?_
        · rw [alin_app]; omega
        · rw [alin_app]; omega
      · exact a_anyK_ok hr g hb.1 hb.2
theorem a_scaleK_ok {x : aV} {zx : zV} {c z : Int} (hr : a_scaleK t q x c f = some r) (g : aDen X ρ q h) (hx : aR ρ q.1 x zx) (hz : a_lo t ≤ zx.2 * c → zx.2 * c ≤ a_hi t → z = zx.2 * c) (hb : a_lo t ≤ z ∧ z ≤ a_hi t) : aMk X ρ q h (t, z) f r := by
  unfold a_scaleK at hr
  rcases x_condT hr with ⟨hc, hr⟩ | ⟨-, hr⟩
  · rw [Bool.and_eq_true] at hc
    obtain ⟨c1, c2⟩ := a_in_ok hc.2
    have e := aR_const hc.1 hx
    rw [x_kZ_eq] at hr
    refine aMk.here hr g ⟨Nat.zero_le _, ?_⟩
    show (t, z) = (t, x.2.2 * c)
    rw [hz (by rw [e]; exact c1) (by rw [e]; exact c2), e]
  obtain ⟨lx, hxx, hr, b1, b2⟩ := a_rng_den hr g hx
  rcases x_condT hr with ⟨hc, hr⟩ | ⟨-, hr⟩
  · rw [Bool.and_eq_true, a_dec_eq] at hc
    obtain ⟨c1, c2⟩ := a_in_ok hc.2
    rw [x_kZ_eq] at hr
    have m1 : lx * c ≤ zx.2 * c := Int.mul_le_mul_of_nonneg_right b1 hc.1
    have m2 : zx.2 * c ≤ hxx * c := Int.mul_le_mul_of_nonneg_right b2 hc.1
    have hz := hz (by omega) (by omega)
    have l1 := alin_tm ρ c x
    have l2 := alin_tm ρ (-c) x
    rw [← aR_val hx] at l1 l2
    rw [Int.neg_mul, Int.neg_mul] at l2
    have e : c * zx.2 = zx.2 * c := Int.mul_comm _ _
    refine a_linK_ok hr g (by omega) (by omega) (aScope_tm hx.1) (aScope_tm hx.1) (by omega) (by omega)
  · exact a_anyK_ok hr g hb.1 hb.2
theorem a_mulK_ok {x y : aV} {zx zy : zV} {z : Int} (hr : a_mulK t q x y f = some r) (g : aDen X ρ q h) (hx : aR ρ q.1 x zx) (hy : aR ρ q.1 y zy) (hz : a_lo t ≤ zx.2 * zy.2 → zx.2 * zy.2 ≤ a_hi t → z = zx.2 * zy.2) (hb : a_lo t ≤ z ∧ z ≤ a_hi t) : aMk X ρ q h (t, z) f r := by
  unfold a_mulK at hr
  rcases x_condT hr with ⟨hc, hr⟩ | ⟨-, hr⟩
  · have hcy := aR_const hc hy
    exact a_scaleK_ok hr g hx (by rw [← hcy]; exact hz) hb
  · rcases x_condT hr with ⟨hc, hr⟩ | ⟨-, hr⟩
    · have hcx := aR_const hc hx
      exact a_scaleK_ok hr g hy (by rw [← hcx, Int.mul_comm]; exact hz) hb
    · obtain ⟨lx, hxx, hr, b1, b2⟩ := a_rng_den hr g hx
      obtain ⟨ly, hyy, hr, b3, b4⟩ := a_rng_den hr g hy
      rcases x_condT hr with ⟨hc, hr⟩ | ⟨-, hr⟩
      · rw [Bool.and_eq_true, Bool.and_eq_true, a_dec_eq, a_dec_eq] at hc
        obtain ⟨c0, c1, c2⟩ := hc
        obtain ⟨c3, c4⟩ := a_in_ok c2
        have m1 : lx * ly ≤ zx.2 * zy.2 := Int.mul_le_mul b1 b3 c1 (by omega)
        have m2 : zx.2 * zy.2 ≤ hxx * hyy := Int.mul_le_mul b2 b4 (by omega) (by omega)
        have m3 : 0 ≤ lx * ly := Int.mul_nonneg c0 c1
        have hz := hz (by omega) (by omega)
        exact a_newK_ok hr g (by omega) (by omega)
      · exact a_anyK_ok hr g hb.1 hb.2
end AK
