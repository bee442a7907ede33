/-! COUNT, SEEN -/
def cFq (P : PT) (j : Nat) (w : Int) (q : Nat) : Nat := if P 3 (48 * j + q) = w then 1 else 0
def ctW (P : PT) (x y : Int) : Int := if (0 ≤ x ∧ x < P 0 2) ∧ 0 ≤ y ∧ y ≤ 3 then ((sC P (cFq P x.toNat y) 48 : Nat) : Int) else -1
def wCq (P : PT) (j : Nat) (w : Int) (n y : Nat) : Bool := decide (y < n) && (decide (gIx P y = 1) && decide (P 3 (48 * j + y) = w))
theorem wCq_f {P : PT} {j : Nat} {w : Int} {n y : Nat} (h : ¬ y < n) : wCq P j w n y = false := by
  unfold wCq
  rw [decide_eq_false h, Bool.false_and]
theorem wCq_s1 {P : PT} {j q y : Nat} {w : Int} (hg : gIx P q = 1) (hw : P 3 (48 * j + q) = w) : wCq P j w (q + 1) y = (wCq P j w q y || decide (y = q)) := by
  unfold wCq
  by_cases c : y = q
  · subst c
    simp [hg, hw]
  · rw [decide_eq_false c, Bool.or_false, show decide (y < q + 1) = decide (y < q) from decide_eq_decide.mpr (by omega)]
theorem wCq_s0 {P : PT} {j q y : Nat} {w : Int} (h : ¬ (gIx P q = 1 ∧ P 3 (48 * j + q) = w)) : wCq P j w (q + 1) y = wCq P j w q y := by
  unfold wCq
  by_cases c : y = q
  · subst c
    have e : (decide (gIx P y = 1) && decide (P 3 (48 * j + y) = w)) = false := by
      rw [← Bool.not_eq_true, Bool.and_eq_true, decide_eq_true_eq, decide_eq_true_eq]
      exact h
    rw [e, Bool.and_false, Bool.and_false]
  · rw [show decide (y < q + 1) = decide (y < q) from decide_eq_decide.mpr (by omega)]
theorem bcC_wC (P : PT) (j : Nat) (w : Int) : ∀ n, n ≤ 48 → bcC (wCq P j w 48) n = sC P (cFq P j w) n
  | 0, _ => rfl
  | n + 1, hn => by
    have h48 : n < 48 := by omega
    have e : (if wCq P j w 48 n = true then 1 else 0) = (if gIx P n = 1 then cFq P j w n else 0) := by
      unfold wCq cFq
      by_cases a : gIx P n = 1
      · by_cases b : P 3 (48 * j + n) = w
        · simp [a, b, h48]
        · simp [a, b, h48]
      · simp [a]
    show bcC (wCq P j w 48) n + (if wCq P j w 48 n = true then 1 else 0) = sC P (cFq P j w) n + (if gIx P n = 1 then cFq P j w n else 0)
    rw [bcC_wC P j w n (by omega), e]
theorem bcC_wC64 {P : PT} {j : Nat} {w : Int} : bcC (wCq P j w 48) 64 = sC P (cFq P j w) 48 := by
  rw [← bcC_wC P j w 48 (Nat.le_refl _)]
  exact bcC_cut 48 16 (fun k _ => wCq_f (by omega))
theorem wB_bit6 : ∀ x : Nat, x < 48 → ∀ y : Nat, y < 64 → (zs64 0 (Int64.ofInt 1) (Int32.ofInt (x : Int))).toBitVec.getLsbD y = decide (y = x) := by decide +kernel
theorem wB_set6 {z : Int} {x y : Nat} (hx : x < 48) (hy : y < 64) : wB (v64 4 z (vS 0 1 (x : Int))) y = (wB z y || decide (y = x)) := by
  have e : wB (vS 0 1 (x : Int)) y = decide (y = x) := by
    unfold wB vS
    rw [Int64.ofInt_toInt]
    exact wB_bit6 x hx y hy
  rw [wB_or, e]
theorem wB_06 : ∀ x : Nat, x < 64 → wB 0 x = false := by decide +kernel
theorem cFq_le (P : PT) (j : Nat) (w : Int) : ∀ n, sR P (cFq P j w) n ≤ n
  | 0 => Nat.le_refl 0
  | n + 1 => by
    have ih := cFq_le P j w n
    have : cFq P j w (gQ P n) ≤ 1 := by
      unfold cFq
      split <;> omega
    show sR P (cFq P j w) n + cFq P j w (gQ P n) ≤ n + 1
    omega
def snN (P : PT) (j : Nat) (p : Nat → Nat) : Nat → Nat
  | 0 => 0
  | n + 1 => snN P j p n + (if P 3 (48 * j + p n) = 3 then 1 else 0)
theorem snN_le (P : PT) (j : Nat) (p : Nat → Nat) : ∀ n, snN P j p n ≤ n
  | 0 => Nat.le_refl 0
  | n + 1 => by
    have ih := snN_le P j p n
    show snN P j p n + (if P 3 (48 * j + p n) = 3 then 1 else 0) ≤ n + 1
    split <;> omega
noncomputable def snV (P : PT) (x y : Int) : Int := if okM P x ∧ (0 ≤ y ∧ y < P 0 2) ∧ mC P x.toNat ≠ -1 then ((snN P y.toNat (mP P x.toNat) (mN P x.toNat + 1) : Nat) : Int) else -1
def sF (G : Nat → Bool) (p : Nat → Nat) : Nat → Nat → Bool
  | 0, _ => false
  | n + 1, x => sF G p n x || (decide (x = p n) && G x)
theorem sF_iff {G : Nat → Bool} {p : Nat → Nat} : ∀ n x, sF G p n x = true ↔ (∃ i, i < n ∧ p i = x) ∧ G x = true
  | 0, x => ⟨fun c => absurd c Bool.false_ne_true, fun ⟨⟨i, h, _⟩, _⟩ => absurd h (Nat.not_lt_zero _)⟩
  | n + 1, x => by
    have ih := sF_iff (G := G) (p := p) n x
    show (sF G p n x || (decide (x = p n) && G x)) = true ↔ _
    rw [Bool.or_eq_true, Bool.and_eq_true, decide_eq_true_eq, ih]
    constructor
    · rintro (⟨⟨i, h1, h2⟩, h3⟩ | ⟨h1, h2⟩)
      · exact ⟨⟨i, by omega, h2⟩, h3⟩
      · exact ⟨⟨n, by omega, h1.symm⟩, h2⟩
    · rintro ⟨⟨i, h1, h2⟩, h3⟩
      by_cases c : i = n
      · subst c
        exact Or.inr ⟨h2.symm, h3⟩
      · exact Or.inl ⟨⟨i, by omega, h2⟩, h3⟩
def gNs (G : Nat → Bool) (p : Nat → Nat) : Nat → Nat
  | 0 => 0
  | n + 1 => gNs G p n + (if G (p n) = true then 1 else 0)
theorem sF_cnt {G : Nat → Bool} {p : Nat → Nat} {m : Nat} (inj : ∀ i k, i < m → k < m → p i = p k → i = k) (hp : ∀ i, i < m → p i < 64) : ∀ n, n ≤ m → bcC (sF G p n) 64 = gNs G p n
  | 0, _ => bcC_f 64 (fun _ _ => rfl)
  | n + 1, hn => by
    have ih := sF_cnt (G := G) inj hp n (by omega)
    show bcC (sF G p (n + 1)) 64 = gNs G p n + (if G (p n) = true then 1 else 0)
    have off : ∀ x, ¬ (x = p n ∧ G x = true) → sF G p (n + 1) x = sF G p n x := fun x h => by
      show (sF G p n x || (decide (x = p n) && G x)) = sF G p n x
      have e : (decide (x = p n) && G x) = false := by
        rw [← Bool.not_eq_true, Bool.and_eq_true, decide_eq_true_eq]
        exact h
      rw [e, Bool.or_false]
    by_cases g : G (p n) = true
    · have t : sF G p (n + 1) (p n) = true := (sF_iff (n + 1) (p n)).mpr ⟨⟨n, by omega, rfl⟩, g⟩
      have u : sF G p n (p n) = false := by
        rw [← Bool.not_eq_true]
        intro c
        obtain ⟨⟨i, h1, h2⟩, _⟩ := (sF_iff n (p n)).mp c
        have := inj i n (by omega) (by omega) h2
        omega
      rw [bcC_upd 64 (hp n (by omega)) (fun x _ hx => off x (fun c => hx c.1)) t u, ih, if_pos g]
    · rw [bcC_eq 64 (fun x _ => off x (fun c => g (by rw [← c.1]; exact c.2))), ih, if_neg g]
      rfl
theorem gNs_sn {P : PT} {j : Nat} {p : Nat → Nat} : ∀ n, (∀ i, i < n → gIn P (p i)) → gNs (wCq P j 3 48) p n = snN P j p n
  | 0, _ => rfl
  | n + 1, h => by
    have g := h n (by omega)
    have e : wCq P j 3 48 (p n) = decide (P 3 (48 * j + p n) = 3) := by
      unfold wCq
      rw [decide_eq_true g.1, decide_eq_true (gIx_y g), Bool.true_and, Bool.true_and]
    show gNs (wCq P j 3 48) p n + (if wCq P j 3 48 (p n) = true then 1 else 0) = snN P j p n + (if P 3 (48 * j + p n) = 3 then 1 else 0)
    rw [gNs_sn n (fun i hi => h i (by omega)), e]
    by_cases c : P 3 (48 * j + p n) = 3
    · rw [decide_eq_true c, if_pos c, if_pos rfl]
    · rw [decide_eq_false c, if_neg c, if_neg Bool.false_ne_true]
theorem yPt_inj {P : PT} {j fr to : Nat} (hb : fB P) (g : gIn P fr) (hc : 0 ≤ yCost P (gCo P j) fr to) {i k : Nat} (hi : i ≤ yN P (gCo P j) fr to) (hk : k ≤ yN P (gCo P j) fr to) (e : yPt P (gCo P j) fr to i = yPt P (gCo P j) fr to k) : i = k := by
  have ff := (yCost_f g).mp hc
  have hok := gOk hb.1
  have hco : ∀ a, gIn P a → gCo P j a ≤ 14 := fun a ga => (gCo_b hb ga.1).2
  have r := wrank2 hok.1 hco dW_ok g ff
  have en : ((yN P (gCo P j) fr to : Nat) : Int) = dW P (gCo P j) to fr % 100 := by
    unfold yN
    omega
  have a1 := (wPt_ok hok hco dW_ok g ff i (by omega)).2.2
  have a2 := (wPt_ok hok hco dW_ok g ff k (by omega)).2.2
  have e : wPt (gNb P) (gCo P j) (dW P (gCo P j) to) fr i = wPt (gNb P) (gCo P j) (dW P (gCo P j) to) fr k := e
  rw [e] at a1
  omega
theorem sn_bits {P : PT} {a j : Nat} {z z2 : Int} (hb : fB P) (c2 : (a : Int) < P 0 3) (c0 : 0 ≤ mC P a) (t4 : ∀ x, x < 48 → (wB z x = true ↔ ∃ i, 1 ≤ i ∧ i ≤ mN P a ∧ mP P a i = x)) (hz2 : ∀ y, y < 64 → wB z2 y = wCq P j 3 48 y) : bcC (wB (v64 3 (v64 4 z (vS 0 1 (P 6 a))) z2)) 64 = snN P j (mP P a) (mN P a + 1) := by
  obtain ⟨n47, hg⟩ := mP_ok hb c2 c0
  obtain ⟨_, ⟨b6, g6⟩, _⟩ := hb.2.2.2 a c2
  have l6 := g6.1
  have e6 : P 6 a = (((P 6 a).toNat : Nat) : Int) := by omega
  have key : ∀ x, x < 64 → wB (v64 3 (v64 4 z (vS 0 1 (P 6 a))) z2) x = sF (wCq P j 3 48) (mP P a) (mN P a + 1) x := fun x hx => by
    rw [wB_and, hz2 x hx, Bool.eq_iff_iff, Bool.and_eq_true, sF_iff]
    by_cases x48 : x < 48
    · have e : (wB (v64 4 z (vS 0 1 (P 6 a))) x = true) ↔ ∃ i, i < mN P a + 1 ∧ mP P a i = x := by
        rw [e6, wB_set l6 x48, Bool.or_eq_true, decide_eq_true_eq, t4 x x48]
        constructor
        · rintro (⟨i, h1, h2, h3⟩ | h)
          · exact ⟨i, by omega, h3⟩
          · exact ⟨0, by omega, h.symm⟩
        · rintro ⟨i, h1, h2⟩
          by_cases c : i = 0
          · subst c
            exact Or.inr h2.symm
          · exact Or.inl ⟨i, by omega, by omega, h2⟩
      rw [e]
    · rw [wCq_f x48]
      exact ⟨fun c => absurd c.2 Bool.false_ne_true, fun c => absurd c.2 Bool.false_ne_true⟩
  rw [bcC_eq 64 key, sF_cnt (p := mP P a) (m := mN P a + 1) (fun i k hi hk e => yPt_inj hb g6 c0 (Nat.lt_succ_iff.mp hi) (Nat.lt_succ_iff.mp hk) e) (fun i hi => by have := (hg i (by omega)).1; omega) (mN P a + 1) (Nat.le_refl _)]
  exact gNs_sn _ (fun i hi => hg i (by omega))
theorem qk_ca0_24 {D : zD} {T : zT} (hT : hTab T) (hO : vOK T) {N : Nat} {h : zH} {Q : zR → Prop} {j : Nat} (w : Int) (hv0 : zHv h)
    (k0 : vP D T N 29 5 h [some (2, 24), some (0, (j : Int)), some (0, w), some (1, 0), none, some (0, 0)] [] Q) :
    vP D T N 29 0 h [some (2, 24), some (0, (j : Int)), some (0, w), none, none, none] [] Q := by
  refine v_push (0) (hT _ zt_X2_cellsThatAre rfl _ _ rfl) rfl ?_
  refine v_store2 [some (2, 24), some (0, (j : Int)), some (0, w), some (1, 0), none, none] (hT _ zt_X2_cellsThatAre rfl _ _ rfl) (Nat.le_of_ble_eq_true rfl) rfl ?_
  refine v_push (0) (hT _ zt_X2_cellsThatAre rfl _ _ rfl) rfl ?_
  refine v_store1 [some (2, 24), some (0, (j : Int)), some (0, w), some (1, 0), none, some (0, 0)] (hT _ zt_X2_cellsThatAre rfl _ _ rfl) ⟨rfl, Nat.ne_of_beq_eq_false rfl⟩ (Nat.le_of_ble_eq_true rfl) rfl ?_
  exact k0 
theorem qk_ca5_24 {D : zD} {T : zT} (hT : hTab T) (hO : vOK T) {N : Nat} {h : zH} {Q : zR → Prop} {P : PT} {j q : Nat} (w z : Int) (hv0 : zHv h) (hP : cP 24 P h) (hb : fB P) (hj : j < 3) (hq : (q : Int) < 48)
    (k0 : (gIn P q) → ((P 3 (48 * j + q)) = w) → vP D T N 29 5 h [some (2, 24), some (0, (j : Int)), some (0, w), some (1, (v64 4 z ((vS 0 1 ((q : Int)))))), none, some (0, ((q : Int) + 1))] [] Q)
    (k1 : (gIn P q) → ((P 3 (48 * j + q)) ≠ w) → vP D T N 29 5 h [some (2, 24), some (0, (j : Int)), some (0, w), some (1, z), none, some (0, ((q : Int) + 1))] [] Q)
    (k2 : (¬ gIn P q) → vP D T N 29 5 h [some (2, 24), some (0, (j : Int)), some (0, w), some (1, z), none, some (0, ((q : Int) + 1))] [] Q) :
    vP D T (N + 1) 29 5 h [some (2, 24), some (0, (j : Int)), some (0, w), some (1, z), none, some (0, (q : Int))] [] Q := by
  refine v_loadS (v := (0, (q : Int))) (hT _ zt_X2_cellsThatAre rfl _ _ rfl) rfl rfl ?_
  refine v_push (48) (hT _ zt_X2_cellsThatAre rfl _ _ rfl) rfl ?_
  refine v_ic (hT _ zt_X2_cellsThatAre rfl _ _ rfl) (fun _ => ?_) (fun hc1 => absurd (show (q : Int) < 48 from hq) hc1)
  refine v_load (v := (2, 24)) (hT _ zt_X2_cellsThatAre rfl _ _ rfl) rfl rfl ?_
  refine v_load (v := (0, (q : Int))) (hT _ zt_X2_cellsThatAre rfl _ _ rfl) rfl rfl ?_
  refine v_call (w := 2) [some (2, 24), some (0, (q : Int))] hO (hT _ zt_X2_cellsThatAre rfl _ _ rfl) rfl rfl (cb_isC_24 hT hO ((q : Int)) q rfl (by omega) hP.1.1 hP.1.2.1 hb.1 (fun hg2 => ?_) (fun hg2 => ?_))
  · show vP D T N 29 18 h [some (2, 24), some (0, (j : Int)), some (0, w), some (1, z), none, some (0, (q : Int))] [(0, 1)] _
    refine v_if (hT _ zt_X2_cellsThatAre rfl _ _ rfl) (fun hc3 => absurd (show (1 : Int) = 0 from hc3) (by omega)) (fun _ => ?_)
    refine v_load (v := (2, 24)) (hT _ zt_X2_cellsThatAre rfl _ _ rfl) rfl rfl ?_
    refine v_load (v := (0, (j : Int))) (hT _ zt_X2_cellsThatAre rfl _ _ rfl) rfl rfl ?_
    refine v_load (v := (0, (q : Int))) (hT _ zt_X2_cellsThatAre rfl _ _ rfl) rfl rfl ?_
    refine v_call (w := 3) [some (2, 24), some (0, (j : Int)), some (0, (q : Int))] hO (hT _ zt_X2_cellsThatAre rfl _ _ rfl) rfl rfl (cb_st_24 hT hO ((j : Int)) ((q : Int)) j q rfl rfl (by omega) (by omega) hP.2.2.2.1 ?_)
    show vP D T N 29 28 h [some (2, 24), some (0, (j : Int)), some (0, w), some (1, z), none, some (0, (q : Int))] [(0, (P 3 (48 * j + q)))] _
    refine v_load (v := (0, w)) (hT _ zt_X2_cellsThatAre rfl _ _ rfl) rfl rfl ?_
    refine v_ic (hT _ zt_X2_cellsThatAre rfl _ _ rfl) (fun hc4 => ?_) (fun hc4 => ?_)
    · have hc4 : (P 3 (48 * j + q)) = w := hc4
      refine v_load (v := (1, z)) (hT _ zt_X2_cellsThatAre rfl _ _ rfl) rfl rfl ?_
      refine v_push (1) (hT _ zt_X2_cellsThatAre rfl _ _ rfl) rfl ?_
      refine v_load (v := (0, (q : Int))) (hT _ zt_X2_cellsThatAre rfl _ _ rfl) rfl rfl ?_
      refine v_sh64 (w := (vS 0 1 ((q : Int)))) (hT _ zt_X2_cellsThatAre rfl _ _ rfl) rfl ?_
      refine v_bin64 (w := (v64 4 z ((vS 0 1 ((q : Int)))))) (hT _ zt_X2_cellsThatAre rfl _ _ rfl) rfl ?_
      refine v_store2 [some (2, 24), some (0, (j : Int)), some (0, w), some (1, (v64 4 z ((vS 0 1 ((q : Int)))))), none, some (0, (q : Int))] (hT _ zt_X2_cellsThatAre rfl _ _ rfl) (Nat.le_of_ble_eq_true rfl) rfl ?_
      refine v_iinc (x := (q : Int)) (u := 1) (w := ((q : Int) + 1)) [some (2, 24), some (0, (j : Int)), some (0, w), some (1, (v64 4 z ((vS 0 1 ((q : Int)))))), none, some (0, ((q : Int) + 1))] (hT _ zt_X2_cellsThatAre rfl _ _ rfl) rfl rfl (Nat.le_of_ble_eq_true rfl) (vz_inc (by omega) (by omega)) rfl ?_
      refine v_goto (hT _ zt_X2_cellsThatAre rfl _ _ rfl) ?_
      exact k0 hg2 hc4
    · have hc4 : (P 3 (48 * j + q)) ≠ w := hc4
      refine v_iinc (x := (q : Int)) (u := 1) (w := ((q : Int) + 1)) [some (2, 24), some (0, (j : Int)), some (0, w), some (1, z), none, some (0, ((q : Int) + 1))] (hT _ zt_X2_cellsThatAre rfl _ _ rfl) rfl rfl (Nat.le_of_ble_eq_true rfl) (vz_inc (by omega) (by omega)) rfl ?_
      refine v_goto (hT _ zt_X2_cellsThatAre rfl _ _ rfl) ?_
      exact k1 hg2 hc4
  · show vP D T N 29 18 h [some (2, 24), some (0, (j : Int)), some (0, w), some (1, z), none, some (0, (q : Int))] [(0, 0)] _
    refine v_if (hT _ zt_X2_cellsThatAre rfl _ _ rfl) (fun _ => ?_) (fun hc5 => absurd (show (0 : Int) = 0 from (by omega)) hc5)
    refine v_iinc (x := (q : Int)) (u := 1) (w := ((q : Int) + 1)) [some (2, 24), some (0, (j : Int)), some (0, w), some (1, z), none, some (0, ((q : Int) + 1))] (hT _ zt_X2_cellsThatAre rfl _ _ rfl) rfl rfl (Nat.le_of_ble_eq_true rfl) (vz_inc (by omega) (by omega)) rfl ?_
    refine v_goto (hT _ zt_X2_cellsThatAre rfl _ _ rfl) ?_
    exact k2 hg2
theorem qk_ca5e_24 {D : zD} {T : zT} (hT : hTab T) (hO : vOK T) {N : Nat} {h : zH} {Q : zR → Prop} {j : Nat} (w z : Int) (hv0 : zHv h)
    (k0 : Q (h, some (1, z))) :
    vP D T (N + 1) 29 5 h [some (2, 24), some (0, (j : Int)), some (0, w), some (1, z), none, some (0, 48)] [] Q := by
  refine v_loadS (v := (0, 48)) (hT _ zt_X2_cellsThatAre rfl _ _ rfl) rfl rfl ?_
  refine v_push (48) (hT _ zt_X2_cellsThatAre rfl _ _ rfl) rfl ?_
  refine v_ic (hT _ zt_X2_cellsThatAre rfl _ _ rfl) (fun hc1 => absurd (show (48 : Int) < 48 from hc1) (by omega)) (fun _ => ?_)
  refine v_load (v := (1, z)) (hT _ zt_X2_cellsThatAre rfl _ _ rfl) rfl rfl ?_
  refine v_ret (hT _ zt_X2_cellsThatAre rfl _ _ rfl) (Or.inr rfl) ?_
  exact k0 
theorem qt_ct0_24 {D : zD} {T : zT} (hT : hTab T) (hO : vOK T) {N : Nat} {h : zH} {Q : zR → Prop} {P : PT} (x y : Int) (hv0 : zHv h) (e7 : h 0 7 = (2, 24)) (p0 : h 24 0 = (0, P 0 0)) (p1 : h 24 1 = (0, P 0 1)) (p2 : h 24 2 = (0, P 0 2)) (p3 : h 24 3 = (0, P 0 3)) (lb : (0 ≤ P 0 0 ∧ P 0 0 ≤ 8) ∧ (0 ≤ P 0 1 ∧ P 0 1 ≤ 6) ∧ (0 ≤ P 0 2 ∧ P 0 2 ≤ 3) ∧ (0 ≤ P 0 3 ∧ P 0 3 ≤ 6))
    (k0 : (x < 0) → Q (zset h 0 0 (0, 2), some (0, -1)))
    (k1 : (0 ≤ x) → (x < (P 0 2)) → (y < 0) → Q (zset h 0 0 (0, 5), some (0, -1)))
    (k2 : (0 ≤ x) → (x < (P 0 2)) → (0 ≤ y) → (3 < y) → Q (zset h 0 0 (0, 5), some (0, -1)))
    (k3 : (0 ≤ x) → (x < (P 0 2)) → (0 ≤ y) → (y ≤ 3) → vP D T N 152 32 h [some (2, 0), some (0, x), some (0, y)] [] Q)
    (k4 : (0 ≤ x) → ((P 0 2) ≤ x) → Q (zset h 0 0 (0, 2), some (0, -1))) :
    vP D T N 152 0 h [some (2, 0), some (0, x), some (0, y)] [] Q := by
  refine v_load (v := (2, 0)) (hT _ zt_X11_count rfl _ _ rfl) rfl rfl ?_
  refine v_getf (v := (2, 24)) (r := 0) (hT _ zt_X11_count rfl _ _ rfl) rfl rfl (fun _ => e7) ?_
  refine v_load (v := (0, x)) (hT _ zt_X11_count rfl _ _ rfl) rfl rfl ?_
  refine v_call (w := 2) [some (2, 24), some (0, x)] hO (hT _ zt_X11_count rfl _ _ rfl) rfl rfl ?_
  refine v_load (v := (0, x)) (hT _ zt_X2_hasCopy rfl _ _ rfl) rfl rfl ?_
  refine v_if (hT _ zt_X2_hasCopy rfl _ _ rfl) (fun hc1 => ?_) (fun hc1 => ?_)
  · have hc1 : x < 0 := hc1
    refine v_push (0) (hT _ zt_X2_hasCopy rfl _ _ rfl) rfl ?_
    refine v_ret (hT _ zt_X2_hasCopy rfl _ _ rfl) (Or.inl rfl) ?_
    show vP D T N 152 8 h [some (2, 0), some (0, x), some (0, y)] [(0, 0)] _
    refine v_if (hT _ zt_X11_count rfl _ _ rfl) (fun _ => ?_) (fun hc2 => absurd (show (0 : Int) = 0 from (by omega)) hc2)
    refine v_load (v := (2, 0)) (hT _ zt_X11_count rfl _ _ rfl) rfl rfl ?_
    refine v_push (2) (hT _ zt_X11_count rfl _ _ rfl) rfl ?_
    refine v_call (w := 2) [some (2, 0), some (0, 2)] hO (hT _ zt_X11_count rfl _ _ rfl) rfl rfl ?_
    refine v_load (v := (2, 0)) (hT _ zt_X11_refused rfl _ _ rfl) rfl rfl ?_
    refine v_load (v := (0, 2)) (hT _ zt_X11_refused rfl _ _ rfl) rfl rfl ?_
    refine v_putf (r := 0) hO (hT _ zt_X11_refused rfl _ _ rfl) rfl (fun hf3 => ?_)
    refine v_push (-1) (hT _ zt_X11_refused rfl _ _ rfl) rfl ?_
    refine v_ret (hT _ zt_X11_refused rfl _ _ rfl) (Or.inl rfl) ?_
    show vP D T N 152 16 (zset h 0 0 (0, 2)) [some (2, 0), some (0, x), some (0, y)] [(0, -1)] _
    refine v_ret (hT _ zt_X11_count rfl _ _ rfl) (Or.inl rfl) ?_
    exact k0 hc1
  · have hc1 : 0 ≤ x := Int.not_lt.mp hc1
    refine v_load (v := (0, x)) (hT _ zt_X2_hasCopy rfl _ _ rfl) rfl rfl ?_
    refine v_load (v := (2, 24)) (hT _ zt_X2_hasCopy rfl _ _ rfl) rfl rfl ?_
    refine v_getf (v := (0, (P 0 2))) (r := 24) (hT _ zt_X2_hasCopy rfl _ _ rfl) rfl rfl (fun _ => p2) ?_
    refine v_ic (hT _ zt_X2_hasCopy rfl _ _ rfl) (fun hc4 => ?_) (fun hc4 => ?_)
    · have hc4 : x < (P 0 2) := hc4
      refine v_push (1) (hT _ zt_X2_hasCopy rfl _ _ rfl) rfl ?_
      refine v_goto (hT _ zt_X2_hasCopy rfl _ _ rfl) ?_
      refine v_ret (hT _ zt_X2_hasCopy rfl _ _ rfl) (Or.inl rfl) ?_
      show vP D T N 152 8 h [some (2, 0), some (0, x), some (0, y)] [(0, 1)] _
      refine v_if (hT _ zt_X11_count rfl _ _ rfl) (fun hc5 => absurd (show (1 : Int) = 0 from hc5) (by omega)) (fun _ => ?_)
      refine v_load (v := (0, y)) (hT _ zt_X11_count rfl _ _ rfl) rfl rfl ?_
      refine v_if (hT _ zt_X11_count rfl _ _ rfl) (fun hc6 => ?_) (fun hc6 => ?_)
      · have hc6 : y < 0 := hc6
        refine v_load (v := (2, 0)) (hT _ zt_X11_count rfl _ _ rfl) rfl rfl ?_
        refine v_push (5) (hT _ zt_X11_count rfl _ _ rfl) rfl ?_
        refine v_call (w := 2) [some (2, 0), some (0, 5)] hO (hT _ zt_X11_count rfl _ _ rfl) rfl rfl ?_
        refine v_load (v := (2, 0)) (hT _ zt_X11_refused rfl _ _ rfl) rfl rfl ?_
        refine v_load (v := (0, 5)) (hT _ zt_X11_refused rfl _ _ rfl) rfl rfl ?_
        refine v_putf (r := 0) hO (hT _ zt_X11_refused rfl _ _ rfl) rfl (fun hf7 => ?_)
        refine v_push (-1) (hT _ zt_X11_refused rfl _ _ rfl) rfl ?_
        refine v_ret (hT _ zt_X11_refused rfl _ _ rfl) (Or.inl rfl) ?_
        show vP D T N 152 31 (zset h 0 0 (0, 5)) [some (2, 0), some (0, x), some (0, y)] [(0, -1)] _
        refine v_ret (hT _ zt_X11_count rfl _ _ rfl) (Or.inl rfl) ?_
        exact k1 hc1 hc4 hc6
      · have hc6 : 0 ≤ y := Int.not_lt.mp hc6
        refine v_load (v := (0, y)) (hT _ zt_X11_count rfl _ _ rfl) rfl rfl ?_
        refine v_push (3) (hT _ zt_X11_count rfl _ _ rfl) rfl ?_
        refine v_ic (hT _ zt_X11_count rfl _ _ rfl) (fun hc8 => ?_) (fun hc8 => ?_)
        · have hc8 : 3 < y := hc8
          refine v_load (v := (2, 0)) (hT _ zt_X11_count rfl _ _ rfl) rfl rfl ?_
          refine v_push (5) (hT _ zt_X11_count rfl _ _ rfl) rfl ?_
          refine v_call (w := 2) [some (2, 0), some (0, 5)] hO (hT _ zt_X11_count rfl _ _ rfl) rfl rfl ?_
          refine v_load (v := (2, 0)) (hT _ zt_X11_refused rfl _ _ rfl) rfl rfl ?_
          refine v_load (v := (0, 5)) (hT _ zt_X11_refused rfl _ _ rfl) rfl rfl ?_
          refine v_putf (r := 0) hO (hT _ zt_X11_refused rfl _ _ rfl) rfl (fun hf9 => ?_)
          refine v_push (-1) (hT _ zt_X11_refused rfl _ _ rfl) rfl ?_
          refine v_ret (hT _ zt_X11_refused rfl _ _ rfl) (Or.inl rfl) ?_
          show vP D T N 152 31 (zset h 0 0 (0, 5)) [some (2, 0), some (0, x), some (0, y)] [(0, -1)] _
          refine v_ret (hT _ zt_X11_count rfl _ _ rfl) (Or.inl rfl) ?_
          exact k2 hc1 hc4 hc6 hc8
        · have hc8 : y ≤ 3 := Int.not_lt.mp hc8
          exact k3 hc1 hc4 hc6 hc8
    · have hc4 : (P 0 2) ≤ x := Int.not_lt.mp hc4
      refine v_push (0) (hT _ zt_X2_hasCopy rfl _ _ rfl) rfl ?_
      refine v_ret (hT _ zt_X2_hasCopy rfl _ _ rfl) (Or.inl rfl) ?_
      show vP D T N 152 8 h [some (2, 0), some (0, x), some (0, y)] [(0, 0)] _
      refine v_if (hT _ zt_X11_count rfl _ _ rfl) (fun _ => ?_) (fun hc10 => absurd (show (0 : Int) = 0 from (by omega)) hc10)
      refine v_load (v := (2, 0)) (hT _ zt_X11_count rfl _ _ rfl) rfl rfl ?_
      refine v_push (2) (hT _ zt_X11_count rfl _ _ rfl) rfl ?_
      refine v_call (w := 2) [some (2, 0), some (0, 2)] hO (hT _ zt_X11_count rfl _ _ rfl) rfl rfl ?_
      refine v_load (v := (2, 0)) (hT _ zt_X11_refused rfl _ _ rfl) rfl rfl ?_
      refine v_load (v := (0, 2)) (hT _ zt_X11_refused rfl _ _ rfl) rfl rfl ?_
      refine v_putf (r := 0) hO (hT _ zt_X11_refused rfl _ _ rfl) rfl (fun hf11 => ?_)
      refine v_push (-1) (hT _ zt_X11_refused rfl _ _ rfl) rfl ?_
      refine v_ret (hT _ zt_X11_refused rfl _ _ rfl) (Or.inl rfl) ?_
      show vP D T N 152 16 (zset h 0 0 (0, 2)) [some (2, 0), some (0, x), some (0, y)] [(0, -1)] _
      refine v_ret (hT _ zt_X11_count rfl _ _ rfl) (Or.inl rfl) ?_
      exact k4 hc1 hc4
theorem qt_ct32_24 {D : zD} {T : zT} (hT : hTab T) (hO : vOK T) {N : Nat} {h : zH} {Q : zR → Prop} {j : Nat} (w : Int) (hv0 : zHv h) (e7 : h 0 7 = (2, 24))
    (k0 : vP D T N 29 0 h [some (2, 24), some (0, (j : Int)), some (0, w), none, none, none] [] (fun r1 => vP D T N 152 42 r1.1 [some (2, 0), some (0, (j : Int)), some (0, w)] (zpush r1.2 [(2, 0)]) Q)) :
    vP D T N 152 32 h [some (2, 0), some (0, (j : Int)), some (0, w)] [] Q := by
  refine v_load (v := (2, 0)) (hT _ zt_X11_count rfl _ _ rfl) rfl rfl ?_
  refine v_load (v := (2, 0)) (hT _ zt_X11_count rfl _ _ rfl) rfl rfl ?_
  refine v_getf (v := (2, 24)) (r := 0) (hT _ zt_X11_count rfl _ _ rfl) rfl rfl (fun _ => e7) ?_
  refine v_load (v := (0, (j : Int))) (hT _ zt_X11_count rfl _ _ rfl) rfl rfl ?_
  refine v_load (v := (0, w)) (hT _ zt_X11_count rfl _ _ rfl) rfl rfl ?_
  refine v_call (w := 6) [some (2, 24), some (0, (j : Int)), some (0, w), none, none, none] hO (hT _ zt_X11_count rfl _ _ rfl) rfl rfl ?_
  exact k0 
theorem qt_ct42 {D : zD} {T : zT} (hT : hTab T) (hO : vOK T) {N : Nat} {h : zH} {Q : zR → Prop} {j : Nat} (w z : Int) (hv0 : zHv h)
    (k0 : vP D T N 2 0 h [some (1, z), none] [] (fun r1 => vP D T N 152 45 r1.1 [some (2, 0), some (0, (j : Int)), some (0, w)] (zpush r1.2 [(2, 0)]) Q)) :
    vP D T N 152 42 h [some (2, 0), some (0, (j : Int)), some (0, w)] [(1, z), (2, 0)] Q := by
  refine v_call (w := 2) [some (1, z), none] hO (hT _ zt_X11_count rfl _ _ rfl) rfl rfl ?_
  exact k0 
theorem qt_ct45 {D : zD} {T : zT} (hT : hTab T) (hO : vOK T) {N : Nat} {h : zH} {Q : zR → Prop} {j : Nat} (w v : Int) (hv0 : zHv h)
    (k0 : Q (zset h 0 0 (0, 0), some (0, v))) :
    vP D T N 152 45 h [some (2, 0), some (0, (j : Int)), some (0, w)] [(0, v), (2, 0)] Q := by
  refine v_call (w := 2) [some (2, 0), some (0, v)] hO (hT _ zt_X11_count rfl _ _ rfl) rfl rfl ?_
  refine v_load (v := (2, 0)) (hT _ zt_X11_answer rfl _ _ rfl) rfl rfl ?_
  refine v_push (0) (hT _ zt_X11_answer rfl _ _ rfl) rfl ?_
  refine v_putf (r := 0) hO (hT _ zt_X11_answer rfl _ _ rfl) rfl (fun hf1 => ?_)
  refine v_load (v := (0, v)) (hT _ zt_X11_answer rfl _ _ rfl) rfl rfl ?_
  refine v_ret (hT _ zt_X11_answer rfl _ _ rfl) (Or.inl rfl) ?_
  show vP D T N 152 48 (zset h 0 0 (0, 0)) [some (2, 0), some (0, (j : Int)), some (0, w)] [(0, v)] _
  refine v_ret (hT _ zt_X11_count rfl _ _ rfl) (Or.inl rfl) ?_
  exact k0 
theorem qt_sn0_24 {D : zD} {T : zT} (hT : hTab T) (hO : vOK T) {N : Nat} {h : zH} {Q : zR → Prop} {P : PT} (x y : Int) (hv0 : zHv h) (e7 : h 0 7 = (2, 24)) (p0 : h 24 0 = (0, P 0 0)) (p1 : h 24 1 = (0, P 0 1)) (p2 : h 24 2 = (0, P 0 2)) (p3 : h 24 3 = (0, P 0 3)) (lb : (0 ≤ P 0 0 ∧ P 0 0 ≤ 8) ∧ (0 ≤ P 0 1 ∧ P 0 1 ≤ 6) ∧ (0 ≤ P 0 2 ∧ P 0 2 ≤ 3) ∧ (0 ≤ P 0 3 ∧ P 0 3 ≤ 6))
    (k0 : (x < 0) → Q (zset h 0 0 (0, 2), some (0, -1)))
    (k1 : (0 ≤ x) → (x < (P 0 3)) → (y < 0) → Q (zset h 0 0 (0, 2), some (0, -1)))
    (k2 : (0 ≤ x) → (x < (P 0 3)) → (0 ≤ y) → (y < (P 0 2)) → vP D T N 179 28 h [some (2, 0), some (0, x), some (0, y), none, none] [] Q)
    (k3 : (0 ≤ x) → (x < (P 0 3)) → (0 ≤ y) → ((P 0 2) ≤ y) → Q (zset h 0 0 (0, 2), some (0, -1)))
    (k4 : (0 ≤ x) → ((P 0 3) ≤ x) → Q (zset h 0 0 (0, 2), some (0, -1))) :
    vP D T N 179 0 h [some (2, 0), some (0, x), some (0, y), none, none] [] Q := by
  refine v_load (v := (2, 0)) (hT _ zt_X11_seen rfl _ _ rfl) rfl rfl ?_
  refine v_getf (v := (2, 24)) (r := 0) (hT _ zt_X11_seen rfl _ _ rfl) rfl rfl (fun _ => e7) ?_
  refine v_load (v := (0, x)) (hT _ zt_X11_seen rfl _ _ rfl) rfl rfl ?_
  refine v_call (w := 2) [some (2, 24), some (0, x)] hO (hT _ zt_X11_seen rfl _ _ rfl) rfl rfl ?_
  refine v_load (v := (0, x)) (hT _ zt_X2_hasCompany rfl _ _ rfl) rfl rfl ?_
  refine v_if (hT _ zt_X2_hasCompany rfl _ _ rfl) (fun hc1 => ?_) (fun hc1 => ?_)
  · have hc1 : x < 0 := hc1
    refine v_push (0) (hT _ zt_X2_hasCompany rfl _ _ rfl) rfl ?_
    refine v_ret (hT _ zt_X2_hasCompany rfl _ _ rfl) (Or.inl rfl) ?_
    show vP D T N 179 8 h [some (2, 0), some (0, x), some (0, y), none, none] [(0, 0)] _
    refine v_if (hT _ zt_X11_seen rfl _ _ rfl) (fun _ => ?_) (fun hc2 => absurd (show (0 : Int) = 0 from (by omega)) hc2)
    refine v_load (v := (2, 0)) (hT _ zt_X11_seen rfl _ _ rfl) rfl rfl ?_
    refine v_push (2) (hT _ zt_X11_seen rfl _ _ rfl) rfl ?_
    refine v_call (w := 2) [some (2, 0), some (0, 2)] hO (hT _ zt_X11_seen rfl _ _ rfl) rfl rfl ?_
    refine v_load (v := (2, 0)) (hT _ zt_X11_refused rfl _ _ rfl) rfl rfl ?_
    refine v_load (v := (0, 2)) (hT _ zt_X11_refused rfl _ _ rfl) rfl rfl ?_
    refine v_putf (r := 0) hO (hT _ zt_X11_refused rfl _ _ rfl) rfl (fun hf3 => ?_)
    refine v_push (-1) (hT _ zt_X11_refused rfl _ _ rfl) rfl ?_
    refine v_ret (hT _ zt_X11_refused rfl _ _ rfl) (Or.inl rfl) ?_
    show vP D T N 179 27 (zset h 0 0 (0, 2)) [some (2, 0), some (0, x), some (0, y), none, none] [(0, -1)] _
    refine v_ret (hT _ zt_X11_seen rfl _ _ rfl) (Or.inl rfl) ?_
    exact k0 hc1
  · have hc1 : 0 ≤ x := Int.not_lt.mp hc1
    refine v_load (v := (0, x)) (hT _ zt_X2_hasCompany rfl _ _ rfl) rfl rfl ?_
    refine v_load (v := (2, 24)) (hT _ zt_X2_hasCompany rfl _ _ rfl) rfl rfl ?_
    refine v_getf (v := (0, (P 0 3))) (r := 24) (hT _ zt_X2_hasCompany rfl _ _ rfl) rfl rfl (fun _ => p3) ?_
    refine v_ic (hT _ zt_X2_hasCompany rfl _ _ rfl) (fun hc4 => ?_) (fun hc4 => ?_)
    · have hc4 : x < (P 0 3) := hc4
      refine v_push (1) (hT _ zt_X2_hasCompany rfl _ _ rfl) rfl ?_
      refine v_goto (hT _ zt_X2_hasCompany rfl _ _ rfl) ?_
      refine v_ret (hT _ zt_X2_hasCompany rfl _ _ rfl) (Or.inl rfl) ?_
      show vP D T N 179 8 h [some (2, 0), some (0, x), some (0, y), none, none] [(0, 1)] _
      refine v_if (hT _ zt_X11_seen rfl _ _ rfl) (fun hc5 => absurd (show (1 : Int) = 0 from hc5) (by omega)) (fun _ => ?_)
      refine v_load (v := (2, 0)) (hT _ zt_X11_seen rfl _ _ rfl) rfl rfl ?_
      refine v_getf (v := (2, 24)) (r := 0) (hT _ zt_X11_seen rfl _ _ rfl) rfl rfl (fun _ => e7) ?_
      refine v_load (v := (0, y)) (hT _ zt_X11_seen rfl _ _ rfl) rfl rfl ?_
      refine v_call (w := 2) [some (2, 24), some (0, y)] hO (hT _ zt_X11_seen rfl _ _ rfl) rfl rfl ?_
      refine v_load (v := (0, y)) (hT _ zt_X2_hasCopy rfl _ _ rfl) rfl rfl ?_
      refine v_if (hT _ zt_X2_hasCopy rfl _ _ rfl) (fun hc6 => ?_) (fun hc6 => ?_)
      · have hc6 : y < 0 := hc6
        refine v_push (0) (hT _ zt_X2_hasCopy rfl _ _ rfl) rfl ?_
        refine v_ret (hT _ zt_X2_hasCopy rfl _ _ rfl) (Or.inl rfl) ?_
        show vP D T N 179 19 h [some (2, 0), some (0, x), some (0, y), none, none] [(0, 0)] _
        refine v_if (hT _ zt_X11_seen rfl _ _ rfl) (fun _ => ?_) (fun hc7 => absurd (show (0 : Int) = 0 from (by omega)) hc7)
        refine v_load (v := (2, 0)) (hT _ zt_X11_seen rfl _ _ rfl) rfl rfl ?_
        refine v_push (2) (hT _ zt_X11_seen rfl _ _ rfl) rfl ?_
        refine v_call (w := 2) [some (2, 0), some (0, 2)] hO (hT _ zt_X11_seen rfl _ _ rfl) rfl rfl ?_
        refine v_load (v := (2, 0)) (hT _ zt_X11_refused rfl _ _ rfl) rfl rfl ?_
        refine v_load (v := (0, 2)) (hT _ zt_X11_refused rfl _ _ rfl) rfl rfl ?_
        refine v_putf (r := 0) hO (hT _ zt_X11_refused rfl _ _ rfl) rfl (fun hf8 => ?_)
        refine v_push (-1) (hT _ zt_X11_refused rfl _ _ rfl) rfl ?_
        refine v_ret (hT _ zt_X11_refused rfl _ _ rfl) (Or.inl rfl) ?_
        show vP D T N 179 27 (zset h 0 0 (0, 2)) [some (2, 0), some (0, x), some (0, y), none, none] [(0, -1)] _
        refine v_ret (hT _ zt_X11_seen rfl _ _ rfl) (Or.inl rfl) ?_
        exact k1 hc1 hc4 hc6
      · have hc6 : 0 ≤ y := Int.not_lt.mp hc6
        refine v_load (v := (0, y)) (hT _ zt_X2_hasCopy rfl _ _ rfl) rfl rfl ?_
        refine v_load (v := (2, 24)) (hT _ zt_X2_hasCopy rfl _ _ rfl) rfl rfl ?_
        refine v_getf (v := (0, (P 0 2))) (r := 24) (hT _ zt_X2_hasCopy rfl _ _ rfl) rfl rfl (fun _ => p2) ?_
        refine v_ic (hT _ zt_X2_hasCopy rfl _ _ rfl) (fun hc9 => ?_) (fun hc9 => ?_)
        · have hc9 : y < (P 0 2) := hc9
          refine v_push (1) (hT _ zt_X2_hasCopy rfl _ _ rfl) rfl ?_
          refine v_goto (hT _ zt_X2_hasCopy rfl _ _ rfl) ?_
          refine v_ret (hT _ zt_X2_hasCopy rfl _ _ rfl) (Or.inl rfl) ?_
          show vP D T N 179 19 h [some (2, 0), some (0, x), some (0, y), none, none] [(0, 1)] _
          refine v_if (hT _ zt_X11_seen rfl _ _ rfl) (fun hc10 => absurd (show (1 : Int) = 0 from hc10) (by omega)) (fun _ => ?_)
          exact k2 hc1 hc4 hc6 hc9
        · have hc9 : (P 0 2) ≤ y := Int.not_lt.mp hc9
          refine v_push (0) (hT _ zt_X2_hasCopy rfl _ _ rfl) rfl ?_
          refine v_ret (hT _ zt_X2_hasCopy rfl _ _ rfl) (Or.inl rfl) ?_
          show vP D T N 179 19 h [some (2, 0), some (0, x), some (0, y), none, none] [(0, 0)] _
          refine v_if (hT _ zt_X11_seen rfl _ _ rfl) (fun _ => ?_) (fun hc11 => absurd (show (0 : Int) = 0 from (by omega)) hc11)
          refine v_load (v := (2, 0)) (hT _ zt_X11_seen rfl _ _ rfl) rfl rfl ?_
          refine v_push (2) (hT _ zt_X11_seen rfl _ _ rfl) rfl ?_
          refine v_call (w := 2) [some (2, 0), some (0, 2)] hO (hT _ zt_X11_seen rfl _ _ rfl) rfl rfl ?_
          refine v_load (v := (2, 0)) (hT _ zt_X11_refused rfl _ _ rfl) rfl rfl ?_
          refine v_load (v := (0, 2)) (hT _ zt_X11_refused rfl _ _ rfl) rfl rfl ?_
          refine v_putf (r := 0) hO (hT _ zt_X11_refused rfl _ _ rfl) rfl (fun hf12 => ?_)
          refine v_push (-1) (hT _ zt_X11_refused rfl _ _ rfl) rfl ?_
          refine v_ret (hT _ zt_X11_refused rfl _ _ rfl) (Or.inl rfl) ?_
          show vP D T N 179 27 (zset h 0 0 (0, 2)) [some (2, 0), some (0, x), some (0, y), none, none] [(0, -1)] _
          refine v_ret (hT _ zt_X11_seen rfl _ _ rfl) (Or.inl rfl) ?_
          exact k3 hc1 hc4 hc6 hc9
    · have hc4 : (P 0 3) ≤ x := Int.not_lt.mp hc4
      refine v_push (0) (hT _ zt_X2_hasCompany rfl _ _ rfl) rfl ?_
      refine v_ret (hT _ zt_X2_hasCompany rfl _ _ rfl) (Or.inl rfl) ?_
      show vP D T N 179 8 h [some (2, 0), some (0, x), some (0, y), none, none] [(0, 0)] _
      refine v_if (hT _ zt_X11_seen rfl _ _ rfl) (fun _ => ?_) (fun hc13 => absurd (show (0 : Int) = 0 from (by omega)) hc13)
      refine v_load (v := (2, 0)) (hT _ zt_X11_seen rfl _ _ rfl) rfl rfl ?_
      refine v_push (2) (hT _ zt_X11_seen rfl _ _ rfl) rfl ?_
      refine v_call (w := 2) [some (2, 0), some (0, 2)] hO (hT _ zt_X11_seen rfl _ _ rfl) rfl rfl ?_
      refine v_load (v := (2, 0)) (hT _ zt_X11_refused rfl _ _ rfl) rfl rfl ?_
      refine v_load (v := (0, 2)) (hT _ zt_X11_refused rfl _ _ rfl) rfl rfl ?_
      refine v_putf (r := 0) hO (hT _ zt_X11_refused rfl _ _ rfl) rfl (fun hf14 => ?_)
      refine v_push (-1) (hT _ zt_X11_refused rfl _ _ rfl) rfl ?_
      refine v_ret (hT _ zt_X11_refused rfl _ _ rfl) (Or.inl rfl) ?_
      show vP D T N 179 27 (zset h 0 0 (0, 2)) [some (2, 0), some (0, x), some (0, y), none, none] [(0, -1)] _
      refine v_ret (hT _ zt_X11_seen rfl _ _ rfl) (Or.inl rfl) ?_
      exact k4 hc1 hc4
theorem qt_sn28_24 {D : zD} {T : zT} (hT : hTab T) (hO : vOK T) {N : Nat} {h : zH} {Q : zR → Prop} {a j : Nat} (hv0 : zHv h) (e7 : h 0 7 = (2, 24))
    (k0 : vP D T N 132 0 h [some (2, 100), some (2, 24), some (0, (a : Int))] [] (fun r1 => vP D T N 179 40 r1.1 [some (2, 0), some (0, (a : Int)), some (0, (j : Int)), none, none] (zpush r1.2 []) Q)) :
    vP D T N 179 28 h [some (2, 0), some (0, (a : Int)), some (0, (j : Int)), none, none] [] Q := by
  refine v_load (v := (2, 0)) (hT _ zt_X11_seen rfl _ _ rfl) rfl rfl ?_
  refine v_getR (c := 100) (r := 0) (hT _ zt_X11_seen rfl _ _ rfl) rfl rfl rfl ?_
  refine v_load (v := (2, 0)) (hT _ zt_X11_seen rfl _ _ rfl) rfl rfl ?_
  refine v_getf (v := (2, 24)) (r := 0) (hT _ zt_X11_seen rfl _ _ rfl) rfl rfl (fun _ => e7) ?_
  refine v_load (v := (0, (a : Int))) (hT _ zt_X11_seen rfl _ _ rfl) rfl rfl ?_
  refine v_call (w := 3) [some (2, 100), some (2, 24), some (0, (a : Int))] hO (hT _ zt_X11_seen rfl _ _ rfl) rfl rfl ?_
  exact k0 
theorem qt_sn40n {D : zD} {T : zT} (hT : hTab T) (hO : vOK T) {N : Nat} {h : zH} {Q : zR → Prop} {a j : Nat} (hv0 : zHv h)
    (k0 : Q (zset h 0 0 (0, 9), some (0, -1))) :
    vP D T N 179 40 h [some (2, 0), some (0, (a : Int)), some (0, (j : Int)), none, none] [(0, -1)] Q := by
  refine v_push (-1) (hT _ zt_X11_seen rfl _ _ rfl) rfl ?_
  refine v_ic (hT _ zt_X11_seen rfl _ _ rfl) (fun _ => ?_) (fun hc1 => absurd (show (-1 : Int) = -1 from (by omega)) hc1)
  refine v_load (v := (2, 0)) (hT _ zt_X11_seen rfl _ _ rfl) rfl rfl ?_
  refine v_push (9) (hT _ zt_X11_seen rfl _ _ rfl) rfl ?_
  refine v_call (w := 2) [some (2, 0), some (0, 9)] hO (hT _ zt_X11_seen rfl _ _ rfl) rfl rfl ?_
  refine v_load (v := (2, 0)) (hT _ zt_X11_refused rfl _ _ rfl) rfl rfl ?_
  refine v_load (v := (0, 9)) (hT _ zt_X11_refused rfl _ _ rfl) rfl rfl ?_
  refine v_putf (r := 0) hO (hT _ zt_X11_refused rfl _ _ rfl) rfl (fun hf2 => ?_)
  refine v_push (-1) (hT _ zt_X11_refused rfl _ _ rfl) rfl ?_
  refine v_ret (hT _ zt_X11_refused rfl _ _ rfl) (Or.inl rfl) ?_
  show vP D T N 179 50 (zset h 0 0 (0, 9)) [some (2, 0), some (0, (a : Int)), some (0, (j : Int)), none, none] [(0, -1)] _
  refine v_ret (hT _ zt_X11_seen rfl _ _ rfl) (Or.inl rfl) ?_
  exact k0 
theorem qt_sn40_24 {D : zD} {T : zT} (hT : hTab T) (hO : vOK T) {N : Nat} {h : zH} {Q : zR → Prop} {P : PT} {a j : Nat} (w z : Int) (hv0 : zHv h) (e7 : h 0 7 = (2, 24)) (hw : w ≠ -1) (ha : a < 6) (e8 : h 100 8 = (1, z)) (s6 : h 30 a = (0, P 6 a))
    (k0 : (0 ≤ (a : Int)) → ((a : Int) < 6) → vP D T N 29 0 h [some (2, 24), some (0, (j : Int)), some (0, 3), none, none, none] [] (fun r1 => vP D T N 179 82 r1.1 [some (2, 0), some (0, (a : Int)), some (0, (j : Int)), some (1, (v64 4 z ((vS 0 1 ((P 6 a)))))), none] (zpush r1.2 [(1, (v64 4 z ((vS 0 1 ((P 6 a)))))), (2, 0)]) Q)) :
    vP D T N 179 40 h [some (2, 0), some (0, (a : Int)), some (0, (j : Int)), none, none] [(0, w)] Q := by
  refine v_push (-1) (hT _ zt_X11_seen rfl _ _ rfl) rfl ?_
  refine v_ic (hT _ zt_X11_seen rfl _ _ rfl) (fun hc1 => absurd (show w = -1 from hc1) hw) (fun _ => ?_)
  refine v_load (v := (2, 0)) (hT _ zt_X11_seen rfl _ _ rfl) rfl rfl ?_
  refine v_getR (c := 100) (r := 0) (hT _ zt_X11_seen rfl _ _ rfl) rfl rfl rfl ?_
  refine v_getf (v := (1, z)) (r := 100) (hT _ zt_X11_seen rfl _ _ rfl) rfl rfl (fun _ => e8) ?_
  refine v_push (1) (hT _ zt_X11_seen rfl _ _ rfl) rfl ?_
  refine v_load (v := (2, 0)) (hT _ zt_X11_seen rfl _ _ rfl) rfl rfl ?_
  refine v_getf (v := (2, 24)) (r := 0) (hT _ zt_X11_seen rfl _ _ rfl) rfl rfl (fun _ => e7) ?_
  refine v_getR (c := 30) (r := 24) (hT _ zt_X11_seen rfl _ _ rfl) rfl rfl rfl ?_
  refine v_load (v := (0, (a : Int))) (hT _ zt_X11_seen rfl _ _ rfl) rfl rfl ?_
  refine v_aldB (t := 0) (r := 30) (w := (P 6 a)) (hT _ zt_X11_seen rfl _ _ rfl) rfl rfl rfl (fun _ _ => (congrArg Prod.snd s6)) (fun ha2 hb3 => ?_)
  refine v_sh64 (w := (vS 0 1 ((P 6 a)))) (hT _ zt_X11_seen rfl _ _ rfl) rfl ?_
  refine v_bin64 (w := (v64 4 z ((vS 0 1 ((P 6 a)))))) (hT _ zt_X11_seen rfl _ _ rfl) rfl ?_
  refine v_store2 [some (2, 0), some (0, (a : Int)), some (0, (j : Int)), some (1, (v64 4 z ((vS 0 1 ((P 6 a)))))), none] (hT _ zt_X11_seen rfl _ _ rfl) (Nat.le_of_ble_eq_true rfl) rfl ?_
  refine v_load (v := (2, 0)) (hT _ zt_X11_seen rfl _ _ rfl) rfl rfl ?_
  refine v_load (v := (1, (v64 4 z ((vS 0 1 ((P 6 a))))))) (hT _ zt_X11_seen rfl _ _ rfl) rfl rfl ?_
  refine v_load (v := (2, 0)) (hT _ zt_X11_seen rfl _ _ rfl) rfl rfl ?_
  refine v_getf (v := (2, 24)) (r := 0) (hT _ zt_X11_seen rfl _ _ rfl) rfl rfl (fun _ => e7) ?_
  refine v_load (v := (0, (j : Int))) (hT _ zt_X11_seen rfl _ _ rfl) rfl rfl ?_
  refine v_push (3) (hT _ zt_X11_seen rfl _ _ rfl) rfl ?_
  refine v_call (w := 6) [some (2, 24), some (0, (j : Int)), some (0, 3), none, none, none] hO (hT _ zt_X11_seen rfl _ _ rfl) rfl rfl ?_
  exact k0 ha2 hb3
theorem qt_sn82 {D : zD} {T : zT} (hT : hTab T) (hO : vOK T) {N : Nat} {h : zH} {Q : zR → Prop} {a j : Nat} (u z : Int) (hv0 : zHv h)
    (k0 : vP D T N 2 0 h [some (1, (v64 3 u z)), none] [] (fun r1 => vP D T N 179 86 r1.1 [some (2, 0), some (0, (a : Int)), some (0, (j : Int)), some (1, u), none] (zpush r1.2 [(2, 0)]) Q)) :
    vP D T N 179 82 h [some (2, 0), some (0, (a : Int)), some (0, (j : Int)), some (1, u), none] [(1, z), (1, u), (2, 0)] Q := by
  refine v_bin64 (w := (v64 3 u z)) (hT _ zt_X11_seen rfl _ _ rfl) rfl ?_
  refine v_call (w := 2) [some (1, (v64 3 u z)), none] hO (hT _ zt_X11_seen rfl _ _ rfl) rfl rfl ?_
  exact k0 
theorem qt_sn86 {D : zD} {T : zT} (hT : hTab T) (hO : vOK T) {N : Nat} {h : zH} {Q : zR → Prop} {a j : Nat} (u v : Int) (hv0 : zHv h)
    (k0 : Q (zset h 0 0 (0, 0), some (0, v))) :
    vP D T N 179 86 h [some (2, 0), some (0, (a : Int)), some (0, (j : Int)), some (1, u), none] [(0, v), (2, 0)] Q := by
  refine v_call (w := 2) [some (2, 0), some (0, v)] hO (hT _ zt_X11_seen rfl _ _ rfl) rfl rfl ?_
  refine v_load (v := (2, 0)) (hT _ zt_X11_answer rfl _ _ rfl) rfl rfl ?_
  refine v_push (0) (hT _ zt_X11_answer rfl _ _ rfl) rfl ?_
  refine v_putf (r := 0) hO (hT _ zt_X11_answer rfl _ _ rfl) rfl (fun hf1 => ?_)
  refine v_load (v := (0, v)) (hT _ zt_X11_answer rfl _ _ rfl) rfl rfl ?_
  refine v_ret (hT _ zt_X11_answer rfl _ _ rfl) (Or.inl rfl) ?_
  show vP D T N 179 89 (zset h 0 0 (0, 0)) [some (2, 0), some (0, (a : Int)), some (0, (j : Int)), some (1, u), none] [(0, v)] _
  refine v_ret (hT _ zt_X11_seen rfl _ _ rfl) (Or.inl rfl) ?_
  exact k0 
section CC_24
variable {D : zD} {T : zT} {N : Nat} {h : zH} {P : PT}
theorem cx_caL_24 (hT : hTab T) (hO : vOK T) {Q : zR → Prop} (hP : cP 24 P h) (hb : fB P) {j : Nat} (hj : j < 3) (w : Int) (k : ∀ z : Int, (∀ y, y < 64 → wB z y = wCq P j w 48 y) → Q (h, some (1, z))) : ∀ (r q : Nat) (z : Int), q + r = 48 → (∀ y, y < 64 → wB z y = wCq P j w q y) → vP D T N 29 5 h [some (2, 24), some (0, (j : Int)), some (0, w), some (1, z), none, some (0, (q : Int))] [] Q
  | 0, q, z, hq, hz => by
    have hq : q = 48 := hq
    subst hq
    exact vP_dn (vP_hv (fun hv => qk_ca5e_24 hT hO w z hv (k z hz)))
  | r + 1, q, z, hq, hz => by
    have ih := fun z hz => cx_caL_24 hT hO hP hb hj w k r (q + 1) z (by omega) hz
    refine vP_dn (vP_hv (fun hv => qk_ca5_24 hT hO w z hv hP hb hj (by omega) (fun g c => ?_) (fun g c => ?_) (fun g => ?_)))
    · exact ih _ (fun y hy => by rw [wB_set6 (by omega) hy, hz y hy, wCq_s1 (gIx_y g) c])
    · exact ih _ (fun y hy => (hz y hy).trans (wCq_s0 (fun d => c d.2)).symm)
    · exact ih _ (fun y hy => (hz y hy).trans (wCq_s0 (fun d => by rw [gIx_n (by omega) g] at d; exact absurd d.1 (by decide))).symm)
theorem cx_ca_24 (hT : hTab T) (hO : vOK T) {Q : zR → Prop} (x : Int) (j : Nat) (ex : x = (j : Int)) (hP : cP 24 P h) (hb : fB P) (hj : j < 3) (w : Int) (k : ∀ z : Int, (∀ y, y < 64 → wB z y = wCq P j w 48 y) → Q (h, some (1, z))) : vP D T N 29 0 h [some (2, 24), some (0, x), some (0, w), none, none, none] [] Q := by
  subst ex
  refine vP_hv (fun hv => qk_ca0_24 hT hO w hv ?_)
  exact cx_caL_24 hT hO hP hb hj w k 48 0 0 rfl (fun y hy => (wB_06 y hy).trans (wCq_f (Nat.not_lt_zero y)).symm)
theorem cq_count_24 (hT : hTab T) (hO : vOK T) (hP : cP 24 P h) (hb : fB P) (e7 : h 0 7 = (2, 24)) (x y : Int) : vP D T N 152 0 h [some (2, 0), some (0, x), some (0, y)] [] (fun r => r.2 = some (0, ctW P x y)) := by
  have lb := hb.1
  have l3 := lb.2.2.1.2
  have no : ¬ ((0 ≤ x ∧ x < P 0 2) ∧ 0 ≤ y ∧ y ≤ 3) → (some ((0, -1) : zV)) = some (0, ctW P x y) := fun c => by
    unfold ctW
    rw [if_neg c]
  refine vP_hv (fun hv => qt_ct0_24 (P := P) hT hO x y hv e7 hP.1.1 hP.1.2.1 hP.1.2.2.1 hP.1.2.2.2.1 lb ?k0 ?k1 ?k2 ?k3 ?k4)
  case k3 =>
    intro c1 c2 c3 c4
    obtain ⟨j, rfl⟩ : ∃ j : Nat, x = (j : Int) := ⟨x.toNat, by omega⟩
    have e2 : ctW P (j : Int) y = ((sC P (cFq P j y) 48 : Nat) : Int) := if_pos ⟨⟨c1, c2⟩, c3, c4⟩
    rw [e2]
    refine vP_hv (fun hv => qt_ct32_24 hT hO y hv e7 ?_)
    refine cx_ca_24 hT hO _ j rfl hP hb (by omega) y (fun z hz => ?_)
    show vP D T N 152 42 h [some (2, 0), some (0, (j : Int)), some (0, y)] [(1, z), (2, 0)] _
    refine vP_hv (fun hv => qt_ct42 hT hO y z hv ?_)
    refine cb_bc hT hO z ?_
    rw [bcC_eq 64 hz, bcC_wC64]
    show vP D T N 152 45 h [some (2, 0), some (0, (j : Int)), some (0, y)] [(0, ((sC P (cFq P j y) 48 : Nat) : Int)), (2, 0)] _
    exact vP_hv (fun hv => qt_ct45 hT hO y _ hv rfl)
  all_goals
    intros
    exact no (by rintro ⟨⟨o1, o2⟩, o3, o4⟩; omega)
theorem cq_seen_24 (hT : hTab T) (hO : vOK T) (hP : cP 24 P h) (hb : fB P) (e7 : h 0 7 = (2, 24)) (x y : Int) : vP D T N 179 0 h [some (2, 0), some (0, x), some (0, y), none, none] [] (fun r => r.2 = some (0, snV P x y)) := by
  have lb := hb.1
  have l3 := lb.2.2.1.2
  have l6 := lb.2.2.2.2
  have no : ¬ (okM P x ∧ (0 ≤ y ∧ y < P 0 2) ∧ mC P x.toNat ≠ -1) → (some ((0, -1) : zV)) = some (0, snV P x y) := fun c => by
    unfold snV
    rw [if_neg c]
  refine vP_hv (fun hv => qt_sn0_24 (P := P) hT hO x y hv e7 hP.1.1 hP.1.2.1 hP.1.2.2.1 hP.1.2.2.2.1 lb ?k0 ?k1 ?k2 ?k3 ?k4)
  case k2 =>
    intro c1 c2 c3 c4
    obtain ⟨a, rfl⟩ : ∃ a : Nat, x = (a : Int) := ⟨x.toNat, by omega⟩
    obtain ⟨j, rfl⟩ : ∃ j : Nat, y = (j : Int) := ⟨y.toNat, by omega⟩
    refine vP_hv (fun hv => qt_sn28_24 hT hO hv e7 ?_)
    refine cx_fw_24 hT hO _ a rfl hP hb c2 (fun g w1 _ w3 => ?_)
    have hP1 : cP 24 P g := hP.eq (fun i k h1 h2 => w1 i k (by omega))
    by_cases c : mC P a = -1
    · have c' : yCost P (gCo P (P 8 a).toNat) (P 6 a).toNat (P 7 a).toNat = -1 := c
      rw [c']
      exact vP_hv (fun hv => qt_sn40n hT hO hv (no (fun d => d.2.2 c)))
    · have c0 := mC_n hb c2 c
      obtain ⟨_, ⟨_, g6⟩, _⟩ := hb.2.2.2 a c2
      obtain ⟨t1, t2, z, t3, t4⟩ := w3.2 ((yCost_f g6).mp c0)
      have e2 : snV P (a : Int) (j : Int) = ((snN P j (mP P a) (mN P a + 1) : Nat) : Int) := if_pos ⟨⟨c1, c2⟩, ⟨c3, c4⟩, c⟩
      rw [e2]
      show vP D T N 179 40 g [some (2, 0), some (0, (a : Int)), some (0, (j : Int)), none, none] [(0, mC P a)] _
      refine vP_hv (fun hv => qt_sn40_24 hT hO (mC P a) z hv ((w1 0 7 (by omega)).trans e7) c (by omega) t3 (hP1.a6 a c2) (fun _ _ => ?_))
      refine cx_ca_24 hT hO _ j rfl hP1 hb (by omega) 3 (fun z2 hz2 => ?_)
      show vP D T N 179 82 g [some (2, 0), some (0, (a : Int)), some (0, (j : Int)), some (1, v64 4 z (vS 0 1 (P 6 a))), none] [(1, z2), (1, v64 4 z (vS 0 1 (P 6 a))), (2, 0)] _
      refine vP_hv (fun hv => qt_sn82 hT hO _ z2 hv ?_)
      refine cb_bc hT hO _ ?_
      rw [sn_bits hb c2 c0 t4 hz2]
      show vP D T N 179 86 g [some (2, 0), some (0, (a : Int)), some (0, (j : Int)), some (1, v64 4 z (vS 0 1 (P 6 a))), none] [(0, ((snN P j (mP P a) (mN P a + 1) : Nat) : Int)), (2, 0)] _
      exact vP_hv (fun hv => qt_sn86 hT hO _ _ hv rfl)
  all_goals
    intros
    exact no (by rintro ⟨⟨o1, o2⟩, ⟨o3, o4⟩, _⟩; omega)
end CC_24
theorem qk_ca0_39 {D : zD} {T : zT} (hT : hTab T) (hO : vOK T) {N : Nat} {h : zH} {Q : zR → Prop} {j : Nat} (w : Int) (hv0 : zHv h)
    (k0 : vP D T N 29 5 h [some (2, 39), some (0, (j : Int)), some (0, w), some (1, 0), none, some (0, 0)] [] Q) :
    vP D T N 29 0 h [some (2, 39), some (0, (j : Int)), some (0, w), none, none, none] [] Q := by
  refine v_push (0) (hT _ zt_X2_cellsThatAre rfl _ _ rfl) rfl ?_
  refine v_store2 [some (2, 39), some (0, (j : Int)), some (0, w), some (1, 0), none, none] (hT _ zt_X2_cellsThatAre rfl _ _ rfl) (Nat.le_of_ble_eq_true rfl) rfl ?_
  refine v_push (0) (hT _ zt_X2_cellsThatAre rfl _ _ rfl) rfl ?_
  refine v_store1 [some (2, 39), some (0, (j : Int)), some (0, w), some (1, 0), none, some (0, 0)] (hT _ zt_X2_cellsThatAre rfl _ _ rfl) ⟨rfl, Nat.ne_of_beq_eq_false rfl⟩ (Nat.le_of_ble_eq_true rfl) rfl ?_
  exact k0 
theorem qk_ca5_39 {D : zD} {T : zT} (hT : hTab T) (hO : vOK T) {N : Nat} {h : zH} {Q : zR → Prop} {P : PT} {j q : Nat} (w z : Int) (hv0 : zHv h) (hP : cP 39 P h) (hb : fB P) (hj : j < 3) (hq : (q : Int) < 48)
    (k0 : (gIn P q) → ((P 3 (48 * j + q)) = w) → vP D T N 29 5 h [some (2, 39), some (0, (j : Int)), some (0, w), some (1, (v64 4 z ((vS 0 1 ((q : Int)))))), none, some (0, ((q : Int) + 1))] [] Q)
    (k1 : (gIn P q) → ((P 3 (48 * j + q)) ≠ w) → vP D T N 29 5 h [some (2, 39), some (0, (j : Int)), some (0, w), some (1, z), none, some (0, ((q : Int) + 1))] [] Q)
    (k2 : (¬ gIn P q) → vP D T N 29 5 h [some (2, 39), some (0, (j : Int)), some (0, w), some (1, z), none, some (0, ((q : Int) + 1))] [] Q) :
    vP D T (N + 1) 29 5 h [some (2, 39), some (0, (j : Int)), some (0, w), some (1, z), none, some (0, (q : Int))] [] Q := by
  refine v_loadS (v := (0, (q : Int))) (hT _ zt_X2_cellsThatAre rfl _ _ rfl) rfl rfl ?_
  refine v_push (48) (hT _ zt_X2_cellsThatAre rfl _ _ rfl) rfl ?_
  refine v_ic (hT _ zt_X2_cellsThatAre rfl _ _ rfl) (fun _ => ?_) (fun hc1 => absurd (show (q : Int) < 48 from hq) hc1)
  refine v_load (v := (2, 39)) (hT _ zt_X2_cellsThatAre rfl _ _ rfl) rfl rfl ?_
  refine v_load (v := (0, (q : Int))) (hT _ zt_X2_cellsThatAre rfl _ _ rfl) rfl rfl ?_
  refine v_call (w := 2) [some (2, 39), some (0, (q : Int))] hO (hT _ zt_X2_cellsThatAre rfl _ _ rfl) rfl rfl (cb_isC_39 hT hO ((q : Int)) q rfl (by omega) hP.1.1 hP.1.2.1 hb.1 (fun hg2 => ?_) (fun hg2 => ?_))
  · show vP D T N 29 18 h [some (2, 39), some (0, (j : Int)), some (0, w), some (1, z), none, some (0, (q : Int))] [(0, 1)] _
    refine v_if (hT _ zt_X2_cellsThatAre rfl _ _ rfl) (fun hc3 => absurd (show (1 : Int) = 0 from hc3) (by omega)) (fun _ => ?_)
    refine v_load (v := (2, 39)) (hT _ zt_X2_cellsThatAre rfl _ _ rfl) rfl rfl ?_
    refine v_load (v := (0, (j : Int))) (hT _ zt_X2_cellsThatAre rfl _ _ rfl) rfl rfl ?_
    refine v_load (v := (0, (q : Int))) (hT _ zt_X2_cellsThatAre rfl _ _ rfl) rfl rfl ?_
    refine v_call (w := 3) [some (2, 39), some (0, (j : Int)), some (0, (q : Int))] hO (hT _ zt_X2_cellsThatAre rfl _ _ rfl) rfl rfl (cb_st_39 hT hO ((j : Int)) ((q : Int)) j q rfl rfl (by omega) (by omega) hP.2.2.2.1 ?_)
    show vP D T N 29 28 h [some (2, 39), some (0, (j : Int)), some (0, w), some (1, z), none, some (0, (q : Int))] [(0, (P 3 (48 * j + q)))] _
    refine v_load (v := (0, w)) (hT _ zt_X2_cellsThatAre rfl _ _ rfl) rfl rfl ?_
    refine v_ic (hT _ zt_X2_cellsThatAre rfl _ _ rfl) (fun hc4 => ?_) (fun hc4 => ?_)
    · have hc4 : (P 3 (48 * j + q)) = w := hc4
      refine v_load (v := (1, z)) (hT _ zt_X2_cellsThatAre rfl _ _ rfl) rfl rfl ?_
      refine v_push (1) (hT _ zt_X2_cellsThatAre rfl _ _ rfl) rfl ?_
      refine v_load (v := (0, (q : Int))) (hT _ zt_X2_cellsThatAre rfl _ _ rfl) rfl rfl ?_
      refine v_sh64 (w := (vS 0 1 ((q : Int)))) (hT _ zt_X2_cellsThatAre rfl _ _ rfl) rfl ?_
      refine v_bin64 (w := (v64 4 z ((vS 0 1 ((q : Int)))))) (hT _ zt_X2_cellsThatAre rfl _ _ rfl) rfl ?_
      refine v_store2 [some (2, 39), some (0, (j : Int)), some (0, w), some (1, (v64 4 z ((vS 0 1 ((q : Int)))))), none, some (0, (q : Int))] (hT _ zt_X2_cellsThatAre rfl _ _ rfl) (Nat.le_of_ble_eq_true rfl) rfl ?_
      refine v_iinc (x := (q : Int)) (u := 1) (w := ((q : Int) + 1)) [some (2, 39), some (0, (j : Int)), some (0, w), some (1, (v64 4 z ((vS 0 1 ((q : Int)))))), none, some (0, ((q : Int) + 1))] (hT _ zt_X2_cellsThatAre rfl _ _ rfl) rfl rfl (Nat.le_of_ble_eq_true rfl) (vz_inc (by omega) (by omega)) rfl ?_
      refine v_goto (hT _ zt_X2_cellsThatAre rfl _ _ rfl) ?_
      exact k0 hg2 hc4
    · have hc4 : (P 3 (48 * j + q)) ≠ w := hc4
      refine v_iinc (x := (q : Int)) (u := 1) (w := ((q : Int) + 1)) [some (2, 39), some (0, (j : Int)), some (0, w), some (1, z), none, some (0, ((q : Int) + 1))] (hT _ zt_X2_cellsThatAre rfl _ _ rfl) rfl rfl (Nat.le_of_ble_eq_true rfl) (vz_inc (by omega) (by omega)) rfl ?_
      refine v_goto (hT _ zt_X2_cellsThatAre rfl _ _ rfl) ?_
      exact k1 hg2 hc4
  · show vP D T N 29 18 h [some (2, 39), some (0, (j : Int)), some (0, w), some (1, z), none, some (0, (q : Int))] [(0, 0)] _
    refine v_if (hT _ zt_X2_cellsThatAre rfl _ _ rfl) (fun _ => ?_) (fun hc5 => absurd (show (0 : Int) = 0 from (by omega)) hc5)
    refine v_iinc (x := (q : Int)) (u := 1) (w := ((q : Int) + 1)) [some (2, 39), some (0, (j : Int)), some (0, w), some (1, z), none, some (0, ((q : Int) + 1))] (hT _ zt_X2_cellsThatAre rfl _ _ rfl) rfl rfl (Nat.le_of_ble_eq_true rfl) (vz_inc (by omega) (by omega)) rfl ?_
    refine v_goto (hT _ zt_X2_cellsThatAre rfl _ _ rfl) ?_
    exact k2 hg2
theorem qk_ca5e_39 {D : zD} {T : zT} (hT : hTab T) (hO : vOK T) {N : Nat} {h : zH} {Q : zR → Prop} {j : Nat} (w z : Int) (hv0 : zHv h)
    (k0 : Q (h, some (1, z))) :
    vP D T (N + 1) 29 5 h [some (2, 39), some (0, (j : Int)), some (0, w), some (1, z), none, some (0, 48)] [] Q := by
  refine v_loadS (v := (0, 48)) (hT _ zt_X2_cellsThatAre rfl _ _ rfl) rfl rfl ?_
  refine v_push (48) (hT _ zt_X2_cellsThatAre rfl _ _ rfl) rfl ?_
  refine v_ic (hT _ zt_X2_cellsThatAre rfl _ _ rfl) (fun hc1 => absurd (show (48 : Int) < 48 from hc1) (by omega)) (fun _ => ?_)
  refine v_load (v := (1, z)) (hT _ zt_X2_cellsThatAre rfl _ _ rfl) rfl rfl ?_
  refine v_ret (hT _ zt_X2_cellsThatAre rfl _ _ rfl) (Or.inr rfl) ?_
  exact k0 
theorem qt_ct0_39 {D : zD} {T : zT} (hT : hTab T) (hO : vOK T) {N : Nat} {h : zH} {Q : zR → Prop} {P : PT} (x y : Int) (hv0 : zHv h) (e7 : h 0 7 = (2, 39)) (p0 : h 39 0 = (0, P 0 0)) (p1 : h 39 1 = (0, P 0 1)) (p2 : h 39 2 = (0, P 0 2)) (p3 : h 39 3 = (0, P 0 3)) (lb : (0 ≤ P 0 0 ∧ P 0 0 ≤ 8) ∧ (0 ≤ P 0 1 ∧ P 0 1 ≤ 6) ∧ (0 ≤ P 0 2 ∧ P 0 2 ≤ 3) ∧ (0 ≤ P 0 3 ∧ P 0 3 ≤ 6))
    (k0 : (x < 0) → Q (zset h 0 0 (0, 2), some (0, -1)))
    (k1 : (0 ≤ x) → (x < (P 0 2)) → (y < 0) → Q (zset h 0 0 (0, 5), some (0, -1)))
    (k2 : (0 ≤ x) → (x < (P 0 2)) → (0 ≤ y) → (3 < y) → Q (zset h 0 0 (0, 5), some (0, -1)))
    (k3 : (0 ≤ x) → (x < (P 0 2)) → (0 ≤ y) → (y ≤ 3) → vP D T N 152 32 h [some (2, 0), some (0, x), some (0, y)] [] Q)
    (k4 : (0 ≤ x) → ((P 0 2) ≤ x) → Q (zset h 0 0 (0, 2), some (0, -1))) :
    vP D T N 152 0 h [some (2, 0), some (0, x), some (0, y)] [] Q := by
  refine v_load (v := (2, 0)) (hT _ zt_X11_count rfl _ _ rfl) rfl rfl ?_
  refine v_getf (v := (2, 39)) (r := 0) (hT _ zt_X11_count rfl _ _ rfl) rfl rfl (fun _ => e7) ?_
  refine v_load (v := (0, x)) (hT _ zt_X11_count rfl _ _ rfl) rfl rfl ?_
  refine v_call (w := 2) [some (2, 39), some (0, x)] hO (hT _ zt_X11_count rfl _ _ rfl) rfl rfl ?_
  refine v_load (v := (0, x)) (hT _ zt_X2_hasCopy rfl _ _ rfl) rfl rfl ?_
  refine v_if (hT _ zt_X2_hasCopy rfl _ _ rfl) (fun hc1 => ?_) (fun hc1 => ?_)
  · have hc1 : x < 0 := hc1
    refine v_push (0) (hT _ zt_X2_hasCopy rfl _ _ rfl) rfl ?_
    refine v_ret (hT _ zt_X2_hasCopy rfl _ _ rfl) (Or.inl rfl) ?_
    show vP D T N 152 8 h [some (2, 0), some (0, x), some (0, y)] [(0, 0)] _
    refine v_if (hT _ zt_X11_count rfl _ _ rfl) (fun _ => ?_) (fun hc2 => absurd (show (0 : Int) = 0 from (by omega)) hc2)
    refine v_load (v := (2, 0)) (hT _ zt_X11_count rfl _ _ rfl) rfl rfl ?_
    refine v_push (2) (hT _ zt_X11_count rfl _ _ rfl) rfl ?_
    refine v_call (w := 2) [some (2, 0), some (0, 2)] hO (hT _ zt_X11_count rfl _ _ rfl) rfl rfl ?_
    refine v_load (v := (2, 0)) (hT _ zt_X11_refused rfl _ _ rfl) rfl rfl ?_
    refine v_load (v := (0, 2)) (hT _ zt_X11_refused rfl _ _ rfl) rfl rfl ?_
    refine v_putf (r := 0) hO (hT _ zt_X11_refused rfl _ _ rfl) rfl (fun hf3 => ?_)
    refine v_push (-1) (hT _ zt_X11_refused rfl _ _ rfl) rfl ?_
    refine v_ret (hT _ zt_X11_refused rfl _ _ rfl) (Or.inl rfl) ?_
    show vP D T N 152 16 (zset h 0 0 (0, 2)) [some (2, 0), some (0, x), some (0, y)] [(0, -1)] _
    refine v_ret (hT _ zt_X11_count rfl _ _ rfl) (Or.inl rfl) ?_
    exact k0 hc1
  · have hc1 : 0 ≤ x := Int.not_lt.mp hc1
    refine v_load (v := (0, x)) (hT _ zt_X2_hasCopy rfl _ _ rfl) rfl rfl ?_
    refine v_load (v := (2, 39)) (hT _ zt_X2_hasCopy rfl _ _ rfl) rfl rfl ?_
    refine v_getf (v := (0, (P 0 2))) (r := 39) (hT _ zt_X2_hasCopy rfl _ _ rfl) rfl rfl (fun _ => p2) ?_
    refine v_ic (hT _ zt_X2_hasCopy rfl _ _ rfl) (fun hc4 => ?_) (fun hc4 => ?_)
    · have hc4 : x < (P 0 2) := hc4
      refine v_push (1) (hT _ zt_X2_hasCopy rfl _ _ rfl) rfl ?_
      refine v_goto (hT _ zt_X2_hasCopy rfl _ _ rfl) ?_
      refine v_ret (hT _ zt_X2_hasCopy rfl _ _ rfl) (Or.inl rfl) ?_
      show vP D T N 152 8 h [some (2, 0), some (0, x), some (0, y)] [(0, 1)] _
      refine v_if (hT _ zt_X11_count rfl _ _ rfl) (fun hc5 => absurd (show (1 : Int) = 0 from hc5) (by omega)) (fun _ => ?_)
      refine v_load (v := (0, y)) (hT _ zt_X11_count rfl _ _ rfl) rfl rfl ?_
      refine v_if (hT _ zt_X11_count rfl _ _ rfl) (fun hc6 => ?_) (fun hc6 => ?_)
      · have hc6 : y < 0 := hc6
        refine v_load (v := (2, 0)) (hT _ zt_X11_count rfl _ _ rfl) rfl rfl ?_
        refine v_push (5) (hT _ zt_X11_count rfl _ _ rfl) rfl ?_
        refine v_call (w := 2) [some (2, 0), some (0, 5)] hO (hT _ zt_X11_count rfl _ _ rfl) rfl rfl ?_
        refine v_load (v := (2, 0)) (hT _ zt_X11_refused rfl _ _ rfl) rfl rfl ?_
        refine v_load (v := (0, 5)) (hT _ zt_X11_refused rfl _ _ rfl) rfl rfl ?_
        refine v_putf (r := 0) hO (hT _ zt_X11_refused rfl _ _ rfl) rfl (fun hf7 => ?_)
        refine v_push (-1) (hT _ zt_X11_refused rfl _ _ rfl) rfl ?_
        refine v_ret (hT _ zt_X11_refused rfl _ _ rfl) (Or.inl rfl) ?_
        show vP D T N 152 31 (zset h 0 0 (0, 5)) [some (2, 0), some (0, x), some (0, y)] [(0, -1)] _
        refine v_ret (hT _ zt_X11_count rfl _ _ rfl) (Or.inl rfl) ?_
        exact k1 hc1 hc4 hc6
      · have hc6 : 0 ≤ y := Int.not_lt.mp hc6
        refine v_load (v := (0, y)) (hT _ zt_X11_count rfl _ _ rfl) rfl rfl ?_
        refine v_push (3) (hT _ zt_X11_count rfl _ _ rfl) rfl ?_
        refine v_ic (hT _ zt_X11_count rfl _ _ rfl) (fun hc8 => ?_) (fun hc8 => ?_)
        · have hc8 : 3 < y := hc8
          refine v_load (v := (2, 0)) (hT _ zt_X11_count rfl _ _ rfl) rfl rfl ?_
          refine v_push (5) (hT _ zt_X11_count rfl _ _ rfl) rfl ?_
          refine v_call (w := 2) [some (2, 0), some (0, 5)] hO (hT _ zt_X11_count rfl _ _ rfl) rfl rfl ?_
          refine v_load (v := (2, 0)) (hT _ zt_X11_refused rfl _ _ rfl) rfl rfl ?_
          refine v_load (v := (0, 5)) (hT _ zt_X11_refused rfl _ _ rfl) rfl rfl ?_
          refine v_putf (r := 0) hO (hT _ zt_X11_refused rfl _ _ rfl) rfl (fun hf9 => ?_)
          refine v_push (-1) (hT _ zt_X11_refused rfl _ _ rfl) rfl ?_
          refine v_ret (hT _ zt_X11_refused rfl _ _ rfl) (Or.inl rfl) ?_
          show vP D T N 152 31 (zset h 0 0 (0, 5)) [some (2, 0), some (0, x), some (0, y)] [(0, -1)] _
          refine v_ret (hT _ zt_X11_count rfl _ _ rfl) (Or.inl rfl) ?_
          exact k2 hc1 hc4 hc6 hc8
        · have hc8 : y ≤ 3 := Int.not_lt.mp hc8
          exact k3 hc1 hc4 hc6 hc8
    · have hc4 : (P 0 2) ≤ x := Int.not_lt.mp hc4
      refine v_push (0) (hT _ zt_X2_hasCopy rfl _ _ rfl) rfl ?_
      refine v_ret (hT _ zt_X2_hasCopy rfl _ _ rfl) (Or.inl rfl) ?_
      show vP D T N 152 8 h [some (2, 0), some (0, x), some (0, y)] [(0, 0)] _
      refine v_if (hT _ zt_X11_count rfl _ _ rfl) (fun _ => ?_) (fun hc10 => absurd (show (0 : Int) = 0 from (by omega)) hc10)
      refine v_load (v := (2, 0)) (hT _ zt_X11_count rfl _ _ rfl) rfl rfl ?_
      refine v_push (2) (hT _ zt_X11_count rfl _ _ rfl) rfl ?_
      refine v_call (w := 2) [some (2, 0), some (0, 2)] hO (hT _ zt_X11_count rfl _ _ rfl) rfl rfl ?_
      refine v_load (v := (2, 0)) (hT _ zt_X11_refused rfl _ _ rfl) rfl rfl ?_
      refine v_load (v := (0, 2)) (hT _ zt_X11_refused rfl _ _ rfl) rfl rfl ?_
      refine v_putf (r := 0) hO (hT _ zt_X11_refused rfl _ _ rfl) rfl (fun hf11 => ?_)
      refine v_push (-1) (hT _ zt_X11_refused rfl _ _ rfl) rfl ?_
      refine v_ret (hT _ zt_X11_refused rfl _ _ rfl) (Or.inl rfl) ?_
      show vP D T N 152 16 (zset h 0 0 (0, 2)) [some (2, 0), some (0, x), some (0, y)] [(0, -1)] _
      refine v_ret (hT _ zt_X11_count rfl _ _ rfl) (Or.inl rfl) ?_
      exact k4 hc1 hc4
theorem qt_ct32_39 {D : zD} {T : zT} (hT : hTab T) (hO : vOK T) {N : Nat} {h : zH} {Q : zR → Prop} {j : Nat} (w : Int) (hv0 : zHv h) (e7 : h 0 7 = (2, 39))
    (k0 : vP D T N 29 0 h [some (2, 39), some (0, (j : Int)), some (0, w), none, none, none] [] (fun r1 => vP D T N 152 42 r1.1 [some (2, 0), some (0, (j : Int)), some (0, w)] (zpush r1.2 [(2, 0)]) Q)) :
    vP D T N 152 32 h [some (2, 0), some (0, (j : Int)), some (0, w)] [] Q := by
  refine v_load (v := (2, 0)) (hT _ zt_X11_count rfl _ _ rfl) rfl rfl ?_
  refine v_load (v := (2, 0)) (hT _ zt_X11_count rfl _ _ rfl) rfl rfl ?_
  refine v_getf (v := (2, 39)) (r := 0) (hT _ zt_X11_count rfl _ _ rfl) rfl rfl (fun _ => e7) ?_
  refine v_load (v := (0, (j : Int))) (hT _ zt_X11_count rfl _ _ rfl) rfl rfl ?_
  refine v_load (v := (0, w)) (hT _ zt_X11_count rfl _ _ rfl) rfl rfl ?_
  refine v_call (w := 6) [some (2, 39), some (0, (j : Int)), some (0, w), none, none, none] hO (hT _ zt_X11_count rfl _ _ rfl) rfl rfl ?_
  exact k0 
theorem qt_sn0_39 {D : zD} {T : zT} (hT : hTab T) (hO : vOK T) {N : Nat} {h : zH} {Q : zR → Prop} {P : PT} (x y : Int) (hv0 : zHv h) (e7 : h 0 7 = (2, 39)) (p0 : h 39 0 = (0, P 0 0)) (p1 : h 39 1 = (0, P 0 1)) (p2 : h 39 2 = (0, P 0 2)) (p3 : h 39 3 = (0, P 0 3)) (lb : (0 ≤ P 0 0 ∧ P 0 0 ≤ 8) ∧ (0 ≤ P 0 1 ∧ P 0 1 ≤ 6) ∧ (0 ≤ P 0 2 ∧ P 0 2 ≤ 3) ∧ (0 ≤ P 0 3 ∧ P 0 3 ≤ 6))
    (k0 : (x < 0) → Q (zset h 0 0 (0, 2), some (0, -1)))
    (k1 : (0 ≤ x) → (x < (P 0 3)) → (y < 0) → Q (zset h 0 0 (0, 2), some (0, -1)))
    (k2 : (0 ≤ x) → (x < (P 0 3)) → (0 ≤ y) → (y < (P 0 2)) → vP D T N 179 28 h [some (2, 0), some (0, x), some (0, y), none, none] [] Q)
    (k3 : (0 ≤ x) → (x < (P 0 3)) → (0 ≤ y) → ((P 0 2) ≤ y) → Q (zset h 0 0 (0, 2), some (0, -1)))
    (k4 : (0 ≤ x) → ((P 0 3) ≤ x) → Q (zset h 0 0 (0, 2), some (0, -1))) :
    vP D T N 179 0 h [some (2, 0), some (0, x), some (0, y), none, none] [] Q := by
  refine v_load (v := (2, 0)) (hT _ zt_X11_seen rfl _ _ rfl) rfl rfl ?_
  refine v_getf (v := (2, 39)) (r := 0) (hT _ zt_X11_seen rfl _ _ rfl) rfl rfl (fun _ => e7) ?_
  refine v_load (v := (0, x)) (hT _ zt_X11_seen rfl _ _ rfl) rfl rfl ?_
  refine v_call (w := 2) [some (2, 39), some (0, x)] hO (hT _ zt_X11_seen rfl _ _ rfl) rfl rfl ?_
  refine v_load (v := (0, x)) (hT _ zt_X2_hasCompany rfl _ _ rfl) rfl rfl ?_
  refine v_if (hT _ zt_X2_hasCompany rfl _ _ rfl) (fun hc1 => ?_) (fun hc1 => ?_)
  · have hc1 : x < 0 := hc1
    refine v_push (0) (hT _ zt_X2_hasCompany rfl _ _ rfl) rfl ?_
    refine v_ret (hT _ zt_X2_hasCompany rfl _ _ rfl) (Or.inl rfl) ?_
    show vP D T N 179 8 h [some (2, 0), some (0, x), some (0, y), none, none] [(0, 0)] _
    refine v_if (hT _ zt_X11_seen rfl _ _ rfl) (fun _ => ?_) (fun hc2 => absurd (show (0 : Int) = 0 from (by omega)) hc2)
    refine v_load (v := (2, 0)) (hT _ zt_X11_seen rfl _ _ rfl) rfl rfl ?_
    refine v_push (2) (hT _ zt_X11_seen rfl _ _ rfl) rfl ?_
    refine v_call (w := 2) [some (2, 0), some (0, 2)] hO (hT _ zt_X11_seen rfl _ _ rfl) rfl rfl ?_
    refine v_load (v := (2, 0)) (hT _ zt_X11_refused rfl _ _ rfl) rfl rfl ?_
    refine v_load (v := (0, 2)) (hT _ zt_X11_refused rfl _ _ rfl) rfl rfl ?_
    refine v_putf (r := 0) hO (hT _ zt_X11_refused rfl _ _ rfl) rfl (fun hf3 => ?_)
    refine v_push (-1) (hT _ zt_X11_refused rfl _ _ rfl) rfl ?_
    refine v_ret (hT _ zt_X11_refused rfl _ _ rfl) (Or.inl rfl) ?_
    show vP D T N 179 27 (zset h 0 0 (0, 2)) [some (2, 0), some (0, x), some (0, y), none, none] [(0, -1)] _
    refine v_ret (hT _ zt_X11_seen rfl _ _ rfl) (Or.inl rfl) ?_
    exact k0 hc1
  · have hc1 : 0 ≤ x := Int.not_lt.mp hc1
    refine v_load (v := (0, x)) (hT _ zt_X2_hasCompany rfl _ _ rfl) rfl rfl ?_
    refine v_load (v := (2, 39)) (hT _ zt_X2_hasCompany rfl _ _ rfl) rfl rfl ?_
    refine v_getf (v := (0, (P 0 3))) (r := 39) (hT _ zt_X2_hasCompany rfl _ _ rfl) rfl rfl (fun _ => p3) ?_
    refine v_ic (hT _ zt_X2_hasCompany rfl _ _ rfl) (fun hc4 => ?_) (fun hc4 => ?_)
    · have hc4 : x < (P 0 3) := hc4
      refine v_push (1) (hT _ zt_X2_hasCompany rfl _ _ rfl) rfl ?_
      refine v_goto (hT _ zt_X2_hasCompany rfl _ _ rfl) ?_
      refine v_ret (hT _ zt_X2_hasCompany rfl _ _ rfl) (Or.inl rfl) ?_
      show vP D T N 179 8 h [some (2, 0), some (0, x), some (0, y), none, none] [(0, 1)] _
      refine v_if (hT _ zt_X11_seen rfl _ _ rfl) (fun hc5 => absurd (show (1 : Int) = 0 from hc5) (by omega)) (fun _ => ?_)
      refine v_load (v := (2, 0)) (hT _ zt_X11_seen rfl _ _ rfl) rfl rfl ?_
      refine v_getf (v := (2, 39)) (r := 0) (hT _ zt_X11_seen rfl _ _ rfl) rfl rfl (fun _ => e7) ?_
      refine v_load (v := (0, y)) (hT _ zt_X11_seen rfl _ _ rfl) rfl rfl ?_
      refine v_call (w := 2) [some (2, 39), some (0, y)] hO (hT _ zt_X11_seen rfl _ _ rfl) rfl rfl ?_
      refine v_load (v := (0, y)) (hT _ zt_X2_hasCopy rfl _ _ rfl) rfl rfl ?_
      refine v_if (hT _ zt_X2_hasCopy rfl _ _ rfl) (fun hc6 => ?_) (fun hc6 => ?_)
      · have hc6 : y < 0 := hc6
        refine v_push (0) (hT _ zt_X2_hasCopy rfl _ _ rfl) rfl ?_
        refine v_ret (hT _ zt_X2_hasCopy rfl _ _ rfl) (Or.inl rfl) ?_
        show vP D T N 179 19 h [some (2, 0), some (0, x), some (0, y), none, none] [(0, 0)] _
        refine v_if (hT _ zt_X11_seen rfl _ _ rfl) (fun _ => ?_) (fun hc7 => absurd (show (0 : Int) = 0 from (by omega)) hc7)
        refine v_load (v := (2, 0)) (hT _ zt_X11_seen rfl _ _ rfl) rfl rfl ?_
        refine v_push (2) (hT _ zt_X11_seen rfl _ _ rfl) rfl ?_
        refine v_call (w := 2) [some (2, 0), some (0, 2)] hO (hT _ zt_X11_seen rfl _ _ rfl) rfl rfl ?_
        refine v_load (v := (2, 0)) (hT _ zt_X11_refused rfl _ _ rfl) rfl rfl ?_
        refine v_load (v := (0, 2)) (hT _ zt_X11_refused rfl _ _ rfl) rfl rfl ?_
        refine v_putf (r := 0) hO (hT _ zt_X11_refused rfl _ _ rfl) rfl (fun hf8 => ?_)
        refine v_push (-1) (hT _ zt_X11_refused rfl _ _ rfl) rfl ?_
        refine v_ret (hT _ zt_X11_refused rfl _ _ rfl) (Or.inl rfl) ?_
        show vP D T N 179 27 (zset h 0 0 (0, 2)) [some (2, 0), some (0, x), some (0, y), none, none] [(0, -1)] _
        refine v_ret (hT _ zt_X11_seen rfl _ _ rfl) (Or.inl rfl) ?_
        exact k1 hc1 hc4 hc6
      · have hc6 : 0 ≤ y := Int.not_lt.mp hc6
        refine v_load (v := (0, y)) (hT _ zt_X2_hasCopy rfl _ _ rfl) rfl rfl ?_
        refine v_load (v := (2, 39)) (hT _ zt_X2_hasCopy rfl _ _ rfl) rfl rfl ?_
        refine v_getf (v := (0, (P 0 2))) (r := 39) (hT _ zt_X2_hasCopy rfl _ _ rfl) rfl rfl (fun _ => p2) ?_
        refine v_ic (hT _ zt_X2_hasCopy rfl _ _ rfl) (fun hc9 => ?_) (fun hc9 => ?_)
        · have hc9 : y < (P 0 2) := hc9
          refine v_push (1) (hT _ zt_X2_hasCopy rfl _ _ rfl) rfl ?_
          refine v_goto (hT _ zt_X2_hasCopy rfl _ _ rfl) ?_
          refine v_ret (hT _ zt_X2_hasCopy rfl _ _ rfl) (Or.inl rfl) ?_
          show vP D T N 179 19 h [some (2, 0), some (0, x), some (0, y), none, none] [(0, 1)] _
          refine v_if (hT _ zt_X11_seen rfl _ _ rfl) (fun hc10 => absurd (show (1 : Int) = 0 from hc10) (by omega)) (fun _ => ?_)
          exact k2 hc1 hc4 hc6 hc9
        · have hc9 : (P 0 2) ≤ y := Int.not_lt.mp hc9
          refine v_push (0) (hT _ zt_X2_hasCopy rfl _ _ rfl) rfl ?_
          refine v_ret (hT _ zt_X2_hasCopy rfl _ _ rfl) (Or.inl rfl) ?_
          show vP D T N 179 19 h [some (2, 0), some (0, x), some (0, y), none, none] [(0, 0)] _
          refine v_if (hT _ zt_X11_seen rfl _ _ rfl) (fun _ => ?_) (fun hc11 => absurd (show (0 : Int) = 0 from (by omega)) hc11)
          refine v_load (v := (2, 0)) (hT _ zt_X11_seen rfl _ _ rfl) rfl rfl ?_
          refine v_push (2) (hT _ zt_X11_seen rfl _ _ rfl) rfl ?_
          refine v_call (w := 2) [some (2, 0), some (0, 2)] hO (hT _ zt_X11_seen rfl _ _ rfl) rfl rfl ?_
          refine v_load (v := (2, 0)) (hT _ zt_X11_refused rfl _ _ rfl) rfl rfl ?_
          refine v_load (v := (0, 2)) (hT _ zt_X11_refused rfl _ _ rfl) rfl rfl ?_
          refine v_putf (r := 0) hO (hT _ zt_X11_refused rfl _ _ rfl) rfl (fun hf12 => ?_)
          refine v_push (-1) (hT _ zt_X11_refused rfl _ _ rfl) rfl ?_
          refine v_ret (hT _ zt_X11_refused rfl _ _ rfl) (Or.inl rfl) ?_
          show vP D T N 179 27 (zset h 0 0 (0, 2)) [some (2, 0), some (0, x), some (0, y), none, none] [(0, -1)] _
          refine v_ret (hT _ zt_X11_seen rfl _ _ rfl) (Or.inl rfl) ?_
          exact k3 hc1 hc4 hc6 hc9
    · have hc4 : (P 0 3) ≤ x := Int.not_lt.mp hc4
      refine v_push (0) (hT _ zt_X2_hasCompany rfl _ _ rfl) rfl ?_
      refine v_ret (hT _ zt_X2_hasCompany rfl _ _ rfl) (Or.inl rfl) ?_
      show vP D T N 179 8 h [some (2, 0), some (0, x), some (0, y), none, none] [(0, 0)] _
      refine v_if (hT _ zt_X11_seen rfl _ _ rfl) (fun _ => ?_) (fun hc13 => absurd (show (0 : Int) = 0 from (by omega)) hc13)
      refine v_load (v := (2, 0)) (hT _ zt_X11_seen rfl _ _ rfl) rfl rfl ?_
      refine v_push (2) (hT _ zt_X11_seen rfl _ _ rfl) rfl ?_
      refine v_call (w := 2) [some (2, 0), some (0, 2)] hO (hT _ zt_X11_seen rfl _ _ rfl) rfl rfl ?_
      refine v_load (v := (2, 0)) (hT _ zt_X11_refused rfl _ _ rfl) rfl rfl ?_
      refine v_load (v := (0, 2)) (hT _ zt_X11_refused rfl _ _ rfl) rfl rfl ?_
      refine v_putf (r := 0) hO (hT _ zt_X11_refused rfl _ _ rfl) rfl (fun hf14 => ?_)
      refine v_push (-1) (hT _ zt_X11_refused rfl _ _ rfl) rfl ?_
      refine v_ret (hT _ zt_X11_refused rfl _ _ rfl) (Or.inl rfl) ?_
      show vP D T N 179 27 (zset h 0 0 (0, 2)) [some (2, 0), some (0, x), some (0, y), none, none] [(0, -1)] _
      refine v_ret (hT _ zt_X11_seen rfl _ _ rfl) (Or.inl rfl) ?_
      exact k4 hc1 hc4
theorem qt_sn28_39 {D : zD} {T : zT} (hT : hTab T) (hO : vOK T) {N : Nat} {h : zH} {Q : zR → Prop} {a j : Nat} (hv0 : zHv h) (e7 : h 0 7 = (2, 39))
    (k0 : vP D T N 132 0 h [some (2, 100), some (2, 39), some (0, (a : Int))] [] (fun r1 => vP D T N 179 40 r1.1 [some (2, 0), some (0, (a : Int)), some (0, (j : Int)), none, none] (zpush r1.2 []) Q)) :
    vP D T N 179 28 h [some (2, 0), some (0, (a : Int)), some (0, (j : Int)), none, none] [] Q := by
  refine v_load (v := (2, 0)) (hT _ zt_X11_seen rfl _ _ rfl) rfl rfl ?_
  refine v_getR (c := 100) (r := 0) (hT _ zt_X11_seen rfl _ _ rfl) rfl rfl rfl ?_
  refine v_load (v := (2, 0)) (hT _ zt_X11_seen rfl _ _ rfl) rfl rfl ?_
  refine v_getf (v := (2, 39)) (r := 0) (hT _ zt_X11_seen rfl _ _ rfl) rfl rfl (fun _ => e7) ?_
  refine v_load (v := (0, (a : Int))) (hT _ zt_X11_seen rfl _ _ rfl) rfl rfl ?_
  refine v_call (w := 3) [some (2, 100), some (2, 39), some (0, (a : Int))] hO (hT _ zt_X11_seen rfl _ _ rfl) rfl rfl ?_
  exact k0 
theorem qt_sn40_39 {D : zD} {T : zT} (hT : hTab T) (hO : vOK T) {N : Nat} {h : zH} {Q : zR → Prop} {P : PT} {a j : Nat} (w z : Int) (hv0 : zHv h) (e7 : h 0 7 = (2, 39)) (hw : w ≠ -1) (ha : a < 6) (e8 : h 100 8 = (1, z)) (s6 : h 45 a = (0, P 6 a))
    (k0 : (0 ≤ (a : Int)) → ((a : Int) < 6) → vP D T N 29 0 h [some (2, 39), some (0, (j : Int)), some (0, 3), none, none, none] [] (fun r1 => vP D T N 179 82 r1.1 [some (2, 0), some (0, (a : Int)), some (0, (j : Int)), some (1, (v64 4 z ((vS 0 1 ((P 6 a)))))), none] (zpush r1.2 [(1, (v64 4 z ((vS 0 1 ((P 6 a)))))), (2, 0)]) Q)) :
    vP D T N 179 40 h [some (2, 0), some (0, (a : Int)), some (0, (j : Int)), none, none] [(0, w)] Q := by
  refine v_push (-1) (hT _ zt_X11_seen rfl _ _ rfl) rfl ?_
  refine v_ic (hT _ zt_X11_seen rfl _ _ rfl) (fun hc1 => absurd (show w = -1 from hc1) hw) (fun _ => ?_)
  refine v_load (v := (2, 0)) (hT _ zt_X11_seen rfl _ _ rfl) rfl rfl ?_
  refine v_getR (c := 100) (r := 0) (hT _ zt_X11_seen rfl _ _ rfl) rfl rfl rfl ?_
  refine v_getf (v := (1, z)) (r := 100) (hT _ zt_X11_seen rfl _ _ rfl) rfl rfl (fun _ => e8) ?_
  refine v_push (1) (hT _ zt_X11_seen rfl _ _ rfl) rfl ?_
  refine v_load (v := (2, 0)) (hT _ zt_X11_seen rfl _ _ rfl) rfl rfl ?_
  refine v_getf (v := (2, 39)) (r := 0) (hT _ zt_X11_seen rfl _ _ rfl) rfl rfl (fun _ => e7) ?_
  refine v_getR (c := 45) (r := 39) (hT _ zt_X11_seen rfl _ _ rfl) rfl rfl rfl ?_
  refine v_load (v := (0, (a : Int))) (hT _ zt_X11_seen rfl _ _ rfl) rfl rfl ?_
  refine v_aldB (t := 0) (r := 45) (w := (P 6 a)) (hT _ zt_X11_seen rfl _ _ rfl) rfl rfl rfl (fun _ _ => (congrArg Prod.snd s6)) (fun ha2 hb3 => ?_)
  refine v_sh64 (w := (vS 0 1 ((P 6 a)))) (hT _ zt_X11_seen rfl _ _ rfl) rfl ?_
  refine v_bin64 (w := (v64 4 z ((vS 0 1 ((P 6 a)))))) (hT _ zt_X11_seen rfl _ _ rfl) rfl ?_
  refine v_store2 [some (2, 0), some (0, (a : Int)), some (0, (j : Int)), some (1, (v64 4 z ((vS 0 1 ((P 6 a)))))), none] (hT _ zt_X11_seen rfl _ _ rfl) (Nat.le_of_ble_eq_true rfl) rfl ?_
  refine v_load (v := (2, 0)) (hT _ zt_X11_seen rfl _ _ rfl) rfl rfl ?_
  refine v_load (v := (1, (v64 4 z ((vS 0 1 ((P 6 a))))))) (hT _ zt_X11_seen rfl _ _ rfl) rfl rfl ?_
  refine v_load (v := (2, 0)) (hT _ zt_X11_seen rfl _ _ rfl) rfl rfl ?_
  refine v_getf (v := (2, 39)) (r := 0) (hT _ zt_X11_seen rfl _ _ rfl) rfl rfl (fun _ => e7) ?_
  refine v_load (v := (0, (j : Int))) (hT _ zt_X11_seen rfl _ _ rfl) rfl rfl ?_
  refine v_push (3) (hT _ zt_X11_seen rfl _ _ rfl) rfl ?_
  refine v_call (w := 6) [some (2, 39), some (0, (j : Int)), some (0, 3), none, none, none] hO (hT _ zt_X11_seen rfl _ _ rfl) rfl rfl ?_
  exact k0 ha2 hb3
section CC_39
variable {D : zD} {T : zT} {N : Nat} {h : zH} {P : PT}
theorem cx_caL_39 (hT : hTab T) (hO : vOK T) {Q : zR → Prop} (hP : cP 39 P h) (hb : fB P) {j : Nat} (hj : j < 3) (w : Int) (k : ∀ z : Int, (∀ y, y < 64 → wB z y = wCq P j w 48 y) → Q (h, some (1, z))) : ∀ (r q : Nat) (z : Int), q + r = 48 → (∀ y, y < 64 → wB z y = wCq P j w q y) → vP D T N 29 5 h [some (2, 39), some (0, (j : Int)), some (0, w), some (1, z), none, some (0, (q : Int))] [] Q
  | 0, q, z, hq, hz => by
    have hq : q = 48 := hq
    subst hq
    exact vP_dn (vP_hv (fun hv => qk_ca5e_39 hT hO w z hv (k z hz)))
  | r + 1, q, z, hq, hz => by
    have ih := fun z hz => cx_caL_39 hT hO hP hb hj w k r (q + 1) z (by omega) hz
    refine vP_dn (vP_hv (fun hv => qk_ca5_39 hT hO w z hv hP hb hj (by omega) (fun g c => ?_) (fun g c => ?_) (fun g => ?_)))
    · exact ih _ (fun y hy => by rw [wB_set6 (by omega) hy, hz y hy, wCq_s1 (gIx_y g) c])
    · exact ih _ (fun y hy => (hz y hy).trans (wCq_s0 (fun d => c d.2)).symm)
    · exact ih _ (fun y hy => (hz y hy).trans (wCq_s0 (fun d => by rw [gIx_n (by omega) g] at d; exact absurd d.1 (by decide))).symm)
theorem cx_ca_39 (hT : hTab T) (hO : vOK T) {Q : zR → Prop} (x : Int) (j : Nat) (ex : x = (j : Int)) (hP : cP 39 P h) (hb : fB P) (hj : j < 3) (w : Int) (k : ∀ z : Int, (∀ y, y < 64 → wB z y = wCq P j w 48 y) → Q (h, some (1, z))) : vP D T N 29 0 h [some (2, 39), some (0, x), some (0, w), none, none, none] [] Q := by
  subst ex
  refine vP_hv (fun hv => qk_ca0_39 hT hO w hv ?_)
  exact cx_caL_39 hT hO hP hb hj w k 48 0 0 rfl (fun y hy => (wB_06 y hy).trans (wCq_f (Nat.not_lt_zero y)).symm)
theorem cq_count_39 (hT : hTab T) (hO : vOK T) (hP : cP 39 P h) (hb : fB P) (e7 : h 0 7 = (2, 39)) (x y : Int) : vP D T N 152 0 h [some (2, 0), some (0, x), some (0, y)] [] (fun r => r.2 = some (0, ctW P x y)) := by
  have lb := hb.1
  have l3 := lb.2.2.1.2
  have no : ¬ ((0 ≤ x ∧ x < P 0 2) ∧ 0 ≤ y ∧ y ≤ 3) → (some ((0, -1) : zV)) = some (0, ctW P x y) := fun c => by
    unfold ctW
    rw [if_neg c]
  refine vP_hv (fun hv => qt_ct0_39 (P := P) hT hO x y hv e7 hP.1.1 hP.1.2.1 hP.1.2.2.1 hP.1.2.2.2.1 lb ?k0 ?k1 ?k2 ?k3 ?k4)
  case k3 =>
    intro c1 c2 c3 c4
    obtain ⟨j, rfl⟩ : ∃ j : Nat, x = (j : Int) := ⟨x.toNat, by omega⟩
    have e2 : ctW P (j : Int) y = ((sC P (cFq P j y) 48 : Nat) : Int) := if_pos ⟨⟨c1, c2⟩, c3, c4⟩
    rw [e2]
    refine vP_hv (fun hv => qt_ct32_39 hT hO y hv e7 ?_)
    refine cx_ca_39 hT hO _ j rfl hP hb (by omega) y (fun z hz => ?_)
    show vP D T N 152 42 h [some (2, 0), some (0, (j : Int)), some (0, y)] [(1, z), (2, 0)] _
    refine vP_hv (fun hv => qt_ct42 hT hO y z hv ?_)
    refine cb_bc hT hO z ?_
    rw [bcC_eq 64 hz, bcC_wC64]
    show vP D T N 152 45 h [some (2, 0), some (0, (j : Int)), some (0, y)] [(0, ((sC P (cFq P j y) 48 : Nat) : Int)), (2, 0)] _
    exact vP_hv (fun hv => qt_ct45 hT hO y _ hv rfl)
  all_goals
    intros
    exact no (by rintro ⟨⟨o1, o2⟩, o3, o4⟩; omega)
theorem cq_seen_39 (hT : hTab T) (hO : vOK T) (hP : cP 39 P h) (hb : fB P) (e7 : h 0 7 = (2, 39)) (x y : Int) : vP D T N 179 0 h [some (2, 0), some (0, x), some (0, y), none, none] [] (fun r => r.2 = some (0, snV P x y)) := by
  have lb := hb.1
  have l3 := lb.2.2.1.2
  have l6 := lb.2.2.2.2
  have no : ¬ (okM P x ∧ (0 ≤ y ∧ y < P 0 2) ∧ mC P x.toNat ≠ -1) → (some ((0, -1) : zV)) = some (0, snV P x y) := fun c => by
    unfold snV
    rw [if_neg c]
  refine vP_hv (fun hv => qt_sn0_39 (P := P) hT hO x y hv e7 hP.1.1 hP.1.2.1 hP.1.2.2.1 hP.1.2.2.2.1 lb ?k0 ?k1 ?k2 ?k3 ?k4)
  case k2 =>
    intro c1 c2 c3 c4
    obtain ⟨a, rfl⟩ : ∃ a : Nat, x = (a : Int) := ⟨x.toNat, by omega⟩
    obtain ⟨j, rfl⟩ : ∃ j : Nat, y = (j : Int) := ⟨y.toNat, by omega⟩
    refine vP_hv (fun hv => qt_sn28_39 hT hO hv e7 ?_)
    refine cx_fw_39 hT hO _ a rfl hP hb c2 (fun g w1 _ w3 => ?_)
    have hP1 : cP 39 P g := hP.eq (fun i k h1 h2 => w1 i k (by omega))
    by_cases c : mC P a = -1
    · have c' : yCost P (gCo P (P 8 a).toNat) (P 6 a).toNat (P 7 a).toNat = -1 := c
      rw [c']
      exact vP_hv (fun hv => qt_sn40n hT hO hv (no (fun d => d.2.2 c)))
    · have c0 := mC_n hb c2 c
      obtain ⟨_, ⟨_, g6⟩, _⟩ := hb.2.2.2 a c2
      obtain ⟨t1, t2, z, t3, t4⟩ := w3.2 ((yCost_f g6).mp c0)
      have e2 : snV P (a : Int) (j : Int) = ((snN P j (mP P a) (mN P a + 1) : Nat) : Int) := if_pos ⟨⟨c1, c2⟩, ⟨c3, c4⟩, c⟩
      rw [e2]
      show vP D T N 179 40 g [some (2, 0), some (0, (a : Int)), some (0, (j : Int)), none, none] [(0, mC P a)] _
      refine vP_hv (fun hv => qt_sn40_39 hT hO (mC P a) z hv ((w1 0 7 (by omega)).trans e7) c (by omega) t3 (hP1.a6 a c2) (fun _ _ => ?_))
      refine cx_ca_39 hT hO _ j rfl hP1 hb (by omega) 3 (fun z2 hz2 => ?_)
      show vP D T N 179 82 g [some (2, 0), some (0, (a : Int)), some (0, (j : Int)), some (1, v64 4 z (vS 0 1 (P 6 a))), none] [(1, z2), (1, v64 4 z (vS 0 1 (P 6 a))), (2, 0)] _
      refine vP_hv (fun hv => qt_sn82 hT hO _ z2 hv ?_)
      refine cb_bc hT hO _ ?_
      rw [sn_bits hb c2 c0 t4 hz2]
      show vP D T N 179 86 g [some (2, 0), some (0, (a : Int)), some (0, (j : Int)), some (1, v64 4 z (vS 0 1 (P 6 a))), none] [(0, ((snN P j (mP P a) (mN P a + 1) : Nat) : Int)), (2, 0)] _
      exact vP_hv (fun hv => qt_sn86 hT hO _ _ hv rfl)
  all_goals
    intros
    exact no (by rintro ⟨⟨o1, o2⟩, ⟨o3, o4⟩, _⟩; omega)
end CC_39
theorem qr_cn0 {D : zD} {T : zT} (hT : hTab T) (hO : vOK T) {N : Nat} {h : zH} {Q : zR → Prop} {j : Nat} (w : Int) (hv0 : zHv h)
    (k0 : vP D T N 214 5 h [some (2, 121), some (0, (j : Int)), some (0, w), some (0, 0), some (0, 0)] [] Q) :
    vP D T N 214 0 h [some (2, 121), some (0, (j : Int)), some (0, w), none, none] [] Q := by
  refine v_push (0) (hT _ zt_X12_countOf rfl _ _ rfl) rfl ?_
  refine v_store1 [some (2, 121), some (0, (j : Int)), some (0, w), some (0, 0), none] (hT _ zt_X12_countOf rfl _ _ rfl) ⟨rfl, Nat.ne_of_beq_eq_false rfl⟩ (Nat.le_of_ble_eq_true rfl) rfl ?_
  refine v_push (0) (hT _ zt_X12_countOf rfl _ _ rfl) rfl ?_
  refine v_store1 [some (2, 121), some (0, (j : Int)), some (0, w), some (0, 0), some (0, 0)] (hT _ zt_X12_countOf rfl _ _ rfl) ⟨rfl, Nat.ne_of_beq_eq_false rfl⟩ (Nat.le_of_ble_eq_true rfl) rfl ?_
  exact k0 
theorem qr_cn5 {D : zD} {T : zT} (hT : hTab T) (hO : vOK T) {N : Nat} {h : zH} {Q : zR → Prop} {P : PT} {j m q : Nat} (w : Int) (hv0 : zHv h) (hR : rBk 0 P h) (hb : fB P) (gq : gIn P q) (hq : gJ P q < 48) (hj : j < 3) (bm : m ≤ 48) (hlt : ((gJ P q : Nat) : Int) < ((P 0 0) * (P 0 1)))
    (k0 : ((P 3 (48 * j + q)) = w) → vP D T N 214 5 h [some (2, 121), some (0, (j : Int)), some (0, w), some (0, ((m : Int) + 1)), some (0, (((gJ P q : Nat) : Int) + 1))] [] Q)
    (k1 : ((P 3 (48 * j + q)) ≠ w) → vP D T N 214 5 h [some (2, 121), some (0, (j : Int)), some (0, w), some (0, ((m : Int) + 0)), some (0, (((gJ P q : Nat) : Int) + 1))] [] Q) :
    vP D T (N + 1) 214 5 h [some (2, 121), some (0, (j : Int)), some (0, w), some (0, (m : Int)), some (0, ((gJ P q : Nat) : Int))] [] Q := by
  refine v_loadS (v := (0, ((gJ P q : Nat) : Int))) (hT _ zt_X12_countOf rfl _ _ rfl) rfl rfl ?_
  refine v_load (v := (2, 121)) (hT _ zt_X12_countOf rfl _ _ rfl) rfl rfl ?_
  refine v_call (w := 1) [some (2, 121)] hO (hT _ zt_X12_countOf rfl _ _ rfl) rfl rfl (rb_cells hT hO hR.w hR.r hb.1 ?_)
  show vP D T N 214 11 h [some (2, 121), some (0, (j : Int)), some (0, w), some (0, (m : Int)), some (0, ((gJ P q : Nat) : Int))] [(0, ((P 0 0) * (P 0 1))), (0, ((gJ P q : Nat) : Int))] _
  refine v_ic (hT _ zt_X12_countOf rfl _ _ rfl) (fun _ => ?_) (fun hc1 => absurd (show ((gJ P q : Nat) : Int) < ((P 0 0) * (P 0 1)) from hlt) hc1)
  refine v_load (v := (0, (m : Int))) (hT _ zt_X12_countOf rfl _ _ rfl) rfl rfl ?_
  refine v_load (v := (2, 121)) (hT _ zt_X12_countOf rfl _ _ rfl) rfl rfl ?_
  refine v_load (v := (0, (j : Int))) (hT _ zt_X12_countOf rfl _ _ rfl) rfl rfl ?_
  refine v_load (v := (0, ((gJ P q : Nat) : Int))) (hT _ zt_X12_countOf rfl _ _ rfl) rfl rfl ?_
  refine v_call (w := 3) [some (2, 121), some (0, (j : Int)), some (0, ((gJ P q : Nat) : Int))] hO (hT _ zt_X12_countOf rfl _ _ rfl) rfl rfl (rb_st hT hO ((j : Int)) j q rfl (by omega) gq hR hb ?_)
  show vP D T N 214 22 h [some (2, 121), some (0, (j : Int)), some (0, w), some (0, (m : Int)), some (0, ((gJ P q : Nat) : Int))] [(0, (P 3 (48 * j + q))), (0, (m : Int))] _
  refine v_load (v := (0, w)) (hT _ zt_X12_countOf rfl _ _ rfl) rfl rfl ?_
  refine v_ic (hT _ zt_X12_countOf rfl _ _ rfl) (fun hc2 => ?_) (fun hc2 => ?_)
  · have hc2 : (P 3 (48 * j + q)) = w := hc2
    refine v_push (1) (hT _ zt_X12_countOf rfl _ _ rfl) rfl ?_
    refine v_goto (hT _ zt_X12_countOf rfl _ _ rfl) ?_
    refine v_bin (w := ((m : Int) + 1)) (hT _ zt_X12_countOf rfl _ _ rfl) (hq_add (by omega) (by omega)) ?_
    refine v_store1 [some (2, 121), some (0, (j : Int)), some (0, w), some (0, ((m : Int) + 1)), some (0, ((gJ P q : Nat) : Int))] (hT _ zt_X12_countOf rfl _ _ rfl) ⟨rfl, Nat.ne_of_beq_eq_false rfl⟩ (Nat.le_of_ble_eq_true rfl) rfl ?_
    refine v_iinc (x := ((gJ P q : Nat) : Int)) (u := 1) (w := (((gJ P q : Nat) : Int) + 1)) [some (2, 121), some (0, (j : Int)), some (0, w), some (0, ((m : Int) + 1)), some (0, (((gJ P q : Nat) : Int) + 1))] (hT _ zt_X12_countOf rfl _ _ rfl) rfl rfl (Nat.le_of_ble_eq_true rfl) (vz_inc (by omega) (by omega)) rfl ?_
    refine v_goto (hT _ zt_X12_countOf rfl _ _ rfl) ?_
    exact k0 hc2
  · have hc2 : (P 3 (48 * j + q)) ≠ w := hc2
    refine v_push (0) (hT _ zt_X12_countOf rfl _ _ rfl) rfl ?_
    refine v_bin (w := ((m : Int) + 0)) (hT _ zt_X12_countOf rfl _ _ rfl) (hq_add (by omega) (by omega)) ?_
    refine v_store1 [some (2, 121), some (0, (j : Int)), some (0, w), some (0, ((m : Int) + 0)), some (0, ((gJ P q : Nat) : Int))] (hT _ zt_X12_countOf rfl _ _ rfl) ⟨rfl, Nat.ne_of_beq_eq_false rfl⟩ (Nat.le_of_ble_eq_true rfl) rfl ?_
    refine v_iinc (x := ((gJ P q : Nat) : Int)) (u := 1) (w := (((gJ P q : Nat) : Int) + 1)) [some (2, 121), some (0, (j : Int)), some (0, w), some (0, ((m : Int) + 0)), some (0, (((gJ P q : Nat) : Int) + 1))] (hT _ zt_X12_countOf rfl _ _ rfl) rfl rfl (Nat.le_of_ble_eq_true rfl) (vz_inc (by omega) (by omega)) rfl ?_
    refine v_goto (hT _ zt_X12_countOf rfl _ _ rfl) ?_
    exact k1 hc2
theorem qr_cn5e {D : zD} {T : zT} (hT : hTab T) (hO : vOK T) {N : Nat} {h : zH} {Q : zR → Prop} {P : PT} {j m n : Nat} (w : Int) (hv0 : zHv h) (hR : rBk 0 P h) (hb : fB P) (hge : ((P 0 0) * (P 0 1)) ≤ (n : Int))
    (k0 : Q (h, some (0, (m : Int)))) :
    vP D T (N + 1) 214 5 h [some (2, 121), some (0, (j : Int)), some (0, w), some (0, (m : Int)), some (0, (n : Int))] [] Q := by
  refine v_loadS (v := (0, (n : Int))) (hT _ zt_X12_countOf rfl _ _ rfl) rfl rfl ?_
  refine v_load (v := (2, 121)) (hT _ zt_X12_countOf rfl _ _ rfl) rfl rfl ?_
  refine v_call (w := 1) [some (2, 121)] hO (hT _ zt_X12_countOf rfl _ _ rfl) rfl rfl (rb_cells hT hO hR.w hR.r hb.1 ?_)
  show vP D T N 214 11 h [some (2, 121), some (0, (j : Int)), some (0, w), some (0, (m : Int)), some (0, (n : Int))] [(0, ((P 0 0) * (P 0 1))), (0, (n : Int))] _
  refine v_ic (hT _ zt_X12_countOf rfl _ _ rfl) (fun hc1 => absurd (show (n : Int) < ((P 0 0) * (P 0 1)) from hc1) (by omega)) (fun _ => ?_)
  refine v_load (v := (0, (m : Int))) (hT _ zt_X12_countOf rfl _ _ rfl) rfl rfl ?_
  refine v_ret (hT _ zt_X12_countOf rfl _ _ rfl) (Or.inl rfl) ?_
  exact k0 
theorem qs_ct0 {D : zD} {T : zT} (hT : hTab T) (hO : vOK T) {N : Nat} {h : zH} {Q : zR → Prop} {P : PT} (x y : Int) (hv0 : zHv h) (p0 : h 126 0 = (0, P 0 0)) (p1 : h 126 1 = (0, P 0 1)) (p2 : h 126 2 = (0, P 0 2)) (p3 : h 126 3 = (0, P 0 3)) (lb : (0 ≤ P 0 0 ∧ P 0 0 ≤ 8) ∧ (0 ≤ P 0 1 ∧ P 0 1 ≤ 6) ∧ (0 ≤ P 0 2 ∧ P 0 2 ≤ 3) ∧ (0 ≤ P 0 3 ∧ P 0 3 ≤ 6))
    (k0 : (x < 0) → Q (zset (zset (zset h 121 1 (0, 0)) 121 0 (0, 0)) 121 0 (0, 2), some (0, -1)))
    (k1 : (0 ≤ x) → (((P 0 2) - 1) < x) → Q (zset (zset (zset h 121 1 (0, 0)) 121 0 (0, 0)) 121 0 (0, 2), some (0, -1)))
    (k2 : (0 ≤ x) → (x ≤ ((P 0 2) - 1)) → (y < 0) → Q (zset (zset (zset h 121 1 (0, 0)) 121 0 (0, 0)) 121 0 (0, 5), some (0, -1)))
    (k3 : (0 ≤ x) → (x ≤ ((P 0 2) - 1)) → (0 ≤ y) → (3 < y) → Q (zset (zset (zset h 121 1 (0, 0)) 121 0 (0, 0)) 121 0 (0, 5), some (0, -1)))
    (k4 : (0 ≤ x) → (x ≤ ((P 0 2) - 1)) → (0 ≤ y) → (y ≤ 3) → vP D T N 213 36 (zset (zset h 121 1 (0, 0)) 121 0 (0, 0)) [some (2, 121), some (0, x), some (0, y)] [] Q) :
    vP D T N 213 0 h [some (2, 121), some (0, x), some (0, y)] [] Q := by
  refine v_load (v := (2, 121)) (hT _ zt_X12_count rfl _ _ rfl) rfl rfl ?_
  refine v_push (0) (hT _ zt_X12_count rfl _ _ rfl) rfl ?_
  refine v_putf (r := 121) hO (hT _ zt_X12_count rfl _ _ rfl) rfl (fun hf1 => ?_)
  refine v_load (v := (2, 121)) (hT _ zt_X12_count rfl _ _ rfl) rfl rfl ?_
  refine v_push (0) (hT _ zt_X12_count rfl _ _ rfl) rfl ?_
  refine v_putf (r := 121) hO (hT _ zt_X12_count rfl _ _ rfl) rfl (fun hf2 => ?_)
  refine v_load (v := (2, 121)) (hT _ zt_X12_count rfl _ _ rfl) rfl rfl ?_
  refine v_load (v := (0, x)) (hT _ zt_X12_count rfl _ _ rfl) rfl rfl ?_
  refine v_call (w := 2) [some (2, 121), some (0, x)] hO (hT _ zt_X12_count rfl _ _ rfl) rfl rfl ?_
  refine v_load (v := (0, x)) (hT _ zt_X12_isCopy rfl _ _ rfl) rfl rfl ?_
  refine v_i2l (hT _ zt_X12_isCopy rfl _ _ rfl) ?_
  refine v_push (0) (hT _ zt_X12_isCopy rfl _ _ rfl) rfl ?_
  refine v_load (v := (2, 121)) (hT _ zt_X12_isCopy rfl _ _ rfl) rfl rfl ?_
  refine v_getR (c := 126) (r := 121) (hT _ zt_X12_isCopy rfl _ _ rfl) rfl rfl rfl ?_
  refine v_push (2) (hT _ zt_X12_isCopy rfl _ _ rfl) rfl ?_
  refine v_aldV (v := (0, (P 0 2))) (r := 126) (hT _ zt_X12_isCopy rfl _ _ rfl) rfl rfl (fun _ _ _ => (Eq.trans (Eq.trans (zset_ne (fun c => absurd c.1 (by decide))) (zset_ne (fun c => absurd c.1 (by decide)))) (p2))) (fun ha3 hb4 => ?_)
  refine v_push (1) (hT _ zt_X12_isCopy rfl _ _ rfl) rfl ?_
  refine v_bin (w := ((P 0 2) - 1)) (hT _ zt_X12_isCopy rfl _ _ rfl) (hq_sub (by omega) (by omega)) ?_
  refine v_i2l (hT _ zt_X12_isCopy rfl _ _ rfl) ?_
  refine v_call (w := 6) [some (1, x), none, some (1, 0), none, some (1, ((P 0 2) - 1)), none] hO (hT _ zt_X12_isCopy rfl _ _ rfl) rfl rfl ?_
  refine v_load (v := (1, x)) (hT _ zt_X12_isIn rfl _ _ rfl) rfl rfl ?_
  refine v_load (v := (1, 0)) (hT _ zt_X12_isIn rfl _ _ rfl) rfl rfl ?_
  refine v_lif (hT _ zt_X12_isIn rfl _ _ rfl) (hT _ zt_X12_isIn rfl _ _ rfl) (fun hc5 => ?_) (fun hc5 => ?_)
  · have hc5 : x < 0 := hc5
    refine v_push (0) (hT _ zt_X12_isIn rfl _ _ rfl) rfl ?_
    refine v_ret (hT _ zt_X12_isIn rfl _ _ rfl) (Or.inl rfl) ?_
    show vP D T N 248 15 (zset (zset h 121 1 (0, 0)) 121 0 (0, 0)) [some (2, 121), some (0, x)] [(0, 0)] _
    refine v_ret (hT _ zt_X12_isCopy rfl _ _ rfl) (Or.inl rfl) ?_
    show vP D T N 213 15 (zset (zset h 121 1 (0, 0)) 121 0 (0, 0)) [some (2, 121), some (0, x), some (0, y)] [(0, 0)] _
    refine v_if (hT _ zt_X12_count rfl _ _ rfl) (fun _ => ?_) (fun hc6 => absurd (show (0 : Int) = 0 from (by omega)) hc6)
    refine v_load (v := (2, 121)) (hT _ zt_X12_count rfl _ _ rfl) rfl rfl ?_
    refine v_push (2) (hT _ zt_X12_count rfl _ _ rfl) rfl ?_
    refine v_call (w := 2) [some (2, 121), some (0, 2)] hO (hT _ zt_X12_count rfl _ _ rfl) rfl rfl ?_
    refine v_load (v := (2, 121)) (hT _ zt_X12_refuse rfl _ _ rfl) rfl rfl ?_
    refine v_load (v := (0, 2)) (hT _ zt_X12_refuse rfl _ _ rfl) rfl rfl ?_
    refine v_putf (r := 121) hO (hT _ zt_X12_refuse rfl _ _ rfl) rfl (fun hf7 => ?_)
    refine v_push (-1) (hT _ zt_X12_refuse rfl _ _ rfl) rfl ?_
    refine v_ret (hT _ zt_X12_refuse rfl _ _ rfl) (Or.inl rfl) ?_
    show vP D T N 213 23 (zset (zset (zset h 121 1 (0, 0)) 121 0 (0, 0)) 121 0 (0, 2)) [some (2, 121), some (0, x), some (0, y)] [(0, -1)] _
    refine v_ret (hT _ zt_X12_count rfl _ _ rfl) (Or.inl rfl) ?_
    exact k0 hc5
  · have hc5 : 0 ≤ x := Int.not_lt.mp hc5
    refine v_load (v := (1, x)) (hT _ zt_X12_isIn rfl _ _ rfl) rfl rfl ?_
    refine v_load (v := (1, ((P 0 2) - 1))) (hT _ zt_X12_isIn rfl _ _ rfl) rfl rfl ?_
    refine v_lif (hT _ zt_X12_isIn rfl _ _ rfl) (hT _ zt_X12_isIn rfl _ _ rfl) (fun hc8 => ?_) (fun hc8 => ?_)
    · have hc8 : ((P 0 2) - 1) < x := hc8
      refine v_push (0) (hT _ zt_X12_isIn rfl _ _ rfl) rfl ?_
      refine v_ret (hT _ zt_X12_isIn rfl _ _ rfl) (Or.inl rfl) ?_
      show vP D T N 248 15 (zset (zset h 121 1 (0, 0)) 121 0 (0, 0)) [some (2, 121), some (0, x)] [(0, 0)] _
      refine v_ret (hT _ zt_X12_isCopy rfl _ _ rfl) (Or.inl rfl) ?_
      show vP D T N 213 15 (zset (zset h 121 1 (0, 0)) 121 0 (0, 0)) [some (2, 121), some (0, x), some (0, y)] [(0, 0)] _
      refine v_if (hT _ zt_X12_count rfl _ _ rfl) (fun _ => ?_) (fun hc9 => absurd (show (0 : Int) = 0 from (by omega)) hc9)
      refine v_load (v := (2, 121)) (hT _ zt_X12_count rfl _ _ rfl) rfl rfl ?_
      refine v_push (2) (hT _ zt_X12_count rfl _ _ rfl) rfl ?_
      refine v_call (w := 2) [some (2, 121), some (0, 2)] hO (hT _ zt_X12_count rfl _ _ rfl) rfl rfl ?_
      refine v_load (v := (2, 121)) (hT _ zt_X12_refuse rfl _ _ rfl) rfl rfl ?_
      refine v_load (v := (0, 2)) (hT _ zt_X12_refuse rfl _ _ rfl) rfl rfl ?_
      refine v_putf (r := 121) hO (hT _ zt_X12_refuse rfl _ _ rfl) rfl (fun hf10 => ?_)
      refine v_push (-1) (hT _ zt_X12_refuse rfl _ _ rfl) rfl ?_
      refine v_ret (hT _ zt_X12_refuse rfl _ _ rfl) (Or.inl rfl) ?_
      show vP D T N 213 23 (zset (zset (zset h 121 1 (0, 0)) 121 0 (0, 0)) 121 0 (0, 2)) [some (2, 121), some (0, x), some (0, y)] [(0, -1)] _
      refine v_ret (hT _ zt_X12_count rfl _ _ rfl) (Or.inl rfl) ?_
      exact k1 hc5 hc8
    · have hc8 : x ≤ ((P 0 2) - 1) := Int.not_lt.mp hc8
      refine v_push (1) (hT _ zt_X12_isIn rfl _ _ rfl) rfl ?_
      refine v_goto (hT _ zt_X12_isIn rfl _ _ rfl) ?_
      refine v_ret (hT _ zt_X12_isIn rfl _ _ rfl) (Or.inl rfl) ?_
      show vP D T N 248 15 (zset (zset h 121 1 (0, 0)) 121 0 (0, 0)) [some (2, 121), some (0, x)] [(0, 1)] _
      refine v_ret (hT _ zt_X12_isCopy rfl _ _ rfl) (Or.inl rfl) ?_
      show vP D T N 213 15 (zset (zset h 121 1 (0, 0)) 121 0 (0, 0)) [some (2, 121), some (0, x), some (0, y)] [(0, 1)] _
      refine v_if (hT _ zt_X12_count rfl _ _ rfl) (fun hc11 => absurd (show (1 : Int) = 0 from hc11) (by omega)) (fun _ => ?_)
      refine v_load (v := (0, y)) (hT _ zt_X12_count rfl _ _ rfl) rfl rfl ?_
      refine v_i2l (hT _ zt_X12_count rfl _ _ rfl) ?_
      refine v_push (0) (hT _ zt_X12_count rfl _ _ rfl) rfl ?_
      refine v_push (3) (hT _ zt_X12_count rfl _ _ rfl) rfl ?_
      refine v_call (w := 6) [some (1, y), none, some (1, 0), none, some (1, 3), none] hO (hT _ zt_X12_count rfl _ _ rfl) rfl rfl ?_
      refine v_load (v := (1, y)) (hT _ zt_X12_isIn rfl _ _ rfl) rfl rfl ?_
      refine v_load (v := (1, 0)) (hT _ zt_X12_isIn rfl _ _ rfl) rfl rfl ?_
      refine v_lif (hT _ zt_X12_isIn rfl _ _ rfl) (hT _ zt_X12_isIn rfl _ _ rfl) (fun hc12 => ?_) (fun hc12 => ?_)
      · have hc12 : y < 0 := hc12
        refine v_push (0) (hT _ zt_X12_isIn rfl _ _ rfl) rfl ?_
        refine v_ret (hT _ zt_X12_isIn rfl _ _ rfl) (Or.inl rfl) ?_
        show vP D T N 213 33 (zset (zset h 121 1 (0, 0)) 121 0 (0, 0)) [some (2, 121), some (0, x), some (0, y)] [(0, 0)] _
        refine v_if (hT _ zt_X12_count rfl _ _ rfl) (fun _ => ?_) (fun hc13 => absurd (show (0 : Int) = 0 from (by omega)) hc13)
        refine v_load (v := (2, 121)) (hT _ zt_X12_count rfl _ _ rfl) rfl rfl ?_
        refine v_push (5) (hT _ zt_X12_count rfl _ _ rfl) rfl ?_
        refine v_call (w := 2) [some (2, 121), some (0, 5)] hO (hT _ zt_X12_count rfl _ _ rfl) rfl rfl ?_
        refine v_load (v := (2, 121)) (hT _ zt_X12_refuse rfl _ _ rfl) rfl rfl ?_
        refine v_load (v := (0, 5)) (hT _ zt_X12_refuse rfl _ _ rfl) rfl rfl ?_
        refine v_putf (r := 121) hO (hT _ zt_X12_refuse rfl _ _ rfl) rfl (fun hf14 => ?_)
        refine v_push (-1) (hT _ zt_X12_refuse rfl _ _ rfl) rfl ?_
        refine v_ret (hT _ zt_X12_refuse rfl _ _ rfl) (Or.inl rfl) ?_
        show vP D T N 213 50 (zset (zset (zset h 121 1 (0, 0)) 121 0 (0, 0)) 121 0 (0, 5)) [some (2, 121), some (0, x), some (0, y)] [(0, -1)] _
        refine v_ret (hT _ zt_X12_count rfl _ _ rfl) (Or.inl rfl) ?_
        exact k2 hc5 hc8 hc12
      · have hc12 : 0 ≤ y := Int.not_lt.mp hc12
        refine v_load (v := (1, y)) (hT _ zt_X12_isIn rfl _ _ rfl) rfl rfl ?_
        refine v_load (v := (1, 3)) (hT _ zt_X12_isIn rfl _ _ rfl) rfl rfl ?_
        refine v_lif (hT _ zt_X12_isIn rfl _ _ rfl) (hT _ zt_X12_isIn rfl _ _ rfl) (fun hc15 => ?_) (fun hc15 => ?_)
        · have hc15 : 3 < y := hc15
          refine v_push (0) (hT _ zt_X12_isIn rfl _ _ rfl) rfl ?_
          refine v_ret (hT _ zt_X12_isIn rfl _ _ rfl) (Or.inl rfl) ?_
          show vP D T N 213 33 (zset (zset h 121 1 (0, 0)) 121 0 (0, 0)) [some (2, 121), some (0, x), some (0, y)] [(0, 0)] _
          refine v_if (hT _ zt_X12_count rfl _ _ rfl) (fun _ => ?_) (fun hc16 => absurd (show (0 : Int) = 0 from (by omega)) hc16)
          refine v_load (v := (2, 121)) (hT _ zt_X12_count rfl _ _ rfl) rfl rfl ?_
          refine v_push (5) (hT _ zt_X12_count rfl _ _ rfl) rfl ?_
          refine v_call (w := 2) [some (2, 121), some (0, 5)] hO (hT _ zt_X12_count rfl _ _ rfl) rfl rfl ?_
          refine v_load (v := (2, 121)) (hT _ zt_X12_refuse rfl _ _ rfl) rfl rfl ?_
          refine v_load (v := (0, 5)) (hT _ zt_X12_refuse rfl _ _ rfl) rfl rfl ?_
          refine v_putf (r := 121) hO (hT _ zt_X12_refuse rfl _ _ rfl) rfl (fun hf17 => ?_)
          refine v_push (-1) (hT _ zt_X12_refuse rfl _ _ rfl) rfl ?_
          refine v_ret (hT _ zt_X12_refuse rfl _ _ rfl) (Or.inl rfl) ?_
          show vP D T N 213 50 (zset (zset (zset h 121 1 (0, 0)) 121 0 (0, 0)) 121 0 (0, 5)) [some (2, 121), some (0, x), some (0, y)] [(0, -1)] _
          refine v_ret (hT _ zt_X12_count rfl _ _ rfl) (Or.inl rfl) ?_
          exact k3 hc5 hc8 hc12 hc15
        · have hc15 : y ≤ 3 := Int.not_lt.mp hc15
          refine v_push (1) (hT _ zt_X12_isIn rfl _ _ rfl) rfl ?_
          refine v_goto (hT _ zt_X12_isIn rfl _ _ rfl) ?_
          refine v_ret (hT _ zt_X12_isIn rfl _ _ rfl) (Or.inl rfl) ?_
          show vP D T N 213 33 (zset (zset h 121 1 (0, 0)) 121 0 (0, 0)) [some (2, 121), some (0, x), some (0, y)] [(0, 1)] _
          refine v_if (hT _ zt_X12_count rfl _ _ rfl) (fun hc18 => absurd (show (1 : Int) = 0 from hc18) (by omega)) (fun _ => ?_)
          exact k4 hc5 hc8 hc12 hc15
theorem qs_ct36 {D : zD} {T : zT} (hT : hTab T) (hO : vOK T) {N : Nat} {h : zH} {Q : zR → Prop} {j : Nat} (w : Int) (hv0 : zHv h)
    (k0 : vP D T N 214 0 h [some (2, 121), some (0, (j : Int)), some (0, w), none, none] [] (fun r1 => vP D T N 213 42 r1.1 [some (2, 121), some (0, (j : Int)), some (0, w)] (zpush r1.2 []) Q)) :
    vP D T N 213 36 h [some (2, 121), some (0, (j : Int)), some (0, w)] [] Q := by
  refine v_load (v := (2, 121)) (hT _ zt_X12_count rfl _ _ rfl) rfl rfl ?_
  refine v_load (v := (0, (j : Int))) (hT _ zt_X12_count rfl _ _ rfl) rfl rfl ?_
  refine v_load (v := (0, w)) (hT _ zt_X12_count rfl _ _ rfl) rfl rfl ?_
  refine v_call (w := 5) [some (2, 121), some (0, (j : Int)), some (0, w), none, none] hO (hT _ zt_X12_count rfl _ _ rfl) rfl rfl ?_
  exact k0 
theorem qs_ct42 {D : zD} {T : zT} (hT : hTab T) (hO : vOK T) {N : Nat} {h : zH} {Q : zR → Prop} {j : Nat} (w v : Int) (hv0 : zHv h)
    (k0 : Q (h, some (0, v))) :
    vP D T N 213 42 h [some (2, 121), some (0, (j : Int)), some (0, w)] [(0, v)] Q := by
  refine v_goto (hT _ zt_X12_count rfl _ _ rfl) ?_
  refine v_ret (hT _ zt_X12_count rfl _ _ rfl) (Or.inl rfl) ?_
  exact k0 
theorem qs_sn0 {D : zD} {T : zT} (hT : hTab T) (hO : vOK T) {N : Nat} {h : zH} {Q : zR → Prop} {P : PT} (x y : Int) (hv0 : zHv h) (p0 : h 126 0 = (0, P 0 0)) (p1 : h 126 1 = (0, P 0 1)) (p2 : h 126 2 = (0, P 0 2)) (p3 : h 126 3 = (0, P 0 3)) (lb : (0 ≤ P 0 0 ∧ P 0 0 ≤ 8) ∧ (0 ≤ P 0 1 ∧ P 0 1 ≤ 6) ∧ (0 ≤ P 0 2 ∧ P 0 2 ≤ 3) ∧ (0 ≤ P 0 3 ∧ P 0 3 ≤ 6))
    (k0 : (x < 0) → Q (zset (zset (zset h 121 1 (0, 0)) 121 0 (0, 0)) 121 0 (0, 2), some (0, -1)))
    (k1 : (0 ≤ x) → (((P 0 3) - 1) < x) → Q (zset (zset (zset h 121 1 (0, 0)) 121 0 (0, 0)) 121 0 (0, 2), some (0, -1)))
    (k2 : (0 ≤ x) → (x ≤ ((P 0 3) - 1)) → (y < 0) → Q (zset (zset (zset h 121 1 (0, 0)) 121 0 (0, 0)) 121 0 (0, 2), some (0, -1)))
    (k3 : (0 ≤ x) → (x ≤ ((P 0 3) - 1)) → (0 ≤ y) → (((P 0 2) - 1) < y) → Q (zset (zset (zset h 121 1 (0, 0)) 121 0 (0, 0)) 121 0 (0, 2), some (0, -1)))
    (k4 : (0 ≤ x) → (x ≤ ((P 0 3) - 1)) → (0 ≤ y) → (y ≤ ((P 0 2) - 1)) → vP D T N 309 32 (zset (zset h 121 1 (0, 0)) 121 0 (0, 0)) [some (2, 121), some (0, x), some (0, y), none, none] [] Q) :
    vP D T N 309 0 h [some (2, 121), some (0, x), some (0, y), none, none] [] Q := by
  refine v_load (v := (2, 121)) (hT _ zt_X12_seen rfl _ _ rfl) rfl rfl ?_
  refine v_push (0) (hT _ zt_X12_seen rfl _ _ rfl) rfl ?_
  refine v_putf (r := 121) hO (hT _ zt_X12_seen rfl _ _ rfl) rfl (fun hf1 => ?_)
  refine v_load (v := (2, 121)) (hT _ zt_X12_seen rfl _ _ rfl) rfl rfl ?_
  refine v_push (0) (hT _ zt_X12_seen rfl _ _ rfl) rfl ?_
  refine v_putf (r := 121) hO (hT _ zt_X12_seen rfl _ _ rfl) rfl (fun hf2 => ?_)
  refine v_load (v := (2, 121)) (hT _ zt_X12_seen rfl _ _ rfl) rfl rfl ?_
  refine v_load (v := (0, x)) (hT _ zt_X12_seen rfl _ _ rfl) rfl rfl ?_
  refine v_call (w := 2) [some (2, 121), some (0, x)] hO (hT _ zt_X12_seen rfl _ _ rfl) rfl rfl ?_
  refine v_load (v := (0, x)) (hT _ zt_X12_isCompanyAt rfl _ _ rfl) rfl rfl ?_
  refine v_i2l (hT _ zt_X12_isCompanyAt rfl _ _ rfl) ?_
  refine v_push (0) (hT _ zt_X12_isCompanyAt rfl _ _ rfl) rfl ?_
  refine v_load (v := (2, 121)) (hT _ zt_X12_isCompanyAt rfl _ _ rfl) rfl rfl ?_
  refine v_getR (c := 126) (r := 121) (hT _ zt_X12_isCompanyAt rfl _ _ rfl) rfl rfl rfl ?_
  refine v_push (3) (hT _ zt_X12_isCompanyAt rfl _ _ rfl) rfl ?_
  refine v_aldV (v := (0, (P 0 3))) (r := 126) (hT _ zt_X12_isCompanyAt rfl _ _ rfl) rfl rfl (fun _ _ _ => (Eq.trans (Eq.trans (zset_ne (fun c => absurd c.1 (by decide))) (zset_ne (fun c => absurd c.1 (by decide)))) (p3))) (fun ha3 hb4 => ?_)
  refine v_push (1) (hT _ zt_X12_isCompanyAt rfl _ _ rfl) rfl ?_
  refine v_bin (w := ((P 0 3) - 1)) (hT _ zt_X12_isCompanyAt rfl _ _ rfl) (hq_sub (by omega) (by omega)) ?_
  refine v_i2l (hT _ zt_X12_isCompanyAt rfl _ _ rfl) ?_
  refine v_call (w := 6) [some (1, x), none, some (1, 0), none, some (1, ((P 0 3) - 1)), none] hO (hT _ zt_X12_isCompanyAt rfl _ _ rfl) rfl rfl ?_
  refine v_load (v := (1, x)) (hT _ zt_X12_isIn rfl _ _ rfl) rfl rfl ?_
  refine v_load (v := (1, 0)) (hT _ zt_X12_isIn rfl _ _ rfl) rfl rfl ?_
  refine v_lif (hT _ zt_X12_isIn rfl _ _ rfl) (hT _ zt_X12_isIn rfl _ _ rfl) (fun hc5 => ?_) (fun hc5 => ?_)
  · have hc5 : x < 0 := hc5
    refine v_push (0) (hT _ zt_X12_isIn rfl _ _ rfl) rfl ?_
    refine v_ret (hT _ zt_X12_isIn rfl _ _ rfl) (Or.inl rfl) ?_
    show vP D T N 246 15 (zset (zset h 121 1 (0, 0)) 121 0 (0, 0)) [some (2, 121), some (0, x)] [(0, 0)] _
    refine v_ret (hT _ zt_X12_isCompanyAt rfl _ _ rfl) (Or.inl rfl) ?_
    show vP D T N 309 15 (zset (zset h 121 1 (0, 0)) 121 0 (0, 0)) [some (2, 121), some (0, x), some (0, y), none, none] [(0, 0)] _
    refine v_if (hT _ zt_X12_seen rfl _ _ rfl) (fun _ => ?_) (fun hc6 => absurd (show (0 : Int) = 0 from (by omega)) hc6)
    refine v_load (v := (2, 121)) (hT _ zt_X12_seen rfl _ _ rfl) rfl rfl ?_
    refine v_push (2) (hT _ zt_X12_seen rfl _ _ rfl) rfl ?_
    refine v_call (w := 2) [some (2, 121), some (0, 2)] hO (hT _ zt_X12_seen rfl _ _ rfl) rfl rfl ?_
    refine v_load (v := (2, 121)) (hT _ zt_X12_refuse rfl _ _ rfl) rfl rfl ?_
    refine v_load (v := (0, 2)) (hT _ zt_X12_refuse rfl _ _ rfl) rfl rfl ?_
    refine v_putf (r := 121) hO (hT _ zt_X12_refuse rfl _ _ rfl) rfl (fun hf7 => ?_)
    refine v_push (-1) (hT _ zt_X12_refuse rfl _ _ rfl) rfl ?_
    refine v_ret (hT _ zt_X12_refuse rfl _ _ rfl) (Or.inl rfl) ?_
    show vP D T N 309 31 (zset (zset (zset h 121 1 (0, 0)) 121 0 (0, 0)) 121 0 (0, 2)) [some (2, 121), some (0, x), some (0, y), none, none] [(0, -1)] _
    refine v_ret (hT _ zt_X12_seen rfl _ _ rfl) (Or.inl rfl) ?_
    exact k0 hc5
  · have hc5 : 0 ≤ x := Int.not_lt.mp hc5
    refine v_load (v := (1, x)) (hT _ zt_X12_isIn rfl _ _ rfl) rfl rfl ?_
    refine v_load (v := (1, ((P 0 3) - 1))) (hT _ zt_X12_isIn rfl _ _ rfl) rfl rfl ?_
    refine v_lif (hT _ zt_X12_isIn rfl _ _ rfl) (hT _ zt_X12_isIn rfl _ _ rfl) (fun hc8 => ?_) (fun hc8 => ?_)
    · have hc8 : ((P 0 3) - 1) < x := hc8
      refine v_push (0) (hT _ zt_X12_isIn rfl _ _ rfl) rfl ?_
      refine v_ret (hT _ zt_X12_isIn rfl _ _ rfl) (Or.inl rfl) ?_
      show vP D T N 246 15 (zset (zset h 121 1 (0, 0)) 121 0 (0, 0)) [some (2, 121), some (0, x)] [(0, 0)] _
      refine v_ret (hT _ zt_X12_isCompanyAt rfl _ _ rfl) (Or.inl rfl) ?_
      show vP D T N 309 15 (zset (zset h 121 1 (0, 0)) 121 0 (0, 0)) [some (2, 121), some (0, x), some (0, y), none, none] [(0, 0)] _
      refine v_if (hT _ zt_X12_seen rfl _ _ rfl) (fun _ => ?_) (fun hc9 => absurd (show (0 : Int) = 0 from (by omega)) hc9)
      refine v_load (v := (2, 121)) (hT _ zt_X12_seen rfl _ _ rfl) rfl rfl ?_
      refine v_push (2) (hT _ zt_X12_seen rfl _ _ rfl) rfl ?_
      refine v_call (w := 2) [some (2, 121), some (0, 2)] hO (hT _ zt_X12_seen rfl _ _ rfl) rfl rfl ?_
      refine v_load (v := (2, 121)) (hT _ zt_X12_refuse rfl _ _ rfl) rfl rfl ?_
      refine v_load (v := (0, 2)) (hT _ zt_X12_refuse rfl _ _ rfl) rfl rfl ?_
      refine v_putf (r := 121) hO (hT _ zt_X12_refuse rfl _ _ rfl) rfl (fun hf10 => ?_)
      refine v_push (-1) (hT _ zt_X12_refuse rfl _ _ rfl) rfl ?_
      refine v_ret (hT _ zt_X12_refuse rfl _ _ rfl) (Or.inl rfl) ?_
      show vP D T N 309 31 (zset (zset (zset h 121 1 (0, 0)) 121 0 (0, 0)) 121 0 (0, 2)) [some (2, 121), some (0, x), some (0, y), none, none] [(0, -1)] _
      refine v_ret (hT _ zt_X12_seen rfl _ _ rfl) (Or.inl rfl) ?_
      exact k1 hc5 hc8
    · have hc8 : x ≤ ((P 0 3) - 1) := Int.not_lt.mp hc8
      refine v_push (1) (hT _ zt_X12_isIn rfl _ _ rfl) rfl ?_
      refine v_goto (hT _ zt_X12_isIn rfl _ _ rfl) ?_
      refine v_ret (hT _ zt_X12_isIn rfl _ _ rfl) (Or.inl rfl) ?_
      show vP D T N 246 15 (zset (zset h 121 1 (0, 0)) 121 0 (0, 0)) [some (2, 121), some (0, x)] [(0, 1)] _
      refine v_ret (hT _ zt_X12_isCompanyAt rfl _ _ rfl) (Or.inl rfl) ?_
      show vP D T N 309 15 (zset (zset h 121 1 (0, 0)) 121 0 (0, 0)) [some (2, 121), some (0, x), some (0, y), none, none] [(0, 1)] _
      refine v_if (hT _ zt_X12_seen rfl _ _ rfl) (fun hc11 => absurd (show (1 : Int) = 0 from hc11) (by omega)) (fun _ => ?_)
      refine v_load (v := (2, 121)) (hT _ zt_X12_seen rfl _ _ rfl) rfl rfl ?_
      refine v_load (v := (0, y)) (hT _ zt_X12_seen rfl _ _ rfl) rfl rfl ?_
      refine v_call (w := 2) [some (2, 121), some (0, y)] hO (hT _ zt_X12_seen rfl _ _ rfl) rfl rfl ?_
      refine v_load (v := (0, y)) (hT _ zt_X12_isCopy rfl _ _ rfl) rfl rfl ?_
      refine v_i2l (hT _ zt_X12_isCopy rfl _ _ rfl) ?_
      refine v_push (0) (hT _ zt_X12_isCopy rfl _ _ rfl) rfl ?_
      refine v_load (v := (2, 121)) (hT _ zt_X12_isCopy rfl _ _ rfl) rfl rfl ?_
      refine v_getR (c := 126) (r := 121) (hT _ zt_X12_isCopy rfl _ _ rfl) rfl rfl rfl ?_
      refine v_push (2) (hT _ zt_X12_isCopy rfl _ _ rfl) rfl ?_
      refine v_aldV (v := (0, (P 0 2))) (r := 126) (hT _ zt_X12_isCopy rfl _ _ rfl) rfl rfl (fun _ _ _ => (Eq.trans (Eq.trans (zset_ne (fun c => absurd c.1 (by decide))) (zset_ne (fun c => absurd c.1 (by decide)))) (p2))) (fun ha12 hb13 => ?_)
      refine v_push (1) (hT _ zt_X12_isCopy rfl _ _ rfl) rfl ?_
      refine v_bin (w := ((P 0 2) - 1)) (hT _ zt_X12_isCopy rfl _ _ rfl) (hq_sub (by omega) (by omega)) ?_
      refine v_i2l (hT _ zt_X12_isCopy rfl _ _ rfl) ?_
      refine v_call (w := 6) [some (1, y), none, some (1, 0), none, some (1, ((P 0 2) - 1)), none] hO (hT _ zt_X12_isCopy rfl _ _ rfl) rfl rfl ?_
      refine v_load (v := (1, y)) (hT _ zt_X12_isIn rfl _ _ rfl) rfl rfl ?_
      refine v_load (v := (1, 0)) (hT _ zt_X12_isIn rfl _ _ rfl) rfl rfl ?_
      refine v_lif (hT _ zt_X12_isIn rfl _ _ rfl) (hT _ zt_X12_isIn rfl _ _ rfl) (fun hc14 => ?_) (fun hc14 => ?_)
      · have hc14 : y < 0 := hc14
        refine v_push (0) (hT _ zt_X12_isIn rfl _ _ rfl) rfl ?_
        refine v_ret (hT _ zt_X12_isIn rfl _ _ rfl) (Or.inl rfl) ?_
        show vP D T N 248 15 (zset (zset h 121 1 (0, 0)) 121 0 (0, 0)) [some (2, 121), some (0, y)] [(0, 0)] _
        refine v_ret (hT _ zt_X12_isCopy rfl _ _ rfl) (Or.inl rfl) ?_
        show vP D T N 309 23 (zset (zset h 121 1 (0, 0)) 121 0 (0, 0)) [some (2, 121), some (0, x), some (0, y), none, none] [(0, 0)] _
        refine v_if (hT _ zt_X12_seen rfl _ _ rfl) (fun _ => ?_) (fun hc15 => absurd (show (0 : Int) = 0 from (by omega)) hc15)
        refine v_load (v := (2, 121)) (hT _ zt_X12_seen rfl _ _ rfl) rfl rfl ?_
        refine v_push (2) (hT _ zt_X12_seen rfl _ _ rfl) rfl ?_
        refine v_call (w := 2) [some (2, 121), some (0, 2)] hO (hT _ zt_X12_seen rfl _ _ rfl) rfl rfl ?_
        refine v_load (v := (2, 121)) (hT _ zt_X12_refuse rfl _ _ rfl) rfl rfl ?_
        refine v_load (v := (0, 2)) (hT _ zt_X12_refuse rfl _ _ rfl) rfl rfl ?_
        refine v_putf (r := 121) hO (hT _ zt_X12_refuse rfl _ _ rfl) rfl (fun hf16 => ?_)
        refine v_push (-1) (hT _ zt_X12_refuse rfl _ _ rfl) rfl ?_
        refine v_ret (hT _ zt_X12_refuse rfl _ _ rfl) (Or.inl rfl) ?_
        show vP D T N 309 31 (zset (zset (zset h 121 1 (0, 0)) 121 0 (0, 0)) 121 0 (0, 2)) [some (2, 121), some (0, x), some (0, y), none, none] [(0, -1)] _
        refine v_ret (hT _ zt_X12_seen rfl _ _ rfl) (Or.inl rfl) ?_
        exact k2 hc5 hc8 hc14
      · have hc14 : 0 ≤ y := Int.not_lt.mp hc14
        refine v_load (v := (1, y)) (hT _ zt_X12_isIn rfl _ _ rfl) rfl rfl ?_
        refine v_load (v := (1, ((P 0 2) - 1))) (hT _ zt_X12_isIn rfl _ _ rfl) rfl rfl ?_
        refine v_lif (hT _ zt_X12_isIn rfl _ _ rfl) (hT _ zt_X12_isIn rfl _ _ rfl) (fun hc17 => ?_) (fun hc17 => ?_)
        · have hc17 : ((P 0 2) - 1) < y := hc17
          refine v_push (0) (hT _ zt_X12_isIn rfl _ _ rfl) rfl ?_
          refine v_ret (hT _ zt_X12_isIn rfl _ _ rfl) (Or.inl rfl) ?_
          show vP D T N 248 15 (zset (zset h 121 1 (0, 0)) 121 0 (0, 0)) [some (2, 121), some (0, y)] [(0, 0)] _
          refine v_ret (hT _ zt_X12_isCopy rfl _ _ rfl) (Or.inl rfl) ?_
          show vP D T N 309 23 (zset (zset h 121 1 (0, 0)) 121 0 (0, 0)) [some (2, 121), some (0, x), some (0, y), none, none] [(0, 0)] _
          refine v_if (hT _ zt_X12_seen rfl _ _ rfl) (fun _ => ?_) (fun hc18 => absurd (show (0 : Int) = 0 from (by omega)) hc18)
          refine v_load (v := (2, 121)) (hT _ zt_X12_seen rfl _ _ rfl) rfl rfl ?_
          refine v_push (2) (hT _ zt_X12_seen rfl _ _ rfl) rfl ?_
          refine v_call (w := 2) [some (2, 121), some (0, 2)] hO (hT _ zt_X12_seen rfl _ _ rfl) rfl rfl ?_
          refine v_load (v := (2, 121)) (hT _ zt_X12_refuse rfl _ _ rfl) rfl rfl ?_
          refine v_load (v := (0, 2)) (hT _ zt_X12_refuse rfl _ _ rfl) rfl rfl ?_
          refine v_putf (r := 121) hO (hT _ zt_X12_refuse rfl _ _ rfl) rfl (fun hf19 => ?_)
          refine v_push (-1) (hT _ zt_X12_refuse rfl _ _ rfl) rfl ?_
          refine v_ret (hT _ zt_X12_refuse rfl _ _ rfl) (Or.inl rfl) ?_
          show vP D T N 309 31 (zset (zset (zset h 121 1 (0, 0)) 121 0 (0, 0)) 121 0 (0, 2)) [some (2, 121), some (0, x), some (0, y), none, none] [(0, -1)] _
          refine v_ret (hT _ zt_X12_seen rfl _ _ rfl) (Or.inl rfl) ?_
          exact k3 hc5 hc8 hc14 hc17
        · have hc17 : y ≤ ((P 0 2) - 1) := Int.not_lt.mp hc17
          refine v_push (1) (hT _ zt_X12_isIn rfl _ _ rfl) rfl ?_
          refine v_goto (hT _ zt_X12_isIn rfl _ _ rfl) ?_
          refine v_ret (hT _ zt_X12_isIn rfl _ _ rfl) (Or.inl rfl) ?_
          show vP D T N 248 15 (zset (zset h 121 1 (0, 0)) 121 0 (0, 0)) [some (2, 121), some (0, y)] [(0, 1)] _
          refine v_ret (hT _ zt_X12_isCopy rfl _ _ rfl) (Or.inl rfl) ?_
          show vP D T N 309 23 (zset (zset h 121 1 (0, 0)) 121 0 (0, 0)) [some (2, 121), some (0, x), some (0, y), none, none] [(0, 1)] _
          refine v_if (hT _ zt_X12_seen rfl _ _ rfl) (fun hc20 => absurd (show (1 : Int) = 0 from hc20) (by omega)) (fun _ => ?_)
          exact k4 hc5 hc8 hc14 hc17
theorem qs_sn32 {D : zD} {T : zT} (hT : hTab T) (hO : vOK T) {N : Nat} {h : zH} {Q : zR → Prop} {a j : Nat} (hv0 : zHv h)
    (k0 : vP D T N 323 0 h [some (2, 121), some (0, (a : Int))] [] (fun r1 => vP D T N 309 37 r1.1 [some (2, 121), some (0, (a : Int)), some (0, (j : Int)), none, none] (zpush r1.2 []) Q)) :
    vP D T N 309 32 h [some (2, 121), some (0, (a : Int)), some (0, (j : Int)), none, none] [] Q := by
  refine v_load (v := (2, 121)) (hT _ zt_X12_seen rfl _ _ rfl) rfl rfl ?_
  refine v_load (v := (0, (a : Int))) (hT _ zt_X12_seen rfl _ _ rfl) rfl rfl ?_
  refine v_call (w := 2) [some (2, 121), some (0, (a : Int))] hO (hT _ zt_X12_seen rfl _ _ rfl) rfl rfl ?_
  exact k0 
theorem qs_sn37n {D : zD} {T : zT} (hT : hTab T) (hO : vOK T) {N : Nat} {h : zH} {Q : zR → Prop} {a j : Nat} (hv0 : zHv h)
    (k0 : Q (zset h 121 0 (0, 9), some (0, -1))) :
    vP D T N 309 37 h [some (2, 121), some (0, (a : Int)), some (0, (j : Int)), none, none] [(0, 1000000)] Q := by
  refine v_push (1000000) (hT _ zt_X12_seen rfl _ _ rfl) rfl ?_
  refine v_ic (hT _ zt_X12_seen rfl _ _ rfl) (fun _ => ?_) (fun hc1 => absurd (show (1000000 : Int) = 1000000 from (by omega)) hc1)
  refine v_load (v := (2, 121)) (hT _ zt_X12_seen rfl _ _ rfl) rfl rfl ?_
  refine v_push (9) (hT _ zt_X12_seen rfl _ _ rfl) rfl ?_
  refine v_call (w := 2) [some (2, 121), some (0, 9)] hO (hT _ zt_X12_seen rfl _ _ rfl) rfl rfl ?_
  refine v_load (v := (2, 121)) (hT _ zt_X12_refuse rfl _ _ rfl) rfl rfl ?_
  refine v_load (v := (0, 9)) (hT _ zt_X12_refuse rfl _ _ rfl) rfl rfl ?_
  refine v_putf (r := 121) hO (hT _ zt_X12_refuse rfl _ _ rfl) rfl (fun hf2 => ?_)
  refine v_push (-1) (hT _ zt_X12_refuse rfl _ _ rfl) rfl ?_
  refine v_ret (hT _ zt_X12_refuse rfl _ _ rfl) (Or.inl rfl) ?_
  show vP D T N 309 49 (zset h 121 0 (0, 9)) [some (2, 121), some (0, (a : Int)), some (0, (j : Int)), none, none] [(0, -1)] _
  refine v_ret (hT _ zt_X12_seen rfl _ _ rfl) (Or.inl rfl) ?_
  exact k0 
theorem qs_sn37 {D : zD} {T : zT} (hT : hTab T) (hO : vOK T) {N : Nat} {h : zH} {Q : zR → Prop} {a j : Nat} (w : Int) (hv0 : zHv h) (hw : w ≠ 1000000)
    (k0 : vP D T N 309 55 h [some (2, 121), some (0, (a : Int)), some (0, (j : Int)), some (0, 0), some (0, 0)] [] Q) :
    vP D T N 309 37 h [some (2, 121), some (0, (a : Int)), some (0, (j : Int)), none, none] [(0, w)] Q := by
  refine v_push (1000000) (hT _ zt_X12_seen rfl _ _ rfl) rfl ?_
  refine v_ic (hT _ zt_X12_seen rfl _ _ rfl) (fun hc1 => absurd (show w = 1000000 from hc1) hw) (fun _ => ?_)
  refine v_push (0) (hT _ zt_X12_seen rfl _ _ rfl) rfl ?_
  refine v_store1 [some (2, 121), some (0, (a : Int)), some (0, (j : Int)), some (0, 0), none] (hT _ zt_X12_seen rfl _ _ rfl) ⟨rfl, Nat.ne_of_beq_eq_false rfl⟩ (Nat.le_of_ble_eq_true rfl) rfl ?_
  refine v_push (0) (hT _ zt_X12_seen rfl _ _ rfl) rfl ?_
  refine v_store1 [some (2, 121), some (0, (a : Int)), some (0, (j : Int)), some (0, 0), some (0, 0)] (hT _ zt_X12_seen rfl _ _ rfl) ⟨rfl, Nat.ne_of_beq_eq_false rfl⟩ (Nat.le_of_ble_eq_true rfl) rfl ?_
  exact k0 
theorem qs_sn55 {D : zD} {T : zT} (hT : hTab T) (hO : vOK T) {N : Nat} {h : zH} {Q : zR → Prop} {P : PT} {a j m i n b : Nat} (hv0 : zHv h) (hR : rBk 0 P h) (hb : fB P) (e31 : h 121 31 = (0, (n : Int))) (eb : h 132 i = (0, ((gJ P b : Nat) : Int))) (hi : i < 49) (hin : (i : Int) < (n : Int)) (gb : gIn P b) (bj : gJ P b < 48) (hj : j < 3) (bm : m ≤ 100)
    (k0 : (0 ≤ (i : Int)) → ((i : Int) < 49) → ((P 3 (48 * j + b)) = 3) → vP D T N 309 55 h [some (2, 121), some (0, (a : Int)), some (0, (j : Int)), some (0, ((m : Int) + 1)), some (0, ((i : Int) + 1))] [] Q)
    (k1 : (0 ≤ (i : Int)) → ((i : Int) < 49) → ((P 3 (48 * j + b)) ≠ 3) → vP D T N 309 55 h [some (2, 121), some (0, (a : Int)), some (0, (j : Int)), some (0, ((m : Int) + 0)), some (0, ((i : Int) + 1))] [] Q) :
    vP D T (N + 1) 309 55 h [some (2, 121), some (0, (a : Int)), some (0, (j : Int)), some (0, (m : Int)), some (0, (i : Int))] [] Q := by
  refine v_loadS (v := (0, (i : Int))) (hT _ zt_X12_seen rfl _ _ rfl) rfl rfl ?_
  refine v_load (v := (2, 121)) (hT _ zt_X12_seen rfl _ _ rfl) rfl rfl ?_
  refine v_getf (v := (0, (n : Int))) (r := 121) (hT _ zt_X12_seen rfl _ _ rfl) rfl rfl (fun _ => e31) ?_
  refine v_ic (hT _ zt_X12_seen rfl _ _ rfl) (fun _ => ?_) (fun hc1 => absurd (show (i : Int) < (n : Int) from hin) hc1)
  refine v_load (v := (0, (m : Int))) (hT _ zt_X12_seen rfl _ _ rfl) rfl rfl ?_
  refine v_load (v := (2, 121)) (hT _ zt_X12_seen rfl _ _ rfl) rfl rfl ?_
  refine v_load (v := (0, (j : Int))) (hT _ zt_X12_seen rfl _ _ rfl) rfl rfl ?_
  refine v_load (v := (2, 121)) (hT _ zt_X12_seen rfl _ _ rfl) rfl rfl ?_
  refine v_getR (c := 132) (r := 121) (hT _ zt_X12_seen rfl _ _ rfl) rfl rfl rfl ?_
  refine v_load (v := (0, (i : Int))) (hT _ zt_X12_seen rfl _ _ rfl) rfl rfl ?_
  refine v_aldB (t := 0) (r := 132) (w := ((gJ P b : Nat) : Int)) (hT _ zt_X12_seen rfl _ _ rfl) rfl rfl rfl (fun _ _ => (congrArg Prod.snd eb)) (fun ha2 hb3 => ?_)
  refine v_call (w := 3) [some (2, 121), some (0, (j : Int)), some (0, ((gJ P b : Nat) : Int))] hO (hT _ zt_X12_seen rfl _ _ rfl) rfl rfl (rb_st hT hO ((j : Int)) j b rfl (by omega) gb hR hb ?_)
  show vP D T N 309 77 h [some (2, 121), some (0, (a : Int)), some (0, (j : Int)), some (0, (m : Int)), some (0, (i : Int))] [(0, (P 3 (48 * j + b))), (0, (m : Int))] _
  refine v_push (3) (hT _ zt_X12_seen rfl _ _ rfl) rfl ?_
  refine v_ic (hT _ zt_X12_seen rfl _ _ rfl) (fun hc4 => ?_) (fun hc4 => ?_)
  · have hc4 : (P 3 (48 * j + b)) = 3 := hc4
    refine v_push (1) (hT _ zt_X12_seen rfl _ _ rfl) rfl ?_
    refine v_goto (hT _ zt_X12_seen rfl _ _ rfl) ?_
    refine v_bin (w := ((m : Int) + 1)) (hT _ zt_X12_seen rfl _ _ rfl) (hq_add (by omega) (by omega)) ?_
    refine v_store1 [some (2, 121), some (0, (a : Int)), some (0, (j : Int)), some (0, ((m : Int) + 1)), some (0, (i : Int))] (hT _ zt_X12_seen rfl _ _ rfl) ⟨rfl, Nat.ne_of_beq_eq_false rfl⟩ (Nat.le_of_ble_eq_true rfl) rfl ?_
    refine v_iinc (x := (i : Int)) (u := 1) (w := ((i : Int) + 1)) [some (2, 121), some (0, (a : Int)), some (0, (j : Int)), some (0, ((m : Int) + 1)), some (0, ((i : Int) + 1))] (hT _ zt_X12_seen rfl _ _ rfl) rfl rfl (Nat.le_of_ble_eq_true rfl) (vz_inc (by omega) (by omega)) rfl ?_
    refine v_goto (hT _ zt_X12_seen rfl _ _ rfl) ?_
    exact k0 ha2 hb3 hc4
  · have hc4 : (P 3 (48 * j + b)) ≠ 3 := hc4
    refine v_push (0) (hT _ zt_X12_seen rfl _ _ rfl) rfl ?_
    refine v_bin (w := ((m : Int) + 0)) (hT _ zt_X12_seen rfl _ _ rfl) (hq_add (by omega) (by omega)) ?_
    refine v_store1 [some (2, 121), some (0, (a : Int)), some (0, (j : Int)), some (0, ((m : Int) + 0)), some (0, (i : Int))] (hT _ zt_X12_seen rfl _ _ rfl) ⟨rfl, Nat.ne_of_beq_eq_false rfl⟩ (Nat.le_of_ble_eq_true rfl) rfl ?_
    refine v_iinc (x := (i : Int)) (u := 1) (w := ((i : Int) + 1)) [some (2, 121), some (0, (a : Int)), some (0, (j : Int)), some (0, ((m : Int) + 0)), some (0, ((i : Int) + 1))] (hT _ zt_X12_seen rfl _ _ rfl) rfl rfl (Nat.le_of_ble_eq_true rfl) (vz_inc (by omega) (by omega)) rfl ?_
    refine v_goto (hT _ zt_X12_seen rfl _ _ rfl) ?_
    exact k1 ha2 hb3 hc4
theorem qs_sn55e {D : zD} {T : zT} (hT : hTab T) (hO : vOK T) {N : Nat} {h : zH} {Q : zR → Prop} {a j m n : Nat} (hv0 : zHv h) (e31 : h 121 31 = (0, (n : Int)))
    (k0 : Q (h, some (0, (m : Int)))) :
    vP D T (N + 1) 309 55 h [some (2, 121), some (0, (a : Int)), some (0, (j : Int)), some (0, (m : Int)), some (0, (n : Int))] [] Q := by
  refine v_loadS (v := (0, (n : Int))) (hT _ zt_X12_seen rfl _ _ rfl) rfl rfl ?_
  refine v_load (v := (2, 121)) (hT _ zt_X12_seen rfl _ _ rfl) rfl rfl ?_
  refine v_getf (v := (0, (n : Int))) (r := 121) (hT _ zt_X12_seen rfl _ _ rfl) rfl rfl (fun _ => e31) ?_
  refine v_ic (hT _ zt_X12_seen rfl _ _ rfl) (fun hc1 => absurd (show (n : Int) < (n : Int) from hc1) (by omega)) (fun _ => ?_)
  refine v_load (v := (0, (m : Int))) (hT _ zt_X12_seen rfl _ _ rfl) rfl rfl ?_
  refine v_ret (hT _ zt_X12_seen rfl _ _ rfl) (Or.inl rfl) ?_
  exact k0 
section RC
variable {D : zD} {T : zT} {N : Nat} {h : zH} {P : PT}
theorem rx_cnL (hT : hTab T) (hO : vOK T) {Q : zR → Prop} (hR : rBk 0 P h) (hb : fB P) {j : Nat} (hj : j < 3) (w : Int) (k : Q (h, some (0, ((sR P (cFq P j w) ((P 0 0).toNat * (P 0 1).toNat) : Nat) : Int)))) : ∀ (r n : Nat), n + r = (P 0 0).toNat * (P 0 1).toNat → vP D T N 214 5 h [some (2, 121), some (0, (j : Int)), some (0, w), some (0, ((sR P (cFq P j w) n : Nat) : Int)), some (0, (n : Int))] [] Q
  | 0, n, hn => by
    have e := wr_i hb.1
    have hn : n = (P 0 0).toNat * (P 0 1).toNat := hn
    rw [← hn] at k
    exact vP_dn (vP_hv (fun hv => qr_cn5e (P := P) hT hO w hv hR hb (by rw [← e, hn]; exact Int.le_refl _) k))
  | r + 1, n, hn => by
    have e := wr_i hb.1
    have w48 := wr_48 hb.1
    obtain ⟨gq, ej⟩ := gQ_ok hb.1 (n := n) (by omega)
    have ih := rx_cnL hT hO hR hb hj w k r (n + 1) (by omega)
    have b := cFq_le P j w n
    have es : sR P (cFq P j w) (n + 1) = sR P (cFq P j w) n + cFq P j w (gQ P n) := rfl
    have go : vP D T N 214 5 h [some (2, 121), some (0, (j : Int)), some (0, w), some (0, ((sR P (cFq P j w) n : Nat) : Int)), some (0, ((gJ P (gQ P n) : Nat) : Int))] [] Q := by
      refine vP_dn (vP_hv (fun hv => qr_cn5 (q := gQ P n) hT hO w hv hR hb gq (by omega) hj (by omega) (by rw [ej, ← e]; omega) (fun c => ?_) (fun c => ?_)))
      · rw [es, show cFq P j w (gQ P n) = 1 from if_pos c] at ih
        rw [ej, show ((sR P (cFq P j w) n : Nat) : Int) + 1 = ((sR P (cFq P j w) n + 1 : Nat) : Int) from by omega]
        exact ih
      · rw [es, show cFq P j w (gQ P n) = 0 from if_neg c] at ih
        rw [ej, Int.add_zero]
        exact ih
    rw [ej] at go
    exact go
theorem rq_count (hT : hTab T) (hO : vOK T) (hR : rBk 0 P h) (hb : fB P) (x y : Int) : vP D T N 213 0 h [some (2, 121), some (0, x), some (0, y)] [] (fun r => r.2 = some (0, ctW P x y)) := by
  have lb := hb.1
  have l3 := lb.2.2.1.2
  have hR2 : rBk 0 P (zset (zset h 121 1 (0, 0)) 121 0 (0, 0)) := (hR.z1 lb).z1 lb
  have no : ¬ ((0 ≤ x ∧ x < P 0 2) ∧ 0 ≤ y ∧ y ≤ 3) → (some ((0, -1) : zV)) = some (0, ctW P x y) := fun c => by
    unfold ctW
    rw [if_neg c]
  refine vP_hv (fun hv => qs_ct0 (P := P) hT hO x y hv hR.w hR.r hR.c hR.m lb ?k0 ?k1 ?k2 ?k3 ?k4)
  case k4 =>
    intro c1 c2 c3 c4
    obtain ⟨j, rfl⟩ : ∃ j : Nat, x = (j : Int) := ⟨x.toNat, by omega⟩
    have e2 : ctW P (j : Int) y = ((sC P (cFq P j y) 48 : Nat) : Int) := if_pos ⟨⟨c1, by omega⟩, c3, c4⟩
    rw [e2, sC_sR lb]
    refine vP_hv (fun hv => qs_ct36 hT hO y hv ?_)
    refine vP_hv (fun hv => qr_cn0 hT hO y hv ?_)
    refine rx_cnL hT hO hR2 hb (by omega) y ?_ ((P 0 0).toNat * (P 0 1).toNat) 0 (Nat.zero_add _)
    exact vP_hv (fun hv => qs_ct42 hT hO y _ hv rfl)
  all_goals
    intros
    exact no (by rintro ⟨⟨o1, o2⟩, o3, o4⟩; omega)
theorem rx_snL (hT : hTab T) (hO : vOK T) {Q : zR → Prop} {p : Nat → Nat} {n a j : Nat} (hR : rBk 0 P h) (hb : fB P) (hn : n ≤ 47) (hp : rHp P p n h) (hg : ∀ i, i ≤ n → gIn P (p i)) (hj : j < 3) (k : Q (h, some (0, ((snN P j p (n + 1) : Nat) : Int)))) : ∀ (r i : Nat), i + r = n + 1 → vP D T N 309 55 h [some (2, 121), some (0, (a : Int)), some (0, (j : Int)), some (0, ((snN P j p i : Nat) : Int)), some (0, (i : Int))] [] Q
  | 0, i, hi => by
    have hi : i = n + 1 := hi
    subst hi
    exact vP_dn (vP_hv (fun hv => qs_sn55e hT hO hv hp.2 k))
  | r + 1, i, hi => by
    have g := hg i (by omega)
    have b := snN_le P j p i
    have ih := rx_snL (a := a) hT hO hR hb hn hp hg hj k r (i + 1) (by omega)
    have es : snN P j p (i + 1) = snN P j p i + (if P 3 (48 * j + p i) = 3 then 1 else 0) := rfl
    refine vP_dn (vP_hv (fun hv => qs_sn55 (b := p i) hT hO hv hR hb hp.2 (hp.1 i (by omega)) (by omega) (by omega) g (gJ_lt hb.1 g) hj (by omega) (fun _ _ c => ?_) (fun _ _ c => ?_)))
    · rw [es, if_pos c] at ih
      rw [show ((snN P j p i : Nat) : Int) + 1 = ((snN P j p i + 1 : Nat) : Int) from by omega, show (i : Int) + 1 = ((i + 1 : Nat) : Int) from by omega]
      exact ih
    · rw [es, if_neg c] at ih
      rw [Int.add_zero, show (i : Int) + 1 = ((i + 1 : Nat) : Int) from by omega]
      exact ih
theorem rq_seen (hT : hTab T) (hO : vOK T) (hR : rBk 0 P h) (hb : fB P) (x y : Int) : vP D T N 309 0 h [some (2, 121), some (0, x), some (0, y), none, none] [] (fun r => r.2 = some (0, snV P x y)) := by
  have lb := hb.1
  have l3 := lb.2.2.1.2
  have l6 := lb.2.2.2.2
  have hR2 : rBk 0 P (zset (zset h 121 1 (0, 0)) 121 0 (0, 0)) := (hR.z1 lb).z1 lb
  have no : ¬ (okM P x ∧ (0 ≤ y ∧ y < P 0 2) ∧ mC P x.toNat ≠ -1) → (some ((0, -1) : zV)) = some (0, snV P x y) := fun c => by
    unfold snV
    rw [if_neg c]
  refine vP_hv (fun hv => qs_sn0 (P := P) hT hO x y hv hR.w hR.r hR.c hR.m lb ?k0 ?k1 ?k2 ?k3 ?k4)
  case k4 =>
    intro c1 c2 c3 c4
    obtain ⟨a, rfl⟩ : ∃ a : Nat, x = (a : Int) := ⟨x.toNat, by omega⟩
    obtain ⟨j, rfl⟩ : ∃ j : Nat, y = (j : Int) := ⟨y.toNat, by omega⟩
    have c2 : (a : Int) < P 0 3 := by omega
    refine vP_hv (fun hv => qs_sn32 hT hO hv ?_)
    refine rx_tc hT hO _ a rfl hR2 hb c2 (fun g u c => ?_) (fun g u d0 d1 d2 => ?_)
    · exact vP_hv (fun hv => qs_sn37n hT hO hv (no (fun d => d.2.2 c)))
    · have d0 : 0 ≤ mC P a := d0
      obtain ⟨n47, hg⟩ := mP_ok hb c2 d0
      have d1 : mC P a < 1000000 := d1
      have e2 : snV P (a : Int) (j : Int) = ((snN P j (mP P a) (mN P a + 1) : Nat) : Int) := if_pos ⟨⟨c1, c2⟩, ⟨c3, by omega⟩, (show mC P a ≠ -1 from by omega)⟩
      rw [e2]
      show vP D T N 309 37 g [some (2, 121), some (0, (a : Int)), some (0, (j : Int)), none, none] [(0, mC P a)] _
      refine vP_hv (fun hv => qs_sn37 hT hO (mC P a) hv (by omega) ?_)
      have hR3 : rBk 0 P g := hR2.eq lb (fun b _ _ => u 126 b (by omega))
      refine rx_snL (j := j) (a := a) (p := mP P a) (n := mN P a) hT hO hR3 hb n47 d2 hg (by omega) ?_ (mN P a + 1) 0 (Nat.zero_add _)
      rfl
  all_goals
    intros
    exact no (by rintro ⟨⟨o1, o2⟩, ⟨o3, o4⟩, _⟩; omega)
end RC
theorem fRa_count {D : zD} (_ : ∀ i, -2147483648 ≤ D.2 i ∧ D.2 i ≤ 2147483647) {h h1 h2 : zH} {x y v1 v2 : Int} (hZ : lZ D h) (hZ1 : lZ D h1) (hR : fR h) (z1 : zRun D TLw 614 152 0 (h, zargs 0 [(2, 0), (0, x), (0, y)], []) (h1, some (0, v1))) (f1 : aFr lM_152 h h1) (z2 : zRun D TLw 614 213 0 (h1, zargs 0 [(2, 121), (0, x), (0, y)], []) (h2, some (0, v2))) (f2 : aFr lM_213 h1 h2) : fR h2 ∧ v1 = v2 := by
  refine ⟨fR_S.fr (M := lM_213) (by decide +kernel) f2 (fR_S.fr (M := lM_152) (by decide +kernel) f1 hR), ?_⟩
  obtain ⟨hL, hM, r, c, s1, s2, s3, P, p1, p2, p3, p4, o⟩ := hR
  have a1 : v1 = ctW P x y := by
    rcases s1 with ⟨rfl, rfl⟩ | ⟨rfl, rfl⟩
    · have q3 := hZ.run 3 z1 (Q := fun r => r.2 = some (0, ctW P x y)) (fun N => cq_count_39 TLw_T vOK_T p1 p3 s2 x y)
      cases (q3 : some ((0, v1) : zV) = some (0, ctW P x y)); rfl
    · have q3 := hZ.run 3 z1 (Q := fun r => r.2 = some (0, ctW P x y)) (fun N => cq_count_24 TLw_T vOK_T p1 p3 s2 x y)
      cases (q3 : some ((0, v1) : zV) = some (0, ctW P x y)); rfl
  have hR1 : rBk 0 P h1 := p2.eq p3.1 (fun b _ hb => f1.keep (S := [(126, 0, 274)]) (by decide +kernel) ⟨(126, 0, 274), List.mem_cons_self, rfl, Nat.zero_le _, show b ≤ 274 by omega⟩)
  have r3 := hZ1.run 3 z2 (Q := fun r => r.2 = some (0, ctW P x y)) (fun N => rq_count TLw_T vOK_T hR1 p3 x y)
  have r3 : v2 = ctW P x y := by cases (r3 : some ((0, v2) : zV) = some (0, ctW P x y)); rfl
  exact a1.trans r3.symm
theorem fRa_seen {D : zD} (_ : ∀ i, -2147483648 ≤ D.2 i ∧ D.2 i ≤ 2147483647) {h h1 h2 : zH} {x y v1 v2 : Int} (hZ : lZ D h) (hZ1 : lZ D h1) (hR : fR h) (z1 : zRun D TLw 614 179 0 (h, zargs 0 [(2, 0), (0, x), (0, y)], []) (h1, some (0, v1))) (f1 : aFr lM_179 h h1) (z2 : zRun D TLw 614 309 0 (h1, zargs 0 [(2, 121), (0, x), (0, y)], []) (h2, some (0, v2))) (f2 : aFr lM_309 h1 h2) : fR h2 ∧ v1 = v2 := by
  refine ⟨fR_S.fr (M := lM_309) (by decide +kernel) f2 (fR_S.fr (M := lM_179) (by decide +kernel) f1 hR), ?_⟩
  obtain ⟨hL, hM, r, c, s1, s2, s3, P, p1, p2, p3, p4, o⟩ := hR
  have a1 : v1 = snV P x y := by
    rcases s1 with ⟨rfl, rfl⟩ | ⟨rfl, rfl⟩
    · have q3 := hZ.run 5 z1 (Q := fun r => r.2 = some (0, snV P x y)) (fun N => cq_seen_39 TLw_T vOK_T p1 p3 s2 x y)
      cases (q3 : some ((0, v1) : zV) = some (0, snV P x y)); rfl
    · have q3 := hZ.run 5 z1 (Q := fun r => r.2 = some (0, snV P x y)) (fun N => cq_seen_24 TLw_T vOK_T p1 p3 s2 x y)
      cases (q3 : some ((0, v1) : zV) = some (0, snV P x y)); rfl
  have hR1 : rBk 0 P h1 := p2.eq p3.1 (fun b _ hb => f1.keep (S := [(126, 0, 274)]) (by decide +kernel) ⟨(126, 0, 274), List.mem_cons_self, rfl, Nat.zero_le _, show b ≤ 274 by omega⟩)
  have r3 := hZ1.run 5 z2 (Q := fun r => r.2 = some (0, snV P x y)) (fun N => rq_seen TLw_T vOK_T hR1 p3 x y)
  have r3 : v2 = snV P x y := by cases (r3 : some ((0, v2) : zV) = some (0, snV P x y)); rfl
  exact a1.trans r3.symm
