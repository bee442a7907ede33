section
/-! THE HANDS: contracts that the kernel doesn't check by itself -/
noncomputable def tyI (l : aTc) (lo hi k : Nat) (a b : Int) : Bool := match a_uniF (Int.ofNat lo) (Int.ofNat hi) l with
  | some t => Nat.beq t.1 k && (Nat.blt k 2 && (@decide (a ≤ t.2.1) (a_decLe _ _) && @decide (t.2.2.1 ≤ b) (a_decLe _ _)))
  | none => false
theorem tyI_ok {g : Nat → zV} {l : aTc} {lo hi k : Nat} {a b : Int} (hg : atyC g l 0) (hb : tyI l lo hi k a b = true) : ∀ j, lo ≤ j → j ≤ hi → (g j).1 = k ∧ a ≤ (g j).2 ∧ (g j).2 ≤ b := by
  intro j h1 h2
  unfold tyI at hb
  split at hb
  · rename_i t ht
    simp only [Bool.and_eq_true, a_dec_eq] at hb
    obtain ⟨b1, b2, b3, b4⟩ := hb
    have b1 := Nat.eq_of_beq_eq_true b1
    have b2 : k < 2 := Nat.le_of_ble_eq_true b2
    have h := a_uniF_ok (lo := (lo : Int)) (hi := (hi : Int)) (j := j) ht hg (by omega) (by omega)
    obtain ⟨t1, t2, t3, t4⟩ := t
    have b1 : t1 = k := b1
    subst b1
    match t1, h with
    | 0, ⟨x1, x2, x3⟩ => exact ⟨x1, Int.le_trans b3 x2, Int.le_trans x3 b4⟩
    | 1, ⟨x1, x2, x3⟩ => exact ⟨x1, Int.le_trans b3 x2, Int.le_trans x3 b4⟩
    | n + 2, _ => omega
  · cases hb
noncomputable def tyR (l : aTc) (k : Nat) (c : Int) : Bool := match a_uniF (Int.ofNat k) (Int.ofNat k) l with
  | some (2, _, _, [z]) => @decide (z = c) (a_decEqZ _ _) && @decide (0 ≤ c) (a_decLe _ _)
  | _ => false
theorem tyR_ok {g : Nat → zV} {l : aTc} {k : Nat} {c : Int} (hg : atyC g l 0) (hb : tyR l k c = true) : g k = (2, c) := by
  unfold tyR at hb
  split at hb
  · rename_i a b z ht
    rw [Bool.and_eq_true, a_dec_eq, a_dec_eq] at hb
    obtain ⟨w, hw, he⟩ := a_uniF_ok (lo := (k : Int)) (hi := (k : Int)) (j := k) ht hg (Int.le_refl _) (Int.le_refl _)
    have hw : w = z := List.mem_singleton.mp hw
    rw [he, hw, hb.1, if_neg (by omega)]
  · cases hb
section HF
variable {h : zH}
theorem tt_121 (ht : aTyped aTy1 h) : atyC (h 121) ty_121 0 := ht 121 ty_121 rfl
theorem tt_126 (ht : aTyped aTy1 h) : atyC (h 126) ty_126 0 := ht 126 ty_126 rfl
theorem tt_129 (ht : aTyped aTy1 h) : atyC (h 129) ty_129 0 := ht 129 ty_129 rfl
theorem tt_130 (ht : aTyped aTy1 h) : atyC (h 130) ty_130 0 := ht 130 ty_130 rfl
theorem tt_132 (ht : aTyped aTy1 h) : atyC (h 132) ty_132 0 := ht 132 ty_132 rfl
theorem hHp_of (hi : ∀ k, k < 2750 → (h 126 k).1 = 0) (ht : aTyped aTy1 h) : hHp h := by
  refine ⟨⟨tyR_ok (tt_121 ht) (by decide +kernel), tyR_ok (tt_121 ht) (by decide +kernel), tyR_ok (tt_121 ht) (by decide +kernel)⟩, hi, fun k hk => ?_, ?_, ?_, fun k hk => ⟨?_, ?_⟩, fun k hk => ?_⟩
  · exact tyI_ok (lo := 0) (hi := 47) (k := 0) (a := 0) (b := 1000000) (tt_130 ht) (by decide +kernel) k (by omega) (by omega)
  · exact (tyI_ok (lo := 0) (hi := 0) (k := 0) (a := 2) (b := 8) (tt_126 ht) (by decide +kernel) 0 (by omega) (by omega)).2
  · exact (tyI_ok (lo := 1) (hi := 1) (k := 0) (a := 1) (b := 6) (tt_126 ht) (by decide +kernel) 1 (by omega) (by omega)).2
  · exact (tyI_ok (lo := 5) (hi := 52) (k := 0) (a := -1) (b := 4) (tt_126 ht) (by decide +kernel) (5 + k) (by omega) (by omega)).2
  · exact (tyI_ok (lo := 53) (hi := 100) (k := 0) (a := 0) (b := 9) (tt_126 ht) (by decide +kernel) (53 + k) (by omega) (by omega)).2
  · exact (tyI_ok (lo := 101) (hi := 244) (k := 0) (a := 0) (b := 3) (tt_126 ht) (by decide +kernel) (101 + k) (by omega) (by omega)).2
theorem tIn_of (ht : aTyped aTy1 h) : tIn h := fun i hi => tyI_ok (lo := 0) (hi := 48) (k := 0) (a := 0) (b := 47) (tt_132 ht) (by decide +kernel) i (by omega) (by omega)
-- one cell of whole numbers is another
theorem aTyped_set {h' : zH} {r : Nat} {l : aTc} (ht : aTyped aTy1 h) (hl : a_at aTy1 r = some l) (hr : atyC (h' r) l 0) (he : ∀ a, a ≠ r → h' a = h a) : aTyped aTy1 h' := by
  intro a l' hl'
  by_cases e : a = r
  · subst e
    rw [hl] at hl'
    cases hl'
    exact hr
  · rw [he a e]
    exact ht a l' hl'
theorem aty_hout {h' : zH} (hp : hHp h') : atyC (h' 130) ty_130 0 := ⟨⟨fun j _ hj => ⟨(hp.2.2.1 j (by have : j < 0 + 48 := hj; omega)).1, (hp.2.2.1 j (by have : j < 0 + 48 := hj; omega)).2⟩, trivial⟩, Nat.le_refl _, trivial⟩
theorem aty_row {h' : zH} (hp : tIn h') : atyC (h' 132) ty_132 0 := ⟨⟨fun j _ hj => hp j (by have : j < 0 + 49 := hj; omega), trivial⟩, Nat.le_refl _, trivial⟩
end HF
/-- at the end of a run that left a heap of its own -/
theorem aDen.at {X : aX} {ρ : Nat → Int} {n : Nat} {E : aB} {h h' : zH} {fl : List Nat} (g : aEnv ρ n E []) (ht : aTyped X.1.1 h') (hf : ∀ j ∈ fl, X.2.2.1 j h') (hm : aFr X.2.2.2.2 X.2.2.2.1 h') (hl : X.1.2.2 = false) : aDen X ρ (n, E, [], [], fl) h' := ⟨g, ht, fun e he => absurd he List.not_mem_nil, hf, hm, fun e => by rw [hl] at e; cases e⟩
def bH (o : Nat) (D : zD) (Fl : Nat → zH → Prop) (T : zT) : Prop := (∀ h m, aOK (aG0 aG1, D, Fl, h, m)) ∧ (∀ h m, aFlOK (aG0 aG1, D, Fl, h, m)) ∧ (∀ h m, aIntOK (aG0 aG1, D, Fl, h, m)) ∧ (∀ mi t, x_nth zMT mi = some t → ∀ pc i, z_at t pc = some i → T mi pc = some i)
section HK
variable {o : Nat} {D : zD} {Fl : Nat → zH → Prop} {T : zT}
theorem hk_beside (B : bH o D Fl T) : aSpecO o aG1 D Fl T k_279 := by
  intro ρ h bs g has
  match bs, has with
  | [a, b, c], ⟨⟨_, ha⟩, ⟨_, hb⟩, ⟨_, hc⟩, _⟩ =>
    have ht : aTyped aTy1 h := g.2.1
    have hp := hHp_of (B.2.2.1 h [] h ht).1 ht
    have e0 := (g.1.1 (0, 0, 47) (by decide)).2
    have e0 : 0 ≤ ρ 0 ∧ ρ 0 ≤ 47 := e0
    have hb : b = (0, ρ 0) := by rw [hb]; show (0, ρ 0 + 0) = _; rw [Int.add_zero]
    have hc : c = (0, ρ 1) := by rw [hc]; show (0, ρ 1 + 0) = _; rw [Int.add_zero]
    rw [ha, hb, hc]
    have bb := bE_b hp (ρ 0) (ρ 1)
    refine ⟨(h, some (0, bE h (ρ 0) (ρ 1))), (r_beside (d := 0) B.2.2.2 hp e0.1 (by omega)).deeper _ (Nat.le_add_left 2 o), _, List.mem_cons_self, aup ρ 2 (bE h (ρ 0) (ρ 1)), aup_ag ρ 2 _, Nat.le_succ 2, ?_, Nat.le_refl 3, ?_⟩
    · exact (show aDen _ ρ (2, _, [], [], []) h from g).push (lo := -1) (hi := 47) bb.1 (by omega)
    · show (0, bE h (ρ 0) (ρ 1)) = (0, aup ρ 2 (bE h (ρ 0) (ρ 1)) 2 + 0)
      rw [aup_at, Int.add_zero]
theorem hk_wayOf (B : bH o D Fl T) : aSpecO o aG1 D Fl T k_354 := by
  intro ρ h bs g has
  match bs, has with
  | [a, b, c, d], ⟨⟨_, ha⟩, ⟨_, hb⟩, ⟨_, hc⟩, ⟨_, hd⟩, _⟩ =>
    have ht : aTyped aTy1 h := g.2.1
    have hp := hHp_of (B.2.2.1 h [] h ht).1 ht
    have e0 : -1 ≤ ρ 0 ∧ ρ 0 ≤ 2 := (g.1.1 (0, -1, 2) (by decide)).2
    have e1 : 0 ≤ ρ 1 ∧ ρ 1 ≤ 47 := (g.1.1 (1, 0, 47) (by decide)).2
    have e2 : 0 ≤ ρ 2 ∧ ρ 2 ≤ 47 := (g.1.1 (2, 0, 47) (by decide)).2
    have hb : b = (0, ρ 0) := by rw [hb]; show (0, ρ 0 + 0) = _; rw [Int.add_zero]
    have hc : c = (0, ρ 1) := by rw [hc]; show (0, ρ 1 + 0) = _; rw [Int.add_zero]
    have hd : d = (0, ρ 2) := by rw [hd]; show (0, ρ 2 + 0) = _; rw [Int.add_zero]
    rw [ha, hb, hc, hd]
    obtain ⟨h', w1, w2, -, -, w5⟩ := r_wayOf (D := D) (d := 0) B.2.2.2 hp e0 ⟨e1.1, by omega⟩ ⟨e2.1, by omega⟩
    have wb := wE_b w1 (from_ := ρ 1) ⟨e1.1, by omega⟩
    have ht' : aTyped aTy1 h' := aTyped_set ht (r := 130) (l := ty_130) rfl (aty_hout w1) (fun a ha => funext fun k => w2 a k (fun c => ha c.1))
    refine ⟨(h', some (0, wE h' (ρ 1))), w5.deeper _ (by show 0 + 4 ≤ o + 6; omega), _, List.mem_cons_self, aup ρ 3 (wE h' (ρ 1)), aup_ag ρ 3 _, Nat.le_succ 3, ?_, Nat.le_refl 4, ?_⟩
    · refine aDen.push (q := (3, _, [], [], [])) (lo := 0) (hi := 1000000) (aDen.at (h := h) g.1 ht' (fun j hj => absurd hj List.not_mem_nil) (fun r k hn => w2 r k (fun c => hn ⟨(130, 0, 47), List.mem_cons_self, c.1.symm, Nat.zero_le _, by show k ≤ 47; omega⟩)) rfl) wb.1 wb.2
    · show (0, wE h' (ρ 1)) = (0, aup ρ 3 (wE h' (ρ 1)) 3 + 0)
      rw [aup_at, Int.add_zero]
theorem hk_tellCompany (B : bH o D Fl T) : aSpecO o aG1 D Fl T k_276 := by
  intro ρ h bs g has
  match bs, has with
  | [a, b], ⟨⟨_, ha⟩, ⟨_, hb⟩, _⟩ =>
    have ht : aTyped aTy1 h := g.2.1
    have hp := hHp_of (B.2.2.1 h [] h ht).1 ht
    have e0 : 0 ≤ ρ 0 ∧ ρ 0 ≤ 5 := (g.1.1 (0, 0, 5) (by decide)).2
    have hb : b = (0, ρ 0) := by rw [hb]; show (0, ρ 0 + 0) = _; rw [Int.add_zero]
    rw [ha, hb]
    have hA : rAl h 126 0 := ((B.1 h []).2.2 345 h (by omega) (by omega)).mp (g.2.2.2.1 345 (by decide))
    have hA := hA (245 + ρ 0).toNat (by unfold rIn; omega)
    have b2 : 0 ≤ hc h (245 + ρ 0).toNat ∧ hc h (245 + ρ 0).toNat ≤ 47 := (tyI_ok (lo := 245) (hi := 262) (k := 0) (a := 0) (b := 47) (tt_126 ht) (by decide +kernel) (245 + ρ 0).toNat (by omega) (by omega)).2
    have b3 : 0 ≤ hc h (251 + ρ 0).toNat ∧ hc h (251 + ρ 0).toNat ≤ 47 := (tyI_ok (lo := 245) (hi := 262) (k := 0) (a := 0) (b := 47) (tt_126 ht) (by decide +kernel) (251 + ρ 0).toNat (by omega) (by omega)).2
    have b1 : 0 ≤ hc h (263 + ρ 0).toNat ∧ hc h (263 + ρ 0).toNat ≤ 2 := (tyI_ok (lo := 263) (hi := 268) (k := 0) (a := 0) (b := 2) (tt_126 ht) (by decide +kernel) (263 + ρ 0).toNat (by omega) (by omega)).2
    have cc : 2 ≤ hc h 0 * hc h 1 := by
      obtain ⟨-, -, -, c0, c1, -⟩ := id hp
      have : 2 * 1 ≤ hc h 0 * hc h 1 := Int.mul_le_mul c0.1 c1.1 (by omega) (by omega)
      omega
    have b4 : hc h (245 + ρ 0).toNat < hc h 0 * hc h 1 := by
      rcases hA with e | e
      · have e : hc h (245 + ρ 0).toNat = 0 := e
        omega
      · exact e
    obtain ⟨h1, h', n', v, g1, g2, g3, g4, g5, g6, g7, g8, g9⟩ := r_tellCompany (D := D) (d := 0) B.2.2.2 hp (tIn_of ht) e0.1 e0.2 b1 ⟨b2.1, by omega⟩ ⟨b3.1, by omega⟩ b4
    have hn31 : h' 121 31 = (0, n') := g4.1
    have fr : ∀ r k, ¬ (r = 130 ∧ k < 48) → ¬ (r = 132 ∧ k < 49) → ¬ (r = 121 ∧ k = 31) → h' r k = h r k := fun r k x y z => (g3 r k y z).trans (g2 r k x)
    have hp' : hHp h' := g3.hHp g1
    have t0 : aTyped aTy1 (fun r => if r = 121 then h' 121 else h r) := aTyped_set ht (r := 121) (l := ty_121) rfl (by
      show atyC (h' 121) ty_121 0
      have e : h' 121 = zset h 121 31 (0, n') 121 := funext fun k => by
        by_cases c : k = 31
        · rw [c, hn31]; exact (if_pos ⟨rfl, rfl⟩).symm
        · rw [fr 121 k (fun x => by omega) (fun x => by omega) (fun x => c x.2)]; exact (if_neg (fun x => c x.2)).symm
      rw [e, zset_self]
      exact a_accsF_ok (lo := 31) (hi := 31) (v := (0, 0, 0)) (vl := 0) (vh := 48) (k := 31) rfl g5 g6 (by omega) (by omega) (by decide +kernel) (tt_121 ht)) (fun a ha => by show (if a = 121 then _ else _) = _; rw [if_neg ha])
    have t1 : aTyped aTy1 (fun r => if r = 130 then h' 130 else if r = 121 then h' 121 else h r) := aTyped_set t0 (r := 130) (l := ty_130) rfl (by show atyC (h' 130) ty_130 0; exact aty_hout hp') (fun a ha => by show (if a = 130 then _ else _) = _; rw [if_neg ha])
    have ht' : aTyped aTy1 h' := aTyped_set t1 (r := 132) (l := ty_132) rfl (aty_row g4.2.1) (fun a ha => by
      show h' a = (if a = 130 then h' 130 else if a = 121 then h' 121 else h a)
      by_cases c1 : a = 130
      · rw [if_pos c1, c1]
      · rw [if_neg c1]
        by_cases c2 : a = 121
        · rw [if_pos c2, c2]
        · rw [if_neg c2]
          exact funext fun k => fr a k (fun x => c1 x.1) (fun x => ha x.1) (fun x => c2 x.1))
    have h351 : Fl 351 h' := ((B.1 h []).2.2 351 h' (by omega) (by omega)).mpr (fun i hi hn => Or.inr (by
      rw [hn31] at hn
      exact g4.2.2 i hn hi))
    refine ⟨(h', some (0, v)), g9.deeper _ (by show 0 + 6 ≤ o + 8; omega), _, List.mem_cons_self, aup ρ 1 v, aup_ag ρ 1 _, Nat.le_succ 1, ?_, Nat.le_refl 2, ?_⟩
    · refine aDen.push (q := (1, _, [], [], [351])) (lo := 0) (hi := 1000000) (aDen.at (h := h) g.1 ht' (fun j hj => by rw [List.mem_singleton.mp hj]; exact h351) (fun r k hn => fr r k (fun c => hn ⟨(130, 0, 47), List.mem_cons_of_mem _ List.mem_cons_self, c.1.symm, Nat.zero_le _, by show k ≤ 47; omega⟩) (fun c => hn ⟨(132, 0, 48), List.mem_cons_of_mem _ (List.mem_cons_of_mem _ List.mem_cons_self), c.1.symm, Nat.zero_le _, by show k ≤ 48; omega⟩) (fun c => hn ⟨(121, 31, 31), List.mem_cons_self, c.1.symm, by show 31 ≤ k; omega, by show k ≤ 31; omega⟩)) rfl) g7 g8
    · show (0, v) = (0, aup ρ 1 v 1 + 0)
      rw [aup_at, Int.add_zero]
end HK
end
section
/-! THE HANDS: families -/
theorem zRun_d {D : zD} {T : zT} {d d' mi pc : Nat} {z : zS} {r : zR} (h : zRun D T d mi pc z r) (e : d = d') : zRun D T d' mi pc z r := by subst e; exact h
-- heapFrom: as many cells yet unseen
def hun (h : zH) : Nat → Nat
  | 0 => 0
  | n + 1 => hun h n + if (h 129 n).2 = 0 then 1 else 0
theorem hun_set {h : zH} {k : Nat} : ∀ n, hun (zset h 129 k (0, 1)) n + (if k < n ∧ (h 129 k).2 = 0 then 1 else 0) = hun h n
  | 0 => by rw [if_neg (by omega)]; rfl
  | n + 1 => by
    have ih := hun_set (h := h) (k := k) n
    show hun (zset h 129 k (0, 1)) n + (if (if (129 : Nat) = 129 ∧ n = k then ((0, 1) : zV) else h 129 n).2 = 0 then 1 else 0) + _ = hun h n + (if (h 129 n).2 = 0 then 1 else 0)
    by_cases e : n = k
    · subst e
      rw [if_pos (show (129 : Nat) = 129 ∧ n = n from ⟨rfl, rfl⟩), if_neg (show ¬ ((1 : Int) = 0) by omega)]
      rw [if_neg (by omega)] at ih
      by_cases c : (h 129 n).2 = 0
      · rw [if_pos ⟨by omega, c⟩, if_pos c]; omega
      · rw [if_neg (fun x => c x.2), if_neg c]; omega
    · rw [if_neg (show ¬ ((129 : Nat) = 129 ∧ n = k) from fun x => e x.2)]
      by_cases c : k < n ∧ (h 129 k).2 = 0
      · rw [if_pos c] at ih
        rw [if_pos (show k < n + 1 ∧ (h 129 k).2 = 0 from ⟨by omega, c.2⟩)]; omega
      · rw [if_neg c] at ih
        rw [if_neg (show ¬ (k < n + 1 ∧ (h 129 k).2 = 0) from fun x => c ⟨by omega, x.2⟩)]; omega
theorem hun_mark {h : zH} {k : Nat} (hk : k < 48) : hun (zset h 129 k (0, 1)) 48 ≤ 47 := by
  have h1 := hun_set (h := h) (k := k) 48
  have key : ∀ n, n ≤ 48 → hun (zset h 129 k (0, 1)) n + (if k < n then 1 else 0) ≤ n := by
    intro n
    induction n with
    | zero => intro _; rw [if_neg (by omega)]; exact Nat.le_refl 0
    | succ n ih =>
      intro hn
      have ih := ih (by omega)
      show hun (zset h 129 k (0, 1)) n + (if (if (129 : Nat) = 129 ∧ n = k then ((0, 1) : zV) else h 129 n).2 = 0 then 1 else 0) + _ ≤ n + 1
      by_cases e : n = k
      · subst e
        rw [if_pos (show (129 : Nat) = 129 ∧ n = n from ⟨rfl, rfl⟩), if_neg (show ¬ ((1 : Int) = 0) by omega), if_pos (show n < n + 1 by omega)]
        rw [if_neg (by omega)] at ih
        omega
      · by_cases c : k < n
        · rw [if_pos c] at ih
          rw [if_pos (show k < n + 1 by omega)]
          split <;> (try split) <;> omega
        · rw [if_neg c] at ih
          rw [if_neg (show ¬ k < n + 1 by omega)]
          split <;> (try split) <;> omega
  have := key 48 (Nat.le_refl 48)
  rw [if_pos hk] at this
  omega
def FlN (Fl : Nat → zH → Prop) (N : Nat) : Nat → zH → Prop := FlW Fl 353 (fun h => hun h 48 ≤ N)
theorem FlN_eq {Fl : Nat → zH → Prop} {N : Nat} {h : zH} : FlN Fl N 353 h ↔ hun h 48 ≤ N := FlW_eq
theorem FlN_ne {Fl : Nat → zH → Prop} {N j : Nat} {h : zH} (hj : j ≠ 353) : FlN Fl N j h ↔ Fl j h := FlW_ne hj
noncomputable def κh : aK := kdp 2 (kfl 353 (kov ((129, 2, 0), (0, 0, 0)) k_377))
noncomputable def κ7 : aK := kdp 3 (kfl 353 k_377)
noncomputable def q7 : aQ := (2, k_377.2.2.1.2.1, [], [((129, 2, 0), (0, 0, 1)), ((121, 0, 26), (2, 0, 129))], [353])
noncomputable def st7 : aS := (q7, a_args k_377.2.2.2.1 0, [])
theorem kh_0 : a_from (aG0 aG1) aLm1 h_377 [k_279, κh] 100000 κ7 [cfl 353 c_377_1] zt_X12_heapFrom none 7 st7 = true := by decide +kernel
theorem kh_1 : (a_all (fun x => a_scp (cfl 353 c_377_1).2.1.1.1 x.1) (cfl 353 c_377_1).2.2 && a_from (aG0 aG1) aLm1 h_377 [k_279, κh] 100000 κ7 [cfl 353 c_377_1] zt_X12_heapFrom (some (cfl 353 c_377_1).2.2) 12 (cfl 353 c_377_1).2.1) = true := by decide +kernel
section FA
variable {o : Nat} {D : zD} {Fl : Nat → zH → Prop} {T : zT}
theorem bH_N (B : bH o D Fl T) (o' N : Nat) : bH o' D (FlN Fl N) T := by
  refine ⟨fun h m => aOK_W (B.1 h m) (Nat.le_refl 353) (s := [(129, 0, 47)]) rfl (fun h1 h2 he hp => ?_), fun h m => aFlOK_W (B.2.1 h m) (Nat.le_refl 353), fun h m => B.2.2.1 h m, B.2.2.2⟩
  have : ∀ n, n ≤ 48 → hun h2 n = hun h1 n := by
    intro n
    induction n with
    | zero => intro _; rfl
    | succ n ih =>
      intro hn
      show hun h2 n + (if (h2 129 n).2 = 0 then 1 else 0) = hun h1 n + _
      rw [ih (by omega), he 129 n ⟨(129, 0, 47), List.mem_cons_self, rfl, Nat.zero_le _, by show n ≤ 47; omega⟩]
  rw [this 48 (Nat.le_refl 48)]
  exact hp
theorem h_body (B : bH o D Fl T) (N : Nat) (ih : aSpecO (o + N) aG1 D (FlN Fl N) T κh) {h0 : zH} {ρ : Nat → Int} {z : zS} (g : aStD (aG0 aG1, D, FlN Fl N, h0, k_377.2.2.2.2.1) ρ st7 z) : aGood (o + N) (aG0 aG1, D, FlN Fl N, h0, k_377.2.2.2.2.1) T κ7 3 237 7 z ρ := by
  have BN := bH_N B (o + N) N
  have hK : ∀ κ ∈ [k_279, κh], aSpecO (o + N) aG1 D (FlN Fl N) T κ := List.forall_mem_cons.mpr ⟨hk_beside BN, List.forall_mem_cons.mpr ⟨ih, fun _ h => absurd h List.not_mem_nil⟩⟩
  have hlm := aLmR_ok (BN.1 h0 k_377.2.2.2.2.1) (BN.2.1 h0 k_377.2.2.2.2.1) (BN.2.2.1 h0 k_377.2.2.2.2.1)
  have k1 := kh_1
  rw [Bool.and_eq_true] at k1
  have all := a_cutsH_ok (X := (aG0 aG1, D, FlN Fl N, h0, k_377.2.2.2.2.1)) (o := o + N) (κ := κ7) (cuts := [cfl 353 c_377_1]) (BN.1 _ _) hK B.2.2.2 hlm (hm_heapFrom B.2.2.2) rfl (fun _ => false) (fun c hc => by rw [List.mem_singleton.mp hc]; exact k1.1) (fun c hc _ => by rw [List.mem_singleton.mp hc]; exact k1.2) (fun c _ h => absurd h Bool.false_ne_true)
  rcases a_from_ok (X := (aG0 aG1, D, FlN Fl N, h0, k_377.2.2.2.2.1)) (o := o + N) (κ := κ7) (BN.1 _ _) hK B.2.2.2 hlm (hm_heapFrom B.2.2.2) rfl kh_0 (Nat.le_refl 2) g with h | ⟨c, hc, σ, z', b1, b2, b3, b4, -⟩
  · exact h
  · exact (all c hc b2 σ z' b3).back b1 b4
theorem h_enter (B : bH o D Fl T) (N : Nat) {h : zH} {ρ : Nat → Int} {bs : List zV} {d : Nat} (he : aEnv ρ 2 k_377.2.2.1.2.1 []) (ht : aTyped aTy1 h) (has : aRl ρ 2 k_377.2.2.2.1 bs) (hn : hun (zset h 129 (ρ 1).toNat (0, 1)) 48 ≤ N) : ∃ z, aStD (aG0 aG1, D, FlN Fl N, h, k_377.2.2.2.2.1) ρ st7 z ∧ ∀ zr, zRun D T d 237 7 z zr → zRun D T d 237 0 (h, zargs 0 bs, []) zr := by
  have hargs := (a_args_ok 0 has).2
  match bs, has with
  | [a, b, c], ⟨⟨_, ha⟩, ⟨_, hb⟩, ⟨_, hc⟩, _⟩ =>
    have e1 : 0 ≤ ρ 1 ∧ ρ 1 ≤ 47 := (he.1 (1, 0, 47) (by decide)).2
    have hc' : c = (0, ρ 1) := by rw [hc]; show (0, ρ 1 + 0) = _; rw [Int.add_zero]
    have hm := hm_heapFrom (T := T) B.2.2.2
    have s26 : h 121 26 = (2, 129) := tyR_ok (tt_121 ht) (by decide +kernel)
    refine ⟨(zset h 129 (ρ 1).toNat (0, 1), zargs 0 [a, b, c], []), ⟨⟨he, ?_, ?_, ?_, ?_, fun e => by cases e⟩, hargs, trivial⟩, fun zr k => ?_⟩
    · refine aTyped_set ht (r := 129) (l := ty_129) rfl ?_ (fun a ha => zset_other h 129 (ρ 1).toNat (0, 1) a ha)
      show atyC (zset h 129 (ρ 1).toNat (0, 1) 129) ty_129 0
      rw [zset_self]
      exact a_accsF_ok (lo := 0) (hi := 47) (v := (0, 0, 0)) (vl := 1) (vh := 1) (k := (ρ 1).toNat) rfl (Int.le_refl 1) (Int.le_refl 1) (by omega) (by omega) (by decide +kernel) (tt_129 ht)
    · intro e hq
      rcases List.mem_cons.mp hq with e' | e'
      · rw [e']
        refine ⟨Nat.le_refl 2, by show 0 ≤ ρ 1 + 0; omega, Nat.zero_le _, ?_⟩
        show (if (129 : Nat) = 129 ∧ (ρ 1 + 0).toNat = (ρ 1).toNat then ((0, 1) : zV) else _) = (0, 1)
        rw [Int.add_zero, if_pos ⟨rfl, rfl⟩]
      · rw [List.mem_singleton.mp e']
        refine ⟨Nat.zero_le _, Int.natCast_nonneg 26, Nat.zero_le _, ?_⟩
        show (if (121 : Nat) = 129 ∧ 26 = (ρ 1).toNat then ((0, 1) : zV) else h 121 26) = (2, 129)
        rw [if_neg (fun x => absurd x.1 (by decide))]
        exact s26
    · intro j hj
      rw [List.mem_singleton.mp hj]
      exact (FlN_eq (Fl := Fl)).mpr hn
    · intro r k hn
      exact if_neg (fun x => hn ⟨(129, 0, 47), List.mem_cons_self, x.1.symm, Nat.zero_le _, by show k ≤ 47; omega⟩)
    · rw [ha, hb, hc'] at k ⊢
      refine hq_load (hm _ _ rfl) rfl rfl ?_
      refine hq_getf (hm _ _ rfl) rfl s26 ?_
      refine hq_load (hm _ _ rfl) rfl rfl ?_
      refine hq_pushZ (w := 1) (hm _ _ rfl) rfl ?_
      refine hq_ast (hm _ _ rfl) ⟨za129 (by omega) (by omega), rfl, by decide⟩ ?_
      exact k
theorem h_in {N : Nat} {h : zH} {ρ : Nat → Int} (g0 : aDen (aG0 aG1, D, FlN Fl N, h, k_377.2.2.2.2.1) ρ κh.2.2.1 h) : ∃ N', N = N' + 1 ∧ hun (zset h 129 (ρ 1).toNat (0, 1)) 48 ≤ N' := by
  have e1 : 0 ≤ ρ 1 ∧ ρ 1 ≤ 47 := (g0.1.1 (1, 0, 47) (by decide)).2
  have hN : hun h 48 ≤ N := (FlN_eq (Fl := Fl)).mp (g0.2.2.2.1 353 List.mem_cons_self)
  have h0 : h 129 (ρ 1).toNat = (0, 0) := by
    have := (g0.2.2.1 _ List.mem_cons_self).2.2.2
    have this : h 129 (ρ 1 + 0).toNat = (0, 0) := this
    rw [Int.add_zero] at this
    exact this
  have hs := hun_set (h := h) (k := (ρ 1).toNat) 48
  rw [if_pos ⟨by omega, by rw [h0]⟩] at hs
  exact ⟨N - 1, by omega, by omega⟩
theorem h_fam (B : bH o D Fl T) : ∀ N, aSpecO (o + N) aG1 D (FlN Fl N) T κh := by
  intro N
  induction N with
  | zero =>
    intro ρ h bs g has
    obtain ⟨N', e, -⟩ := h_in (Fl := Fl) (N := 0) g
    omega
  | succ N' ih =>
    intro ρ h bs g has
    obtain ⟨N'', e, hu⟩ := h_in (Fl := Fl) (N := N' + 1) g
    have e : N'' = N' := by omega
    subst e
    obtain ⟨z, z1, z2⟩ := h_enter (d := o + N'' + 3) B N'' (show aEnv ρ 2 k_377.2.2.1.2.1 [] from g.1) g.2.1 has hu
    obtain ⟨zr, r1, p, r2, ρ', r3, r4, r5, r6⟩ := h_body B N'' ih z1
    refine ⟨zr, zRun_d (z2 zr r1) (by show o + N'' + 3 = o + (N'' + 1) + 2; omega), p, r2, ρ', r3, r4, r5.fl (fun j _ hj => ?_), r6⟩
    by_cases e : j = 353
    · subst e
      exact FlN_eq.mpr (Nat.le_succ_of_le ((FlN_eq (Fl := Fl)).mp hj))
    · exact (FlN_ne e).mpr ((FlN_ne e).mp hj)
theorem hk_heapFrom (B : bH o D Fl T) : aSpecO o aG1 D Fl T k_377 := by
  intro ρ h bs g has
  have e1 : 0 ≤ ρ 1 ∧ ρ 1 ≤ 47 := (g.1.1 (1, 0, 47) (by decide)).2
  obtain ⟨z, z1, z2⟩ := h_enter (d := o + 47 + 3) B 47 (show aEnv ρ 2 k_377.2.2.1.2.1 [] from g.1) g.2.1 has (hun_mark (by omega))
  obtain ⟨zr, r1, p, r2, ρ', r3, r4, r5, r6⟩ := h_body B 47 (h_fam B 47) z1
  obtain ⟨p0, p1, p2⟩ := List.mem_map.mp (show p ∈ k_377.2.2.2.2.2.map (fun p => (qfl 353 p.1, p.2)) from r2)
  subst p2
  refine ⟨zr, zRun_d (z2 zr r1) (by show o + 47 + 3 = o + 50; omega), p0, p1, ρ', r3, r4, ⟨r5.1, r5.2.1, r5.2.2.1, fun j hj => ?_, r5.2.2.2.2.1, r5.2.2.2.2.2⟩, r6⟩
  have hj' := r5.2.2.2.1 j (List.mem_cons_of_mem _ hj)
  have : j ≠ 353 := by
    have : p0.1.2.2.2.2 = [] := by
      have : ∀ p ∈ k_377.2.2.2.2.2, p.1.2.2.2.2 = [] := by decide
      exact this p0 p1
    rw [this] at hj
    exact absurd hj List.not_mem_nil
  exact (FlN_ne this).mp hj'
end FA
end
section
/-! THE HANDS: doOne and doAll, by how much of done is left -/
def FlM (Fl : Nat → zH → Prop) (M : Nat) : Nat → zH → Prop := FlW Fl 354 (fun h => 300 - (M : Int) ≤ (h 121 43).2)
theorem FlM_eq {Fl : Nat → zH → Prop} {M : Nat} {h : zH} : FlM Fl M 354 h ↔ 300 - (M : Int) ≤ (h 121 43).2 := FlW_eq
theorem FlM_ne {Fl : Nat → zH → Prop} {M j : Nat} {h : zH} (hj : j ≠ 354) : FlM Fl M j h ↔ Fl j h := FlW_ne hj
noncomputable def κO : aK := kdp 11 (kfl 354 k_343)
noncomputable def κW : aK := kdp 13 (kfl 354 k_343)
noncomputable def κA : aK := kdp 12 (kfl 354 k_344)
noncomputable def sO : List aK := [κA, k_283, k_284, k_285, k_286, k_287, k_288, k_289, k_290, k_291, k_292, k_293, k_294, k_295, k_296, k_297, k_298, k_299, k_300, k_301, k_302, k_303, k_304, k_305, k_306, k_307, k_308, k_309, k_310, k_311, k_312, k_313, k_314, k_315, k_316, k_317, k_318, k_319, k_320, k_321, k_322, k_323, k_324, k_325, k_326, k_327, k_328, k_329, k_330, k_331, k_332, k_333, k_334, k_335, k_336, k_337, k_338, k_339, k_340, k_341, k_342]
noncomputable def cO : List aCut := c_343.map (cfl 354)
noncomputable def cA : List aCut := c_344.map (cfl 354)
theorem kO_in : a_from (aG0 aG1) aLm1 h_343 [] 100000 κO [c_343_0] zt_X12_doOne none 0 (κO.2.2.1, a_args κO.2.2.2.1 0, []) = true := by decide +kernel
theorem kA_ck : a_check (aG0 aG1) aLm1 h_344 [κO] 100000 κA cA = true := by decide +kernel
theorem kO_0 : a_ck1 (aG0 aG1) aLm1 h_343 sO 100000 κW cO (cfl 354 c_343_0) = true := by decide +kernel
theorem kO_1 : a_ck1 (aG0 aG1) aLm1 h_343 sO 100000 κW cO (cfl 354 c_343_1) = true := by decide +kernel
theorem kO_2 : a_ck1 (aG0 aG1) aLm1 h_343 sO 100000 κW cO (cfl 354 c_343_2) = true := by decide +kernel
theorem kO_3 : a_ck1 (aG0 aG1) aLm1 h_343 sO 100000 κW cO (cfl 354 c_343_3) = true := by decide +kernel
theorem kO_4 : a_ck1 (aG0 aG1) aLm1 h_343 sO 100000 κW cO (cfl 354 c_343_4) = true := by decide +kernel
theorem kO_5 : a_ck1 (aG0 aG1) aLm1 h_343 sO 100000 κW cO (cfl 354 c_343_5) = true := by decide +kernel
theorem kO_6 : a_ck1 (aG0 aG1) aLm1 h_343 sO 100000 κW cO (cfl 354 c_343_6) = true := by decide +kernel
theorem kO_7 : a_ck1 (aG0 aG1) aLm1 h_343 sO 100000 κW cO (cfl 354 c_343_7) = true := by decide +kernel
theorem kO_8 : a_ck1 (aG0 aG1) aLm1 h_343 sO 100000 κW cO (cfl 354 c_343_8) = true := by decide +kernel
theorem kO_9 : a_ck1 (aG0 aG1) aLm1 h_343 sO 100000 κW cO (cfl 354 c_343_9) = true := by decide +kernel
theorem kO_10 : a_ck1 (aG0 aG1) aLm1 h_343 sO 100000 κW cO (cfl 354 c_343_10) = true := by decide +kernel
theorem kO_11 : a_ck1 (aG0 aG1) aLm1 h_343 sO 100000 κW cO (cfl 354 c_343_11) = true := by decide +kernel
theorem kO_12 : a_ck1 (aG0 aG1) aLm1 h_343 sO 100000 κW cO (cfl 354 c_343_12) = true := by decide +kernel
theorem kO_13 : a_ck1 (aG0 aG1) aLm1 h_343 sO 100000 κW cO (cfl 354 c_343_13) = true := by decide +kernel
theorem kO_14 : a_ck1 (aG0 aG1) aLm1 h_343 sO 100000 κW cO (cfl 354 c_343_14) = true := by decide +kernel
theorem kO_15 : a_ck1 (aG0 aG1) aLm1 h_343 sO 100000 κW cO (cfl 354 c_343_15) = true := by decide +kernel
theorem kO_16 : a_ck1 (aG0 aG1) aLm1 h_343 sO 100000 κW cO (cfl 354 c_343_16) = true := by decide +kernel
theorem kO_17 : a_ck1 (aG0 aG1) aLm1 h_343 sO 100000 κW cO (cfl 354 c_343_17) = true := by decide +kernel
theorem kO_18 : a_ck1 (aG0 aG1) aLm1 h_343 sO 100000 κW cO (cfl 354 c_343_18) = true := by decide +kernel
theorem kO_19 : a_ck1 (aG0 aG1) aLm1 h_343 sO 100000 κW cO (cfl 354 c_343_19) = true := by decide +kernel
theorem kO_20 : a_ck1 (aG0 aG1) aLm1 h_343 sO 100000 κW cO (cfl 354 c_343_20) = true := by decide +kernel
theorem kO_21 : a_ck1 (aG0 aG1) aLm1 h_343 sO 100000 κW cO (cfl 354 c_343_21) = true := by decide +kernel
theorem kO_22 : a_ck1 (aG0 aG1) aLm1 h_343 sO 100000 κW cO (cfl 354 c_343_22) = true := by decide +kernel
theorem kO_23 : a_ck1 (aG0 aG1) aLm1 h_343 sO 100000 κW cO (cfl 354 c_343_23) = true := by decide +kernel
theorem kO_24 : a_ck1 (aG0 aG1) aLm1 h_343 sO 100000 κW cO (cfl 354 c_343_24) = true := by decide +kernel
theorem kO_25 : a_ck1 (aG0 aG1) aLm1 h_343 sO 100000 κW cO (cfl 354 c_343_25) = true := by decide +kernel
theorem kO_26 : a_ck1 (aG0 aG1) aLm1 h_343 sO 100000 κW cO (cfl 354 c_343_26) = true := by decide +kernel
theorem kO_27 : a_ck1 (aG0 aG1) aLm1 h_343 sO 100000 κW cO (cfl 354 c_343_27) = true := by decide +kernel
theorem kO_28 : a_ck1 (aG0 aG1) aLm1 h_343 sO 100000 κW cO (cfl 354 c_343_28) = true := by decide +kernel
theorem kO_29 : a_ck1 (aG0 aG1) aLm1 h_343 sO 100000 κW cO (cfl 354 c_343_29) = true := by decide +kernel
theorem kO_30 : a_ck1 (aG0 aG1) aLm1 h_343 sO 100000 κW cO (cfl 354 c_343_30) = true := by decide +kernel
theorem kO_31 : a_ck1 (aG0 aG1) aLm1 h_343 sO 100000 κW cO (cfl 354 c_343_31) = true := by decide +kernel
theorem kO_32 : a_ck1 (aG0 aG1) aLm1 h_343 sO 100000 κW cO (cfl 354 c_343_32) = true := by decide +kernel
theorem kO_33 : a_ck1 (aG0 aG1) aLm1 h_343 sO 100000 κW cO (cfl 354 c_343_33) = true := by decide +kernel
theorem kO_34 : a_ck1 (aG0 aG1) aLm1 h_343 sO 100000 κW cO (cfl 354 c_343_34) = true := by decide +kernel
theorem kO_35 : a_ck1 (aG0 aG1) aLm1 h_343 sO 100000 κW cO (cfl 354 c_343_35) = true := by decide +kernel
theorem kO_36 : a_ck1 (aG0 aG1) aLm1 h_343 sO 100000 κW cO (cfl 354 c_343_36) = true := by decide +kernel
theorem kO_37 : a_ck1 (aG0 aG1) aLm1 h_343 sO 100000 κW cO (cfl 354 c_343_37) = true := by decide +kernel
theorem kO_38 : a_ck1 (aG0 aG1) aLm1 h_343 sO 100000 κW cO (cfl 354 c_343_38) = true := by decide +kernel
theorem kO_39 : a_ck1 (aG0 aG1) aLm1 h_343 sO 100000 κW cO (cfl 354 c_343_39) = true := by decide +kernel
theorem kO_40 : a_ck1 (aG0 aG1) aLm1 h_343 sO 100000 κW cO (cfl 354 c_343_40) = true := by decide +kernel
theorem kO_41 : a_ck1 (aG0 aG1) aLm1 h_343 sO 100000 κW cO (cfl 354 c_343_41) = true := by decide +kernel
theorem kO_42 : a_ck1 (aG0 aG1) aLm1 h_343 sO 100000 κW cO (cfl 354 c_343_42) = true := by decide +kernel
theorem kO_43 : a_ck1 (aG0 aG1) aLm1 h_343 sO 100000 κW cO (cfl 354 c_343_43) = true := by decide +kernel
theorem kO_44 : a_ck1 (aG0 aG1) aLm1 h_343 sO 100000 κW cO (cfl 354 c_343_44) = true := by decide +kernel
theorem kO_45 : a_ck1 (aG0 aG1) aLm1 h_343 sO 100000 κW cO (cfl 354 c_343_45) = true := by decide +kernel
theorem kO_46 : a_ck1 (aG0 aG1) aLm1 h_343 sO 100000 κW cO (cfl 354 c_343_46) = true := by decide +kernel
theorem kO_47 : a_ck1 (aG0 aG1) aLm1 h_343 sO 100000 κW cO (cfl 354 c_343_47) = true := by decide +kernel
theorem kO_48 : a_ck1 (aG0 aG1) aLm1 h_343 sO 100000 κW cO (cfl 354 c_343_48) = true := by decide +kernel
theorem kO_49 : a_ck1 (aG0 aG1) aLm1 h_343 sO 100000 κW cO (cfl 354 c_343_49) = true := by decide +kernel
theorem kO_50 : a_ck1 (aG0 aG1) aLm1 h_343 sO 100000 κW cO (cfl 354 c_343_50) = true := by decide +kernel
theorem kO_51 : a_ck1 (aG0 aG1) aLm1 h_343 sO 100000 κW cO (cfl 354 c_343_51) = true := by decide +kernel
theorem kO_52 : a_ck1 (aG0 aG1) aLm1 h_343 sO 100000 κW cO (cfl 354 c_343_52) = true := by decide +kernel
theorem kO_53 : a_ck1 (aG0 aG1) aLm1 h_343 sO 100000 κW cO (cfl 354 c_343_53) = true := by decide +kernel
theorem kO_54 : a_ck1 (aG0 aG1) aLm1 h_343 sO 100000 κW cO (cfl 354 c_343_54) = true := by decide +kernel
theorem kO_55 : a_ck1 (aG0 aG1) aLm1 h_343 sO 100000 κW cO (cfl 354 c_343_55) = true := by decide +kernel
theorem kO_56 : a_ck1 (aG0 aG1) aLm1 h_343 sO 100000 κW cO (cfl 354 c_343_56) = true := by decide +kernel
theorem kO_57 : a_ck1 (aG0 aG1) aLm1 h_343 sO 100000 κW cO (cfl 354 c_343_57) = true := by decide +kernel
theorem kO_58 : a_ck1 (aG0 aG1) aLm1 h_343 sO 100000 κW cO (cfl 354 c_343_58) = true := by decide +kernel
theorem kO_59 : a_ck1 (aG0 aG1) aLm1 h_343 sO 100000 κW cO (cfl 354 c_343_59) = true := by decide +kernel
theorem kO_60 : a_ck1 (aG0 aG1) aLm1 h_343 sO 100000 κW cO (cfl 354 c_343_60) = true := by decide +kernel
set_option maxRecDepth 100000 in
theorem kO_all : ∀ c ∈ cO, a_ck1 (aG0 aG1) aLm1 h_343 sO 100000 κW cO c = true := (List.forall_mem_cons.mpr ⟨kO_0, (List.forall_mem_cons.mpr ⟨kO_1, (List.forall_mem_cons.mpr ⟨kO_2, (List.forall_mem_cons.mpr ⟨kO_3, (List.forall_mem_cons.mpr ⟨kO_4, (List.forall_mem_cons.mpr ⟨kO_5, (List.forall_mem_cons.mpr ⟨kO_6, (List.forall_mem_cons.mpr ⟨kO_7, (List.forall_mem_cons.mpr ⟨kO_8, (List.forall_mem_cons.mpr ⟨kO_9, (List.forall_mem_cons.mpr ⟨kO_10, (List.forall_mem_cons.mpr ⟨kO_11, (List.forall_mem_cons.mpr ⟨kO_12, (List.forall_mem_cons.mpr ⟨kO_13, (List.forall_mem_cons.mpr ⟨kO_14, (List.forall_mem_cons.mpr ⟨kO_15, (List.forall_mem_cons.mpr ⟨kO_16, (List.forall_mem_cons.mpr ⟨kO_17, (List.forall_mem_cons.mpr ⟨kO_18, (List.forall_mem_cons.mpr ⟨kO_19, (List.forall_mem_cons.mpr ⟨kO_20, (List.forall_mem_cons.mpr ⟨kO_21, (List.forall_mem_cons.mpr ⟨kO_22, (List.forall_mem_cons.mpr ⟨kO_23, (List.forall_mem_cons.mpr ⟨kO_24, (List.forall_mem_cons.mpr ⟨kO_25, (List.forall_mem_cons.mpr ⟨kO_26, (List.forall_mem_cons.mpr ⟨kO_27, (List.forall_mem_cons.mpr ⟨kO_28, (List.forall_mem_cons.mpr ⟨kO_29, (List.forall_mem_cons.mpr ⟨kO_30, (List.forall_mem_cons.mpr ⟨kO_31, (List.forall_mem_cons.mpr ⟨kO_32, (List.forall_mem_cons.mpr ⟨kO_33, (List.forall_mem_cons.mpr ⟨kO_34, (List.forall_mem_cons.mpr ⟨kO_35, (List.forall_mem_cons.mpr ⟨kO_36, (List.forall_mem_cons.mpr ⟨kO_37, (List.forall_mem_cons.mpr ⟨kO_38, (List.forall_mem_cons.mpr ⟨kO_39, (List.forall_mem_cons.mpr ⟨kO_40, (List.forall_mem_cons.mpr ⟨kO_41, (List.forall_mem_cons.mpr ⟨kO_42, (List.forall_mem_cons.mpr ⟨kO_43, (List.forall_mem_cons.mpr ⟨kO_44, (List.forall_mem_cons.mpr ⟨kO_45, (List.forall_mem_cons.mpr ⟨kO_46, (List.forall_mem_cons.mpr ⟨kO_47, (List.forall_mem_cons.mpr ⟨kO_48, (List.forall_mem_cons.mpr ⟨kO_49, (List.forall_mem_cons.mpr ⟨kO_50, (List.forall_mem_cons.mpr ⟨kO_51, (List.forall_mem_cons.mpr ⟨kO_52, (List.forall_mem_cons.mpr ⟨kO_53, (List.forall_mem_cons.mpr ⟨kO_54, (List.forall_mem_cons.mpr ⟨kO_55, (List.forall_mem_cons.mpr ⟨kO_56, (List.forall_mem_cons.mpr ⟨kO_57, (List.forall_mem_cons.mpr ⟨kO_58, (List.forall_mem_cons.mpr ⟨kO_59, (List.forall_mem_cons.mpr ⟨kO_60, fun _ h => absurd h List.not_mem_nil⟩)⟩)⟩)⟩)⟩)⟩)⟩)⟩)⟩)⟩)⟩)⟩)⟩)⟩)⟩)⟩)⟩)⟩)⟩)⟩)⟩)⟩)⟩)⟩)⟩)⟩)⟩)⟩)⟩)⟩)⟩)⟩)⟩)⟩)⟩)⟩)⟩)⟩)⟩)⟩)⟩)⟩)⟩)⟩)⟩)⟩)⟩)⟩)⟩)⟩)⟩)⟩)⟩)⟩)⟩)⟩)⟩)⟩)⟩)⟩)⟩)
section FB
variable {o : Nat} {D : zD} {Fl : Nat → zH → Prop} {T : zT}
theorem bH_M (B : bH o D Fl T) (o' M : Nat) : bH o' D (FlM Fl M) T := by
  refine ⟨fun h m => aOK_W (B.1 h m) (by omega) (s := [(121, 43, 43)]) rfl (fun h1 h2 he hp => ?_), fun h m => aFlOK_W (B.2.1 h m) (by omega), fun h m => B.2.2.1 h m, B.2.2.2⟩
  rw [he 121 43 ⟨(121, 43, 43), List.mem_cons_self, rfl, Nat.le_refl _, Nat.le_refl _⟩]
  exact hp
-- what doOne calls, but for doAll
def bD (o : Nat) (D : zD) (T : zT) (Fl : Nat → zH → Prop) : Prop := ∀ κ ∈ ([k_283, k_284, k_285, k_286, k_287, k_288, k_289, k_290, k_291, k_292, k_293, k_294, k_295, k_296, k_297, k_298, k_299, k_300, k_301, k_302, k_303, k_304, k_305, k_306, k_307, k_308, k_309, k_310, k_311, k_312, k_313, k_314, k_315, k_316, k_317, k_318, k_319, k_320, k_321, k_322, k_323, k_324, k_325, k_326, k_327, k_328, k_329, k_330, k_331, k_332, k_333, k_334, k_335, k_336, k_337, k_338, k_339, k_340, k_341, k_342] : List aK), ∀ M o', aSpecO o' aG1 D (FlM Fl M) T κ
theorem o_step (B : bH o D Fl T) (hD : bD o D T Fl) (M : Nat) (ih : ∀ M', M = M' + 1 → aSpecO (o + 2 * M') aG1 D (FlM Fl M') T κA) : aSpecO (o + 2 * M) aG1 D (FlM Fl M) T κO := by
  intro ρ h bs g has
  have g0 : aDen (aG0 aG1, D, FlM Fl M, h, k_343.2.2.2.2.1) ρ κO.2.2.1 h := g
  have BM := bH_M B (o + 2 * M) M
  have hlm := aLmR_ok (BM.1 h k_343.2.2.2.2.1) (BM.2.1 h k_343.2.2.2.2.1) (BM.2.2.1 h k_343.2.2.2.2.1)
  rcases a_from_ok (X := (aG0 aG1, D, FlM Fl M, h, k_343.2.2.2.2.1)) (o := o + 2 * M) (κ := κO) (BM.1 _ _) (fun κ hκ => absurd hκ List.not_mem_nil) B.2.2.2 hlm (hm_doOne B.2.2.2) rfl kO_in (Nat.le_refl 2) (z := (h, zargs 0 bs, [])) ⟨g0, (a_args_ok 0 has).2, trivial⟩ with hg | ⟨c, hc, σ, z', b1, b2, b3, b4, -⟩
  · exact hg
  · rw [List.mem_singleton.mp hc] at b3 b4 b2
    have e1 : σ 1 = ρ 1 := b1 1 (by show 1 < 2; omega)
    have hd : h 121 43 = (0, ρ 1) := by
      have := (g0.2.2.1 ((121, 0, 43), (0, 2, 0)) (List.mem_cons_of_mem _ List.mem_cons_self)).2.2.2
      have this : h 121 43 = (0, ρ 1 + 0) := this
      rw [Int.add_zero] at this
      exact this
    have hM : 300 - (M : Int) ≤ ρ 1 := by
      have := (FlM_eq (Fl := Fl)).mp (g0.2.2.2.1 354 List.mem_cons_self)
      rw [hd] at this
      exact this
    have hb : σ 1 ≤ 299 := (b3.1.1.1 (1, 0, 299) List.mem_cons_self).2.2
    have hd' : z'.1 121 43 = (0, σ 1 + 1) := (b3.1.2.2.1 ((121, 0, 43), (0, 2, 1)) (by decide)).2.2.2
    obtain ⟨M', rfl⟩ : ∃ M', M = M' + 1 := ⟨M - 1, by omega⟩
    have BM' := bH_M B (o + 2 * M') M'
    have hlm' := aLmR_ok (BM'.1 h k_343.2.2.2.2.1) (BM'.2.1 h k_343.2.2.2.2.1) (BM'.2.2.1 h k_343.2.2.2.2.1)
    have hK : ∀ κ ∈ sO, aSpecO (o + 2 * M') aG1 D (FlM Fl M') T κ := List.forall_mem_cons.mpr ⟨ih M' rfl, fun κ hκ => hD κ hκ M' _⟩
    have hc1 : ∀ c ∈ cO, a_all (fun x => a_scp c.2.1.1.1 x.1) c.2.2 = true ∧ a_from (aG0 aG1) aLm1 h_343 sO 100000 κW cO zt_X12_doOne (some c.2.2) c.1 c.2.1 = true := fun c hc => by
      have := kO_all c hc
      unfold a_ck1 at this
      rw [show x_nth zMT κW.1 = some zt_X12_doOne from rfl] at this
      exact (Bool.and_eq_true _ _ ▸ this : _ ∧ _)
    have all := a_cutsH_ok (X := (aG0 aG1, D, FlM Fl M', h, k_343.2.2.2.2.1)) (o := o + 2 * M') (κ := κW) (cuts := cO) (BM'.1 _ _) hK B.2.2.2 hlm' (hm_doOne B.2.2.2) rfl (fun _ => false) (fun c hc => (hc1 c hc).1) (fun c hc _ => (hc1 c hc).2) (fun c _ h => absurd h Bool.false_ne_true)
    have g1 : aStD (aG0 aG1, D, FlM Fl M', h, k_343.2.2.2.2.1) σ (cfl 354 c_343_0).2.1 z' := by
      refine ⟨aDen.qfl (aDen.fl b3.1 (fun j hj hf => ?_)) (FlM_eq.mpr ?_), b3.2⟩
      · have : j ≠ 354 := by
          have : ∀ j ∈ c_343_0.2.1.1.2.2.2.2, j ≠ 354 := by decide
          exact this j hj
        exact (FlM_ne this).mpr ((FlM_ne this).mp hf)
      · rw [hd']
        show _ ≤ σ 1 + 1
        omega
    obtain ⟨zr, r1, p, r2, ρ', r3, r4, r5, r6⟩ := all (cfl 354 c_343_0) List.mem_cons_self (Nat.le_refl 2) σ z' g1
    refine ⟨zr, b4 zr (zRun_d r1 (by show o + 2 * M' + 13 = o + 2 * (M' + 1) + 11; omega)), p, r2, ρ', fun i hi => (r3 i hi).trans (b1 i hi), r4, r5.fl (fun j _ hj => ?_), r6⟩
    by_cases e : j = 354
    · subst e
      have := (FlM_eq (Fl := Fl)).mp hj
      exact FlM_eq.mpr (by omega)
    · exact (FlM_ne e).mpr ((FlM_ne e).mp hj)
theorem a_step (B : bH o D Fl T) (M : Nat) (hO : aSpecO (o + 2 * M) aG1 D (FlM Fl M) T κO) : aSpecO (o + 2 * M) aG1 D (FlM Fl M) T κA := by
  have BM := bH_M B (o + 2 * M) M
  exact a_check_sound BM.1 B.2.2.2 (fun h m => aLmR_ok (BM.1 h m) (BM.2.1 h m) (BM.2.2.1 h m)) kA_ck (List.forall_mem_cons.mpr ⟨hO, fun _ h => absurd h List.not_mem_nil⟩)
theorem oa_fam (B : bH o D Fl T) (hD : bD o D T Fl) : ∀ M, aSpecO (o + 2 * M) aG1 D (FlM Fl M) T κA := by
  intro M
  induction M with
  | zero => exact a_step B 0 (o_step B hD 0 (fun M' e => by omega))
  | succ M ih => exact a_step B (M + 1) (o_step B hD (M + 1) (fun M' e => by
      have : M' = M := by omega
      rw [this]
      exact ih))
theorem hk_doAll (B : bH o D Fl T) (hD : bD o D T Fl) : aSpecO o aG1 D Fl T k_344 := by
  intro ρ h bs g has
  have ht : aTyped aTy1 h := g.2.1
  have t43 : 0 ≤ (h 121 43).2 := (tyI_ok (lo := 43) (hi := 43) (k := 0) (a := 0) (b := 300) (tt_121 ht) (by decide +kernel) 43 (Nat.le_refl _) (Nat.le_refl _)).2.1
  have gq : aDen (aG0 aG1, D, FlM Fl 300, h, k_344.2.2.2.2.1) ρ κA.2.2.1 h := aDen.qfl (aDen.fl g (fun j hj hf => by
    have : j ≠ 354 := by
      have : ∀ j ∈ k_344.2.2.1.2.2.2.2, j ≠ 354 := by decide
      exact this j hj
    exact (FlM_ne this).mpr hf)) (FlM_eq.mpr (by show 300 - (300 : Int) ≤ _; omega))
  obtain ⟨zr, r1, p, r2, ρ', r3, r4, r5, r6⟩ := oa_fam B hD 300 ρ h bs gq has
  obtain ⟨p0, p1, p2⟩ := List.mem_map.mp (show p ∈ k_344.2.2.2.2.2.map (fun p => (qfl 354 p.1, p.2)) from r2)
  subst p2
  refine ⟨zr, zRun_d r1 (by show o + 2 * 300 + 12 = o + (600 + 12); omega), p0, p1, ρ', r3, r4, ⟨r5.1, r5.2.1, r5.2.2.1, fun j hj => ?_, r5.2.2.2.2.1, r5.2.2.2.2.2⟩, r6⟩
  have hj' := r5.2.2.2.1 j (List.mem_cons_of_mem _ hj)
  have : j ≠ 354 := by
    have : ∀ p ∈ k_344.2.2.2.2.2, ∀ j ∈ p.1.2.2.2.2, j ≠ 354 := by decide
    exact this p0 p1 j hj
  exact (FlM_ne this).mp hj'
end FB
/-! avoids: its cut at 98 is run by hand -/
noncomputable def stV : aS := ((c_541_7.2.1.1.1 + 1, (c_541_7.2.1.1.1, 0, 47) :: c_541_7.2.1.1.2.1, c_541_7.2.1.1.2.2), (7, (0, c_541_7.2.1.1.1 + 1, 0)) :: c_541_7.2.1.2.1, [])
theorem kv_m : a_cutOK (aG0 aG1) k_541.2.2.1.1 (some c_541_7.2.2) stV c_541_8 = true := by decide +kernel
theorem kv_s : a_all (fun c : aCut => a_all (fun x => a_scp c.2.1.1.1 x.1) c.2.2) c_541 = true := by decide +kernel
section FV
variable {o : Nat} {D : zD} {Fl : Nat → zH → Prop} {T : zT}
theorem v_98 (B : bH o D Fl T) {h0 : zH} {ρ : Nat → Int} {z : zS} (g : aStD (aG0 aG1, D, Fl, h0, k_541.2.2.2.2.1) ρ c_541_7.2.1 z) : ∃ z' ρ', aAg ρ ρ' c_541_7.2.1.1.1 ∧ aStD (aG0 aG1, D, Fl, h0, k_541.2.2.2.2.1) ρ' stV z' ∧ ∀ zr, zRun D T (o + 2 + 1) 198 124 z' zr → zRun D T (o + 2 + 1) 198 98 z zr := by
  obtain ⟨h, L, S⟩ := z
  have hp := hHp_of (B.2.2.1 h0 [] h g.1.2.1).1 g.1.2.1
  have hm := hm_avoids (T := T) B.2.2.2
  have hS : S = [] := by
    match S, g.2.2 with
    | [], _ => rfl
  subst hS
  have e3 : 0 ≤ ρ 3 ∧ ρ 3 ≤ 3 := (g.1.1.1 (3, 0, 3) (by decide)).2
  have e4 : 0 ≤ ρ 4 ∧ ρ 4 ≤ 47 := (g.1.1.1 (4, 0, 47) (by decide)).2
  obtain ⟨z0, l0, r0⟩ := g.2.1 (0, (2, 0, 121)) (by decide)
  obtain ⟨z5, l5, r5⟩ := g.2.1 (5, (0, 5, 0)) (by decide)
  obtain ⟨z6, l6, r6⟩ := g.2.1 (6, (0, 4, 0)) (by decide)
  have l0 : L 0 = some (2, 121) := by rw [show L 0 = some z0 from l0, r0.2]; rfl
  have l5 : L 5 = some (0, ρ 4) := by rw [show L 5 = some z5 from l5, r5.2]; show some (0, ρ 4 + 0) = _; rw [Int.add_zero]
  have l6 : L 6 = some (0, ρ 3) := by rw [show L 6 = some z6 from l6, r6.2]; show some (0, ρ 3 + 0) = _; rw [Int.add_zero]
  have bb := bE_b hp (ρ 4) (ρ 3)
  have fin : ∀ to : Int, 0 ≤ to → to ≤ 47 → (∀ zr, zRun D T (o + 2 + 1) 198 124 (h, zput1 L 7 (0, to), []) zr → zRun D T (o + 2 + 1) 198 98 (h, L, []) zr) → ∃ z' ρ', aAg ρ ρ' c_541_7.2.1.1.1 ∧ aStD (aG0 aG1, D, Fl, h0, k_541.2.2.2.2.1) ρ' stV z' ∧ ∀ zr, zRun D T (o + 2 + 1) 198 124 z' zr → zRun D T (o + 2 + 1) 198 98 (h, L, []) zr := by
    intro to t1 t2 hz
    refine ⟨(h, zput1 L 7 (0, to), []), aup ρ c_541_7.2.1.1.1 to, aup_ag ρ _ to, ⟨g.1.push t1 t2, fun q hq => ?_, trivial⟩, hz⟩
    rcases List.mem_cons.mp hq with e | e
    · rw [e]
      refine ⟨(0, to), (by show zput1 L 7 (0, to) 7 = some (0, to); unfold zput1; rw [if_pos rfl]), Nat.le_refl _, ?_⟩
      show (0, to) = (0, aup ρ c_541_7.2.1.1.1 to c_541_7.2.1.1.1 + 0)
      rw [aup_at, Int.add_zero]
    · obtain ⟨w, w1, w2⟩ := g.2.1 q e
      have hq7 : ∀ q ∈ c_541_7.2.1.2.1, q.1 ≠ 7 ∧ q.2.1 ≠ 1 := by decide
      obtain ⟨n1, n2⟩ := hq7 q e
      refine ⟨w, ?_, w2.mono (Nat.le_succ _) (aup_ag ρ _ to)⟩
      show (if q.1 = 7 then _ else match L q.1 with
        | some w => if q.1 + 1 = 7 ∧ zcat w = 2 then none else some w
        | none => none) = some w
      have w1' : L q.1 = some w := w1
      rw [if_neg n1, w1']
      refine if_neg (fun c => ?_)
      have c2 : (if w.1 = 1 then 2 else 1) = 2 := c.2
      rw [if_neg (by rw [w2.2]; exact n2)] at c2
      omega
  by_cases e : bE h (ρ 4) (ρ 3) < 0
  · refine fin (ρ 4) e4.1 e4.2 (fun zr k => ?_)
    refine hq_load (hm _ _ rfl) l0 rfl ?_
    refine hq_load (hm _ _ rfl) l5 rfl ?_
    refine hq_load (hm _ _ rfl) l6 rfl ?_
    refine hq_call (hm _ _ rfl) rfl ⟨Nat.le_of_ble_eq_true rfl, Nat.le_of_ble_eq_true rfl, fun _ => rfl⟩ (r_beside (d := o) B.2.2.2 hp e4.1 (by omega)) ?_
    refine hq_ifT (hm _ _ rfl) (zr0T e) ?_
    refine hq_load (hm _ _ rfl) l5 rfl ?_
    refine hq_goto (hm _ _ rfl) ?_
    refine hq_store (hm _ _ rfl) ⟨rfl, Nat.ne_of_beq_eq_false rfl⟩ ?_
    exact k
  · refine fin (bE h (ρ 4) (ρ 3)) (by omega) (by omega) (fun zr k => ?_)
    refine hq_load (hm _ _ rfl) l0 rfl ?_
    refine hq_load (hm _ _ rfl) l5 rfl ?_
    refine hq_load (hm _ _ rfl) l6 rfl ?_
    refine hq_call (hm _ _ rfl) rfl ⟨Nat.le_of_ble_eq_true rfl, Nat.le_of_ble_eq_true rfl, fun _ => rfl⟩ (r_beside (d := o) B.2.2.2 hp e4.1 (by omega)) ?_
    refine hq_ifF (hm _ _ rfl) (zr0F (by omega)) ?_
    refine hq_load (hm _ _ rfl) l0 rfl ?_
    refine hq_load (hm _ _ rfl) l5 rfl ?_
    refine hq_load (hm _ _ rfl) l6 rfl ?_
    refine hq_call (hm _ _ rfl) rfl ⟨Nat.le_of_ble_eq_true rfl, Nat.le_of_ble_eq_true rfl, fun _ => rfl⟩ (r_beside (d := o) B.2.2.2 hp e4.1 (by omega)) ?_
    refine hq_store (hm _ _ rfl) ⟨rfl, Nat.ne_of_beq_eq_false rfl⟩ ?_
    exact k
theorem kv_c : ∀ c ∈ c_541, Nat.beq c.1 98 = false → a_from (aG0 aG1) aLm1 h_541 [] 100000 k_541 c_541 zt_X12_avoids (some c.2.2) c.1 c.2.1 = true := by
  have two : ∀ c, a_ck1 (aG0 aG1) aLm1 h_541 [] 100000 k_541 c_541 c = true → a_from (aG0 aG1) aLm1 h_541 [] 100000 k_541 c_541 zt_X12_avoids (some c.2.2) c.1 c.2.1 = true := fun c h => by
    unfold a_ck1 at h
    rw [show x_nth zMT k_541.1 = some zt_X12_avoids from rfl] at h
    exact (Bool.and_eq_true _ _ ▸ h : _ ∧ _).2
  exact List.forall_mem_cons.mpr ⟨(fun _ => two _ kd_541_0), List.forall_mem_cons.mpr ⟨(fun _ => two _ kd_541_1), List.forall_mem_cons.mpr ⟨(fun _ => two _ kd_541_2), List.forall_mem_cons.mpr ⟨(fun _ => two _ kd_541_3), List.forall_mem_cons.mpr ⟨(fun _ => two _ kd_541_4), List.forall_mem_cons.mpr ⟨(fun _ => two _ kd_541_5), List.forall_mem_cons.mpr ⟨(fun _ => two _ kd_541_6), List.forall_mem_cons.mpr ⟨(fun h => Bool.noConfusion (show true = false from h)), List.forall_mem_cons.mpr ⟨(fun _ => two _ kd_541_8), (fun _ h => absurd h List.not_mem_nil)⟩⟩⟩⟩⟩⟩⟩⟩⟩
theorem hk_avoids (B : bH o D Fl T) : aSpecO o aG1 D Fl T k_541 := by
  intro ρ h bs g has
  have hlm := aLmR_ok (B.1 h k_541.2.2.2.2.1) (B.2.1 h k_541.2.2.2.2.1) (B.2.2.1 h k_541.2.2.2.2.1)
  have hK : ∀ κ ∈ ([] : List aK), aSpecO o aG1 D Fl T κ := fun κ hκ => absurd hκ List.not_mem_nil
  have k0 := kd_541
  unfold a_ck0 at k0
  rw [show x_nth zMT k_541.1 = some zt_X12_avoids from rfl] at k0
  have all := a_cutsH_ok (X := (aG0 aG1, D, Fl, h, k_541.2.2.2.2.1)) (o := o) (κ := k_541) (cuts := c_541) (B.1 _ _) hK B.2.2.2 hlm (hm_avoids B.2.2.2) rfl (fun pc => Nat.beq pc 98) (fun c hc => a_all_ok kv_s c hc) kv_c (fun c hc h98 hk ρ z g => by
    have only : ∀ c ∈ c_541, Nat.beq c.1 98 = true → c = c_541_7 := List.forall_mem_cons.mpr ⟨(fun h => absurd h Bool.false_ne_true), List.forall_mem_cons.mpr ⟨(fun h => absurd h Bool.false_ne_true), List.forall_mem_cons.mpr ⟨(fun h => absurd h Bool.false_ne_true), List.forall_mem_cons.mpr ⟨(fun h => absurd h Bool.false_ne_true), List.forall_mem_cons.mpr ⟨(fun h => absurd h Bool.false_ne_true), List.forall_mem_cons.mpr ⟨(fun h => absurd h Bool.false_ne_true), List.forall_mem_cons.mpr ⟨(fun h => absurd h Bool.false_ne_true), List.forall_mem_cons.mpr ⟨(fun _ => rfl), List.forall_mem_cons.mpr ⟨(fun h => absurd h Bool.false_ne_true), (fun _ h => absurd h List.not_mem_nil)⟩⟩⟩⟩⟩⟩⟩⟩⟩
    rw [only c hc h98] at g hk ⊢
    obtain ⟨z', ρ', a1, a2, a3⟩ := v_98 B g
    exact Or.inr (aNext.of (c := c_541_8) (List.mem_cons_of_mem _ (List.mem_cons_of_mem _ (List.mem_cons_of_mem _ (List.mem_cons_of_mem _ (List.mem_cons_of_mem _ (List.mem_cons_of_mem _ (List.mem_cons_of_mem _ (List.mem_cons_of_mem _ List.mem_cons_self)))))))) kv_m (by show 3 ≤ c_541_7.2.1.1.1 + 1; decide) a1 hk a2 a3))
  rcases a_from_ok (X := (aG0 aG1, D, Fl, h, k_541.2.2.2.2.1)) (o := o) (κ := k_541) (B.1 _ _) hK B.2.2.2 hlm (hm_avoids B.2.2.2) rfl k0 (Nat.le_refl 3) (z := (h, zargs 0 bs, [])) ⟨g, (a_args_ok 0 has).2, trivial⟩ with hg | ⟨c, hc, σ, z', b1, b2, b3, b4, -⟩
  · exact hg
  · exact (all c hc b2 σ z' b3).back b1 b4
end FV
end
section
/-! ALL HANDS -/
section HA
variable {o : Nat} {D : zD} {Fl : Nat → zH → Prop} {T : zT}
theorem kH_of (B : bH o D Fl T) : kH o D Fl T := ⟨B.1, B.2.1, B.2.2.1, B.2.2.2, hk_tellCompany B, hk_beside B, hk_wayOf B, hk_heapFrom B, hk_avoids B, trivial⟩
theorem bD_of (B : bH o D Fl T) : bD o D T Fl := by
  have h : ∀ κ ∈ ([k_283, k_284, k_285, k_286, k_287, k_288, k_289, k_290, k_291, k_292, k_293, k_294, k_295, k_296, k_297, k_298, k_299, k_300, k_301, k_302, k_303, k_304, k_305, k_306, k_307, k_308, k_309, k_310, k_311, k_312, k_313, k_314, k_315, k_316, k_317, k_318, k_319, k_320, k_321, k_322, k_323, k_324, k_325, k_326, k_327, k_328, k_329, k_330, k_331, k_332, k_333, k_334, k_335, k_336, k_337, k_338, k_339, k_340, k_341, k_342] : List aK), ∀ M o', aSpecO o' aG1 D (FlM Fl M) T κ := (List.forall_mem_cons.mpr ⟨fun M o' => ko_283 (kH_of (bH_M B o' M)), (List.forall_mem_cons.mpr ⟨fun M o' => ko_284 (kH_of (bH_M B o' M)), (List.forall_mem_cons.mpr ⟨fun M o' => ko_285 (kH_of (bH_M B o' M)), (List.forall_mem_cons.mpr ⟨fun M o' => ko_286 (kH_of (bH_M B o' M)), (List.forall_mem_cons.mpr ⟨fun M o' => ko_287 (kH_of (bH_M B o' M)), (List.forall_mem_cons.mpr ⟨fun M o' => ko_288 (kH_of (bH_M B o' M)), (List.forall_mem_cons.mpr ⟨fun M o' => ko_289 (kH_of (bH_M B o' M)), (List.forall_mem_cons.mpr ⟨fun M o' => ko_290 (kH_of (bH_M B o' M)), (List.forall_mem_cons.mpr ⟨fun M o' => ko_291 (kH_of (bH_M B o' M)), (List.forall_mem_cons.mpr ⟨fun M o' => ko_292 (kH_of (bH_M B o' M)), (List.forall_mem_cons.mpr ⟨fun M o' => ko_293 (kH_of (bH_M B o' M)), (List.forall_mem_cons.mpr ⟨fun M o' => ko_294 (kH_of (bH_M B o' M)), (List.forall_mem_cons.mpr ⟨fun M o' => ko_295 (kH_of (bH_M B o' M)), (List.forall_mem_cons.mpr ⟨fun M o' => ko_296 (kH_of (bH_M B o' M)), (List.forall_mem_cons.mpr ⟨fun M o' => ko_297 (kH_of (bH_M B o' M)), (List.forall_mem_cons.mpr ⟨fun M o' => ko_298 (kH_of (bH_M B o' M)), (List.forall_mem_cons.mpr ⟨fun M o' => ko_299 (kH_of (bH_M B o' M)), (List.forall_mem_cons.mpr ⟨fun M o' => ko_300 (kH_of (bH_M B o' M)), (List.forall_mem_cons.mpr ⟨fun M o' => ko_301 (kH_of (bH_M B o' M)), (List.forall_mem_cons.mpr ⟨fun M o' => ko_302 (kH_of (bH_M B o' M)), (List.forall_mem_cons.mpr ⟨fun M o' => ko_303 (kH_of (bH_M B o' M)), (List.forall_mem_cons.mpr ⟨fun M o' => ko_304 (kH_of (bH_M B o' M)), (List.forall_mem_cons.mpr ⟨fun M o' => ko_305 (kH_of (bH_M B o' M)), (List.forall_mem_cons.mpr ⟨fun M o' => ko_306 (kH_of (bH_M B o' M)), (List.forall_mem_cons.mpr ⟨fun M o' => ko_307 (kH_of (bH_M B o' M)), (List.forall_mem_cons.mpr ⟨fun M o' => ko_308 (kH_of (bH_M B o' M)), (List.forall_mem_cons.mpr ⟨fun M o' => ko_309 (kH_of (bH_M B o' M)), (List.forall_mem_cons.mpr ⟨fun M o' => ko_310 (kH_of (bH_M B o' M)), (List.forall_mem_cons.mpr ⟨fun M o' => ko_311 (kH_of (bH_M B o' M)), (List.forall_mem_cons.mpr ⟨fun M o' => ko_312 (kH_of (bH_M B o' M)), (List.forall_mem_cons.mpr ⟨fun M o' => ko_313 (kH_of (bH_M B o' M)), (List.forall_mem_cons.mpr ⟨fun M o' => ko_314 (kH_of (bH_M B o' M)), (List.forall_mem_cons.mpr ⟨fun M o' => ko_315 (kH_of (bH_M B o' M)), (List.forall_mem_cons.mpr ⟨fun M o' => ko_316 (kH_of (bH_M B o' M)), (List.forall_mem_cons.mpr ⟨fun M o' => ko_317 (kH_of (bH_M B o' M)), (List.forall_mem_cons.mpr ⟨fun M o' => ko_318 (kH_of (bH_M B o' M)), (List.forall_mem_cons.mpr ⟨fun M o' => ko_319 (kH_of (bH_M B o' M)), (List.forall_mem_cons.mpr ⟨fun M o' => ko_320 (kH_of (bH_M B o' M)), (List.forall_mem_cons.mpr ⟨fun M o' => ko_321 (kH_of (bH_M B o' M)), (List.forall_mem_cons.mpr ⟨fun M o' => ko_322 (kH_of (bH_M B o' M)), (List.forall_mem_cons.mpr ⟨fun M o' => ko_323 (kH_of (bH_M B o' M)), (List.forall_mem_cons.mpr ⟨fun M o' => ko_324 (kH_of (bH_M B o' M)), (List.forall_mem_cons.mpr ⟨fun M o' => ko_325 (kH_of (bH_M B o' M)), (List.forall_mem_cons.mpr ⟨fun M o' => ko_326 (kH_of (bH_M B o' M)), (List.forall_mem_cons.mpr ⟨fun M o' => ko_327 (kH_of (bH_M B o' M)), (List.forall_mem_cons.mpr ⟨fun M o' => ko_328 (kH_of (bH_M B o' M)), (List.forall_mem_cons.mpr ⟨fun M o' => ko_329 (kH_of (bH_M B o' M)), (List.forall_mem_cons.mpr ⟨fun M o' => ko_330 (kH_of (bH_M B o' M)), (List.forall_mem_cons.mpr ⟨fun M o' => ko_331 (kH_of (bH_M B o' M)), (List.forall_mem_cons.mpr ⟨fun M o' => ko_332 (kH_of (bH_M B o' M)), (List.forall_mem_cons.mpr ⟨fun M o' => ko_333 (kH_of (bH_M B o' M)), (List.forall_mem_cons.mpr ⟨fun M o' => ko_334 (kH_of (bH_M B o' M)), (List.forall_mem_cons.mpr ⟨fun M o' => ko_335 (kH_of (bH_M B o' M)), (List.forall_mem_cons.mpr ⟨fun M o' => ko_336 (kH_of (bH_M B o' M)), (List.forall_mem_cons.mpr ⟨fun M o' => ko_337 (kH_of (bH_M B o' M)), (List.forall_mem_cons.mpr ⟨fun M o' => ko_338 (kH_of (bH_M B o' M)), (List.forall_mem_cons.mpr ⟨fun M o' => ko_339 (kH_of (bH_M B o' M)), (List.forall_mem_cons.mpr ⟨fun M o' => ko_340 (kH_of (bH_M B o' M)), (List.forall_mem_cons.mpr ⟨fun M o' => ko_341 (kH_of (bH_M B o' M)), (List.forall_mem_cons.mpr ⟨fun M o' => ko_342 (kH_of (bH_M B o' M)), fun _ h => absurd h List.not_mem_nil⟩)⟩)⟩)⟩)⟩)⟩)⟩)⟩)⟩)⟩)⟩)⟩)⟩)⟩)⟩)⟩)⟩)⟩)⟩)⟩)⟩)⟩)⟩)⟩)⟩)⟩)⟩)⟩)⟩)⟩)⟩)⟩)⟩)⟩)⟩)⟩)⟩)⟩)⟩)⟩)⟩)⟩)⟩)⟩)⟩)⟩)⟩)⟩)⟩)⟩)⟩)⟩)⟩)⟩)⟩)⟩)⟩)⟩)⟩)⟩)
  exact h
theorem kH2_of (B : bH o D Fl T) : kH2 o D Fl T := ⟨kH_of B, hk_doAll B (bD_of B), trivial⟩
end HA
end
