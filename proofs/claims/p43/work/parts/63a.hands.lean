/-! THE HANDS: contracts that the kernel doesn't check by itself -/
noncomputable def tyI (l : aTc) (lo hi k : Nat) (a b : Int) : Bool := match a_uniF (Int.ofNat lo) (Int.ofNat hi) l with
  | some t => Nat.beq t.1 k && (Nat.blt k 2 && (@decide (a ≤ t.2.1) (a_decLe _ _) && @decide (t.2.2.1 ≤ b) (a_decLe _ _)))
  | none => false
theorem tyI_ok {g : Nat → zV} {l : aTc} {lo hi k : Nat} {a b : Int} (hg : atyC g l 0) (hb : tyI l lo hi k a b = true) : ∀ j, lo ≤ j → j ≤ hi → (g j).1 = k ∧ a ≤ (g j).2 ∧ (g j).2 ≤ b := by
  intro j h1 h2
  unfold tyI at hb
  split at hb
  · rename_i t ht
    simp only [Bool.and_eq_true, a_dec_eq] at hb
    obtain ⟨b1, b2, b3, b4⟩ := hb
    have b1 := Nat.eq_of_beq_eq_true b1
    have b2 : k < 2 := Nat.le_of_ble_eq_true b2
    have h := a_uniF_ok (lo := (lo : Int)) (hi := (hi : Int)) (j := j) ht hg (by omega) (by omega)
    obtain ⟨t1, t2, t3, t4⟩ := t
    have b1 : t1 = k := b1
    subst b1
    match t1, h with
    | 0, ⟨x1, x2, x3⟩ => exact ⟨x1, Int.le_trans b3 x2, Int.le_trans x3 b4⟩
    | 1, ⟨x1, x2, x3⟩ => exact ⟨x1, Int.le_trans b3 x2, Int.le_trans x3 b4⟩
    | n + 2, _ => omega
  · cases hb
noncomputable def tyR (l : aTc) (k : Nat) (c : Int) : Bool := match a_uniF (Int.ofNat k) (Int.ofNat k) l with
  | some (2, _, _, [z]) => @decide (z = c) (a_decEqZ _ _) && @decide (0 ≤ c) (a_decLe _ _)
  | _ => false
theorem tyR_ok {g : Nat → zV} {l : aTc} {k : Nat} {c : Int} (hg : atyC g l 0) (hb : tyR l k c = true) : g k = (2, c) := by
  unfold tyR at hb
  split at hb
  · rename_i a b z ht
    rw [Bool.and_eq_true, a_dec_eq, a_dec_eq] at hb
    obtain ⟨w, hw, he⟩ := a_uniF_ok (lo := (k : Int)) (hi := (k : Int)) (j := k) ht hg (Int.le_refl _) (Int.le_refl _)
    have hw : w = z := List.mem_singleton.mp hw
    rw [he, hw, hb.1, if_neg (by omega)]
  · cases hb
section HF
variable {h : zH}
theorem tt_121 (ht : aTyped aTy1 h) : atyC (h 121) ty_121 0 := ht 121 ty_121 rfl
theorem tt_126 (ht : aTyped aTy1 h) : atyC (h 126) ty_126 0 := ht 126 ty_126 rfl
theorem tt_129 (ht : aTyped aTy1 h) : atyC (h 129) ty_129 0 := ht 129 ty_129 rfl
theorem tt_130 (ht : aTyped aTy1 h) : atyC (h 130) ty_130 0 := ht 130 ty_130 rfl
theorem tt_132 (ht : aTyped aTy1 h) : atyC (h 132) ty_132 0 := ht 132 ty_132 rfl
theorem hHp_of (hi : ∀ k, k < 2750 → (h 126 k).1 = 0) (ht : aTyped aTy1 h) : hHp h := by
  refine ⟨⟨tyR_ok (tt_121 ht) (by decide +kernel), tyR_ok (tt_121 ht) (by decide +kernel), tyR_ok (tt_121 ht) (by decide +kernel)⟩, hi, fun k hk => ?_, ?_, ?_, fun k hk => ⟨?_, ?_⟩, fun k hk => ?_⟩
  · exact tyI_ok (lo := 0) (hi := 47) (k := 0) (a := 0) (b := 1000000) (tt_130 ht) (by decide +kernel) k (by omega) (by omega)
  · exact (tyI_ok (lo := 0) (hi := 0) (k := 0) (a := 2) (b := 8) (tt_126 ht) (by decide +kernel) 0 (by omega) (by omega)).2
  · exact (tyI_ok (lo := 1) (hi := 1) (k := 0) (a := 1) (b := 6) (tt_126 ht) (by decide +kernel) 1 (by omega) (by omega)).2
  · exact (tyI_ok (lo := 5) (hi := 52) (k := 0) (a := -1) (b := 4) (tt_126 ht) (by decide +kernel) (5 + k) (by omega) (by omega)).2
  · exact (tyI_ok (lo := 53) (hi := 100) (k := 0) (a := 0) (b := 9) (tt_126 ht) (by decide +kernel) (53 + k) (by omega) (by omega)).2
  · exact (tyI_ok (lo := 101) (hi := 244) (k := 0) (a := 0) (b := 3) (tt_126 ht) (by decide +kernel) (101 + k) (by omega) (by omega)).2
theorem tIn_of (ht : aTyped aTy1 h) : tIn h := fun i hi => tyI_ok (lo := 0) (hi := 48) (k := 0) (a := 0) (b := 47) (tt_132 ht) (by decide +kernel) i (by omega) (by omega)
-- one cell of whole numbers is another
theorem aTyped_set {h' : zH} {r : Nat} {l : aTc} (ht : aTyped aTy1 h) (hl : a_at aTy1 r = some l) (hr : atyC (h' r) l 0) (he : ∀ a, a ≠ r → h' a = h a) : aTyped aTy1 h' := by
  intro a l' hl'
  by_cases e : a = r
  · subst e
    rw [hl] at hl'
    cases hl'
    exact hr
  · rw [he a e]
    exact ht a l' hl'
theorem aty_hout {h' : zH} (hp : hHp h') : atyC (h' 130) ty_130 0 := ⟨⟨fun j _ hj => ⟨(hp.2.2.1 j (by have : j < 0 + 48 := hj; omega)).1, (hp.2.2.1 j (by have : j < 0 + 48 := hj; omega)).2⟩, trivial⟩, Nat.le_refl _, trivial⟩
theorem aty_row {h' : zH} (hp : tIn h') : atyC (h' 132) ty_132 0 := ⟨⟨fun j _ hj => hp j (by have : j < 0 + 49 := hj; omega), trivial⟩, Nat.le_refl _, trivial⟩
end HF
/-- at the end of a run that left a heap of its own -/
theorem aDen.at {X : aX} {ρ : Nat → Int} {n : Nat} {E : aB} {h h' : zH} {fl : List Nat} (g : aEnv ρ n E []) (ht : aTyped X.1.1 h') (hf : ∀ j ∈ fl, X.2.2.1 j h') (hm : aFr X.2.2.2.2 X.2.2.2.1 h') (hl : X.1.2.2 = false) : aDen X ρ (n, E, [], [], fl) h' := ⟨g, ht, fun e he => absurd he List.not_mem_nil, hf, hm, fun e => by rw [hl] at e; cases e⟩
def bH (o : Nat) (D : zD) (Fl : Nat → zH → Prop) (T : zT) : Prop := (∀ h m, aOK (aG0 aG1, D, Fl, h, m)) ∧ (∀ h m, aFlOK (aG0 aG1, D, Fl, h, m)) ∧ (∀ h m, aIntOK (aG0 aG1, D, Fl, h, m)) ∧ (∀ mi t, x_nth zMT mi = some t → ∀ pc i, z_at t pc = some i → T mi pc = some i)
section HK
variable {o : Nat} {D : zD} {Fl : Nat → zH → Prop} {T : zT}
theorem hk_beside (B : bH o D Fl T) : aSpecO o aG1 D Fl T k_279 := by
  intro ρ h bs g has
  match bs, has with
  | [a, b, c], ⟨⟨_, ha⟩, ⟨_, hb⟩, ⟨_, hc⟩, _⟩ =>
    have ht : aTyped aTy1 h := g.2.1
    have hp := hHp_of (B.2.2.1 h [] h ht).1 ht
    have e0 := (g.1.1 (0, 0, 47) (by decide)).2
    have e0 : 0 ≤ ρ 0 ∧ ρ 0 ≤ 47 := e0
    have hb : b = (0, ρ 0) := by rw [hb]; show (0, ρ 0 + 0) = _; rw [Int.add_zero]
    have hc : c = (0, ρ 1) := by rw [hc]; show (0, ρ 1 + 0) = _; rw [Int.add_zero]
    rw [ha, hb, hc]
    have bb := bE_b hp (ρ 0) (ρ 1)
    refine ⟨(h, some (0, bE h (ρ 0) (ρ 1))), (r_beside (d := 0) B.2.2.2 hp e0.1 (by omega)).deeper _ (Nat.le_add_left 2 o), _, List.mem_cons_self, aup ρ 2 (bE h (ρ 0) (ρ 1)), aup_ag ρ 2 _, Nat.le_succ 2, ?_, Nat.le_refl 3, ?_⟩
    · exact (show aDen _ ρ (2, _, [], [], []) h from g).push (lo := -1) (hi := 47) bb.1 (by omega)
    · show (0, bE h (ρ 0) (ρ 1)) = (0, aup ρ 2 (bE h (ρ 0) (ρ 1)) 2 + 0)
      rw [aup_at, Int.add_zero]
theorem hk_wayOf (B : bH o D Fl T) : aSpecO o aG1 D Fl T k_354 := by
  intro ρ h bs g has
  match bs, has with
  | [a, b, c, d], ⟨⟨_, ha⟩, ⟨_, hb⟩, ⟨_, hc⟩, ⟨_, hd⟩, _⟩ =>
    have ht : aTyped aTy1 h := g.2.1
    have hp := hHp_of (B.2.2.1 h [] h ht).1 ht
    have e0 : -1 ≤ ρ 0 ∧ ρ 0 ≤ 2 := (g.1.1 (0, -1, 2) (by decide)).2
    have e1 : 0 ≤ ρ 1 ∧ ρ 1 ≤ 47 := (g.1.1 (1, 0, 47) (by decide)).2
    have e2 : 0 ≤ ρ 2 ∧ ρ 2 ≤ 47 := (g.1.1 (2, 0, 47) (by decide)).2
    have hb : b = (0, ρ 0) := by rw [hb]; show (0, ρ 0 + 0) = _; rw [Int.add_zero]
    have hc : c = (0, ρ 1) := by rw [hc]; show (0, ρ 1 + 0) = _; rw [Int.add_zero]
    have hd : d = (0, ρ 2) := by rw [hd]; show (0, ρ 2 + 0) = _; rw [Int.add_zero]
    rw [ha, hb, hc, hd]
    obtain ⟨h', w1, w2, -, -, w5⟩ := r_wayOf (D := D) (d := 0) B.2.2.2 hp e0 ⟨e1.1, by omega⟩ ⟨e2.1, by omega⟩
    have wb := wE_b w1 (from_ := ρ 1) ⟨e1.1, by omega⟩
    have ht' : aTyped aTy1 h' := aTyped_set ht (r := 130) (l := ty_130) rfl (aty_hout w1) (fun a ha => funext fun k => w2 a k (fun c => ha c.1))
    refine ⟨(h', some (0, wE h' (ρ 1))), w5.deeper _ (by show 0 + 4 ≤ o + 6; omega), _, List.mem_cons_self, aup ρ 3 (wE h' (ρ 1)), aup_ag ρ 3 _, Nat.le_succ 3, ?_, Nat.le_refl 4, ?_⟩
    · refine aDen.push (q := (3, _, [], [], [])) (lo := 0) (hi := 1000000) (aDen.at (h := h) g.1 ht' (fun j hj => absurd hj List.not_mem_nil) (fun r k hn => w2 r k (fun c => hn ⟨(130, 0, 47), List.mem_cons_self, c.1.symm, Nat.zero_le _, by show k ≤ 47; omega⟩)) rfl) wb.1 wb.2
    · show (0, wE h' (ρ 1)) = (0, aup ρ 3 (wE h' (ρ 1)) 3 + 0)
      rw [aup_at, Int.add_zero]
theorem hk_tellCompany (B : bH o D Fl T) : aSpecO o aG1 D Fl T k_276 := by
  intro ρ h bs g has
  match bs, has with
  | [a, b], ⟨⟨_, ha⟩, ⟨_, hb⟩, _⟩ =>
    have ht : aTyped aTy1 h := g.2.1
    have hp := hHp_of (B.2.2.1 h [] h ht).1 ht
    have e0 : 0 ≤ ρ 0 ∧ ρ 0 ≤ 5 := (g.1.1 (0, 0, 5) (by decide)).2
    have hb : b = (0, ρ 0) := by rw [hb]; show (0, ρ 0 + 0) = _; rw [Int.add_zero]
    rw [ha, hb]
    have hA : rAl h 126 0 := ((B.1 h []).2.2 345 h (by omega) (by omega)).mp (g.2.2.2.1 345 (by decide))
    have hA := hA (245 + ρ 0).toNat (by unfold rIn; omega)
    have b2 : 0 ≤ hc h (245 + ρ 0).toNat ∧ hc h (245 + ρ 0).toNat ≤ 47 := (tyI_ok (lo := 245) (hi := 262) (k := 0) (a := 0) (b := 47) (tt_126 ht) (by decide +kernel) (245 + ρ 0).toNat (by omega) (by omega)).2
    have b3 : 0 ≤ hc h (251 + ρ 0).toNat ∧ hc h (251 + ρ 0).toNat ≤ 47 := (tyI_ok (lo := 245) (hi := 262) (k := 0) (a := 0) (b := 47) (tt_126 ht) (by decide +kernel) (251 + ρ 0).toNat (by omega) (by omega)).2
    have b1 : 0 ≤ hc h (263 + ρ 0).toNat ∧ hc h (263 + ρ 0).toNat ≤ 2 := (tyI_ok (lo := 263) (hi := 268) (k := 0) (a := 0) (b := 2) (tt_126 ht) (by decide +kernel) (263 + ρ 0).toNat (by omega) (by omega)).2
    have cc : 2 ≤ hc h 0 * hc h 1 := by
      obtain ⟨-, -, -, c0, c1, -⟩ := id hp
      have : 2 * 1 ≤ hc h 0 * hc h 1 := Int.mul_le_mul c0.1 c1.1 (by omega) (by omega)
      omega
    have b4 : hc h (245 + ρ 0).toNat < hc h 0 * hc h 1 := by
      rcases hA with e | e
      · have e : hc h (245 + ρ 0).toNat = 0 := e
        omega
      · exact e
    obtain ⟨h1, h', n', v, g1, g2, g3, g4, g5, g6, g7, g8, g9⟩ := r_tellCompany (D := D) (d := 0) B.2.2.2 hp (tIn_of ht) e0.1 e0.2 b1 ⟨b2.1, by omega⟩ ⟨b3.1, by omega⟩ b4
    have hn31 : h' 121 31 = (0, n') := g4.1
    have fr : ∀ r k, ¬ (r = 130 ∧ k < 48) → ¬ (r = 132 ∧ k < 49) → ¬ (r = 121 ∧ k = 31) → h' r k = h r k := fun r k x y z => (g3 r k y z).trans (g2 r k x)
    have hp' : hHp h' := g3.hHp g1
    have t0 : aTyped aTy1 (fun r => if r = 121 then h' 121 else h r) := aTyped_set ht (r := 121) (l := ty_121) rfl (by
      show atyC (h' 121) ty_121 0
      have e : h' 121 = zset h 121 31 (0, n') 121 := funext fun k => by
        by_cases c : k = 31
        · rw [c, hn31]; exact (if_pos ⟨rfl, rfl⟩).symm
        · rw [fr 121 k (fun x => by omega) (fun x => by omega) (fun x => c x.2)]; exact (if_neg (fun x => c x.2)).symm
      rw [e, zset_self]
      exact a_accsF_ok (lo := 31) (hi := 31) (v := (0, 0, 0)) (vl := 0) (vh := 48) (k := 31) rfl g5 g6 (by omega) (by omega) (by decide +kernel) (tt_121 ht)) (fun a ha => by show (if a = 121 then _ else _) = _; rw [if_neg ha])
    have t1 : aTyped aTy1 (fun r => if r = 130 then h' 130 else if r = 121 then h' 121 else h r) := aTyped_set t0 (r := 130) (l := ty_130) rfl (by show atyC (h' 130) ty_130 0; exact aty_hout hp') (fun a ha => by show (if a = 130 then _ else _) = _; rw [if_neg ha])
    have ht' : aTyped aTy1 h' := aTyped_set t1 (r := 132) (l := ty_132) rfl (aty_row g4.2.1) (fun a ha => by
      show h' a = (if a = 130 then h' 130 else if a = 121 then h' 121 else h a)
      by_cases c1 : a = 130
      · rw [if_pos c1, c1]
      · rw [if_neg c1]
        by_cases c2 : a = 121
        · rw [if_pos c2, c2]
        · rw [if_neg c2]
          exact funext fun k => fr a k (fun x => c1 x.1) (fun x => ha x.1) (fun x => c2 x.1))
    have h351 : Fl 351 h' := ((B.1 h []).2.2 351 h' (by omega) (by omega)).mpr (fun i hi hn => Or.inr (by
      rw [hn31] at hn
      exact g4.2.2 i hn hi))
    refine ⟨(h', some (0, v)), g9.deeper _ (by show 0 + 6 ≤ o + 8; omega), _, List.mem_cons_self, aup ρ 1 v, aup_ag ρ 1 _, Nat.le_succ 1, ?_, Nat.le_refl 2, ?_⟩
    · refine aDen.push (q := (1, _, [], [], [351])) (lo := 0) (hi := 1000000) (aDen.at (h := h) g.1 ht' (fun j hj => by rw [List.mem_singleton.mp hj]; exact h351) (fun r k hn => fr r k (fun c => hn ⟨(130, 0, 47), List.mem_cons_of_mem _ List.mem_cons_self, c.1.symm, Nat.zero_le _, by show k ≤ 47; omega⟩) (fun c => hn ⟨(132, 0, 48), List.mem_cons_of_mem _ (List.mem_cons_of_mem _ List.mem_cons_self), c.1.symm, Nat.zero_le _, by show k ≤ 48; omega⟩) (fun c => hn ⟨(121, 31, 31), List.mem_cons_self, c.1.symm, by show 31 ≤ k; omega, by show k ≤ 31; omega⟩)) rfl) g7 g8
    · show (0, v) = (0, aup ρ 1 v 1 + 0)
      rw [aup_at, Int.add_zero]
end HK
