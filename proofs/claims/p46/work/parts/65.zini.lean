/-! WHERE THE CONSTRUCTORS HAVE COME, AS THE CONCRETE MACHINE READS IT -/
def iV (a : xV) : zV := match a with
  | .inl (.int x) => (0, x.toInt)
  | .inl (.long x) => (1, x.toInt)
  | .inl (.ref k) => (2, (k : Int))
  | _ => (4, 0)
def iLit (a : xV) : Bool := match a with
  | .inl (.int _) => true
  | .inl (.long _) => true
  | .inl (.ref _) => true
  | .inl .null => true
  | _ => false
def iLitC (c : xC) : Bool := match c with
  | .inl (_, _, d, o) => iLit d && o.all (fun q => iLit q.2)
  | .inr (_, fs) => fs.all iLit
noncomputable def iG (c : xC) : Nat → zV := match c with
  | .inl (_, _, d, o) => fun j => iV (x_lk o d j)
  | .inr (_, fs) => fun j => match x_nth fs j with
    | some a => iV a
    | none => (4, 0)
noncomputable def hIni : zH := fun r => match x_nth x_h1 r with
  | some c => iG c
  | none => fun _ => (4, 0)
def iZ (c : xC) : zC := match c with
  | .inl (ty, n, _, _) => .inl (ty, n)
  | .inr (ci, fs) => .inr (ci, fs.length)
theorem ini_shape : x_h1.map iZ = zShape := by decide +kernel
theorem ini_lit : x_h1.all iLitC = true := by decide +kernel
theorem iV_den {P : xP} {P' : zP} (hb : P'.1 = P.2.1) {a : xV} {v : Value} (hl : iLit a = true) (d : xden P a v) : zden P' (iV a) v := by
  match a, hl, d with
  | .inl (.int x), _, d => exact ⟨x, d, rfl⟩
  | .inl (.long x), _, d => exact ⟨x, d, rfl⟩
  | .inl (.ref k), _, d =>
    show v = .ref (P'.1 + ((k : Nat) : Int).toNat)
    rw [hb, Int.toNat_natCast]
    exact d
  | .inl .null, _, d => exact d
theorem iLk {d : xV} (hd : iLit d = true) : ∀ {o : List (Nat × xV)} (_ : o.all (fun q => iLit q.2) = true) (j : Nat), iLit (x_lk o d j) = true
  | [], _, _ => hd
  | q :: o, h, j => by
    rw [List.all_cons, Bool.and_eq_true] at h
    show iLit (cond (Nat.beq q.1 j) q.2 (x_lk o d j)) = true
    cases Nat.beq q.1 j with
    | true => exact h.1
    | false => exact iLk hd h.2 j
theorem iDs {P : xP} {P' : zP} (hb : P'.1 = P.2.1) : ∀ {fs : List xV} {vs : List Value}, fs.all iLit = true → xdens P fs vs → ∀ j, j < fs.length → ∃ v, vs[j]? = some v ∧ zden P' (match x_nth fs j with
    | some a => iV a
    | none => (4, 0)) v
  | [], _, _, _, j, hj => absurd hj (Nat.not_lt_zero j)
  | a :: fs, v :: vs, h, ⟨d, ds⟩, j, hj => by
    rw [List.all_cons, Bool.and_eq_true] at h
    cases j with
    | zero => exact ⟨v, rfl, iV_den hb h.1 d⟩
    | succ j =>
      obtain ⟨w, h1, h2⟩ := iDs hb h.2 ds j (Nat.lt_of_succ_lt_succ hj)
      exact ⟨w, by rw [List.getElem?_cons_succ]; exact h1, h2⟩
theorem zcell_of {P : xP} {P' : zP} (hb : P'.1 = P.2.1) (hg : P'.2.2.1 = P.2.2.2.1) {U : State} {H : Heap} {a : Nat} {c : xC} (hl : iLitC c = true) (h : xcell P U c a H) : zcell P' U (iZ c) (iG c) a H := by
  match c, hl, h with
  | .inl (ty, n, d, o), hl, ⟨cA, X, h1, h2, h3, h4, h5⟩ =>
    have hl : (iLit d && o.all (fun q => iLit q.2)) = true := hl
    rw [Bool.and_eq_true] at hl
    refine ⟨cA, X, h1, h2, ?_, h4, h5⟩
    obtain ⟨n', A⟩ := X
    match A, h3 with
    | .inl f, ⟨e1, e2⟩ => exact ⟨e1, fun j hj => iV_den hb (iLk hl.1 hl.2 j) (e2 j hj)⟩
    | .inr (.inl f), ⟨e1, e2⟩ => exact ⟨e1, fun j hj => iV_den hb (iLk hl.1 hl.2 j) (e2 j hj)⟩
    | .inr (.inr (.inr (.inr f))), ⟨e1, e2⟩ => exact ⟨e1, fun j hj => iV_den hb (iLk hl.1 hl.2 j) (e2 j hj)⟩
  | .inr (ci, fs), hl, ⟨vs, h1, h2⟩ =>
    refine ⟨vs, fun j hj => iDs hb hl h1 j hj, ?_⟩
    rw [hg]
    exact h2
theorem zG_of {P : xP} {P' : zP} (hb : P'.1 = P.2.1) (hg : P'.2.2.1 = P.2.2.2.1) {U : State} {H : Heap} (h : xG P x_h1 U H) : zG P' hIni U H := by
  intro k c hk
  rw [← ini_shape, List.getElem?_map] at hk
  obtain ⟨c0, hc, rfl⟩ := Option.map_eq_some_iff.mp hk
  have e : hIni k = iG c0 := by
    unfold hIni
    rw [x_nth_eq, hc]
  rw [e, hb]
  exact zcell_of hb hg (List.all_eq_true.mp ini_lit c0 (List.mem_of_getElem? hc)) (h.2 k c0 hc)
/-! what its cells hold -/
noncomputable def iCk (g : Nat → zV) (l : List (Nat × aT)) : Nat → Bool := List.rec (motive := fun _ => Nat → Bool) (fun _ => true) (fun s _ ih p => a_allN (fun j => a_acc s.2 ((g j).1, 0, 0) (g j).2 (g j).2) p s.1 && a_bN (p + s.1) ih) l
theorem iCk_ok {g : Nat → zV} : ∀ {l : List (Nat × aT)} {p : Nat}, iCk g l p = true → atyOK g l p
  | [], _, _ => trivial
  | s :: l, p, h => by
    have h : (a_allN (fun j => a_acc s.2 ((g j).1, 0, 0) (g j).2 (g j).2) p s.1 && a_bN (p + s.1) (iCk g l)) = true := h
    rw [Bool.and_eq_true, a_bN_eq] at h
    refine ⟨fun j h1 h2 => ?_, iCk_ok h.2⟩
    have := a_allN_ok h.1 (j - p) (by omega)
    rw [show p + (j - p) = j by omega] at this
    exact a_acc_ok this rfl (Int.le_refl _) (Int.le_refl _)
noncomputable def iTy (cs : xH) : aTy → Bool := List.rec (motive := fun _ => aTy → Bool) (fun ls => match ls with
  | [] => true
  | _ => false) (fun c _ ih ls => match ls with
  | l :: ls => iCk (iG c) l 0 && ih ls
  | [] => false) cs
theorem iTy_ok : ∀ {cs : xH} {ls : aTy}, iTy cs ls = true → ∀ (r : Nat) (l : List (Nat × aT)), ls[r]? = some l → ∃ c, cs[r]? = some c ∧ atyOK (iG c) l 0
  | [], [], _, r, l, hl => by cases r <;> cases hl
  | [], _ :: _, h, _, _, _ => by cases h
  | _ :: _, [], h, _, _, _ => by cases h
  | c :: cs, l :: ls, h, r, l', hl => by
    have h : (iCk (iG c) l 0 && iTy cs ls) = true := h
    rw [Bool.and_eq_true] at h
    cases r with
    | zero =>
      cases hl
      exact ⟨c, rfl, iCk_ok h.1⟩
    | succ r => exact iTy_ok h.2 r l' hl
theorem ini_tyB : iTy x_h1 aTy1 = true := by decide +kernel
theorem ini_ty : aTyped aTy1 hIni := by
  intro r l hl
  obtain ⟨c, h1, h2⟩ := iTy_ok ini_tyB r l hl
  have e : hIni r = iG c := by
    unfold hIni
    rw [x_nth_eq, h1]
  rw [e]
  exact h2
noncomputable def i0 (r k : Nat) : Bool := @decide ((hIni r k).2 = 0) (a_decEqZ _ _)
theorem i0_ok {r k : Nat} (h : i0 r k = true) : (hIni r k).2 = 0 := by
  unfold i0 at h
  rw [a_dec_eq] at h
  exact h
noncomputable def iR (x : Nat) : Bool := i0 (rPl x).2.2.2.1 (rPl x).2.2.2.2.1 && i0 (rPl x).2.2.2.2.2.1 (rPl x).2.2.2.2.2.2
theorem iR_ok {x : Nat} (h : iR x = true) : rOK x hIni := by
  unfold iR at h
  rw [Bool.and_eq_true] at h
  refine ⟨fun hm => ?_, fun hm => ?_⟩
  · rw [i0_ok h.1]; exact ⟨Int.le_refl 0, hm⟩
  · rw [i0_ok h.2]; exact ⟨Int.le_refl 0, hm⟩
theorem ini_rows0 : a_allN iR 0 120 = true := by decide +kernel
theorem ini_rows1 : a_allN iR 160 360 = true := by decide +kernel
theorem ini_row {x : Nat} (h : x < 120 ∨ (160 ≤ x ∧ x < 520)) : rOK x hIni := by
  rcases h with h | h
  · have := a_allN_ok ini_rows0 x h
    rw [Nat.zero_add] at this
    exact iR_ok this
  · have := a_allN_ok ini_rows1 (x - 160) (by omega)
    rw [show 160 + (x - 160) = x by omega] at this
    exact iR_ok this
theorem ini_al : a_allN (fun b => a_alls (fun i => i0 126 (550 * b + i)) [245, 246, 247, 248, 249, 250, 257, 258, 259, 260, 261, 262]) 0 4 = true := by decide +kernel
theorem ini_rAl {b : Nat} (hb : b < 4) : rAl hIni 126 (550 * b) := by
  intro k hk
  left
  have := a_allN_ok ini_al b hb
  rw [Nat.zero_add] at this
  have h2 : k - 550 * b ∈ [245, 246, 247, 248, 249, 250, 257, 258, 259, 260, 261, 262] := by
    have : k - 550 * b = 245 ∨ k - 550 * b = 246 ∨ k - 550 * b = 247 ∨ k - 550 * b = 248 ∨ k - 550 * b = 249 ∨ k - 550 * b = 250 ∨ k - 550 * b = 257 ∨ k - 550 * b = 258 ∨ k - 550 * b = 259 ∨ k - 550 * b = 260 ∨ k - 550 * b = 261 ∨ k - 550 * b = 262 := by unfold rIn at hk; omega
    rcases this with e | e | e | e | e | e | e | e | e | e | e | e <;> rw [e] <;> decide
  have := i0_ok (a_alls_ok this _ h2)
  rw [show 550 * b + (k - 550 * b) = k by unfold rIn at hk; omega] at this
  exact this
/-! the flags' meaning, for good -/
def Fl0 (j : Nat) (h : zH) : Prop := if j < 345 then rFl j h else if j < 353 then rFx j h else True
noncomputable def inM (m : aM) (r k : Nat) : Bool := List.rec (motive := fun _ => Bool) false (fun q _ ih => (Nat.beq q.1 r && (Nat.ble q.2.1 k && Nat.ble k q.2.2)) || ih) m
theorem inM_ok {r k : Nat} : ∀ {m : aM}, inM m r k = true → aIn m r k
  | [], h => by cases h
  | q :: m, h => by
    have h : ((Nat.beq q.1 r && (Nat.ble q.2.1 k && Nat.ble k q.2.2)) || inM m r k) = true := h
    simp only [Bool.or_eq_true, Bool.and_eq_true] at h
    rcases h with ⟨h1, h2, h3⟩ | h
    · exact ⟨q, List.mem_cons_self, Nat.eq_of_beq_eq_true h1, Nat.le_of_ble_eq_true h2, Nat.le_of_ble_eq_true h3⟩
    · obtain ⟨q', h1, h2⟩ := inM_ok h
      exact ⟨q', List.mem_cons_of_mem _ h1, h2⟩
noncomputable def rIM (m : aM) (x : Nat) : Bool := inM m (rPl x).1 (rPl x).2.1 && (inM m (rPl x).1 (rPl x).2.2.1 && (inM m (rPl x).2.2.2.1 (rPl x).2.2.2.2.1 && inM m (rPl x).2.2.2.2.2.1 (rPl x).2.2.2.2.2.2))
theorem rIM_ok {m : aM} {x : Nat} {h h' : zH} (hb : rIM m x = true) (he : ∀ r k, aIn m r k → h' r k = h r k) (hr : rOK x h) : rOK x h' := by
  unfold rIM at hb
  simp only [Bool.and_eq_true] at hb
  obtain ⟨b1, b2, b3, b4⟩ := hb
  unfold rOK
  rw [he _ _ (inM_ok b1), he _ _ (inM_ok b2), he _ _ (inM_ok b3), he _ _ (inM_ok b4)]
  exact hr
noncomputable def supC (j : Nat) : Bool := match x_nth aSup1 j with
  | some m => cond (Nat.beq j 155) (inM m 121 25 && a_allN (rIM m) 120 30) (a_bN (a_fr j).1 (fun lo => a_bN ((a_fr j).2 - lo) (fun n => a_allN (rIM m) lo n)))
  | none => true
theorem sup_rows : a_allN supC 0 345 = true := by decide +kernel
theorem aOK0 {G3 : Bool} {D : zD} (hD : ∀ i, -2147483648 ≤ D.2 i ∧ D.2 i ≤ 2147483647) (h0 : zH) (m0 : aM) : aOK ((aTy1, aSup1, G3), D, Fl0, h0, m0) := by
  refine ⟨fun j m hm h h' he hf => ?_, hD, fun j h h1 h2 => ?_⟩
  · have hm : aSup1[j]? = some m := hm
    by_cases j1 : j < 345
    · have hf : rFl j h := by
        have : Fl0 j h := hf
        unfold Fl0 at this
        rw [if_pos j1] at this
        exact this
      have hc := a_allN_ok sup_rows j j1
      rw [Nat.zero_add] at hc
      unfold supC at hc
      rw [x_nth_eq, hm] at hc
      show Fl0 j h'
      unfold Fl0
      rw [if_pos j1]
      by_cases e : j = 155
      · subst e
        have hc : (inM m 121 25 && a_allN (rIM m) 120 30) = true := hc
        rw [Bool.and_eq_true] at hc
        refine rFl_155.mpr fun x x1 x2 x3 => ?_
        rw [he 121 25 (inM_ok hc.1)] at x3
        have := a_allN_ok hc.2 (x - 120) (by omega)
        rw [show 120 + (x - 120) = x by omega] at this
        exact rIM_ok this he (rFl_155.mp hf x x1 x2 x3)
      · have hb : Nat.beq j 155 = false := by
          cases hq : Nat.beq j 155 with
          | false => rfl
          | true => exact absurd (Nat.eq_of_beq_eq_true hq) e
        rw [hb] at hc
        have hc : a_bN (a_fr j).1 (fun lo => a_bN ((a_fr j).2 - lo) (fun n => a_allN (rIM m) lo n)) = true := hc
        rw [a_bN_eq, a_bN_eq] at hc
        refine (rFl_n e).mpr fun x x1 x2 => ?_
        have := a_allN_ok hc (x - (a_fr j).1) (by omega)
        rw [show (a_fr j).1 + (x - (a_fr j).1) = x by omega] at this
        exact rIM_ok this he ((rFl_n e).mp hf x x1 x2)
    · by_cases j2 : j < 353
      · have hf : rFx j h := by
          have : Fl0 j h := hf
          unfold Fl0 at this
          rw [if_neg j1, if_pos j2] at this
          exact this
        show Fl0 j h'
        unfold Fl0
        rw [if_neg j1, if_pos j2]
        have al : ∀ r B, (∀ k, k = B ∨ k = B + 1 ∨ rIn B k → aIn m r k) → rAl h r B → rAl h' r B := fun r B hin ha k hk => by
          have := ha k hk
          unfold rCb at this ⊢
          rw [he r k (hin k (Or.inr (Or.inr hk))), he r B (hin B (Or.inl rfl)), he r (B + 1) (hin (B + 1) (Or.inr (Or.inl rfl)))]
          exact this
        have three : ∀ r B (m : aM), m = [(r, B, B + 1), (r, B + 245, B + 250), (r, B + 257, B + 262)] → ∀ k, k = B ∨ k = B + 1 ∨ rIn B k → aIn m r k := fun r B m em k hk => by
          rw [em]
          unfold rIn at hk
          by_cases c : k ≤ B + 1
          · exact ⟨_, List.mem_cons_self, rfl, by show B ≤ k; omega, c⟩
          · by_cases c2 : k ≤ B + 250
            · exact ⟨_, List.mem_cons_of_mem _ List.mem_cons_self, rfl, by show B + 245 ≤ k; omega, c2⟩
            · exact ⟨_, List.mem_cons_of_mem _ (List.mem_cons_of_mem _ List.mem_cons_self), rfl, by show B + 257 ≤ k; omega, by show k ≤ B + 262; omega⟩
        have cs : j = 345 ∨ j = 346 ∨ j = 347 ∨ j = 348 ∨ j = 349 ∨ j = 350 ∨ j = 351 ∨ j = 352 := by omega
        rcases cs with e | e | e | e | e | e | e | e
        · subst e
          cases hm
          exact al 126 0 (three 126 0 _ rfl) hf
        · subst e
          cases hm
          exact al 126 550 (three 126 550 _ rfl) hf
        · subst e
          cases hm
          exact al 126 1100 (three 126 1100 _ rfl) hf
        · subst e
          cases hm
          exact al 126 1650 (three 126 1650 _ rfl) hf
        · subst e
          cases hm
          exact al 126 2200 (three 126 2200 _ rfl) hf
        · subst e
          cases hm
          exact al 127 0 (three 127 0 _ rfl) hf
        · subst e
          cases hm
          have hf : rRow h := hf
          show rRow h'
          intro i i1 i2
          have g1 := he 121 31 ⟨(121, 31, 31), List.mem_cons_self, rfl, Nat.le_refl _, Nat.le_refl _⟩
          have g2 := he 132 i ⟨(132, 0, 48), List.mem_cons_of_mem _ List.mem_cons_self, rfl, Nat.zero_le _, by show i ≤ 48; omega⟩
          have g3 := he 126 0 ⟨(126, 0, 1), List.mem_cons_of_mem _ (List.mem_cons_of_mem _ List.mem_cons_self), rfl, Nat.zero_le _, Nat.zero_le _⟩
          have g4 := he 126 1 ⟨(126, 0, 1), List.mem_cons_of_mem _ (List.mem_cons_of_mem _ List.mem_cons_self), rfl, Nat.zero_le _, Nat.le_refl _⟩
          rw [g1] at i2
          have := hf i i1 i2
          unfold rCb at this ⊢
          rw [g2, g3, show (0 : Nat) + 1 = 1 from rfl, g4]
          exact this
        · subst e
          cases hm
          have hf : rZe h := hf
          show rZe h'
          intro k hk
          rw [he 126 k (by
            unfold rIn at hk
            by_cases c2 : k ≤ 2450
            · exact ⟨(126, 2445, 2450), List.mem_cons_self, rfl, by show 2445 ≤ k; omega, c2⟩
            · exact ⟨(126, 2457, 2462), List.mem_cons_of_mem _ List.mem_cons_self, rfl, by show 2457 ≤ k; omega, by show k ≤ 2462; omega⟩)]
          exact hf k hk
      · show Fl0 j h'
        unfold Fl0
        rw [if_neg j1, if_neg j2]
        exact trivial
  · show Fl0 j h ↔ rFx j h
    unfold Fl0
    rw [if_neg (by omega), if_pos h2]
theorem aFlOK0 {G : aG} {D : zD} (h0 : zH) (m0 : aM) : aFlOK (G, D, Fl0, h0, m0) := fun j h hj => by
  show Fl0 j h ↔ rFl j h
  unfold Fl0
  rw [if_pos hj]
noncomputable def tyK (l : List (Nat × aT)) (n : Nat) : Bool := List.rec (motive := fun _ => Nat → Bool) (fun n => Nat.beq n 0) (fun s _ ih n => Nat.beq s.2.1 0 && a_bN (n - s.1) ih) l n
theorem tyK_ok {g : Nat → zV} : ∀ {l : List (Nat × aT)} {p n : Nat}, tyK l n = true → atyOK g l p → ∀ j, p ≤ j → j < p + n → (g j).1 = 0
  | [], p, n, h, _, j, h1, h2 => by
    have := Nat.eq_of_beq_eq_true (show Nat.beq n 0 = true from h)
    omega
  | s :: l, p, n, h, ⟨ha, hl⟩, j, h1, h2 => by
    have h : (Nat.beq s.2.1 0 && a_bN (n - s.1) (tyK l)) = true := h
    rw [Bool.and_eq_true, a_bN_eq] at h
    by_cases c : j < p + s.1
    · have := ha j h1 c
      unfold atin at this
      rw [Nat.eq_of_beq_eq_true h.1] at this
      exact this.1
    · exact tyK_ok h.2 hl j (by omega) (by omega)
theorem aIntOK0 {G3 : Bool} {D : zD} {Fl : Nat → zH → Prop} (h0 : zH) (m0 : aM) : aIntOK ((aTy1, aSup1, G3), D, Fl, h0, m0) := by
  intro h ht
  have ht : aTyped aTy1 h := ht
  have k : ∀ r l n, aTy1[r]? = some l → tyK l n = true → ∀ j, j < n → (h r j).1 = 0 := fun r l n hl hk j hj => tyK_ok hk (ht r l hl) j (Nat.zero_le j) (by omega)
  refine ⟨k 126 ty_126 2750 rfl (by decide +kernel), fun o ho j hj => ?_⟩
  match o, ho with
  | 0, _ => exact ⟨k 19 ty_19 60 rfl (by decide +kernel) j hj, k 20 ty_20 60 rfl (by decide +kernel) j hj, k 21 ty_21 60 rfl (by decide +kernel) j hj⟩
  | 1, _ => exact ⟨k 35 ty_35 60 rfl (by decide +kernel) j hj, k 36 ty_36 60 rfl (by decide +kernel) j hj, k 37 ty_37 60 rfl (by decide +kernel) j hj⟩
  | 2, _ => exact ⟨k 50 ty_50 60 rfl (by decide +kernel) j hj, k 51 ty_51 60 rfl (by decide +kernel) j hj, k 52 ty_52 60 rfl (by decide +kernel) j hj⟩
  | 3, _ => exact ⟨k 66 ty_66 60 rfl (by decide +kernel) j hj, k 67 ty_67 60 rfl (by decide +kernel) j hj, k 68 ty_68 60 rfl (by decide +kernel) j hj⟩
  | 4, _ => exact ⟨k 81 ty_81 60 rfl (by decide +kernel) j hj, k 82 ty_82 60 rfl (by decide +kernel) j hj, k 83 ty_83 60 rfl (by decide +kernel) j hj⟩
  | 5, _ => exact ⟨k 96 ty_96 60 rfl (by decide +kernel) j hj, k 97 ty_97 60 rfl (by decide +kernel) j hj, k 98 ty_98 60 rfl (by decide +kernel) j hj⟩
  | n + 6, h => omega
