/-! WHERE THE CONSTRUCTORS HAVE COME, AS THE CONCRETE MACHINE READS IT -/
def iV (a : xV) : zV := match a with
  | .inl (.int x) => (0, x.toInt)
  | .inl (.long x) => (1, x.toInt)
  | .inl (.ref k) => (2, (k : Int))
  | _ => (4, 0)
def iLit (a : xV) : Bool := match a with
  | .inl (.int _) => true
  | .inl (.long _) => true
  | .inl (.ref _) => true
  | .inl .null => true
  | _ => false
def iLitC (c : xC) : Bool := match c with
  | .inl (_, _, d, o) => iLit d && o.all (fun q => iLit q.2)
  | .inr (_, fs) => fs.all iLit
noncomputable def iG (c : xC) : Nat → zV := match c with
  | .inl (_, _, d, o) => fun j => iV (x_lk o d j)
  | .inr (_, fs) => fun j => match x_nth fs j with
    | some a => iV a
    | none => (4, 0)
noncomputable def hIni : zH := fun r => match x_nth x_h1 r with
  | some c => iG c
  | none => fun _ => (4, 0)
def iZ (c : xC) : zC := match c with
  | .inl (ty, n, _, _) => .inl (ty, n)
  | .inr (ci, fs) => .inr (ci, fs.length)
theorem ini_shape : x_h1.map iZ = zShape := by decide +kernel
theorem ini_lit : x_h1.all iLitC = true := by decide +kernel
theorem iV_den {P : xP} {P' : zP} (hb : P'.1 = P.2.1) {a : xV} {v : Value} (hl : iLit a = true) (d : xden P a v) : zden P' (iV a) v := by
  match a, hl, d with
  | .inl (.int x), _, d => exact ⟨x, d, rfl⟩
  | .inl (.long x), _, d => exact ⟨x, d, rfl⟩
  | .inl (.ref k), _, d =>
    show v = .ref (P'.1 + ((k : Nat) : Int).toNat)
    rw [hb, Int.toNat_natCast]
    exact d
  | .inl .null, _, d => exact d
theorem iLk {d : xV} (hd : iLit d = true) : ∀ {o : List (Nat × xV)} (_ : o.all (fun q => iLit q.2) = true) (j : Nat), iLit (x_lk o d j) = true
  | [], _, _ => hd
  | q :: o, h, j => by
    rw [List.all_cons, Bool.and_eq_true] at h
    show iLit (cond (Nat.beq q.1 j) q.2 (x_lk o d j)) = true
    cases Nat.beq q.1 j with
    | true => exact h.1
    | false => exact iLk hd h.2 j
theorem iDs {P : xP} {P' : zP} (hb : P'.1 = P.2.1) : ∀ {fs : List xV} {vs : List Value}, fs.all iLit = true → xdens P fs vs → ∀ j, j < fs.length → ∃ v, vs[j]? = some v ∧ zden P' (match x_nth fs j with
    | some a => iV a
    | none => (4, 0)) v
  | [], _, _, _, j, hj => absurd hj (Nat.not_lt_zero j)
  | a :: fs, v :: vs, h, ⟨d, ds⟩, j, hj => by
    rw [List.all_cons, Bool.and_eq_true] at h
    cases j with
    | zero => exact ⟨v, rfl, iV_den hb h.1 d⟩
    | succ j =>
      obtain ⟨w, h1, h2⟩ := iDs hb h.2 ds j (Nat.lt_of_succ_lt_succ hj)
      exact ⟨w, by rw [List.getElem?_cons_succ]; exact h1, h2⟩
theorem zcell_of {P : xP} {P' : zP} (hb : P'.1 = P.2.1) (hg : P'.2.2.1 = P.2.2.2.1) {U : State} {H : Heap} {a : Nat} {c : xC} (hl : iLitC c = true) (h : xcell P U c a H) : zcell P' U (iZ c) (iG c) a H := by
  match c, hl, h with
  | .inl (ty, n, d, o), hl, ⟨cA, X, h1, h2, h3, h4, h5⟩ =>
    have hl : (iLit d && o.all (fun q => iLit q.2)) = true := hl
    rw [Bool.and_eq_true] at hl
    refine ⟨cA, X, h1, h2, ?_, h4, h5⟩
    obtain ⟨n', A⟩ := X
    match A, h3 with
    | .inl f, ⟨e1, e2⟩ => exact ⟨e1, fun j hj => iV_den hb (iLk hl.1 hl.2 j) (e2 j hj)⟩
    | .inr (.inl f), ⟨e1, e2⟩ => exact ⟨e1, fun j hj => iV_den hb (iLk hl.1 hl.2 j) (e2 j hj)⟩
    | .inr (.inr (.inr (.inr f))), ⟨e1, e2⟩ => exact ⟨e1, fun j hj => iV_den hb (iLk hl.1 hl.2 j) (e2 j hj)⟩
  | .inr (ci, fs), hl, ⟨vs, h1, h2⟩ =>
    refine ⟨vs, fun j hj => iDs hb hl h1 j hj, ?_⟩
    rw [hg]
    exact h2
theorem zG_of {P : xP} {P' : zP} (hb : P'.1 = P.2.1) (hg : P'.2.2.1 = P.2.2.2.1) {U : State} {H : Heap} (h : xG P x_h1 U H) : zG P' hIni U H := by
  intro k c hk
  rw [← ini_shape, List.getElem?_map] at hk
  obtain ⟨c0, hc, rfl⟩ := Option.map_eq_some_iff.mp hk
  have e : hIni k = iG c0 := by
    unfold hIni
    rw [x_nth_eq, hc]
  rw [e, hb]
  exact zcell_of hb hg (List.all_eq_true.mp ini_lit c0 (List.mem_of_getElem? hc)) (h.2 k c0 hc)
/-! what its cells hold -/
noncomputable def iCk (g : Nat → zV) (l : List (Nat × aT)) : Nat → Bool := List.rec (motive := fun _ => Nat → Bool) (fun _ => true) (fun s _ ih p => a_allN (fun j => a_acc s.2 ((g j).1, 0, 0) (g j).2 (g j).2) p s.1 && a_bN (p + s.1) ih) l
theorem iCk_ok {g : Nat → zV} : ∀ {l : List (Nat × aT)} {p : Nat}, iCk g l p = true → atyOK g l p
  | [], _, _ => trivial
  | s :: l, p, h => by
    have h : (a_allN (fun j => a_acc s.2 ((g j).1, 0, 0) (g j).2 (g j).2) p s.1 && a_bN (p + s.1) (iCk g l)) = true := h
    rw [Bool.and_eq_true, a_bN_eq] at h
    refine ⟨fun j h1 h2 => ?_, iCk_ok h.2⟩
    have := a_allN_ok h.1 (j - p) (by omega)
    rw [show p + (j - p) = j by omega] at this
    exact a_acc_ok this rfl (Int.le_refl _) (Int.le_refl _)
noncomputable def iCc (g : Nat → zV) (l : aTc) : Nat → Bool := List.rec (motive := fun _ => Nat → Bool) (fun _ => true) (fun s _ ih p => iCk g s.2 p && (Nat.ble (a_wid s.2) s.1 && a_bN (p + s.1) ih)) l
theorem iCc_ok {g : Nat → zV} : ∀ {l : aTc} {p : Nat}, iCc g l p = true → atyC g l p
  | [], _, _ => trivial
  | s :: l, p, h => by
    have h : (iCk g s.2 p && (Nat.ble (a_wid s.2) s.1 && a_bN (p + s.1) (iCc g l))) = true := h
    rw [Bool.and_eq_true, Bool.and_eq_true, a_bN_eq] at h
    exact ⟨iCk_ok h.1, Nat.le_of_ble_eq_true h.2.1, iCc_ok h.2.2⟩
noncomputable def iTy (cs : xH) : List aTc → Bool := List.rec (motive := fun _ => List aTc → Bool) (fun ls => match ls with
  | [] => true
  | _ => false) (fun c _ ih ls => match ls with
  | l :: ls => iCc (iG c) l 0 && ih ls
  | [] => false) cs
theorem iTy_ok : ∀ {cs : xH} {ls : List aTc}, iTy cs ls = true → ∀ (r : Nat) (l : aTc), ls[r]? = some l → ∃ c, cs[r]? = some c ∧ atyC (iG c) l 0
  | [], [], _, r, l, hl => by cases r <;> cases hl
  | [], _ :: _, h, _, _, _ => by cases h
  | _ :: _, [], h, _, _, _ => by cases h
  | c :: cs, l :: ls, h, r, l', hl => by
    have h : (iCc (iG c) l 0 && iTy cs ls) = true := h
    rw [Bool.and_eq_true] at h
    cases r with
    | zero =>
      cases hl
      exact ⟨c, rfl, iCc_ok h.1⟩
    | succ r => exact iTy_ok h.2 r l' hl
theorem ini_tyB : iTy x_h1 aTy1.flatten = true := by decide +kernel
theorem ini_ty12 : a_okc aTy1 = true := by decide +kernel
theorem ini_ty : aTyped aTy1 hIni := by
  intro r l hl
  rw [a_at_flat aTy1 r ini_ty12] at hl
  obtain ⟨c, h1, h2⟩ := iTy_ok ini_tyB r l hl
  have e : hIni r = iG c := by
    unfold hIni
    rw [x_nth_eq, h1]
  rw [e]
  exact h2
noncomputable def i0 (r k : Nat) : Bool := @decide ((hIni r k).2 = 0) (a_decEqZ _ _)
theorem i0_ok {r k : Nat} (h : i0 r k = true) : (hIni r k).2 = 0 := by
  unfold i0 at h
  rw [a_dec_eq] at h
  exact h
noncomputable def iR (x : Nat) : Bool := i0 (rPl x).2.2.2.1 (rPl x).2.2.2.2.1 && i0 (rPl x).2.2.2.2.2.1 (rPl x).2.2.2.2.2.2
theorem iR_ok {x : Nat} (h : iR x = true) : rOK x hIni := by
  unfold iR at h
  rw [Bool.and_eq_true] at h
  refine ⟨fun hm => ?_, fun hm => ?_⟩
  · rw [i0_ok h.1]; exact ⟨Int.le_refl 0, hm⟩
  · rw [i0_ok h.2]; exact ⟨Int.le_refl 0, hm⟩
theorem ini_rows0 : a_allN iR 0 120 = true := by decide +kernel
theorem ini_rows1 : a_allN iR 160 360 = true := by decide +kernel
theorem ini_row {x : Nat} (h : x < 120 ∨ (160 ≤ x ∧ x < 520)) : rOK x hIni := by
  rcases h with h | h
  · have := a_allN_ok ini_rows0 x h
    rw [Nat.zero_add] at this
    exact iR_ok this
  · have := a_allN_ok ini_rows1 (x - 160) (by omega)
    rw [show 160 + (x - 160) = x by omega] at this
    exact iR_ok this
theorem ini_al : a_allN (fun b => a_alls (fun i => i0 126 (550 * b + i)) [245, 246, 247, 248, 249, 250, 257, 258, 259, 260, 261, 262]) 0 4 = true := by decide +kernel
theorem ini_rAl {b : Nat} (hb : b < 4) : rAl hIni 126 (550 * b) := by
  intro k hk
  left
  have := a_allN_ok ini_al b hb
  rw [Nat.zero_add] at this
  have h2 : k - 550 * b ∈ [245, 246, 247, 248, 249, 250, 257, 258, 259, 260, 261, 262] := by
    have : k - 550 * b = 245 ∨ k - 550 * b = 246 ∨ k - 550 * b = 247 ∨ k - 550 * b = 248 ∨ k - 550 * b = 249 ∨ k - 550 * b = 250 ∨ k - 550 * b = 257 ∨ k - 550 * b = 258 ∨ k - 550 * b = 259 ∨ k - 550 * b = 260 ∨ k - 550 * b = 261 ∨ k - 550 * b = 262 := by unfold rIn at hk; omega
    rcases this with e | e | e | e | e | e | e | e | e | e | e | e <;> rw [e] <;> decide
  have := i0_ok (a_alls_ok this _ h2)
  rw [show 550 * b + (k - 550 * b) = k by unfold rIn at hk; omega] at this
  exact this
/-! the flags' meaning, for good -/
def Fl0 (j : Nat) (h : zH) : Prop := if j < 345 then rFl j h else if j < 353 then rFx j h else if 355 ≤ j ∧ j < 359 then rTr (j - 355) h else if j = 359 then rTl h else True
theorem rTr_cg {t : Nat} {h h' : zH} (e1 : h' (2 + 2 * t) 1 = h (2 + 2 * t) 1) (e2 : h' (2 + 2 * t) 2 = h (2 + 2 * t) 2) (e3 : h' 122 t = h 122 t) (e4 : h' 123 t = h 123 t) (g : rTr t h) : rTr t h' := by
  unfold rTr at g ⊢
  rw [e1, e2, e3, e4]
  exact g
noncomputable def inM (m : aM) (r k : Nat) : Bool := List.rec (motive := fun _ => Bool) false (fun q _ ih => (Nat.beq q.1 r && (Nat.ble q.2.1 k && Nat.ble k q.2.2)) || ih) m
theorem inM_ok {r k : Nat} : ∀ {m : aM}, inM m r k = true → aIn m r k
  | [], h => by cases h
  | q :: m, h => by
    have h : ((Nat.beq q.1 r && (Nat.ble q.2.1 k && Nat.ble k q.2.2)) || inM m r k) = true := h
    simp only [Bool.or_eq_true, Bool.and_eq_true] at h
    rcases h with ⟨h1, h2, h3⟩ | h
    · exact ⟨q, List.mem_cons_self, Nat.eq_of_beq_eq_true h1, Nat.le_of_ble_eq_true h2, Nat.le_of_ble_eq_true h3⟩
    · obtain ⟨q', h1, h2⟩ := inM_ok h
      exact ⟨q', List.mem_cons_of_mem _ h1, h2⟩
noncomputable def rIM (m : aM) (x : Nat) : Bool := inM m (rPl x).1 (rPl x).2.1 && (inM m (rPl x).1 (rPl x).2.2.1 && (inM m (rPl x).2.2.2.1 (rPl x).2.2.2.2.1 && inM m (rPl x).2.2.2.2.2.1 (rPl x).2.2.2.2.2.2))
theorem rIM_ok {m : aM} {x : Nat} {h h' : zH} (hb : rIM m x = true) (he : ∀ r k, aIn m r k → h' r k = h r k) (hr : rOK x h) : rOK x h' := by
  unfold rIM at hb
  simp only [Bool.and_eq_true] at hb
  obtain ⟨b1, b2, b3, b4⟩ := hb
  unfold rOK
  rw [he _ _ (inM_ok b1), he _ _ (inM_ok b2), he _ _ (inM_ok b3), he _ _ (inM_ok b4)]
  exact hr
noncomputable def supC (j : Nat) : Bool := match a_at aSup1 j with
  | some m => cond (Nat.beq j 155) (inM m 121 25 && a_allN (rIM m) 120 30) (a_bN (a_fr j).1 (fun lo => a_bN ((a_fr j).2 - lo) (fun n => a_allN (rIM m) lo n)))
  | none => true
theorem sup_rows : a_allN supC 0 345 = true := by decide +kernel
theorem aOK0 {G3 : Bool} {D : zD} (hD : ∀ i, -2147483648 ≤ D.2 i ∧ D.2 i ≤ 2147483647) (h0 : zH) (m0 : aM) (hS : G3 = true → ∀ k, h0 1000 k = (0, D.2 k) ∧ ¬ aIn m0 1000 k) : aOK ((aTy1, aSup1, G3), D, Fl0, h0, m0) := by
  refine ⟨⟨fun j m hm h h' he hf => ?_, hS⟩, hD, fun j h h1 h2 => ?_⟩
  · have hm : a_at aSup1 j = some m := hm
    by_cases j1 : j < 345
    · have hf : rFl j h := by
        have : Fl0 j h := hf
        unfold Fl0 at this
        rw [if_pos j1] at this
        exact this
      have hc := a_allN_ok sup_rows j j1
      rw [Nat.zero_add] at hc
      unfold supC at hc
      rw [hm] at hc
      show Fl0 j h'
      unfold Fl0
      rw [if_pos j1]
      by_cases e : j = 155
      · subst e
        have hc : (inM m 121 25 && a_allN (rIM m) 120 30) = true := hc
        rw [Bool.and_eq_true] at hc
        refine rFl_155.mpr fun x x1 x2 x3 => ?_
        rw [he 121 25 (inM_ok hc.1)] at x3
        have := a_allN_ok hc.2 (x - 120) (by omega)
        rw [show 120 + (x - 120) = x by omega] at this
        exact rIM_ok this he (rFl_155.mp hf x x1 x2 x3)
      · have hb : Nat.beq j 155 = false := by
          cases hq : Nat.beq j 155 with
          | false => rfl
          | true => exact absurd (Nat.eq_of_beq_eq_true hq) e
        rw [hb] at hc
        have hc : a_bN (a_fr j).1 (fun lo => a_bN ((a_fr j).2 - lo) (fun n => a_allN (rIM m) lo n)) = true := hc
        rw [a_bN_eq, a_bN_eq] at hc
        refine (rFl_n e).mpr fun x x1 x2 => ?_
        have := a_allN_ok hc (x - (a_fr j).1) (by omega)
        rw [show (a_fr j).1 + (x - (a_fr j).1) = x by omega] at this
        exact rIM_ok this he ((rFl_n e).mp hf x x1 x2)
    · by_cases j2 : j < 353
      · have hf : rFx j h := by
          have : Fl0 j h := hf
          unfold Fl0 at this
          rw [if_neg j1, if_pos j2] at this
          exact this
        show Fl0 j h'
        unfold Fl0
        rw [if_neg j1, if_pos j2]
        have al : ∀ r B, (∀ k, k = B ∨ k = B + 1 ∨ rIn B k → aIn m r k) → rAl h r B → rAl h' r B := fun r B hin ha k hk => by
          have := ha k hk
          unfold rCb at this ⊢
          rw [he r k (hin k (Or.inr (Or.inr hk))), he r B (hin B (Or.inl rfl)), he r (B + 1) (hin (B + 1) (Or.inr (Or.inl rfl)))]
          exact this
        have three : ∀ r B (m : aM), m = [(r, B, B + 1), (r, B + 245, B + 250), (r, B + 257, B + 262)] → ∀ k, k = B ∨ k = B + 1 ∨ rIn B k → aIn m r k := fun r B m em k hk => by
          rw [em]
          unfold rIn at hk
          by_cases c : k ≤ B + 1
          · exact ⟨_, List.mem_cons_self, rfl, by show B ≤ k; omega, c⟩
          · by_cases c2 : k ≤ B + 250
            · exact ⟨_, List.mem_cons_of_mem _ List.mem_cons_self, rfl, by show B + 245 ≤ k; omega, c2⟩
            · exact ⟨_, List.mem_cons_of_mem _ (List.mem_cons_of_mem _ List.mem_cons_self), rfl, by show B + 257 ≤ k; omega, by show k ≤ B + 262; omega⟩
        have cs : j = 345 ∨ j = 346 ∨ j = 347 ∨ j = 348 ∨ j = 349 ∨ j = 350 ∨ j = 351 ∨ j = 352 := by omega
        rcases cs with e | e | e | e | e | e | e | e
        · subst e
          cases hm
          exact al 126 0 (three 126 0 _ rfl) hf
        · subst e
          cases hm
          exact al 126 550 (three 126 550 _ rfl) hf
        · subst e
          cases hm
          exact al 126 1100 (three 126 1100 _ rfl) hf
        · subst e
          cases hm
          exact al 126 1650 (three 126 1650 _ rfl) hf
        · subst e
          cases hm
          exact al 126 2200 (three 126 2200 _ rfl) hf
        · subst e
          cases hm
          exact al 127 0 (three 127 0 _ rfl) hf
        · subst e
          cases hm
          have hf : rRow h := hf
          show rRow h'
          intro i i1 i2
          have g1 := he 121 31 ⟨(121, 31, 31), List.mem_cons_self, rfl, Nat.le_refl _, Nat.le_refl _⟩
          have g2 := he 132 i ⟨(132, 0, 48), List.mem_cons_of_mem _ List.mem_cons_self, rfl, Nat.zero_le _, by show i ≤ 48; omega⟩
          have g3 := he 126 0 ⟨(126, 0, 1), List.mem_cons_of_mem _ (List.mem_cons_of_mem _ List.mem_cons_self), rfl, Nat.zero_le _, Nat.zero_le _⟩
          have g4 := he 126 1 ⟨(126, 0, 1), List.mem_cons_of_mem _ (List.mem_cons_of_mem _ List.mem_cons_self), rfl, Nat.zero_le _, Nat.le_refl _⟩
          rw [g1] at i2
          have := hf i i1 i2
          unfold rCb at this ⊢
          rw [g2, g3, show (0 : Nat) + 1 = 1 from rfl, g4]
          exact this
        · subst e
          cases hm
          have hf : rZe h := hf
          show rZe h'
          intro k hk
          rw [he 126 k (by
            unfold rIn at hk
            by_cases c2 : k ≤ 2450
            · exact ⟨(126, 2445, 2450), List.mem_cons_self, rfl, by show 2445 ≤ k; omega, c2⟩
            · exact ⟨(126, 2457, 2462), List.mem_cons_of_mem _ List.mem_cons_self, rfl, by show 2457 ≤ k; omega, by show k ≤ 2462; omega⟩)]
          exact hf k hk
      · by_cases j3 : 355 ≤ j ∧ j < 359
        · have hf : rTr (j - 355) h := by
            have : Fl0 j h := hf
            unfold Fl0 at this
            rw [if_neg j1, if_neg j2, if_pos j3] at this
            exact this
          show Fl0 j h'
          unfold Fl0
          rw [if_neg j1, if_neg j2, if_pos j3]
          have sup : ∀ t (m : aM), m = [(2 + 2 * t, 1, 2), (122, t, t), (123, t, t)] → (∀ r k, aIn m r k → h' r k = h r k) → rTr t h → rTr t h' := fun t m em he => by
            rw [em] at he
            exact rTr_cg (he _ _ ⟨_, List.mem_cons_self, rfl, Nat.le_refl _, Nat.le_succ _⟩) (he _ _ ⟨_, List.mem_cons_self, rfl, Nat.le_succ _, Nat.le_refl _⟩) (he _ _ ⟨_, List.mem_cons_of_mem _ List.mem_cons_self, rfl, Nat.le_refl _, Nat.le_refl _⟩) (he _ _ ⟨_, List.mem_cons_of_mem _ (List.mem_cons_of_mem _ List.mem_cons_self), rfl, Nat.le_refl _, Nat.le_refl _⟩)
          have cs : j = 355 ∨ j = 356 ∨ j = 357 ∨ j = 358 := by omega
          rcases cs with e | e | e | e
          · subst e
            cases hm
            exact sup 0 _ rfl he hf
          · subst e
            cases hm
            exact sup 1 _ rfl he hf
          · subst e
            cases hm
            exact sup 2 _ rfl he hf
          · subst e
            cases hm
            exact sup 3 _ rfl he hf
        · by_cases j4 : j = 359
          · subst j4
            cases hm
            have hf : rTl h := hf
            show rTl h'
            unfold rTl at hf ⊢
            rw [he 10 1 ⟨_, List.mem_cons_self, rfl, Nat.le_refl _, Nat.le_refl _⟩, he 121 8 ⟨_, List.mem_cons_of_mem _ List.mem_cons_self, rfl, Nat.le_refl _, Nat.le_refl _⟩]
            exact hf
          · show Fl0 j h'
            unfold Fl0
            rw [if_neg j1, if_neg j2, if_neg j3, if_neg j4]
            exact trivial
  · show Fl0 j h ↔ rFx j h
    unfold Fl0
    rw [if_neg (by omega), if_pos h2]
theorem aFlOK0 {G : aG} {D : zD} (h0 : zH) (m0 : aM) : aFlOK (G, D, Fl0, h0, m0) := fun j h hj => by
  show Fl0 j h ↔ rFl j h
  unfold Fl0
  rw [if_pos hj]
noncomputable def tyK (l : aTc) (n : Nat) : Bool := tyI l 0 (n - 1) 0 (-2147483648) 2147483647
theorem tyK_ok {g : Nat → zV} {l : aTc} {n : Nat} (h : tyK l n = true) (hg : atyC g l 0) : ∀ j, j < n → (g j).1 = 0 := fun j hj => (tyI_ok hg h j (Nat.zero_le j) (by omega)).1
theorem aIntOK0 {G3 : Bool} {D : zD} {Fl : Nat → zH → Prop} (h0 : zH) (m0 : aM) : aIntOK ((aTy1, aSup1, G3), D, Fl, h0, m0) := by
  intro h ht
  have ht : aTyped aTy1 h := ht
  have k : ∀ r l n, a_at aTy1 r = some l → tyK l n = true → ∀ j, j < n → (h r j).1 = 0 := fun r l n hl hk j hj => tyK_ok hk (ht r l hl) j hj
  refine ⟨k 126 ty_126 2750 rfl (by decide +kernel), fun o ho j hj => ?_⟩
  match o, ho with
  | 0, _ => exact ⟨k 19 ty_19 60 rfl (by decide +kernel) j hj, k 20 ty_20 60 rfl (by decide +kernel) j hj, k 21 ty_21 60 rfl (by decide +kernel) j hj⟩
  | 1, _ => exact ⟨k 35 ty_35 60 rfl (by decide +kernel) j hj, k 36 ty_36 60 rfl (by decide +kernel) j hj, k 37 ty_37 60 rfl (by decide +kernel) j hj⟩
  | 2, _ => exact ⟨k 50 ty_50 60 rfl (by decide +kernel) j hj, k 51 ty_51 60 rfl (by decide +kernel) j hj, k 52 ty_52 60 rfl (by decide +kernel) j hj⟩
  | 3, _ => exact ⟨k 66 ty_66 60 rfl (by decide +kernel) j hj, k 67 ty_67 60 rfl (by decide +kernel) j hj, k 68 ty_68 60 rfl (by decide +kernel) j hj⟩
  | 4, _ => exact ⟨k 81 ty_81 60 rfl (by decide +kernel) j hj, k 82 ty_82 60 rfl (by decide +kernel) j hj, k 83 ty_83 60 rfl (by decide +kernel) j hj⟩
  | 5, _ => exact ⟨k 96 ty_96 60 rfl (by decide +kernel) j hj, k 97 ty_97 60 rfl (by decide +kernel) j hj, k 98 ty_98 60 rfl (by decide +kernel) j hj⟩
  | n + 6, h => omega
theorem aTrOK0 {G3 : Bool} {D : zD} (h0 : zH) (m0 : aM) : aTrOK ((aTy1, aSup1, G3), D, Fl0, h0, m0) := by
  refine ⟨fun t h ht => ?_, fun h => ?_, fun h ht t h4 => ?_⟩
  · show Fl0 (355 + t) h ↔ rTr t h
    unfold Fl0
    rw [if_neg (by omega), if_neg (by omega), if_pos ⟨by omega, by omega⟩, show 355 + t - 355 = t by omega]
  · show Fl0 360 h
    unfold Fl0
    rw [if_neg (by omega), if_neg (by omega), if_neg (by omega), if_neg (by omega)]
    exact trivial
  · have ht : aTyped aTy1 h := ht
    have k : ∀ r l lo hi, a_at aTy1 r = some l → tyI l lo hi 0 (-2147483648) 2147483647 = true → ∀ j, lo ≤ j → j ≤ hi → (h r j).1 = 0 := fun r l lo hi hl hb j h1 h2 => (tyI_ok (ht r l hl) hb j h1 h2).1
    have h2 := k 122 ty_122 0 3 rfl (by decide +kernel) t (by omega) (by omega)
    have h3 := k 123 ty_123 0 3 rfl (by decide +kernel) t (by omega) (by omega)
    have cs : t = 0 ∨ t = 1 ∨ t = 2 ∨ t = 3 := by omega
    rcases cs with e | e | e | e
    · subst e
      exact ⟨k 2 ty_2 1 2 rfl (by decide +kernel) 1 (by omega) (by omega), k 2 ty_2 1 2 rfl (by decide +kernel) 2 (by omega) (by omega), h2, h3⟩
    · subst e
      exact ⟨k 4 ty_4 1 2 rfl (by decide +kernel) 1 (by omega) (by omega), k 4 ty_4 1 2 rfl (by decide +kernel) 2 (by omega) (by omega), h2, h3⟩
    · subst e
      exact ⟨k 6 ty_6 1 2 rfl (by decide +kernel) 1 (by omega) (by omega), k 6 ty_6 1 2 rfl (by decide +kernel) 2 (by omega) (by omega), h2, h3⟩
    · subst e
      exact ⟨k 8 ty_8 1 2 rfl (by decide +kernel) 1 (by omega) (by omega), k 8 ty_8 1 2 rfl (by decide +kernel) 2 (by omega) (by omega), h2, h3⟩
theorem aTlOK0 {G3 : Bool} {D : zD} (h0 : zH) (m0 : aM) : aTlOK ((aTy1, aSup1, G3), D, Fl0, h0, m0) := by
  refine ⟨fun h => Iff.rfl, fun h ht => ?_⟩
  have ht : aTyped aTy1 h := ht
  have k := tyI_ok (ht 10 ty_10 rfl) (lo := 1) (hi := 1) (k := 0) (a := 0) (b := 900) (by decide +kernel) 1 (by omega) (by omega)
  have k2 := tyI_ok (ht 121 ty_121 rfl) (lo := 8) (hi := 8) (k := 0) (a := 0) (b := 900) (by decide +kernel) 8 (by omega) (by omega)
  exact ⟨k.1, k.2.1, k.2.2, k2.1⟩
theorem ini_tl : Fl0 359 hIni := by
  show (hIni 10 1).2 = (hIni 121 8).2
  rw [i0_ok (r := 10) (k := 1) (by decide +kernel), i0_ok (r := 121) (k := 8) (by decide +kernel)]
theorem ini_trB : a_allN (fun t => @decide ((hIni (2 + 2 * t) 1).2 = -1) (a_decEqZ _ _) && @decide ((hIni 123 t).2 = -1) (a_decEqZ _ _)) 0 4 = true := by decide +kernel
theorem ini_tr {t : Nat} (ht : t < 4) : Fl0 (355 + t) hIni := by
  have := a_allN_ok ini_trB t ht
  rw [Nat.zero_add, Bool.and_eq_true, a_dec_eq, a_dec_eq] at this
  unfold Fl0
  rw [if_neg (by omega), if_neg (by omega), if_pos ⟨by omega, by omega⟩, show 355 + t - 355 = t by omega]
  exact Or.inl this
