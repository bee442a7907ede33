/-! THE LAW'S LOOP, FROM WHERE THE CONSTRUCTORS HAVE COME -/
noncomputable def TLw : zT := fun mi pc => if mi = 341 then z_at zt_L_law pc else zTf mi pc
theorem TLw_T : ∀ mi t, x_nth zMT mi = some t → ∀ pc i, z_at t pc = some i → TLw mi pc = some i := by
  intro mi t ht pc i hi
  have hne : mi ≠ 341 := fun e => by
    rw [e, show x_nth zMT 341 = none from rfl] at ht
    cases ht
  unfold TLw
  rw [if_neg hne]
  show (match x_nth zMT mi with
    | some t => z_at t pc
    | none => none) = some i
  rw [ht]
  exact hi
def Lz : zL := fun k => match k with
  | 0 => some (3, 0)
  | 1 => some (2, 0)
  | 2 => some (2, 121)
  | 3 => some (0, 0)
  | _ => none
theorem bH0 {o : Nat} {D : zD} (hD : ∀ i, -2147483648 ≤ D.2 i ∧ D.2 i ≤ 2147483647) : bH o D Fl0 TLw := ⟨fun h m => aOK0 hD h m (fun e => by cases e), fun h m => aFlOK0 h m, fun h m => aIntOK0 h m, TLw_T⟩
theorem ini_fl : ∀ j ∈ cLaw_0.2.1.1.2.2.2.2, Fl0 j hIni := by
  intro j hj
  have hm : j = 30 ∨ j = 61 ∨ j = 92 ∨ j = 123 ∨ j = 217 ∨ j = 218 ∨ j = 219 ∨ j = 220 ∨ j = 221 ∨ j = 222 ∨ j = 345 ∨ j = 346 ∨ j = 347 ∨ j = 348 ∨ j = 355 ∨ j = 356 ∨ j = 357 ∨ j = 358 ∨ j = 359 := by
    have : ∀ j ∈ cLaw_0.2.1.1.2.2.2.2, j = 30 ∨ j = 61 ∨ j = 92 ∨ j = 123 ∨ j = 217 ∨ j = 218 ∨ j = 219 ∨ j = 220 ∨ j = 221 ∨ j = 222 ∨ j = 345 ∨ j = 346 ∨ j = 347 ∨ j = 348 ∨ j = 355 ∨ j = 356 ∨ j = 357 ∨ j = 358 ∨ j = 359 := by decide
    exact this j hj
  have rows : ∀ j lo hi, j < 345 → j ≠ 155 → a_fr j = (lo, hi) → (hi ≤ 120 ∨ (160 ≤ lo ∧ hi ≤ 520)) → Fl0 j hIni := fun j lo hi h1 h2 hf hr => by
    unfold Fl0
    rw [if_pos h1]
    refine (rFl_n h2).mpr fun x x1 x2 => ini_row ?_
    rw [hf] at x1 x2
    have x1 : lo ≤ x := x1
    have x2 : x < hi := x2
    omega
  have als : ∀ j, 345 ≤ j → j < 349 → rFx j hIni → Fl0 j hIni := fun j h1 h2 h => by
    unfold Fl0
    rw [if_neg (by omega), if_pos (by omega)]
    exact h
  rcases hm with e | e | e | e | e | e | e | e | e | e | e | e | e | e | e | e | e | e | e
  · subst e; exact rows 30 0 30 (by omega) (by omega) rfl (by omega)
  · subst e; exact rows 61 30 60 (by omega) (by omega) rfl (by omega)
  · subst e; exact rows 92 60 90 (by omega) (by omega) rfl (by omega)
  · subst e; exact rows 123 90 120 (by omega) (by omega) rfl (by omega)
  · subst e; exact rows 217 160 220 (by omega) (by omega) rfl (by omega)
  · subst e; exact rows 218 220 280 (by omega) (by omega) rfl (by omega)
  · subst e; exact rows 219 280 340 (by omega) (by omega) rfl (by omega)
  · subst e; exact rows 220 340 400 (by omega) (by omega) rfl (by omega)
  · subst e; exact rows 221 400 460 (by omega) (by omega) rfl (by omega)
  · subst e; exact rows 222 460 520 (by omega) (by omega) rfl (by omega)
  · subst e; exact als 345 (by omega) (by omega) (ini_rAl (b := 0) (by omega))
  · subst e; exact als 346 (by omega) (by omega) (ini_rAl (b := 1) (by omega))
  · subst e; exact als 347 (by omega) (by omega) (ini_rAl (b := 2) (by omega))
  · subst e; exact als 348 (by omega) (by omega) (ini_rAl (b := 3) (by omega))
  · subst e; exact ini_tr (t := 0) (by omega)
  · subst e; exact ini_tr (t := 1) (by omega)
  · subst e; exact ini_tr (t := 2) (by omega)
  · subst e; exact ini_tr (t := 3) (by omega)
  · subst e; exact ini_tl
theorem cLaw_ck : ∀ c ∈ cLaw, a_ckL c = true := List.forall_mem_cons.mpr ⟨kLaw_0, List.forall_mem_cons.mpr ⟨kLaw_1, List.forall_mem_cons.mpr ⟨kLaw_2, List.forall_mem_cons.mpr ⟨kLaw_3, fun _ h => absurd h List.not_mem_nil⟩⟩⟩⟩
/-! the script beside the heap -/
noncomputable def hIniD (D : zD) : zH := fun r => if r = 1000 then fun k => (0, D.2 k) else hIni r
theorem hIniD_ne {D : zD} {r : Nat} (h : r ≠ 1000) : hIniD D r = hIni r := if_neg h
theorem hIniD_S (D : zD) (k : Nat) : hIniD D 1000 k = (0, D.2 k) := congrFun (if_pos rfl : hIniD D 1000 = fun k => (0, D.2 k)) k
theorem ini_tyD (D : zD) : aTyped aTy1 (hIniD D) := fun r l hl => by
  have hne : r ≠ 1000 := fun e => by
    rw [e, show a_at aTy1 1000 = none from rfl] at hl
    cases hl
  rw [hIniD_ne hne]
  exact ini_ty r l hl
theorem ini_flD {D : zD} (hD : ∀ i, -2147483648 ≤ D.2 i ∧ D.2 i ≤ 2147483647) : ∀ j ∈ cLaw_0.2.1.1.2.2.2.2, Fl0 j (hIniD D) := by
  intro j hj
  have hb : a_all (fun j => match a_at aSup1 j with
    | some m => a_all (fun x => Nat.blt x.1 1000) m
    | none => false) cLaw_0.2.1.1.2.2.2.2 = true := by decide +kernel
  have hb := a_all_ok hb j hj
  split at hb
  · rename_i m hm
    refine (aOK0 (G3 := false) hD hIni [] (fun e => by cases e)).1.1 j m hm hIni (hIniD D) (fun r k hin => ?_) (ini_fl j hj)
    obtain ⟨x, hx, e1, -, -⟩ := hin
    have : x.1 < 1000 := Nat.le_of_ble_eq_true (a_all_ok hb x hx)
    rw [hIniD_ne (by omega)]
  · cases hb
theorem zG_ofD {P : zP} {D : zD} {U : State} {H : Heap} (g : zG P hIni U H) : zG P (hIniD D) U H := fun k c hk => by
  have hlt : k < zShape.length := (List.getElem?_eq_some_iff.mp hk).1
  have hl : zShape.length = 137 := rfl
  rw [hIniD_ne (by omega)]
  exact g k c hk
theorem law_noS (k : Nat) : ¬ aIn kLaw.2.2.2.2.1 1000 k := fun ⟨x, hx, e1, _⟩ => by
  have hb : a_all (fun x => Nat.blt x.1 1000) kLaw.2.2.2.2.1 = true := by decide +kernel
  have : x.1 < 1000 := Nat.le_of_ble_eq_true (a_all_ok hb x hx)
  omega
theorem law_run {D : zD} (hD : ∀ i, -2147483648 ≤ D.2 i ∧ D.2 i ≤ 2147483647) (hL : D.1 < 2147483648) : ∃ zr, zRun D TLw (0 + kLaw.2.1) 341 18 (hIniD D, Lz, []) zr ∧ zr.2 = some (0, 1) := by
  have B : bH 0 D Fl0 TLw := bH0 hD
  have hK : ∀ κ ∈ sLaw, aSpecO 0 aG2 D Fl0 TLw κ := kLaw_deps (kH2_of B)
  have hX : aOK (aG2, D, Fl0, hIniD D, kLaw.2.2.2.2.1) := aOK0 hD _ _ (fun _ k => ⟨hIniD_S D k, law_noS k⟩)
  have hlm := aLmU_ok (X := (aG2, D, Fl0, hIniD D, kLaw.2.2.2.2.1)) hX rfl (aTrOK0 _ _) (aTlOK0 _ _) (aLmR_ok hX (aFlOK0 _ _) (aIntOK0 _ _))
  have two : ∀ c ∈ cLaw, a_all (fun x => a_scp c.2.1.1.1 x.1) c.2.2 = true ∧ a_from aG2 aLmU hLaw sLaw 100000 kLaw cLaw zt_L_law (some c.2.2) c.1 c.2.1 = true := fun c hc => by
    have := cLaw_ck c hc
    unfold a_ckL at this
    exact (Bool.and_eq_true _ _ ▸ this : _ ∧ _)
  have all := a_cutsH_ok (X := (aG2, D, Fl0, hIniD D, kLaw.2.2.2.2.1)) (o := 0) (κ := kLaw) (cuts := cLaw) (t := zt_L_law) hX hK TLw_T hlm (fun pc i hi => (if_pos rfl).trans hi) rfl (fun _ => false) (fun c hc => (two c hc).1) (fun c hc _ => (two c hc).2) (fun c _ h => absurd h Bool.false_ne_true)
  obtain ⟨ρ, r0, r1⟩ : ∃ ρ : Nat → Int, ρ 0 = (D.1 : Int) ∧ ρ 1 = 0 := ⟨fun i => if i = 0 then (D.1 : Int) else 0, if_pos rfl, if_neg (by omega)⟩
  have g : aStD (aG2, D, Fl0, hIniD D, kLaw.2.2.2.2.1) ρ cLaw_0.2.1 (hIniD D, Lz, []) := by
    refine ⟨⟨⟨?_, ?_⟩, ini_tyD D, ?_, ini_flD hD, fun _ _ _ => rfl, fun _ => ⟨by decide, r0⟩⟩, ?_, trivial⟩
    · intro x hx
      have : x = (1, 0, 2147483647) ∨ x = (0, 0, 2147483647) := by
        have : ∀ x ∈ cLaw_0.2.1.1.2.1, x = (1, 0, 2147483647) ∨ x = (0, 0, 2147483647) := by decide
        exact this x hx
      rcases this with e | e
      · rw [e]; exact ⟨by decide, by show (0 : Int) ≤ ρ 1; omega, by show ρ 1 ≤ 2147483647; omega⟩
      · rw [e]; exact ⟨by decide, by show (0 : Int) ≤ ρ 0; omega, by show ρ 0 ≤ 2147483647; omega⟩
    · intro x hx
      have : x = ([(1, 1), (-1, 0)], 0) := by
        have : ∀ x ∈ cLaw_0.2.1.1.2.2.1, x = ([(1, 1), (-1, 0)], 0) := by decide
        exact this x hx
      rw [this]
      refine ⟨?_, ?_⟩
      · have : ∀ p ∈ ([(1, 1), (-1, 0)] : List (Int × Nat)), p.2 < cLaw_0.2.1.1.1 := by decide
        exact this
      · show 1 * ρ 1 + (-1 * ρ 0 + 0) ≤ 0
        omega
    · intro e he
      have : e = ((0, 0, 10), (0, 0, 0)) ∨ e = ((121, 0, 23), (0, 0, 0)) := by
        have : ∀ e ∈ cLaw_0.2.1.1.2.2.2.1, e = ((0, 0, 10), (0, 0, 0)) ∨ e = ((121, 0, 23), (0, 0, 0)) := by decide
        exact this e he
      rcases this with e' | e'
      · rw [e']
        exact ⟨Nat.zero_le _, (show (0 : Int) ≤ 10 from by decide), Nat.zero_le _, (congrFun (hIniD_ne (D := D) (r := 0) (by decide)) 10).trans (by decide +kernel : hIni 0 10 = (0, 0))⟩
      · rw [e']
        exact ⟨Nat.zero_le _, (show (0 : Int) ≤ 23 from by decide), Nat.zero_le _, (congrFun (hIniD_ne (D := D) (r := 121) (by decide)) 23).trans (by decide +kernel : hIni 121 23 = (0, 0))⟩
    · intro q hq
      have : q = (0, (3, 0, 0)) ∨ q = (1, (2, 0, 0)) ∨ q = (2, (2, 0, 121)) ∨ q = (3, (0, 2, 0)) := by
        have : ∀ q ∈ cLaw_0.2.1.2.1, q = (0, (3, 0, 0)) ∨ q = (1, (2, 0, 0)) ∨ q = (2, (2, 0, 121)) ∨ q = (3, (0, 2, 0)) := by decide
        exact this q hq
      rcases this with e | e | e | e
      · rw [e]; exact ⟨(3, 0), rfl, Nat.zero_le _, rfl⟩
      · rw [e]; exact ⟨(2, 0), rfl, Nat.zero_le _, rfl⟩
      · rw [e]; exact ⟨(2, 121), rfl, Nat.zero_le _, rfl⟩
      · rw [e]
        refine ⟨(0, 0), rfl, by decide, ?_⟩
        show ((0, 0) : zV) = (0, ρ 1 + 0)
        rw [r1]
        rfl
  obtain ⟨zr, z1, p, z2, ρ', -, -, z5, z6⟩ := all cLaw_0 List.mem_cons_self (by decide) ρ _ g
  refine ⟨zr, z1, ?_⟩
  have hp : ∀ p ∈ kLaw.2.2.2.2.2, p.2 = some (0, 0, 1) := by decide
  rw [hp p z2] at z6
  match hz : zr.2, z6 with
  | some w, z6 =>
    have z6 : aR ρ' p.1.1 (0, 0, 1) w := z6
    rw [z6.2]
    rfl
/-! what runs say of the machine, the law's own frame outermost -/
theorem z_soundL {l : Launch} {P : zP} {d pc : Nat} {st : zS} {r : zR} (hrun : zRun (zPD P) TLw d 341 pc st r) : ∀ (p : Program) (e : Env) (s : State) (m : MethodId) (args : Array Value) (below : List Frame) (meth : Method) (c : Code) (R : Room) (Q : State → Prop), zCx muL p s m args meth c → zRm d R → zKR P muL p l e R s m args below meth c Q r → zKG P muL p l e R s m args below meth c Q pc st := by
  have hlaw : ∀ pc i, z_at zt_L_law pc = some i → zSim l P zML muL pc i := zTab_of (zchkT_ok zMQ_ok oL_law)
  have key := hrun (fun d mi pc st r => (mi = 341 → ∀ (p : Program) (e : Env) (s : State) (m : MethodId) (args : Array Value) (below : List Frame) (meth : Method) (c : Code) (R : Room) (Q : State → Prop), zCx muL p s m args meth c → zRm d R → zKR P muL p l e R s m args below meth c Q r → zKG P muL p l e R s m args below meth c Q pc st) ∧ (∀ y, zML[mi]? = some y → ∀ (p : Program) (e : Env) (s : State) (m : MethodId) (args : Array Value) (below : List Frame) (meth : Method) (c : Code) (R : Room) (Q : State → Prop), zCx (zMu y) p s m args meth c → zRm d R → zKR P (zMu y) p l e R s m args below meth c Q r → zKG P (zMu y) p l e R s m args below meth c Q pc st)) ?_
  · exact key.1 rfl
  intro d mi pc st r ⟨i, hi, hF⟩
  refine ⟨fun hmi => ?_, fun y hy => ?_⟩
  · subst hmi
    intro p e s m args below meth c R Q C hrm K H locs cells slots ls stk J
    have hsim := hlaw pc i ((if_pos rfl).symm.trans hi)
    cases hz : zi (zPD P) i st with
    | none => rw [hz] at hF; exact hF.elim
    | some o =>
      rw [hz] at hF
      refine hsim p e s m args below meth c R Q d C hrm st o hz H locs cells slots ls stk J ?_
      match o, hF with
      | .inl q, hF =>
        have hF : r = q := hF
        subst hF
        exact K
      | .inr (.inl q), hF => exact hF.1 rfl p e s m args below meth c R Q C hrm K
      | .inr (.inr q), ⟨d', r1, h1, h2, h3⟩ => exact ⟨d', r1, h1, fun y' hy' hwd vs dvs => z_met (zMT_ok (l := l) (P := P) _ _ hy').1 (h2.2 y' hy') hwd dvs, h3.1 rfl p e s m args below meth c R Q C hrm K⟩
  · intro p e s m args below meth c R Q C hrm K H locs cells slots ls stk J
    have hne : mi ≠ 341 := fun e => by
      rw [e, show zML[341]? = none from rfl] at hy
      cases hy
    have hsim := (zMT_ok (l := l) (P := P) mi y hy).2 pc i ((if_neg hne).symm.trans hi)
    cases hz : zi (zPD P) i st with
    | none => rw [hz] at hF; exact hF.elim
    | some o =>
      rw [hz] at hF
      refine hsim p e s m args below meth c R Q d C hrm st o hz H locs cells slots ls stk J ?_
      match o, hF with
      | .inl q, hF =>
        have hF : r = q := hF
        subst hF
        exact K
      | .inr (.inl q), hF => exact hF.2 y hy p e s m args below meth c R Q C hrm K
      | .inr (.inr q), ⟨d', r1, h1, h2, h3⟩ => exact ⟨d', r1, h1, fun y' hy' hwd vs dvs => z_met (zMT_ok (l := l) (P := P) _ _ hy').1 (h2.2 y' hy') hwd dvs, h3.2 y hy p e s m args below meth c R Q C hrm K⟩
