/-! THE LAW'S LOOP, FROM WHERE THE CONSTRUCTORS HAVE COME -/
noncomputable def TLw : zT := fun mi pc => if mi = 341 then z_at zt_L_law pc else zTf mi pc
theorem TLw_T : ∀ mi t, x_nth zMT mi = some t → ∀ pc i, z_at t pc = some i → TLw mi pc = some i := by
  intro mi t ht pc i hi
  have hne : mi ≠ 341 := fun e => by
    rw [e, show x_nth zMT 341 = none from rfl] at ht
    cases ht
  unfold TLw
  rw [if_neg hne]
  show (match x_nth zMT mi with
    | some t => z_at t pc
    | none => none) = some i
  rw [ht]
  exact hi
def Lz : zL := fun k => match k with
  | 0 => some (3, 0)
  | 1 => some (2, 0)
  | 2 => some (2, 121)
  | 3 => some (0, 0)
  | _ => none
theorem bH0 {o : Nat} {D : zD} (hD : ∀ i, -2147483648 ≤ D.2 i ∧ D.2 i ≤ 2147483647) : bH o D Fl0 TLw := ⟨fun h m => aOK0 hD h m (fun e => by cases e), fun h m => aFlOK0 h m, fun h m => aIntOK0 h m, TLw_T⟩
theorem ini_fl : ∀ j ∈ lQ_0.2.2.2.2, Fl0 j hIni := by
  intro j hj
  have hm : j = 30 ∨ j = 61 ∨ j = 92 ∨ j = 123 ∨ j = 217 ∨ j = 218 ∨ j = 219 ∨ j = 220 ∨ j = 221 ∨ j = 222 ∨ j = 345 ∨ j = 346 ∨ j = 347 ∨ j = 348 ∨ j = 355 ∨ j = 356 ∨ j = 357 ∨ j = 358 ∨ j = 359 := by
    have : ∀ j ∈ lQ_0.2.2.2.2, j = 30 ∨ j = 61 ∨ j = 92 ∨ j = 123 ∨ j = 217 ∨ j = 218 ∨ j = 219 ∨ j = 220 ∨ j = 221 ∨ j = 222 ∨ j = 345 ∨ j = 346 ∨ j = 347 ∨ j = 348 ∨ j = 355 ∨ j = 356 ∨ j = 357 ∨ j = 358 ∨ j = 359 := by decide
    exact this j hj
  have rows : ∀ j lo hi, j < 345 → j ≠ 155 → a_fr j = (lo, hi) → (hi ≤ 120 ∨ (160 ≤ lo ∧ hi ≤ 520)) → Fl0 j hIni := fun j lo hi h1 h2 hf hr => by
    unfold Fl0
    rw [if_pos h1]
    refine (rFl_n h2).mpr fun x x1 x2 => ini_row ?_
    rw [hf] at x1 x2
    have x1 : lo ≤ x := x1
    have x2 : x < hi := x2
    omega
  have als : ∀ j, 345 ≤ j → j < 349 → rFx j hIni → Fl0 j hIni := fun j h1 h2 h => by
    unfold Fl0
    rw [if_neg (by omega), if_pos (by omega)]
    exact h
  rcases hm with e | e | e | e | e | e | e | e | e | e | e | e | e | e | e | e | e | e | e
  · subst e; exact rows 30 0 30 (by omega) (by omega) rfl (by omega)
  · subst e; exact rows 61 30 60 (by omega) (by omega) rfl (by omega)
  · subst e; exact rows 92 60 90 (by omega) (by omega) rfl (by omega)
  · subst e; exact rows 123 90 120 (by omega) (by omega) rfl (by omega)
  · subst e; exact rows 217 160 220 (by omega) (by omega) rfl (by omega)
  · subst e; exact rows 218 220 280 (by omega) (by omega) rfl (by omega)
  · subst e; exact rows 219 280 340 (by omega) (by omega) rfl (by omega)
  · subst e; exact rows 220 340 400 (by omega) (by omega) rfl (by omega)
  · subst e; exact rows 221 400 460 (by omega) (by omega) rfl (by omega)
  · subst e; exact rows 222 460 520 (by omega) (by omega) rfl (by omega)
  · subst e; exact als 345 (by omega) (by omega) (ini_rAl (b := 0) (by omega))
  · subst e; exact als 346 (by omega) (by omega) (ini_rAl (b := 1) (by omega))
  · subst e; exact als 347 (by omega) (by omega) (ini_rAl (b := 2) (by omega))
  · subst e; exact als 348 (by omega) (by omega) (ini_rAl (b := 3) (by omega))
  · subst e; exact ini_tr (t := 0) (by omega)
  · subst e; exact ini_tr (t := 1) (by omega)
  · subst e; exact ini_tr (t := 2) (by omega)
  · subst e; exact ini_tr (t := 3) (by omega)
  · subst e; exact ini_tl
/-! what runs say of the machine, the law's own frame outermost -/
theorem z_soundL {l : Launch} {P : zP} {d pc : Nat} {st : zS} {r : zR} (hrun : zRun (zPD P) TLw d 341 pc st r) : ∀ (p : Program) (e : Env) (s : State) (m : MethodId) (args : Array Value) (below : List Frame) (meth : Method) (c : Code) (R : Room) (Q : State → Prop), zCx muL p s m args meth c → zRm d R → zKR P muL p l e R s m args below meth c Q r → zKG P muL p l e R s m args below meth c Q pc st := by
  have hlaw : ∀ pc i, z_at zt_L_law pc = some i → zSim l P zML muL pc i := zTab_of (zchkU_ok zMQ_ok rfl oL_law)
  have key := hrun (fun d mi pc st r => (mi = 341 → ∀ (p : Program) (e : Env) (s : State) (m : MethodId) (args : Array Value) (below : List Frame) (meth : Method) (c : Code) (R : Room) (Q : State → Prop), zCx muL p s m args meth c → zRm d R → zKR P muL p l e R s m args below meth c Q r → zKG P muL p l e R s m args below meth c Q pc st) ∧ (∀ y, zML[mi]? = some y → ∀ (p : Program) (e : Env) (s : State) (m : MethodId) (args : Array Value) (below : List Frame) (meth : Method) (c : Code) (R : Room) (Q : State → Prop), zCx (zMu y) p s m args meth c → zRm d R → zKR P (zMu y) p l e R s m args below meth c Q r → zKG P (zMu y) p l e R s m args below meth c Q pc st)) ?_
  · exact key.1 rfl
  intro d mi pc st r ⟨i, hi, hF⟩
  refine ⟨fun hmi => ?_, fun y hy => ?_⟩
  · subst hmi
    intro p e s m args below meth c R Q C hrm K H locs cells slots ls stk J
    have hsim := hlaw pc i ((if_pos rfl).symm.trans hi)
    cases hz : zi (zPD P) i st with
    | none => rw [hz] at hF; exact hF.elim
    | some o =>
      rw [hz] at hF
      refine hsim p e s m args below meth c R Q d C hrm st o hz H locs cells slots ls stk J ?_
      match o, hF with
      | .inl q, hF =>
        have hF : r = q := hF
        subst hF
        exact K
      | .inr (.inl q), hF => exact hF.1 rfl p e s m args below meth c R Q C hrm K
      | .inr (.inr q), ⟨d', r1, h1, h2, h3⟩ => exact ⟨d', r1, h1, fun y' hy' hwd vs dvs => z_met (zMT_ok (l := l) (P := P) _ _ hy').1 (h2.2 y' hy') hwd dvs, h3.1 rfl p e s m args below meth c R Q C hrm K⟩
  · intro p e s m args below meth c R Q C hrm K H locs cells slots ls stk J
    have hne : mi ≠ 341 := fun e => by
      rw [e, show zML[341]? = none from rfl] at hy
      cases hy
    have hsim := (zMT_ok (l := l) (P := P) mi y hy).2 pc i ((if_neg hne).symm.trans hi)
    cases hz : zi (zPD P) i st with
    | none => rw [hz] at hF; exact hF.elim
    | some o =>
      rw [hz] at hF
      refine hsim p e s m args below meth c R Q d C hrm st o hz H locs cells slots ls stk J ?_
      match o, hF with
      | .inl q, hF =>
        have hF : r = q := hF
        subst hF
        exact K
      | .inr (.inl q), hF => exact hF.2 y hy p e s m args below meth c R Q C hrm K
      | .inr (.inr q), ⟨d', r1, h1, h2, h3⟩ => exact ⟨d', r1, h1, fun y' hy' hwd vs dvs => z_met (zMT_ok (l := l) (P := P) _ _ hy').1 (h2.2 y' hy') hwd dvs, h3.2 y hy p e s m args below meth c R Q C hrm K⟩
