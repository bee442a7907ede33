/-! THE STEPS, fifth part: calls and returns; THE RUN -/
theorem x_after {P : xP} {rs : List xR} {p : Program} {l : Launch} {e : Env} {R : Room} {s : State} {m : MethodId} {args a : Array Value} {below : List Frame} {meth : Method} {c : Code} {H : Heap} {locs : List Loc} {cells slots mc ms pc : Nat} {ls : Array Slot} {st0 rest : List Value} {Q : State → Prop}
    (hrun : va_Run p l e R s m args below meth c H locs cells slots mc ms (F0 m pc ls st0) rest (xQc P rs a) (fun z => P.2.1 ≤ z))
    (kk : ∀ r ∈ rs, ∀ (ov : Option Value) (H1 : Heap) (L : List Loc), xEnv P r.1 → xdenO P r.2.2 ov → xG P r.2.1 s H1 → (∀ q : Nat, q < P.2.1 → H1[q]? = H[q]?) → (∀ q ∈ L, P.2.1 ≤ q.base) → W p l e R s m args below meth c H1 (locs ++ L) (cells + mc) (slots + ms) Q (F0 m (pc + 3) ls (ov.toList ++ rest))) : W p l e R s m args below meth c H locs cells slots Q (F0 m pc ls st0) := by
  intro T hT X
  obtain ⟨v, st₀, t, T', L, h0, X', hL, e1, e2, ⟨r, hr, he, ⟨ov, hd, hv⟩, hg, hlow⟩, st⟩ := hrun T hT X
  cases hv
  have hal : t.vm.Alike s.vm := by rw [← e2]; exact X'.warmed.alike.symm
  obtain ⟨t2, a1, b1⟩ := kk r hr v T'.heap L he hd (by rw [e1]; exact hg.moved hal) (fun q hq => by rw [e1, hlow q hq, h0]) hL T' rfl X'
  exact ⟨t2, st t2 a1, b1⟩
theorem xPc_blind (P : xP) (h : xH) (vs : List Value) : FrameBlind (xPc P h vs) := fun a U g mk q => ⟨q.1, xG.moved (u := U) (U := U.calling g mk a) (Vm.Alike.refl U.vm) q.2.1, xX.same (s := U) (U := U.calling g mk a) rfl rfl q.2.2.1, va_K.moved (u := U) (U := U.calling g mk a) (Vm.Alike.refl U.vm) q.2.2.2⟩
theorem xPc_at {P : xP} {h : xH} {vs : List Value} {s : State} {H : Heap} (jg : xG P h s H) (jx : xX P s H) (jk : va_K P.2.2.2.1 vwCl [] s) : ∀ U : State, U.heap = H → s.WarmedH U.vm → xPc P h vs vs.toArray U := fun U hU hW => ⟨rfl, by rw [hU]; exact jg.moved hW.alike, by rw [hU]; exact jx.moved hW hU, va_K.moved hW.alike jk⟩
section STEPS5
variable {l : Launch} {P : xP} {M : List (xY × xT)} {μ : xM} {pc : Nat}
/-- a call's inside: what the engine found out -/
theorem x_call_inv {virt : Option Nat} {mi n mc ms nx : Nat} {cf : xF} {en : xE} {cl sl : Nat} {h : xH} {L : xL} {S : List xV} {outs : List xO} {stk : List Value} (ho : i_call virt mi n mc ms nx cf (en, cl, sl, h, L, S) = some outs) (jS : xdens P S stk) : ∃ (as S' : List xV) (vs stk' : List Value) (rs : List xR), as.length = n ∧ stk = vs.reverse ++ stk' ∧ xdens P as vs ∧ xdens P S' stk' ∧ x_sum S' ≤ 8 ∧ mc ≤ cl ∧ ms ≤ sl ∧ (∀ ci, virt = some ci → ∃ a as', as = a :: as' ∧ x_cls h ci a = true) ∧ cf mi en h as = some rs ∧ outs = x_map (x_back nx (cl - mc) (sl - ms) L S') rs := by
  obtain ⟨as, S', vs, stk', e1, e2, e3, e4, ho⟩ := x_take_den (P := P) (acc := []) (accv := []) ho jS trivial
  rw [List.append_nil] at ho
  obtain ⟨hc, hz⟩ := x_condS ho
  rw [Bool.and_eq_true, Bool.and_eq_true, Bool.and_eq_true] at hc
  obtain ⟨c1, c2, c3, c4⟩ := hc
  have hz : (match cf mi en h as with
    | some rs => x_kN (cl - mc) (fun cl => x_kN (sl - ms) (fun sl => some (x_map (x_back nx cl sl L S') rs)))
    | none => none) = some outs := hz
  cases hcf : cf mi en h as with
  | none => rw [hcf] at hz; cases hz
  | some rs =>
    rw [hcf] at hz
    have hz : x_kN (cl - mc) (fun cl => x_kN (sl - ms) (fun sl => some (x_map (x_back nx cl sl L S') rs))) = some outs := hz
    rw [x_kN_eq, x_kN_eq] at hz
    refine ⟨as, S', vs, stk', rs, e1, e2, e3, e4, Nat.le_of_ble_eq_true c1, Nat.le_of_ble_eq_true c2, Nat.le_of_ble_eq_true c3, fun ci hci => ?_, hcf, (Option.some.inj hz).symm⟩
    subst hci
    match as, c4 with
    | a :: as', c4 => exact ⟨a, as', rfl, c4⟩

theorem x_mem_map {α β : Type} {f : α → β} {a : α} : ∀ {l : List α}, a ∈ l → f a ∈ x_map f l
  | b :: l, h => by
    show f a ∈ f b :: x_map f l
    rcases List.mem_cons.mp h with h | h
    · rw [h]; exact List.mem_cons_self
    · exact List.mem_cons_of_mem _ (x_mem_map h)

theorem s_callV {index mi n : Nat} {C : String} {T : u_T} {N : Nat} (ci : Nat) (y : xY) (t : xT) (hM : M[mi]? = some (y, t)) (hd : decode μ.2.1 pc = .ok (.invokevirtual index, 3)) (hC : y.1.cls = C) (hc : vwCl[ci]? = some (C, T, N)) (hw1 : Cond.methodLink μ.1 index y.1 ∈ xTB) (hw2 : Cond.instanceMethod y.1 ∈ xTB) (hw3 : Cond.selects C y.1 y.1 ∈ xTB) (hcode : Cond.code y.1 y.2.1 y.2.2.1 y.2.2.2.1 ∈ xTB) (hini : Cond.initialized y.1.cls ∈ xTB) (hmh : y.1.cls ≠ "java/lang/invoke/MethodHandle" ∧ y.1.cls ≠ "java/lang/invoke/VarHandle" ∧ (parseMethodDescriptor y.1.desc).map (fun d => d.parameters.length) = some n) (hroom : y.2.2.2.2.frames + 1 ≤ μ.2.2.2.2.2.frames ∧ 8 + (y.2.2.1 + 11) + y.2.2.2.2.locals ≤ μ.2.2.2.2.2.locals) : xSim l P M μ pc (i_call (some ci) mi (n + 1) y.2.2.2.2.cells y.2.2.2.2.slots (pc + 3)) := by
  intro p e s m args below meth c R Q C cf hcf st outs ho H locs cells slots ls stk J K
  obtain ⟨hx, hb, hml, hown, hts, hr, hlk, hnm, hR⟩ := C
  obtain ⟨en, cl, sl, h, L, S⟩ := st
  obtain ⟨je, jc, js, jg, ⟨lv, jl, jd⟩, jS, jx, jo, jk⟩ := J
  obtain ⟨as, S', vs, stk', rs, e1, rfl, e3, e4, hsum, hmc, hms, hv, hrs, rfl⟩ := x_call_inv ho jS
  have hMet := hcf mi y t hM en h as rs hrs je vs e3
  have hlen := x_dens_len e3
  have hfit : cells + y.2.2.2.2.cells ≤ R.cells ∧ slots + y.2.2.2.2.slots ≤ R.slots := by have a1 := jc; have a2 := js; simp only at a1 a2; exact ⟨by omega, by omega⟩
  have hgood : ∀ w ∈ xWs y, w ∈ xTB := fun w hw => by
    rcases List.mem_cons.mp hw with h | h
    · rw [h]; exact hcode
    · exact h
  subst hR
  have hW8 : 2 * (F0 m pc ls (vs.reverse ++ stk')).monitorRoom + (stk'.map fun v => v.category).sum ≤ 8 := by rw [x_sum_den e4]; show 2 * 0 + _ ≤ 8; omega
  obtain ⟨a0, as', rfl, hcl⟩ : ∃ a0 as', as = a0 :: as' ∧ True := by
    cases as with
    | nil => simp at e1
    | cons a as' => exact ⟨a, as', rfl, trivial⟩
  obtain ⟨v0, vs', rfl, da0⟩ : ∃ v0 vs', vs = v0 :: vs' ∧ xden P a0 v0 := by
    cases vs with
    | nil => cases e3
    | cons v vs' => exact ⟨v, vs', rfl, e3.1⟩
  have hn : vs'.length = n := by simp at hlen e1; omega
  obtain ⟨a1, as1, ha, hcl⟩ := hv ci rfl
  cases ha
  obtain ⟨r0, rfl, -, cell, q1, q2, -, q3⟩ := x_cls_den hcl da0 jg jk hc
  subst hC
  have hgv : GoodIn xTB (wsV μ.1 index y.1.cls y.1 (xWs y)) := xTB_good (fun w hw => by
    rcases List.mem_append.mp (show w ∈ ([.methodLink μ.1 index y.1, .instanceMethod y.1, .selects y.1.cls y.1 y.1, .initialized y.1.cls] : List Cond) ++ xWs y from hw) with h | h
    · simp only [List.mem_cons, List.not_mem_nil, or_false] at h
      rcases h with rfl | rfl | rfl | rfl
      · exact hw1
      · exact hw2
      · exact hw3
      · exact hini
    · exact hgood w h)
  refine x_after (va_runV (As := vs') (rest := stk') ⟨hx, hb, hml, hown, hts⟩ hMet (cwV n hts hgv rfl rfl rfl ⟨rfl, hmh⟩ hroom) ⟨xPc_blind _ _ _, ⟨cell, q1, by rw [q2]; rfl, q3⟩, xPc_at jg jx jk⟩ rfl hn jl.1 (by simp) hW8 hd hfit) ?_
  intro r hrr ov H1 LL g1 g2 g3 g4 g5
  have hmem : x_back (pc + 3) (cl - y.2.2.2.2.cells) (sl - y.2.2.2.2.slots) L S' r ∈ x_map (x_back (pc + 3) (cl - y.2.2.2.2.cells) (sl - y.2.2.2.2.slots) L S') rs := x_mem_map hrr
  have k1 := K _ hmem H1 (locs ++ LL) (cells + y.2.2.2.2.cells) (slots + y.2.2.2.2.slots) ls (ov.toList ++ stk')
  refine k1 ⟨g1, by have := jc; simp only at this ⊢; omega, by have := js; simp only at this ⊢; omega, g3, ⟨lv, jl, jd⟩, ?_, jx.kept g4, fun q hq => (List.mem_append.mp hq).elim (jo q) (g5 q), jk⟩
  obtain ⟨r1, r2, r3⟩ := r
  cases r3 with
  | none => cases ov with
    | none => exact e4
    | some v => cases g2
  | some a => cases ov with
    | none => cases g2
    | some v => exact ⟨g2, e4⟩

theorem s_callI {index mi n : Nat} {r1 : vw_C} (ci : Nat) (y : xY) (t : xT) (hM : M[mi]? = some (y, t)) (hd : decode μ.2.1 pc = .ok (.invokespecial index, 3)) (hc : vwCl[ci]? = some r1) (hw1 : Cond.methodLink μ.1 index y.1 ∈ xTB) (hw2 : Cond.instanceMethod y.1 ∈ xTB) (hinit : y.1.name = "<init>") (hret : y.2.2.2.1 = none) (hcode : Cond.code y.1 y.2.1 y.2.2.1 y.2.2.2.1 ∈ xTB) (hini : Cond.initialized y.1.cls ∈ xTB) (hmh : y.1.cls ≠ "java/lang/invoke/MethodHandle" ∧ y.1.cls ≠ "java/lang/invoke/VarHandle" ∧ (parseMethodDescriptor y.1.desc).map (fun d => d.parameters.length) = some n) (hroom : y.2.2.2.2.frames + 1 ≤ μ.2.2.2.2.2.frames ∧ 8 + (y.2.2.1 + 11) + y.2.2.2.2.locals ≤ μ.2.2.2.2.2.locals) : xSim l P M μ pc (i_call (some ci) mi (n + 1) y.2.2.2.2.cells y.2.2.2.2.slots (pc + 3)) := by
  intro p e s m args below meth c R Q C cf hcf st outs ho H locs cells slots ls stk J K
  obtain ⟨hx, hb, hml, hown, hts, hr, hlk, hnm, hR⟩ := C
  obtain ⟨en, cl, sl, h, L, S⟩ := st
  obtain ⟨je, jc, js, jg, ⟨lv, jl, jd⟩, jS, jx, jo, jk⟩ := J
  obtain ⟨as, S', vs, stk', rs, e1, rfl, e3, e4, hsum, hmc, hms, hv, hrs, rfl⟩ := x_call_inv ho jS
  have hMet := hcf mi y t hM en h as rs hrs je vs e3
  have hlen := x_dens_len e3
  have hfit : cells + y.2.2.2.2.cells ≤ R.cells ∧ slots + y.2.2.2.2.slots ≤ R.slots := by have a1 := jc; have a2 := js; simp only at a1 a2; exact ⟨by omega, by omega⟩
  have hgood : ∀ w ∈ xWs y, w ∈ xTB := fun w hw => by
    rcases List.mem_cons.mp hw with h | h
    · rw [h]; exact hcode
    · exact h
  subst hR
  have hW8 : 2 * (F0 m pc ls (vs.reverse ++ stk')).monitorRoom + (stk'.map fun v => v.category).sum ≤ 8 := by rw [x_sum_den e4]; show 2 * 0 + _ ≤ 8; omega
  obtain ⟨a0, as', rfl, hcl⟩ : ∃ a0 as', as = a0 :: as' ∧ True := by
    cases as with
    | nil => simp at e1
    | cons a as' => exact ⟨a, as', rfl, trivial⟩
  obtain ⟨v0, vs', rfl, da0⟩ : ∃ v0 vs', vs = v0 :: vs' ∧ xden P a0 v0 := by
    cases vs with
    | nil => cases e3
    | cons v vs' => exact ⟨v, vs', rfl, e3.1⟩
  have hn : vs'.length = n := by simp at hlen e1; omega
  obtain ⟨a1, as1, ha, hcl⟩ := hv ci rfl
  cases ha
  obtain ⟨r0, rfl, -, cell, q1, q2, -, q3⟩ := x_cls_den hcl da0 jg jk hc
  have hMet' : Met l y.1 (Cond.code y.1 y.2.1 y.2.2.1 none :: xTB) y.2.2.2.2 (xPc P h (.ref (P.2.1 + r0) :: vs')) (xQc P rs) y.2.2.2.2.cells y.2.2.2.2.slots (fun z => P.2.1 ≤ z) := by
    have := hMet
    unfold xWs at this
    rw [hret] at this
    exact this
  have hgv : GoodIn xTB (Cond.code y.1 y.2.1 y.2.2.1 none :: xTB) := xTB_good (fun w hw => hgood w (by unfold xWs; rw [hret]; exact hw))
  refine x_after (va_runI (As := vs') (rest := stk') (b := P.2.1 + r0) ⟨hx, hb, hml, hown, hts⟩ hMet' (cwI n hts hgv rfl rfl rfl (hts _ hini) (hts _ hw1) (hts _ hw2) hinit hmh hroom) ⟨xPc_blind _ _ _, xPc_at jg jx jk⟩ rfl hn jl.1 (by simp) hW8 hd hfit) ?_
  intro r hrr ov H1 LL g1 g2 g3 g4 g5
  have hmem : x_back (pc + 3) (cl - y.2.2.2.2.cells) (sl - y.2.2.2.2.slots) L S' r ∈ x_map (x_back (pc + 3) (cl - y.2.2.2.2.cells) (sl - y.2.2.2.2.slots) L S') rs := x_mem_map hrr
  have k1 := K _ hmem H1 (locs ++ LL) (cells + y.2.2.2.2.cells) (slots + y.2.2.2.2.slots) ls (ov.toList ++ stk')
  refine k1 ⟨g1, by have := jc; simp only at this ⊢; omega, by have := js; simp only at this ⊢; omega, g3, ⟨lv, jl, jd⟩, ?_, jx.kept g4, fun q hq => (List.mem_append.mp hq).elim (jo q) (g5 q), jk⟩
  obtain ⟨r1, r2, r3⟩ := r
  cases r3 with
  | none => cases ov with
    | none => exact e4
    | some v => cases g2
  | some a => cases ov with
    | none => cases g2
    | some v => exact ⟨g2, e4⟩

theorem s_callIN {index mi n : Nat} {host : String} {r1 : vw_C} (ci : Nat) (y : xY) (t : xT) (hM : M[mi]? = some (y, t)) (hd : decode μ.2.1 pc = .ok (.invokespecial index, 3)) (hc : vwCl[ci]? = some r1) (hw1 : Cond.methodLinkNest μ.1 index y.1 host ∈ xNest) (hw2 : Cond.instanceMethod y.1 ∈ xTB) (hinit : y.1.name = "<init>") (hret : y.2.2.2.1 = none) (hcode : Cond.code y.1 y.2.1 y.2.2.1 y.2.2.2.1 ∈ xTB) (hini : Cond.initialized y.1.cls ∈ xTB) (hmh : y.1.cls ≠ "java/lang/invoke/MethodHandle" ∧ y.1.cls ≠ "java/lang/invoke/VarHandle" ∧ (parseMethodDescriptor y.1.desc).map (fun d => d.parameters.length) = some n) (hroom : y.2.2.2.2.frames + 1 ≤ μ.2.2.2.2.2.frames ∧ 8 + (y.2.2.1 + 11) + y.2.2.2.2.locals ≤ μ.2.2.2.2.2.locals) : xSim l P M μ pc (i_call (some ci) mi (n + 1) y.2.2.2.2.cells y.2.2.2.2.slots (pc + 3)) := by
  intro p e s m args below meth c R Q C cf hcf st outs ho H locs cells slots ls stk J K
  obtain ⟨hx, hb, hml, hown, hts, hr, hlk, hnm, hR⟩ := C
  obtain ⟨en, cl, sl, h, L, S⟩ := st
  obtain ⟨je, jc, js, jg, ⟨lv, jl, jd⟩, jS, jx, jo, jk⟩ := J
  obtain ⟨as, S', vs, stk', rs, e1, rfl, e3, e4, hsum, hmc, hms, hv, hrs, rfl⟩ := x_call_inv ho jS
  have hMet := hcf mi y t hM en h as rs hrs je vs e3
  have hlen := x_dens_len e3
  have hfit : cells + y.2.2.2.2.cells ≤ R.cells ∧ slots + y.2.2.2.2.slots ≤ R.slots := by have a1 := jc; have a2 := js; simp only at a1 a2; exact ⟨by omega, by omega⟩
  have hgood : ∀ w ∈ xWs y, w ∈ xTB := fun w hw => by
    rcases List.mem_cons.mp hw with h | h
    · rw [h]; exact hcode
    · exact h
  subst hR
  have hW8 : 2 * (F0 m pc ls (vs.reverse ++ stk')).monitorRoom + (stk'.map fun v => v.category).sum ≤ 8 := by rw [x_sum_den e4]; show 2 * 0 + _ ≤ 8; omega
  obtain ⟨a0, as', rfl, hcl⟩ : ∃ a0 as', as = a0 :: as' ∧ True := by
    cases as with
    | nil => simp at e1
    | cons a as' => exact ⟨a, as', rfl, trivial⟩
  obtain ⟨v0, vs', rfl, da0⟩ : ∃ v0 vs', vs = v0 :: vs' ∧ xden P a0 v0 := by
    cases vs with
    | nil => cases e3
    | cons v vs' => exact ⟨v, vs', rfl, e3.1⟩
  have hn : vs'.length = n := by simp at hlen e1; omega
  obtain ⟨a1, as1, ha, hcl⟩ := hv ci rfl
  cases ha
  obtain ⟨r0, rfl, -, cell, q1, q2, -, q3⟩ := x_cls_den hcl da0 jg jk hc
  have hMet' : Met l y.1 (Cond.code y.1 y.2.1 y.2.2.1 none :: xTB) y.2.2.2.2 (xPc P h (.ref (P.2.1 + r0) :: vs')) (xQc P rs) y.2.2.2.2.cells y.2.2.2.2.slots (fun z => P.2.1 ≤ z) := by
    have := hMet
    unfold xWs at this
    rw [hret] at this
    exact this
  have hgv : GoodIn xTB (Cond.code y.1 y.2.1 y.2.2.1 none :: xTB) := xTB_good (fun w hw => hgood w (by unfold xWs; rw [hret]; exact hw))
  refine x_after (va_runIN (As := vs') (rest := stk') (b := P.2.1 + r0) (host := host) ⟨hx, hb, hml, hown, hts⟩ hMet' ⟨va_cnB n hts hgv rfl rfl rfl (jx.1 _ hw1) (hts _ hini) hmh hroom, hinit, hts _ hw2⟩ ⟨xPc_blind _ _ _, xPc_at jg jx jk⟩ rfl hn jl.1 (by simp) hW8 hd hfit) ?_
  intro r hrr ov H1 LL g1 g2 g3 g4 g5
  have hmem : x_back (pc + 3) (cl - y.2.2.2.2.cells) (sl - y.2.2.2.2.slots) L S' r ∈ x_map (x_back (pc + 3) (cl - y.2.2.2.2.cells) (sl - y.2.2.2.2.slots) L S') rs := x_mem_map hrr
  have k1 := K _ hmem H1 (locs ++ LL) (cells + y.2.2.2.2.cells) (slots + y.2.2.2.2.slots) ls (ov.toList ++ stk')
  refine k1 ⟨g1, by have := jc; simp only at this ⊢; omega, by have := js; simp only at this ⊢; omega, g3, ⟨lv, jl, jd⟩, ?_, jx.kept g4, fun q hq => (List.mem_append.mp hq).elim (jo q) (g5 q), jk⟩
  obtain ⟨r1, r2, r3⟩ := r
  cases r3 with
  | none => cases ov with
    | none => exact e4
    | some v => cases g2
  | some a => cases ov with
    | none => cases g2
    | some v => exact ⟨g2, e4⟩

theorem s_callS {index mi n : Nat} (y : xY) (t : xT) (hM : M[mi]? = some (y, t)) (hd : decode μ.2.1 pc = .ok (.invokestatic index, 3)) (hw1 : Cond.methodLink μ.1 index y.1 ∈ xTB) (hw2 : Cond.static y.1 ∈ xTB) (hcode : Cond.code y.1 y.2.1 y.2.2.1 y.2.2.2.1 ∈ xTB) (hini : Cond.initialized y.1.cls ∈ xTB) (hmh : y.1.cls ≠ "java/lang/invoke/MethodHandle" ∧ y.1.cls ≠ "java/lang/invoke/VarHandle" ∧ (parseMethodDescriptor y.1.desc).map (fun d => d.parameters.length) = some n) (hroom : y.2.2.2.2.frames + 1 ≤ μ.2.2.2.2.2.frames ∧ 8 + (y.2.2.1 + 11) + y.2.2.2.2.locals ≤ μ.2.2.2.2.2.locals) : xSim l P M μ pc (i_call none mi (n) y.2.2.2.2.cells y.2.2.2.2.slots (pc + 3)) := by
  intro p e s m args below meth c R Q C cf hcf st outs ho H locs cells slots ls stk J K
  obtain ⟨hx, hb, hml, hown, hts, hr, hlk, hnm, hR⟩ := C
  obtain ⟨en, cl, sl, h, L, S⟩ := st
  obtain ⟨je, jc, js, jg, ⟨lv, jl, jd⟩, jS, jx, jo, jk⟩ := J
  obtain ⟨as, S', vs, stk', rs, e1, rfl, e3, e4, hsum, hmc, hms, hv, hrs, rfl⟩ := x_call_inv ho jS
  have hMet := hcf mi y t hM en h as rs hrs je vs e3
  have hlen := x_dens_len e3
  have hfit : cells + y.2.2.2.2.cells ≤ R.cells ∧ slots + y.2.2.2.2.slots ≤ R.slots := by have a1 := jc; have a2 := js; simp only at a1 a2; exact ⟨by omega, by omega⟩
  have hgood : ∀ w ∈ xWs y, w ∈ xTB := fun w hw => by
    rcases List.mem_cons.mp hw with h | h
    · rw [h]; exact hcode
    · exact h
  subst hR
  have hW8 : 2 * (F0 m pc ls (vs.reverse ++ stk')).monitorRoom + (stk'.map fun v => v.category).sum ≤ 8 := by rw [x_sum_den e4]; show 2 * 0 + _ ≤ 8; omega
  have hn : vs.length = n := by omega
  have hgv : GoodIn xTB (va_wsS μ.1 index y.1 (xWs y)) := xTB_good (fun w hw => by
    rcases List.mem_append.mp (show w ∈ ([.methodLink μ.1 index y.1, .static y.1, .initialized y.1.cls] : List Cond) ++ xWs y from hw) with h | h
    · simp only [List.mem_cons, List.not_mem_nil, or_false] at h
      rcases h with rfl | rfl | rfl
      · exact hw1
      · exact hw2
      · exact hini
    · exact hgood w h)
  refine x_after (va_runS (As := vs) (rest := stk') ⟨hx, hb, hml, hown, hts⟩ hMet (va_cwS n hts hgv rfl rfl rfl hmh hroom) ⟨xPc_blind _ _ _, xPc_at jg jx jk⟩ rfl hn jl.1 rfl hW8 hd hfit) ?_
  intro r hrr ov H1 LL g1 g2 g3 g4 g5
  have hmem : x_back (pc + 3) (cl - y.2.2.2.2.cells) (sl - y.2.2.2.2.slots) L S' r ∈ x_map (x_back (pc + 3) (cl - y.2.2.2.2.cells) (sl - y.2.2.2.2.slots) L S') rs := x_mem_map hrr
  have k1 := K _ hmem H1 (locs ++ LL) (cells + y.2.2.2.2.cells) (slots + y.2.2.2.2.slots) ls (ov.toList ++ stk')
  refine k1 ⟨g1, by have := jc; simp only at this ⊢; omega, by have := js; simp only at this ⊢; omega, g3, ⟨lv, jl, jd⟩, ?_, jx.kept g4, fun q hq => (List.mem_append.mp hq).elim (jo q) (g5 q), jk⟩
  obtain ⟨r1, r2, r3⟩ := r
  cases r3 with
  | none => cases ov with
    | none => exact e4
    | some v => cases g2
  | some a => cases ov with
    | none => cases g2
    | some v => exact ⟨g2, e4⟩

theorem s_ret0 (hd : decode μ.2.1 pc = .ok (.return_, 1)) (hret : μ.2.2.2.1 = none) : xSim l P M μ pc i_ret0 := by
  intro p e s m args below meth c R Q C cf hcf st outs ho H locs cells slots ls stk J K
  obtain ⟨hx, hb, hml, hown, hts, hr, hlk, hnm, hR⟩ := C
  obtain ⟨en, cl, sl, h, L, S⟩ := st
  obtain ⟨je, jc, js, jg, ⟨lv, jl, jd⟩, jS, jx, jo, jk⟩ := J
  match S, stk, jS, ho with
  | [], [], _, ho =>
    have ho : some [Sum.inl (en, h, (none : Option xV))] = some outs := ho
    have ho := Option.some.inj ho
    subst ho
    exact K _ (x_mem1 _) H locs cells slots pc ls none je (by have := jc; simp only at this; omega) (by have := js; simp only at this; omega) jg jx jo trivial ⟨hd, hret⟩
end STEPS5
/-! the run -/
theorem x_gath_mem {f : xO → Option (List xR)} : ∀ {os : List xO} {rs : List xR}, x_gath f os = some rs → ∀ o ∈ os, ∃ rs', f o = some rs' ∧ ∀ r ∈ rs', r ∈ rs
  | [], _, _, o, ho => by cases ho
  | [o1], rs, h, o, ho => by
    rw [List.mem_singleton.mp ho]
    exact ⟨rs, h, fun _ h => h⟩
  | o1 :: o2 :: os, rs, h, o, ho => by
    have h : x_app (f o1) (x_gath f (o2 :: os)) = some rs := h
    cases h1 : f o1 with
    | none => rw [h1] at h; cases h
    | some a =>
      cases h2 : x_gath f (o2 :: os) with
      | none => rw [h1, h2] at h; cases h
      | some b =>
        rw [h1, h2] at h
        have h := Option.some.inj h
        subst h
        rcases List.mem_cons.mp ho with ho | ho
        · rw [ho]
          exact ⟨a, h1, fun r hr => List.mem_append_left _ hr⟩
        · obtain ⟨rs', g1, g2⟩ := x_gath_mem h2 o ho
          exact ⟨rs', g1, fun r hr => List.mem_append_right _ (g2 r hr)⟩
abbrev xMu (y : xY) : xM := (y.1.cls, y.2.1, y.2.2.1, y.2.2.2.1, y.1.name, y.2.2.2.2)
def xTabOK (l : Launch) (P : xP) (M : List (xY × xT)) (μ : xM) (t : xT) : Prop := ∀ pc ri, x_at t pc = some ri → xSim l P M μ pc ri
/-- a list of steps, from a place on -/
def xAll (l : Launch) (P : xP) (M : List (xY × xT)) (μ : xM) : Nat → List (Option xI) → Prop
  | _, [] => True
  | b, none :: t => xAll l P M μ (b + 1) t
  | b, some ri :: t => xSim l P M μ b ri ∧ xAll l P M μ (b + 1) t
def xAlls (l : Launch) (P : xP) (M : List (xY × xT)) (μ : xM) : Nat → xT → Prop
  | _, [] => True
  | b, c :: t => xAll l P M μ b c ∧ xAlls l P M μ (b + 16) t
theorem xAll_get {l : Launch} {P : xP} {M : List (xY × xT)} {μ : xM} : ∀ {c : List (Option xI)} {b j : Nat} {ri : xI}, xAll l P M μ b c → c[j]? = some (some ri) → xSim l P M μ (b + j) ri
  | [], _, _, _, _, h => by simp at h
  | none :: t, b, 0, ri, ha, h => by cases h
  | some r :: t, b, 0, ri, ha, h => by cases h; exact ha.1
  | none :: t, b, j + 1, ri, ha, h => by
    have := xAll_get (j := j) (b := b + 1) (c := t) ha h
    rwa [show b + (j + 1) = b + 1 + j by omega]
  | some r :: t, b, j + 1, ri, ha, h => by
    have := xAll_get (j := j) (b := b + 1) (c := t) ha.2 h
    rwa [show b + (j + 1) = b + 1 + j by omega]
theorem xAlls_get {l : Launch} {P : xP} {M : List (xY × xT)} {μ : xM} : ∀ {t : xT} {b i j : Nat} {c : List (Option xI)} {ri : xI}, xAlls l P M μ b t → t[i]? = some c → c[j]? = some (some ri) → xSim l P M μ (b + 16 * i + j) ri
  | [], _, _, _, _, _, _, h, _ => by simp at h
  | c :: t, b, 0, j, c', ri, ha, h, hj => by cases h; exact xAll_get ha.1 hj
  | c :: t, b, i + 1, j, c', ri, ha, h, hj => by
    have := xAlls_get (i := i) (b := b + 16) (t := t) ha.2 h hj
    rwa [show b + 16 * (i + 1) + j = b + 16 + 16 * i + j by omega]
theorem xTabOK.of {l : Launch} {P : xP} {M : List (xY × xT)} {μ : xM} {t : xT} (h : xAlls l P M μ 0 t) : xTabOK l P M μ t := by
  intro pc ri hpc
  unfold x_at at hpc
  rw [x_nth_eq] at hpc
  match hc : t[Nat.div pc 16]?, hpc with
  | some c, hpc =>
    have hpc : (match x_nth c (Nat.mod pc 16) with
      | some r => r
      | none => none) = some ri := hpc
    rw [x_nth_eq] at hpc
    match hj : c[Nat.mod pc 16]?, hpc with
    | some (some r), hpc =>
      cases hpc
      have := xAlls_get h hc hj
      rwa [show 0 + 16 * Nat.div pc 16 + Nat.mod pc 16 = pc from by show 0 + 16 * (pc / 16) + pc % 16 = pc; omega] at this
theorem x_sl_len : ∀ vs : List Value, (lg_sl vs).length = (vs.map fun v => v.category).sum
  | [] => rfl
  | v :: vs => by
    have ih := x_sl_len vs
    unfold lg_sl at ih ⊢
    rw [List.flatMap_cons, List.length_append, ih, List.map_cons, List.sum_cons]
    congr 1
    rcases lv_cat v with h | h
    · rw [if_neg (by omega), h]; rfl
    · rw [if_pos h, h]; rfl
def xMok (l : Launch) (P : xP) (M : List (xY × xT)) : Prop := ∀ (mi : Nat) (y : xY) (t : xT), M[mi]? = some (y, t) → plainName y.1.cls = true ∧ xTabOK l P M (xMu y) t
set_option maxHeartbeats 4000000 in
theorem x_sound {l : Launch} {P : xP} {M : List (xY × xT)} (hM : xMok l P M) : ∀ n : Nat,
    (∀ (μ : xM) (t : xT), xTabOK l P M μ t → ∀ (p : Program) (e : Env) (s : State) (m : MethodId) (args : Array Value) (below : List Frame) (meth : Method) (c : Code) (R : Room) (Q : State → Prop), xCx μ p s m args meth c R → ∀ (pc : Nat) (st : xS) (rs : List xR), x_run M n t pc st = some rs → ∀ (H : Heap) (locs : List Loc) (cells slots : Nat) (ls : Array Slot) (stk : List Value), xJ P μ.2.2.1 R s st H locs cells slots ls stk → (∀ r ∈ rs, xKR P μ p l e R s m args below meth c Q r) → W p l e R s m args below meth c H locs cells slots Q (F0 m pc ls stk)) ∧ xMet l P M (x_in (x_run M n) M) := by
  have step : ∀ go : xT → Nat → xS → Option (List xR), (∀ (μ : xM) (t : xT), xTabOK l P M μ t → ∀ (p : Program) (e : Env) (s : State) (m : MethodId) (args : Array Value) (below : List Frame) (meth : Method) (c : Code) (R : Room) (Q : State → Prop), xCx μ p s m args meth c R → ∀ (pc : Nat) (st : xS) (rs : List xR), go t pc st = some rs → ∀ (H : Heap) (locs : List Loc) (cells slots : Nat) (ls : Array Slot) (stk : List Value), xJ P μ.2.2.1 R s st H locs cells slots ls stk → (∀ r ∈ rs, xKR P μ p l e R s m args below meth c Q r) → W p l e R s m args below meth c H locs cells slots Q (F0 m pc ls stk)) → xMet l P M (x_in go M) := by
    intro go hgo mi y t hm en h as rs ho je vs dvs
    have ho : (match x_nth M mi with
      | some (y, t) => cond (Nat.ble (x_sum as) y.2.2.1) (go t 0 (en, y.2.2.2.2.cells, y.2.2.2.2.slots, h, x_args 0 as, [])) none
      | none => none) = some rs := ho
    rw [x_nth_eq, hm] at ho
    obtain ⟨hsz, ho⟩ := x_condS (b := Nat.ble (x_sum as) y.2.2.1) (x := go t 0 (en, y.2.2.2.2.cells, y.2.2.2.2.slots, h, x_args 0 as, [])) ho
    have hsz := Nat.le_of_ble_eq_true hsz
    obtain ⟨hpl, htab⟩ := hM mi y t hm
    refine Met.ofW (cc := y.2.1) (maxL := y.2.2.1) (ret := y.2.2.2.1) hpl rfl ?_
    intro p e s m args below meth c s₁ B hml hv
    obtain ⟨rfl, hG, hX, hK⟩ := hv
    have hts := atoms_spec (ws := xWs y) B.pre
    have hlen : (lg_sl vs).length ≤ y.2.2.1 := by rw [x_sl_len, x_sum_den dvs]; exact hsz
    rw [lg_entry_eq]
    refine hgo (xMu y) t htab p e s m vs.toArray below meth c _ _ ⟨B.exec, B.bytes, hml, findClass_of_methodNamed B.named, fun w hw => hts w (List.mem_cons_of_mem _ hw), B.returns, B.notSynchronized, (name_of_methodNamed B.named B.method).1, rfl⟩ 0 _ rs ho s.heap [] 0 0 _ [] ⟨je, by show 0 + _ ≤ _; rw [Nat.zero_add]; exact Nat.le_refl _, by show 0 + _ ≤ _; rw [Nat.zero_add]; exact Nat.le_refl _, hG, ⟨_, lv_entry vs hlen, x_args_den dvs⟩, trivial, hX, (fun q h => absurd h List.not_mem_nil), hK⟩ ?_
    intro r hr H locs cells slots pc ls ov g1 g2 g3 g4 g5 g6 g7 g8
    refine W.widen (k := y.2.2.2.2.cells) (n := y.2.2.2.2.slots) g2 g3 ?_
    have hq : ∀ t : State, t.heap = H → s.WarmedH t.vm → xQc P rs vs.toArray s (.returned ov) t := fun t ht hW => ⟨r, hr, g1, ⟨ov, g7, rfl⟩, by rw [ht]; exact g4.moved hW.alike, fun q hq => by rw [ht]; exact g5.2.2.2.2.2 q hq⟩
    match ov, g8, hq with
    | none, g8, hq => exact W.vret B.exec B.bytes (B.returns.trans g8.2) hq g6 g8.1 (hlocks := B.notSynchronized)
    | some (.int x), ⟨g8, ty, h1, h2⟩, hq => exact W.zret B.exec B.bytes (B.returns.trans h1) h2 hq g6 g8 (hlocks := B.notSynchronized)
    | some (.long x), g8, hq => exact W.lret B.exec B.bytes (B.returns.trans g8.2) hq g6 g8.1 (hlocks := B.notSynchronized)
  intro n
  induction n with
  | zero => exact ⟨(fun μ t _ p e s m args below meth c R Q _ pc st rs h => (by cases h)), step (x_run M 0) (fun μ t _ p e s m args below meth c R Q _ pc st rs h => (by cases h))⟩
  | succ n ih =>
    have main : ∀ (μ : xM) (t : xT), xTabOK l P M μ t → ∀ (p : Program) (e : Env) (s : State) (m : MethodId) (args : Array Value) (below : List Frame) (meth : Method) (c : Code) (R : Room) (Q : State → Prop), xCx μ p s m args meth c R → ∀ (pc : Nat) (st : xS) (rs : List xR), x_run M (n + 1) t pc st = some rs → ∀ (H : Heap) (locs : List Loc) (cells slots : Nat) (ls : Array Slot) (stk : List Value), xJ P μ.2.2.1 R s st H locs cells slots ls stk → (∀ r ∈ rs, xKR P μ p l e R s m args below meth c Q r) → W p l e R s m args below meth c H locs cells slots Q (F0 m pc ls stk) := by
      intro μ t ht p e s m args below meth c R Q C pc st rs h H locs cells slots ls stk J K
      have h : x_step M (x_run M n) t pc st = some rs := h
      unfold x_step at h
      match hat : x_at t pc, h with
      | some ri, h =>
        have h : (match ri (x_in (x_run M n) M) st with
          | some os => x_gath (x_cont (x_run M n t)) os
          | none => none) = some rs := h
        match hri : ri (x_in (x_run M n) M) st, h with
        | some os, h =>
          refine ht pc ri hat p e s m args below meth c R Q C _ ih.2 st os hri H locs cells slots ls stk J (fun o ho => ?_)
          obtain ⟨rs', h1, h2⟩ := x_gath_mem h o ho
          match o, h1 with
          | .inl r, h1 =>
            have h1 : some [r] = some rs' := h1
            cases h1
            exact K r (h2 r (x_mem1 _))
          | .inr q, h1 =>
            intro H locs cells slots ls stk J
            exact ih.1 μ t ht p e s m args below meth c R Q C q.1 q.2 rs' h1 H locs cells slots ls stk J (fun r hr => K r (h2 r hr))
    exact ⟨main, step _ main⟩
