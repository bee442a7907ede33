/-! THE CLAIM: the law from its entry: the constructors by engine 1, its loop by the contracts -/
/-! THE CLAIM OUT OF ONE WALK OF THE LAW'S BODY. Your part is whole_start (and what it stands on); all else here is the same for every law, but numbers. -/
def R_law : String := "BreadMapLaw"
def lw_P (b : Addr) (xs : List Int32) (args : Array Value) (s : State) : Prop := args = #[.ref b] ∧ s.IntsAt b xs ∧ xs.length ≤ 3072 ∧ (Jvm.Cond.and given_1 narrow_1).before args s = true
def lw_Q (_ : Array Value) (s : State) (o : Outcome) (t : State) : Prop := o = .returned (some (.int 1)) ∧ Framed s o t [] 600000 7302250
def lw_Z (below : List Frame) (a : Array Value) (s : State) : State → Prop := fun t => ∃ o, t.status = .running ∧ Ended t below o ∧ lw_Q a s o t
/-- the law's own end, with 1 on the stack, nothing written that was there before, its room as the claim has it -/
theorem lw_ret {p : Program} {l : Launch} {e : Env} {s : State} {m : MethodId} {below : List Frame} {meth : Method} {c : Code} {b : Nat} (hx : p.tables.exec = Jvm.exec) (hb : c.code = code) (hr : meth.sig.returnType = ret) (hlocks : meth.locks = false) {pc : Nat} {H : Heap} {ls : Array Slot} (hdg : decode code pc = .ok (.ireturn, 1)) : W p l e room_1 s m #[Value.ref b] below meth c H [] 600000 7302250 (lw_Z below #[Value.ref b] s) (F0 m pc ls [.int 1]) := by
  intro T hT X
  obtain ⟨fs, hret, hrun, hended, hW, hframe⟩ := X.leave (v := some (.int 1)) (hlocks := hlocks) (fun h => by rw [hr] at h; cases h)
  have hmeth' : T.vm.method? m = some meth := X.method'
  refine ⟨T.setFrames fs, ?_, .returned (some (.int 1)), hrun, hended, rfl, ⟨_, rfl⟩, hW, hframe⟩
  jvm_step X.here [X.here.top, hx, hb, hdg, hmeth', hr, ret, narrow_b1]
  (try refine ⟨rfl, ?_⟩); (try refine ⟨rfl, ?_⟩)
  first | (intro acts; rw [hret _ acts rfl rfl rfl]) | rw [hret _ _ rfl rfl rfl]
  exact Steps.refl _
/-- what holds at the law's entry: the machine, the code, the tables' words (any of lw_tbl by 'hts w (by decide +kernel)'), the script of L ints xs at the cell b, what the Statement gives of the start (any of its parts by flat_of_before) -/
def lw_At (p : Program) (s : State) (m : MethodId) (meth : Method) (c : Code) (b L : Nat) (xs : Nat → Int32) : Prop :=
  p.tables.exec = Jvm.exec ∧ c.code = code ∧ meth.sig.returnType = ret ∧ c.maxLocals = 4 ∧ s.vm.findClass R_law = some m.cls ∧ (∀ w ∈ lw_tbl, w.before #[Value.ref b] s = true) ∧ va_X b L xs s s.heap ∧ b < s.heap.size ∧ meth.locks = false ∧ (Jvm.Cond.and given_1 narrow_1).before #[Value.ref b] s = true
theorem x_nestIn : ∀ w ∈ xNest, w ∈ lw_tbl := by
  intro w hw
  simp only [xNest, List.mem_cons, List.not_mem_nil, or_false] at hw
  rcases hw with rfl | rfl | rfl | rfl | rfl | rfl | rfl | rfl
  · exact List.mem_append_right _ (List.mem_append_left _ (List.mem_of_getElem? (i := 120) (by decide +kernel) : _ ∈ tables_1_1))
  · exact List.mem_append_right _ (List.mem_append_left _ (List.mem_of_getElem? (i := 175) (by decide +kernel) : _ ∈ tables_1_1))
  · exact List.mem_append_right _ (List.mem_append_right _ (List.mem_append_left _ (List.mem_of_getElem? (i := 152) (by decide +kernel) : _ ∈ tables_1_2)))
  · exact List.mem_append_right _ (List.mem_append_right _ (List.mem_append_left _ (List.mem_of_getElem? (i := 118) (by decide +kernel) : _ ∈ tables_1_2)))
  · exact List.mem_append_right _ (List.mem_append_right _ (List.mem_append_left _ (List.mem_of_getElem? (i := 33) (by decide +kernel) : _ ∈ tables_1_2)))
  · exact List.mem_append_right _ (List.mem_append_left _ (List.mem_of_getElem? (i := 170) (by decide +kernel) : _ ∈ tables_1_1))
  · exact List.mem_append_right _ (List.mem_append_left _ (List.mem_of_getElem? (i := 53) (by decide +kernel) : _ ∈ tables_1_1))
  · exact List.mem_append_right _ (List.mem_append_left _ (List.mem_of_getElem? (i := 33) (by decide +kernel) : _ ∈ tables_1_1))

theorem x_s0J {P : xP} {b nc ns : Nat} {s : State} {R : Room} {e : xE} (je : xEnv P e) (hc : nc ≤ R.cells) (hs : ns ≤ R.slots) (hbase : P.2.1 = s.heap.size) (hb : P.2.2.1 0 = b) (hx : xX P s s.heap) (hk : va_K P.2.2.2.1 vwCl [] s) : xJ P 4 R s (e, nc, ns, [], [(0, .inr (4, 0))], []) s.heap [] 0 0 ((lg_sl [Value.ref b] ++ List.replicate (4 - (lg_sl [Value.ref b]).length) Slot.unset).toArray) [] := by
  have h1 : 0 + nc ≤ R.cells := by omega
  have h2 : 0 + ns ≤ R.slots := by omega
  have h3 : s.heap.size = P.2.1 + 0 := hbase.symm
  refine ⟨je, h1, h2, ⟨h3, fun k c h => absurd (List.mem_of_getElem? h) List.not_mem_nil⟩, ⟨_, lv_entry [Value.ref b] (n := 4) (Nat.le_of_ble_eq_true rfl), ⟨⟨rfl, ?_⟩, trivial⟩⟩, trivial, hx, (fun q h => absurd h List.not_mem_nil), hk⟩
  show Value.ref b = .ref (P.2.2.1 0)
  rw [hb]
def tStr (i : Nat) : Term := match i with
  | 0 => .string "BreadMap$Tape" 83
  | _ => .string "BreadMap$Land" 85
abbrev tFl : List Cond := flatC (Jvm.Cond.and given_1 narrow_1)
theorem tS_ex : ∀ i, i < 2 → Cond.exactly (tStr i) "java/lang/String" ∈ tFl := by decide +kernel
theorem tS_co : ∀ i, i < 2 → Cond.eq (.field (tStr i) "java/lang/String" "coder" "B") (.int 0) ∈ tFl := by decide +kernel
theorem tS_ar : ∀ i, i < 2 → Cond.arrayOf (.field (tStr i) "java/lang/String" "value" "[B") .byte ∈ tFl := by decide +kernel
theorem tS_le : ∀ i, i < 2 → Cond.eq (.length (.field (tStr i) "java/lang/String" "value" "[B")) (.int (Int32.ofNat (zLen.getD i 0))) ∈ tFl := by decide +kernel
def tEl (i j : Nat) : Cond := Cond.eq (.elem (.field (tStr i) "java/lang/String" "value" "[B") (.int (Int32.ofNat j))) (.int ((zByt.getD i []).getD j 0))
theorem tS_e0 : (tFl.drop 55).take 118 = (List.range 118).map (tEl 0) := by decide +kernel
theorem tS_l0 : zLen.getD 0 0 = 118 := by decide +kernel
theorem tS_e1 : (tFl.drop 177).take 5 = (List.range 5).map (tEl 1) := by decide +kernel
theorem tS_l1 : zLen.getD 1 0 = 5 := by decide +kernel
theorem tS_m {o n i j : Nat} (e : (tFl.drop o).take n = (List.range n).map (tEl i)) (h : j < n) : tEl i j ∈ tFl := List.mem_of_mem_drop (List.mem_of_mem_take (e.symm ▸ List.mem_map.mpr ⟨j, List.mem_range.mpr h, rfl⟩))
theorem tS_el : ∀ i, i < 2 → ∀ j, j < zLen.getD i 0 → Cond.eq (.elem (.field (tStr i) "java/lang/String" "value" "[B") (.int (Int32.ofNat j))) (.int ((zByt.getD i []).getD j 0)) ∈ tFl := by
  intro i hi j hj
  match i, hi, hj with
  | 0, _, hj => exact tS_m tS_e0 (tS_l0 ▸ hj)
  | 1, _, hj => exact tS_m tS_e1 (tS_l1 ▸ hj)
theorem tS_ne : ∀ i, i < 2 → ∀ j, j < 2 → i ≠ j → (Cond.not (Cond.eq (tStr i) (tStr j)) ∈ tFl ∨ Cond.not (Cond.eq (tStr j) (tStr i)) ∈ tFl) := by decide +kernel
section FIN
variable {l : Launch} {P : xP} {p : Program} {e : Env} {R : Room} {s : State} {m : MethodId} {args : Array Value} {below : List Frame} {meth : Method} {c : Code} {H : Heap} {locs : List Loc} {cells slots : Nat} {Q : State → Prop} {ls : Array Slot} {stk : List Value}
theorem x_finA {nm : String} (hC : xCx (xMuL nm) p s m args meth c R) (J0 : xJ P 4 R s (x_s0 (x_e0 (-2147483648, 2147483647))) H locs cells slots ls stk) (kk : ∀ (H : Heap) (locs : List Loc) (cells slots : Nat) (ls : Array Slot) (stk : List Value), xJ P 4 R s (x_s1 (x_e0 (-2147483648, 2147483647))) H locs cells slots ls stk → W p l e R s m args below meth c H locs cells slots Q (F0 m 18 ls stk)) : W p l e R s m args below meth c H locs cells slots Q (F0 m 0 ls stk) :=
  x_go_sound (l := l) (P := P) xMT_ok 1000000 (μ := xMuL nm) (t := te_L_law) oe_L_law hC kk 10 0 (x_s0 (x_e0 (-2147483648, 2147483647))) x_phaseA H locs cells slots ls stk J0
end FIN
theorem zl_of {P : xP} {P' : zP} (hb : P'.1 = P.2.1) (he : P'.2.1 = P.2.2.1) {lv : List (Nat × Value)} (d : xldens P [(3, .inl (.int (Int32.ofNat 0))), (2, .inl (.ref 121)), (1, .inl (.ref 0)), (0, .inr (4, 0))] lv) : zldens P' Lz lv := by
  match lv, d with
  | [(k3, v3), (k2, v2), (k1, v1), (k0, v0)], ⟨⟨e3, d3⟩, ⟨e2, d2⟩, ⟨e1, d1⟩, ⟨e0, d0⟩, _⟩ =>
    have e3 : 3 = k3 := e3
    have e2 : 2 = k2 := e2
    have e1 : 1 = k1 := e1
    have e0 : 0 = k0 := e0
    subst e3; subst e2; subst e1; subst e0
    have d3 : v3 = .int (Int32.ofNat 0) := d3
    have d2 : v2 = .ref (P.2.1 + 121) := d2
    have d1 : v1 = .ref (P.2.1 + 0) := d1
    have d0 : v0 = .ref (P.2.2.1 0) := d0
    intro k w hw
    match k, hw with
    | 0, hw => cases hw; exact ⟨v0, by simp, by show v0 = .ref (P'.2.1 0); rw [he]; exact d0⟩
    | 1, hw => cases hw; exact ⟨v1, by simp, by show v1 = .ref (P'.1 + 0); rw [hb]; exact d1⟩
    | 2, hw => cases hw; exact ⟨v2, by simp, by show v2 = .ref (P'.1 + 121); rw [hb]; exact d2⟩
    | 3, hw => cases hw; exact ⟨v3, by simp, ⟨Int32.ofNat 0, d3, rfl⟩⟩
    | k + 4, hw => cases hw
set_option maxHeartbeats 800000 in
set_option maxRecDepth 100000 in
/-- THE LAW, from its entry -/
theorem whole_start {p : Program} {e : Env} {s : State} {m : MethodId} {below : List Frame} {meth : Method} {c : Code} (l : Launch) (hflags : l.flags = flags0) {b L : Nat} {xs : Nat → Int32} (hL : L ≤ 3072) (C0 : lw_At p s m meth c b L xs) : W p l e room_1 s m #[Value.ref b] below meth c s.heap [] 0 0 (lw_Z below #[Value.ref b] s) (entryFrame m ([Value.ref b] : List Value).toArray 4) := by
  obtain ⟨hx, hb, hr, hml, hown, hts, hX, hbl, hlocks, hgv⟩ := id C0
  have hA : ∀ a : Nat, a < s.heap.size → ¬ s.heap.size ≤ a := fun a h => Nat.not_le.mpr h
  have hfl := flat_of_before _ hgv
  obtain ⟨c0, i0, hKn0⟩ := u_known (C := RX0) (T := TX0) (N := 9) (n := 9) hts (fun w h => (List.mem_filter.mp (xin_0 w h)).1) (hts (.instantiable RX0 9) (List.mem_append_right _ (List.mem_append_right _ (List.mem_append_left _ (List.mem_of_getElem? (i := 117) (by decide +kernel) : _ ∈ tables_1_2)))))
  obtain ⟨c1, i1, hKn1⟩ := u_known (C := RX1) (T := TX1) (N := 11) (n := 11) hts (fun w h => (List.mem_filter.mp (xin_1 w h)).1) (hts (.instantiable RX1 11) (List.mem_append_right _ (List.mem_append_right _ (List.mem_append_left _ (List.mem_of_getElem? (i := 73) (by decide +kernel) : _ ∈ tables_1_2)))))
  obtain ⟨c2, i2, hKn2⟩ := u_known (C := RX2) (T := TX2) (N := 15) (n := 15) hts (fun w h => (List.mem_filter.mp (xin_2 w h)).1) (hts (.instantiable RX2 15) (List.mem_append_right _ (List.mem_append_left _ (List.mem_of_getElem? (i := 169) (by decide +kernel) : _ ∈ tables_1_1))))
  obtain ⟨c3, i3, hKn3⟩ := u_known (C := RX3) (T := TX3) (N := 3) (n := 3) hts (fun w h => (List.mem_filter.mp (xin_3 w h)).1) (hts (.instantiable RX3 3) (List.mem_append_right _ (List.mem_append_left _ (List.mem_of_getElem? (i := 97) (by decide +kernel) : _ ∈ tables_1_1))))
  obtain ⟨c4, i4, hKn4⟩ := u_known (C := RX4) (T := TX4) (N := 2) (n := 2) hts (fun w h => (List.mem_filter.mp (xin_4 w h)).1) (hts (.instantiable RX4 2) (List.mem_append_right _ (List.mem_append_right _ (List.mem_append_left _ (List.mem_of_getElem? (i := 151) (by decide +kernel) : _ ∈ tables_1_2)))))
  obtain ⟨c5, i5, hKn5⟩ := u_known (C := RX5) (T := TX5) (N := 6) (n := 6) hts (fun w h => (List.mem_filter.mp (xin_5 w h)).1) (hts (.instantiable RX5 6) (List.mem_append_right _ (List.mem_append_left _ (List.mem_of_getElem? (i := 119) (by decide +kernel) : _ ∈ tables_1_1))))
  obtain ⟨c6, i6, hKn6⟩ := u_known (C := RX6) (T := TX6) (N := 5) (n := 5) hts (fun w h => (List.mem_filter.mp (xin_6 w h)).1) (hts (.instantiable RX6 5) (List.mem_append_right _ (List.mem_append_left _ (List.mem_of_getElem? (i := 113) (by decide +kernel) : _ ∈ tables_1_1))))
  obtain ⟨c7, i7, hKn7⟩ := u_known (C := RX7) (T := TX7) (N := 12) (n := 12) hts (fun w h => (List.mem_filter.mp (xin_7 w h)).1) (hts (.instantiable RX7 12) (List.mem_append_right _ (List.mem_append_right _ (List.mem_append_left _ (List.mem_of_getElem? (i := 164) (by decide +kernel) : _ ∈ tables_1_2)))))
  obtain ⟨c8, i8, hKn8⟩ := u_known (C := RX8) (T := TX8) (N := 11) (n := 11) hts (fun w h => (List.mem_filter.mp (xin_8 w h)).1) (hts (.instantiable RX8 11) (List.mem_append_right _ (List.mem_append_left _ (List.mem_of_getElem? (i := 52) (by decide +kernel) : _ ∈ tables_1_1))))
  obtain ⟨c9, i9, hKn9⟩ := u_known (C := RX9) (T := TX9) (N := 3) (n := 3) hts (fun w h => (List.mem_filter.mp (xin_9 w h)).1) (hts (.instantiable RX9 3) (List.mem_append_right _ (List.mem_append_left _ (List.mem_of_getElem? (i := 32) (by decide +kernel) : _ ∈ tables_1_1))))
  obtain ⟨c10, i10, hKn10⟩ := u_known (C := RX10) (T := TX10) (N := 9) (n := 9) hts (fun w h => (List.mem_filter.mp (xin_10 w h)).1) (hts (.instantiable RX10 9) (List.mem_append_right _ (List.mem_append_right _ (List.mem_append_left _ (List.mem_of_getElem? (i := 32) (by decide +kernel) : _ ∈ tables_1_2)))))
  obtain ⟨c11, i11, hKn11⟩ := u_known (C := RX11) (T := TX11) (N := 20) (n := 20) hts (fun w h => (List.mem_filter.mp (xin_11 w h)).1) (hts (.instantiable RX11 20) (List.mem_append_right _ (List.mem_append_left _ (List.mem_of_getElem? (i := 23) (by decide +kernel) : _ ∈ tables_1_1))))
  obtain ⟨c12, i12, hKn12⟩ := u_known (C := RX12) (T := TX12) (N := 48) (n := 48) hts (fun w h => (List.mem_filter.mp (xin_12 w h)).1) (hts (.instantiable RX12 48) (List.mem_append_right _ (List.mem_append_right _ (List.mem_append_right _ (List.mem_append_right _ (List.mem_append_right _ (List.mem_append_right _ (List.mem_append_left _ (List.mem_of_getElem? (i := 202) (by decide +kernel) : _ ∈ tables_1_6)))))))))
  obtain ⟨dC, dI, hKc⟩ : ∃ (dC : Nat → ClassId) (dI : Nat → Nat → Nat), ∀ (k : Nat) (q : vw_C), vwCl[k]? = some q → u_Kn s q.1 q.2.1 q.2.2 (dC k) (dI k) := by
    refine ⟨fun k => [c0, c1, c2, c3, c4, c5, c6, c7, c8, c9, c10, c11, c12].getD k c0, fun k => [i0, i1, i2, i3, i4, i5, i6, i7, i8, i9, i10, i11, i12].getD k i0, ?_⟩
    intro k q hq
    match k, hq with
    | 0, hq => cases hq; exact hKn0
    | 1, hq => cases hq; exact hKn1
    | 2, hq => cases hq; exact hKn2
    | 3, hq => cases hq; exact hKn3
    | 4, hq => cases hq; exact hKn4
    | 5, hq => cases hq; exact hKn5
    | 6, hq => cases hq; exact hKn6
    | 7, hq => cases hq; exact hKn7
    | 8, hq => cases hq; exact hKn8
    | 9, hq => cases hq; exact hKn9
    | 10, hq => cases hq; exact hKn10
    | 11, hq => cases hq; exact hKn11
    | 12, hq => cases hq; exact hKn12
    | k + 13, hq => simp [vwCl] at hq
  have hK : va_K (dC, dI) vwCl [] s := ⟨hKc, fun k q h => by simp at h⟩
  have n5 : 5 < 2 ^ 31 := by decide
  obtain ⟨a1, ha1, hT1⟩ := va_Tof (args := #[Value.ref b]) (s := s) (tm := .static "BreadMap" "MOVES" "[I") (ty := .int) (N := 5) (f := fun j => .int ((xTab 1).getD j 0)) (A := fun z => s.heap.size ≤ z) n5 (hfl _ (by decide +kernel)) (va_eqt (hfl _ (by decide +kernel))) (fun j hj => by
    match j, hj with
    | 0, _ => exact va_eqt (hfl _ (by decide +kernel))
    | 1, _ => exact va_eqt (hfl _ (by decide +kernel))
    | 2, _ => exact va_eqt (hfl _ (by decide +kernel))
    | 3, _ => exact va_eqt (hfl _ (by decide +kernel))
    | 4, _ => exact va_eqt (hfl _ (by decide +kernel))) hA
  obtain ⟨a2, ha2, hT2⟩ := va_Tof (args := #[Value.ref b]) (s := s) (tm := .static "BreadMap$Land" "LETTER_CRUMBS" "[I") (ty := .int) (N := 5) (f := fun j => .int ((xTab 2).getD j 0)) (A := fun z => s.heap.size ≤ z) n5 (hfl _ (by decide +kernel)) (va_eqt (hfl _ (by decide +kernel))) (fun j hj => by
    match j, hj with
    | 0, _ => exact va_eqt (hfl _ (by decide +kernel))
    | 1, _ => exact va_eqt (hfl _ (by decide +kernel))
    | 2, _ => exact va_eqt (hfl _ (by decide +kernel))
    | 3, _ => exact va_eqt (hfl _ (by decide +kernel))
    | 4, _ => exact va_eqt (hfl _ (by decide +kernel))) hA
  have hZ1 : va_Z "BreadMap" "MOVES" "[I" (.ref a1) (fun z => s.heap.size ≤ z) s s.heap := va_Zof (hts (.laysStatic "BreadMap" "MOVES" "[I") (List.mem_append_right _ (List.mem_append_right _ (List.mem_append_right _ (List.mem_append_right _ (List.mem_append_right _ (List.mem_append_right _ (List.mem_append_left _ (List.mem_of_getElem? (i := 65) (by decide +kernel) : _ ∈ tables_1_6))))))))) (hts (.initialized "BreadMap") (List.mem_append_right _ (List.mem_append_left _ (List.mem_of_getElem? (i := 1) (by decide +kernel) : _ ∈ tables_1_1)))) ha1 hA
  have hZ2 : va_Z "BreadMap$Land" "LETTER_CRUMBS" "[I" (.ref a2) (fun z => s.heap.size ≤ z) s s.heap := va_Zof (hts (.laysStatic "BreadMap$Land" "LETTER_CRUMBS" "[I") (List.mem_append_right _ (List.mem_append_right _ (List.mem_append_right _ (List.mem_append_right _ (List.mem_append_left _ (List.mem_of_getElem? (i := 203) (by decide +kernel) : _ ∈ tables_1_4))))))) (hts (.initialized "BreadMap$Land") (List.mem_append_right _ (List.mem_append_left _ (List.mem_of_getElem? (i := 7) (by decide +kernel) : _ ∈ tables_1_1)))) ha2 hA
  have hZ3 : va_Z "java/lang/String" "COMPACT_STRINGS" "Z" (.int 1) (fun z => s.heap.size ≤ z) s s.heap := va_Zof (hts (.laysStatic "java/lang/String" "COMPACT_STRINGS" "Z") (List.mem_append_right _ (List.mem_append_right _ (List.mem_append_right _ (List.mem_append_left _ (List.mem_of_getElem? (i := 163) (by decide +kernel) : _ ∈ tables_1_3)))))) (hts (.initialized "java/lang/String") (List.mem_append_right _ (List.mem_append_left _ (List.mem_of_getElem? (i := 17) (by decide +kernel) : _ ∈ tables_1_1)))) (va_eqt (hfl (Cond.eq (.static "java/lang/String" "COMPACT_STRINGS" "Z") (.int 1)) (by decide +kernel))) hA
  have hZ4 : va_Zq "jdk/internal/util/Preconditions" "SIOOBE_FORMATTER" "Ljava/util/function/BiFunction;" (fun z => s.heap.size ≤ z) s s.heap := va_Zqof (hts (.laysStatic "jdk/internal/util/Preconditions" "SIOOBE_FORMATTER" "Ljava/util/function/BiFunction;") (List.mem_append_right _ (List.mem_append_right _ (List.mem_append_right _ (List.mem_append_left _ (List.mem_of_getElem? (i := 179) (by decide +kernel) : _ ∈ tables_1_3)))))) (hts (.initialized "jdk/internal/util/Preconditions") (List.mem_append_right _ (List.mem_append_left _ (List.mem_of_getElem? (i := 19) (by decide +kernel) : _ ∈ tables_1_1)))) (hfl (Cond.isRef (.static "jdk/internal/util/Preconditions" "SIOOBE_FORMATTER" "Ljava/util/function/BiFunction;")) (by decide +kernel)) hA
  obtain ⟨adK, adV, hS, hSe⟩ := vk_Sof (args := #[Value.ref b]) (s := s) (N := 2) (tm := tStr) (len := zLen) (byt := zByt) (A := fun z => s.heap.size ≤ z) (fun i hi => Nat.lt_of_lt_of_le (tln_ok i hi).2.1 (by decide)) (fun i hi => hfl _ (tS_ex i hi)) (fun i hi => hfl _ (tS_co i hi)) (fun i hi => hfl _ (tS_ar i hi)) (fun i hi => hfl _ (tS_le i hi)) (fun i hi j hj => hfl _ (tS_el i hi j hj)) (fun i j hi hj hn => (tS_ne i hi j hj hn).imp (fun q => hfl _ q) (fun q => hfl _ q)) hA
  have hR1 : vk_R "BreadMap$Tape" 83 "wide row rise by copies company at to bite mould honey steam mouse march home when eaten arrives crumbs loop end stop " (adK 0) s := vk_R.of (A := #[Value.ref b]) (hts _ (List.mem_append_right _ (List.mem_append_right _ (List.mem_append_right _ (List.mem_append_left _ (List.mem_of_getElem? (i := 153) (by decide +kernel) : _ ∈ tables_1_3)))))) (hSe 0 (by omega))
  have hR2 : vk_R "BreadMap$Land" 85 "prhwf" (adK 1) s := vk_R.of (A := #[Value.ref b]) (hts _ (List.mem_append_right _ (List.mem_append_right _ (List.mem_append_right _ (List.mem_append_right _ (List.mem_append_left _ (List.mem_of_getElem? (i := 25) (by decide +kernel) : _ ∈ tables_1_4))))))) (hSe 1 (by omega))
  obtain ⟨ρ, hρ6, hρ⟩ : ∃ ρ : Nat → Int32, ρ 4000 = xs 0 &&& 63 ∧ ∀ k, k < 4000 → ρ k = xs k := ⟨fun k => if k = 4000 then xs 0 &&& 63 else xs k, if_pos rfl, fun k hk => if_neg (by omega)⟩
  obtain ⟨ex, hex0, hex1, hex2, hex3⟩ : ∃ ex : Nat → Nat, ex 0 = b ∧ ex 1 = a1 ∧ ex 2 = a2 ∧ (fun i => ex (i + 3)) = adK := ⟨fun k => match k with
    | 0 => b
    | 1 => a1
    | 2 => a2
    | i + 3 => adK i, rfl, rfl, rfl, rfl⟩
  have hXr : va_X b L ρ s s.heap := by
    obtain ⟨scr, x1, x2, x3, x4, x5⟩ := hX
    exact ⟨scr, x1, x2, x3, x4, fun j hj => by rw [hρ j (by omega)]; exact x5 j hj⟩
  obtain ⟨P, hP⟩ : ∃ P : xP, P = (ρ, s.heap.size, ex, (dC, dI), L, xMT) := ⟨_, rfl⟩
  have hP1 : P.1 = ρ := by rw [hP]
  have hP2 : P.2.1 = s.heap.size := by rw [hP]
  have hP3 : P.2.2.1 = ex := by rw [hP]
  have hP4 : P.2.2.2.1 = (dC, dI) := by rw [hP]
  obtain ⟨P', hP'⟩ : ∃ P' : zP, P' = (s.heap.size, ex, (dC, dI), L, xs) := ⟨_, rfl⟩
  have jx : xX P s s.heap := by
    rw [hP]
    refine ⟨fun w hw => ?_, fun C hC => ?_, fun q hq => ?_, ?_, ?_, fun _ _ => rfl⟩
    · have hw2 := x_nestIn w hw
      have ho : w.onTables = true := by
        simp only [xNest, List.mem_cons, List.not_mem_nil, or_false] at hw
        rcases hw with rfl | rfl | rfl | rfl | rfl | rfl | rfl | rfl <;> rfl
      exact va_Nw.of ho (hts w hw2)
    · simp only [List.mem_cons, List.not_mem_nil, or_false] at hC
      rcases hC with rfl | rfl
      · exact va_AO.of (hts (.arrayOver (.object "BreadMap$Tray")) (List.mem_append_right _ (List.mem_append_left _ (List.mem_of_getElem? (i := 31) (by decide +kernel) : _ ∈ tables_1_1))))
      · exact va_AO.of (hts (.arrayOver (.object "BreadMap$Land")) (List.mem_append_right _ (List.mem_append_right _ (List.mem_append_left _ (List.mem_of_getElem? (i := 30) (by decide +kernel) : _ ∈ tables_1_2)))))
    · simp only [xStat, List.mem_cons, List.not_mem_nil, or_false] at hq
      rcases hq with rfl | rfl
      · exact ⟨by show va_Z _ _ _ (.ref (ex 1)) _ _ _; rw [hex1]; exact hZ1, by show va_T .int (ex 1) 5 _ _ _ _; rw [hex1]; exact hT1⟩
      · exact ⟨by show va_Z _ _ _ (.ref (ex 2)) _ _ _; rw [hex2]; exact hZ2, by show va_T .int (ex 2) 5 _ _ _ _; rw [hex2]; exact hT2⟩
    · show va_X (ex 0) L ρ s s.heap
      rw [hex0]; exact hXr
    · show ex 0 < s.heap.size
      rw [hex0]; exact hbl
  have jt : zXS P' s s.heap := by
    rw [hP']
    refine ⟨⟨adV, ?_⟩, hZ3, hZ4, fun j q hq => ?_⟩
    · show vk_S 2 zLen zByt (fun i => ex (i + 3)) adV (fun z => s.heap.size ≤ z) s s.heap
      rw [hex3]; exact hS
    · match j, hq with
      | 0, hq =>
        cases hq
        show vk_R "BreadMap$Tape" 83 "wide row rise by copies company at to bite mould honey steam mouse march home when eaten arrives crumbs loop end stop " ((fun i => ex (i + 3)) 0) s
        rw [hex3]; exact hR1
      | 1, hq =>
        cases hq
        show vk_R "BreadMap$Land" 85 "prhwf" ((fun i => ex (i + 3)) 1) s
        rw [hex3]; exact hR2
      | j + 2, hq => simp [zTexts] at hq
  have hC : xCx (xMuL meth.name) p s m #[Value.ref b] meth c room_1 := ⟨hx, hb, hml, hown, fun w hw => hts w (List.mem_filter.mp hw).1, hr, hlocks, rfl, rfl⟩
  have hCz : zCx muL p s m #[Value.ref b] meth c := ⟨hx, hb, hml, hown, fun w hw => hts w (List.mem_filter.mp hw).1, hr, hlocks⟩
  have jfull : xEnv P (x_e0 (-2147483648, 2147483647)) := by
    refine ⟨by rw [hP1, hρ6, hρ 0 (by decide)], fun k r hk => ?_⟩
    rw [hP1]
    have b1 := Int32.le_toInt (ρ k)
    have b2 := Int32.toInt_lt (ρ k)
    match k, hk with
    | 0, hk => cases hk; exact ⟨by omega, by show _ ≤ (2147483647 : Int); omega⟩
    | 1, hk => cases hk; exact ⟨by omega, by show _ ≤ (2147483647 : Int); omega⟩
    | 2, hk => cases hk; exact ⟨by omega, by show _ ≤ (2147483647 : Int); omega⟩
    | 3, hk => cases hk; exact ⟨by omega, by show _ ≤ (2147483647 : Int); omega⟩
    | 4, hk => cases hk; exact ⟨by omega, by show _ ≤ (2147483647 : Int); omega⟩
    | 5, hk => cases hk; exact ⟨by omega, by show _ ≤ (2147483647 : Int); omega⟩
    | 6, hk => cases hk; exact ⟨by omega, by show _ ≤ (2147483647 : Int); omega⟩
    | k + 7, hk => simp [x_e0] at hk
  have hD : ∀ i, -2147483648 ≤ (zPD P').2 i ∧ (zPD P').2 i ≤ 2147483647 := fun i => by
    have b1 := Int32.le_toInt (P'.2.2.2.2 i)
    have b2 := Int32.toInt_lt (P'.2.2.2.2 i)
    show -2147483648 ≤ (P'.2.2.2.2 i).toInt ∧ (P'.2.2.2.2 i).toInt ≤ 2147483647
    omega
  have hL1 : (zPD P').1 < 2147483648 := by
    rw [hP']
    show L < 2147483648
    omega
  obtain ⟨zr, hrun, hres⟩ := law_run hD hL1
  have hroom : zRm 615 room_1 := ⟨Nat.le_of_ble_eq_true rfl, Nat.le_of_ble_eq_true rfl⟩
  have hret : zKR P' muL p l e room_1 s m #[Value.ref b] below meth c (lw_Z below #[Value.ref b] s) zr := by
    intro H locs cells slots pc ls ov g2 g3 _ _ g6 g7 g8
    rw [hres] at g7
    match ov, g7, g8 with
    | some v, g7, g8 =>
      obtain ⟨x, rfl, hx1⟩ : ∃ x : Int32, v = .int x ∧ x.toInt = 1 := g7
      have e1 : x = 1 := Int32.toInt_inj.mp hx1
      subst e1
      refine va_forget (fun q hq => by have := g6 q hq; rw [hP'] at this; exact this) ?_
      exact W.widen (k := 600000) (n := 7302250) g2 g3 (lw_ret hx hb hr hlocks g8.1)
  rw [lg_entry_eq]
  have J0 : xJ P 4 room_1 s (x_s0 (x_e0 (-2147483648, 2147483647))) s.heap [] 0 0 ((lg_sl [Value.ref b] ++ List.replicate (4 - (lg_sl [Value.ref b]).length) Slot.unset).toArray) [] := x_s0J (R := room_1) (b := b) (nc := 137) (ns := 13572) jfull (Nat.le_of_ble_eq_true rfl) (Nat.le_of_ble_eq_true rfl) hP2 (by rw [hP3]; exact hex0) jx (by rw [hP4]; exact hK)
  refine x_finA (nm := meth.name) hC J0 (fun H locs cells slots ls stk J => ?_)
  obtain ⟨-, jc, js, jg, ⟨lv, jl, jd⟩, jS, jX, jo, jk⟩ := J
  have eb : P'.1 = P.2.1 := by rw [hP', hP]
  have ee : P'.2.1 = P.2.2.1 := by rw [hP', hP]
  have eg : P'.2.2.1 = P.2.2.2.1 := by rw [hP', hP]
  have jS : xdens P [] stk := jS
  have hstk : zdens P' [] stk := by
    match stk, jS with
    | [], _ => exact trivial
  have jX0 : zX0 P' s H := by
    obtain ⟨x1, -, x3, x4, x5, x6⟩ := jX
    refine ⟨x1, fun q hq => ?_, ?_, ⟨?_, hL1⟩, jt.kept fun q hq => ?_, fun q hq => ?_⟩
    · rw [ee, eb]; exact x3 q hq
    · rw [hP'] 
      show va_X (ex 0) L xs s H
      rw [hex0]
      exact hX.kept (x6 b (by rw [hP2]; exact hbl))
    · rw [ee, eb]; exact x5
    · exact x6 q (by rw [← eb]; exact hq)
    · exact x6 q (by rw [← eb]; exact hq)
  have jc : cells + 0 ≤ room_1.cells := jc
  have js : slots + 0 ≤ room_1.slots := js
  exact z_soundL (l := l) (P := P') hrun p e s m #[Value.ref b] below meth c room_1 _ hCz hroom hret H locs cells slots ls stk ⟨⟨by omega, by omega⟩, zG_of eb eg jg, ⟨lv, jl, zl_of eb ee jd⟩, hstk, jX0, (fun q hq => by rw [eb]; exact jo q hq), by rw [eg]; exact jk⟩
