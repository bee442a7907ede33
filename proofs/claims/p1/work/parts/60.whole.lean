/-! THE CLAIM: the law from its entry, by the engine's runs -/
/-! THE CLAIM OUT OF ONE WALK OF THE LAW'S BODY. Your part is whole_start (and what it stands on); all else here is the same for every law, but numbers. -/
def R_law : String := "BreadMapLaw"
def lw_P (b : Addr) (xs : List Int32) (args : Array Value) (s : State) : Prop := args = #[.ref b] ∧ s.IntsAt b xs ∧ xs.length ≤ 6 ∧ (Jvm.Cond.and given_1 narrow_1).before args s = true
def lw_Q (_ : Array Value) (s : State) (o : Outcome) (t : State) : Prop := o = .returned (some (.int 1)) ∧ Framed s o t [] 600000 7302250
def lw_Z (below : List Frame) (a : Array Value) (s : State) : State → Prop := fun t => ∃ o, t.status = .running ∧ Ended t below o ∧ lw_Q a s o t
/-- the law's own end, with 1 on the stack, nothing written that was there before, its room as the claim has it -/
theorem lw_ret {p : Program} {l : Launch} {e : Env} {s : State} {m : MethodId} {below : List Frame} {meth : Method} {c : Code} {b : Nat} (hx : p.tables.exec = Jvm.exec) (hb : c.code = code) (hr : meth.sig.returnType = ret) (hlocks : meth.locks = false) {pc : Nat} {H : Heap} {ls : Array Slot} (hdg : decode code pc = .ok (.ireturn, 1)) : W p l e room_1 s m #[Value.ref b] below meth c H [] 600000 7302250 (lw_Z below #[Value.ref b] s) (F0 m pc ls [.int 1]) := by
  intro T hT X
  obtain ⟨fs, hret, hrun, hended, hW, hframe⟩ := X.leave (v := some (.int 1)) (hlocks := hlocks) (fun h => by rw [hr] at h; cases h)
  have hmeth' : T.vm.method? m = some meth := X.method'
  refine ⟨T.setFrames fs, ?_, .returned (some (.int 1)), hrun, hended, rfl, ⟨_, rfl⟩, hW, hframe⟩
  jvm_step X.here [X.here.top, hx, hb, hdg, hmeth', hr, ret, narrow_b1]
  (try refine ⟨rfl, ?_⟩); (try refine ⟨rfl, ?_⟩)
  first | (intro acts; rw [hret _ acts rfl rfl rfl]) | rw [hret _ _ rfl rfl rfl]
  exact Steps.refl _
/-- what holds at the law's entry: the machine, the code, the tables' words (any of lw_tbl by 'hts w (by decide +kernel)'), the script of L ints xs at the cell b, what the Statement gives of the start (any of its parts by flat_of_before) -/
def lw_At (p : Program) (s : State) (m : MethodId) (meth : Method) (c : Code) (b L : Nat) (xs : Nat → Int32) : Prop :=
  p.tables.exec = Jvm.exec ∧ c.code = code ∧ meth.sig.returnType = ret ∧ c.maxLocals = 4 ∧ s.vm.findClass R_law = some m.cls ∧ (∀ w ∈ lw_tbl, w.before #[Value.ref b] s = true) ∧ va_X b L xs s s.heap ∧ b < s.heap.size ∧ meth.locks = false ∧ (Jvm.Cond.and given_1 narrow_1).before #[Value.ref b] s = true
theorem x_nestIn : ∀ w ∈ xNest, w ∈ lw_tbl := by
  intro w hw
  simp only [xNest, List.mem_cons, List.not_mem_nil, or_false] at hw
  rcases hw with rfl | rfl | rfl | rfl | rfl | rfl | rfl | rfl
  · exact List.mem_append_right _ (List.mem_append_left _ (List.mem_of_getElem? (i := 120) (by decide +kernel) : _ ∈ tables_1_1))
  · exact List.mem_append_right _ (List.mem_append_left _ (List.mem_of_getElem? (i := 175) (by decide +kernel) : _ ∈ tables_1_1))
  · exact List.mem_append_right _ (List.mem_append_right _ (List.mem_append_left _ (List.mem_of_getElem? (i := 152) (by decide +kernel) : _ ∈ tables_1_2)))
  · exact List.mem_append_right _ (List.mem_append_right _ (List.mem_append_left _ (List.mem_of_getElem? (i := 118) (by decide +kernel) : _ ∈ tables_1_2)))
  · exact List.mem_append_right _ (List.mem_append_right _ (List.mem_append_left _ (List.mem_of_getElem? (i := 33) (by decide +kernel) : _ ∈ tables_1_2)))
  · exact List.mem_append_right _ (List.mem_append_left _ (List.mem_of_getElem? (i := 170) (by decide +kernel) : _ ∈ tables_1_1))
  · exact List.mem_append_right _ (List.mem_append_left _ (List.mem_of_getElem? (i := 53) (by decide +kernel) : _ ∈ tables_1_1))
  · exact List.mem_append_right _ (List.mem_append_left _ (List.mem_of_getElem? (i := 33) (by decide +kernel) : _ ∈ tables_1_1))

theorem x_and63 (x : Int32) : 0 ≤ (x &&& 63).toInt ∧ (x &&& 63).toInt ≤ 63 := by
  have h : (x &&& 63).toBitVec.toNat ≤ 63 := by
    show (x.toBitVec &&& (63 : Int32).toBitVec).toNat ≤ 63
    rw [BitVec.toNat_and]
    exact Nat.and_le_right
  have e : (x &&& 63).toInt = ((x &&& 63).toBitVec.toNat : Int) := by
    show (x &&& 63).toBitVec.toInt = _
    rw [BitVec.toInt_eq_toNat_of_lt (by omega)]
  omega
theorem x_all : ∀ n : Nat, n ≤ 63 → ∃ (q : Int × Int) (t : List (Nat × List (Int × Int))), (q.1 ≤ (n : Int) ∧ (n : Int) ≤ q.2) ∧ t.all (fun a => x_cov (-2147483648) a.2) = true ∧ ∀ e ∈ x_prod t (x_e0 q), x_chk e = true
  | 0, _ => (x_k_0).elim fun t ht => ⟨(0, 0), t, ⟨Int.le_refl _, Int.le_refl _⟩, ht⟩
  | 1, _ => (x_k_1).elim fun t ht => ⟨(1, 1), t, ⟨Int.le_refl _, Int.le_refl _⟩, ht⟩
  | 2, _ => (x_k_2).elim fun t ht => ⟨(2, 2), t, ⟨Int.le_refl _, Int.le_refl _⟩, ht⟩
  | 3, _ => (x_k_3).elim fun t ht => ⟨(3, 3), t, ⟨Int.le_refl _, Int.le_refl _⟩, ht⟩
  | 4, _ => (x_k_4).elim fun t ht => ⟨(4, 4), t, ⟨Int.le_refl _, Int.le_refl _⟩, ht⟩
  | 5, _ => (x_k_5).elim fun t ht => ⟨(5, 5), t, ⟨Int.le_refl _, Int.le_refl _⟩, ht⟩
  | 6, _ => (x_k_6).elim fun t ht => ⟨(6, 6), t, ⟨Int.le_refl _, Int.le_refl _⟩, ht⟩
  | 7, _ => (x_k_7).elim fun t ht => ⟨(7, 7), t, ⟨Int.le_refl _, Int.le_refl _⟩, ht⟩
  | 8, _ => (x_k_8).elim fun t ht => ⟨(8, 8), t, ⟨Int.le_refl _, Int.le_refl _⟩, ht⟩
  | 9, _ => (x_k_9).elim fun t ht => ⟨(9, 9), t, ⟨Int.le_refl _, Int.le_refl _⟩, ht⟩
  | 10, _ => (x_k_10).elim fun t ht => ⟨(10, 10), t, ⟨Int.le_refl _, Int.le_refl _⟩, ht⟩
  | 11, _ => (x_k_11).elim fun t ht => ⟨(11, 11), t, ⟨Int.le_refl _, Int.le_refl _⟩, ht⟩
  | 12, _ => (x_k_12).elim fun t ht => ⟨(12, 12), t, ⟨Int.le_refl _, Int.le_refl _⟩, ht⟩
  | 13, _ => (x_k_13).elim fun t ht => ⟨(13, 13), t, ⟨Int.le_refl _, Int.le_refl _⟩, ht⟩
  | 14, _ => (x_k_14).elim fun t ht => ⟨(14, 14), t, ⟨Int.le_refl _, Int.le_refl _⟩, ht⟩
  | 15, _ => (x_k_15).elim fun t ht => ⟨(15, 15), t, ⟨Int.le_refl _, Int.le_refl _⟩, ht⟩
  | 16, _ => (x_k_16).elim fun t ht => ⟨(16, 16), t, ⟨Int.le_refl _, Int.le_refl _⟩, ht⟩
  | 17, _ => (x_k_17).elim fun t ht => ⟨(17, 17), t, ⟨Int.le_refl _, Int.le_refl _⟩, ht⟩
  | 18, _ => (x_k_18).elim fun t ht => ⟨(18, 18), t, ⟨Int.le_refl _, Int.le_refl _⟩, ht⟩
  | 19, _ => (x_k_19).elim fun t ht => ⟨(19, 19), t, ⟨Int.le_refl _, Int.le_refl _⟩, ht⟩
  | 20, _ => (x_k_20).elim fun t ht => ⟨(20, 20), t, ⟨Int.le_refl _, Int.le_refl _⟩, ht⟩
  | 21, _ => (x_k_21).elim fun t ht => ⟨(21, 21), t, ⟨Int.le_refl _, Int.le_refl _⟩, ht⟩
  | 22, _ => (x_k_22).elim fun t ht => ⟨(22, 22), t, ⟨Int.le_refl _, Int.le_refl _⟩, ht⟩
  | 23, _ => (x_k_23).elim fun t ht => ⟨(23, 23), t, ⟨Int.le_refl _, Int.le_refl _⟩, ht⟩
  | 24, _ => (x_k_24).elim fun t ht => ⟨(24, 24), t, ⟨Int.le_refl _, Int.le_refl _⟩, ht⟩
  | 25, _ => (x_k_25).elim fun t ht => ⟨(25, 25), t, ⟨Int.le_refl _, Int.le_refl _⟩, ht⟩
  | 26, _ => (x_k_26).elim fun t ht => ⟨(26, 26), t, ⟨Int.le_refl _, Int.le_refl _⟩, ht⟩
  | 27, _ => (x_k_27).elim fun t ht => ⟨(27, 27), t, ⟨Int.le_refl _, Int.le_refl _⟩, ht⟩
  | 28, _ => (x_k_28).elim fun t ht => ⟨(28, 28), t, ⟨Int.le_refl _, Int.le_refl _⟩, ht⟩
  | 29, _ => (x_k_29).elim fun t ht => ⟨(29, 29), t, ⟨Int.le_refl _, Int.le_refl _⟩, ht⟩
  | 30, _ => (x_k_30).elim fun t ht => ⟨(30, 30), t, ⟨Int.le_refl _, Int.le_refl _⟩, ht⟩
  | 31, _ => (x_k_31).elim fun t ht => ⟨(31, 31), t, ⟨Int.le_refl _, Int.le_refl _⟩, ht⟩
  | 32, _ => (x_k_32).elim fun t ht => ⟨(32, 32), t, ⟨Int.le_refl _, Int.le_refl _⟩, ht⟩
  | 33, _ => (x_k_33).elim fun t ht => ⟨(33, 33), t, ⟨Int.le_refl _, Int.le_refl _⟩, ht⟩
  | 34, _ => (x_k_34).elim fun t ht => ⟨(34, 34), t, ⟨Int.le_refl _, Int.le_refl _⟩, ht⟩
  | 35, _ => (x_k_35).elim fun t ht => ⟨(35, 35), t, ⟨Int.le_refl _, Int.le_refl _⟩, ht⟩
  | 36, _ => (x_k_36).elim fun t ht => ⟨(36, 36), t, ⟨Int.le_refl _, Int.le_refl _⟩, ht⟩
  | 37, _ => (x_k_37).elim fun t ht => ⟨(37, 37), t, ⟨Int.le_refl _, Int.le_refl _⟩, ht⟩
  | 38, _ => (x_k_38).elim fun t ht => ⟨(38, 38), t, ⟨Int.le_refl _, Int.le_refl _⟩, ht⟩
  | 39, _ => (x_k_39).elim fun t ht => ⟨(39, 39), t, ⟨Int.le_refl _, Int.le_refl _⟩, ht⟩
  | 40, _ => (x_k_40).elim fun t ht => ⟨(40, 40), t, ⟨Int.le_refl _, Int.le_refl _⟩, ht⟩
  | 41, _ => (x_k_41).elim fun t ht => ⟨(41, 41), t, ⟨Int.le_refl _, Int.le_refl _⟩, ht⟩
  | 42, _ => (x_k_42).elim fun t ht => ⟨(42, 42), t, ⟨Int.le_refl _, Int.le_refl _⟩, ht⟩
  | 43, _ => (x_k_43).elim fun t ht => ⟨(43, 43), t, ⟨Int.le_refl _, Int.le_refl _⟩, ht⟩
  | 44, _ => (x_k_44).elim fun t ht => ⟨(44, 44), t, ⟨Int.le_refl _, Int.le_refl _⟩, ht⟩
  | 45, _ => (x_k_45).elim fun t ht => ⟨(45, 45), t, ⟨Int.le_refl _, Int.le_refl _⟩, ht⟩
  | n + 46, h => (x_k_46).elim fun t ht => ⟨(46, 63), t, ⟨by omega, by show ((n + 46 : Nat) : Int) ≤ 63; omega⟩, ht⟩
theorem x_s0J {P : xP} {b nc ns : Nat} {s : State} {R : Room} {e : xE} (je : xEnv P e) (hc : nc ≤ R.cells) (hs : ns ≤ R.slots) (hbase : P.2.1 = s.heap.size) (hb : P.2.2.1 0 = b) (hx : xX P s s.heap) (hk : va_K P.2.2.2.1 vwCl [] s) : xJ P 4 R s (e, nc, ns, [], [(0, .inr (4, 0))], []) s.heap [] 0 0 ((lg_sl [Value.ref b] ++ List.replicate (4 - (lg_sl [Value.ref b]).length) Slot.unset).toArray) [] := by
  have h1 : 0 + nc ≤ R.cells := by omega
  have h2 : 0 + ns ≤ R.slots := by omega
  have h3 : s.heap.size = P.2.1 + 0 := hbase.symm
  refine ⟨je, h1, h2, ⟨h3, fun k c h => absurd (List.mem_of_getElem? h) List.not_mem_nil⟩, ⟨_, lv_entry [Value.ref b] (n := 4) (Nat.le_of_ble_eq_true rfl), ⟨⟨rfl, ?_⟩, trivial⟩⟩, trivial, hx, (fun q h => absurd h List.not_mem_nil), hk⟩
  show Value.ref b = .ref (P.2.2.1 0)
  rw [hb]
theorem x_short : ∀ L : Nat, L < 6 → x_chk0 L = true
  | 0, _ => x_short_0
  | 1, _ => x_short_1
  | 2, _ => x_short_2
  | 3, _ => x_short_3
  | 4, _ => x_short_4
  | 5, _ => x_short_5
section FIN
variable {l : Launch} {P : xP} {nm : String} {p : Program} {e : Env} {R : Room} {s : State} {m : MethodId} {args : Array Value} {below : List Frame} {meth : Method} {c : Code} {H : Heap} {locs : List Loc} {cells slots : Nat} {Q : State → Prop} {ls : Array Slot} {stk : List Value}
theorem x_finS {L : Nat} (hP5 : P.2.2.2.2.1 = L) (hL : L < 6) (hC : xCx (xMuL nm) p s m args meth c R) (J0 : xJ P 4 R s (x_s0 (x_e0 (-2147483648, 2147483647))) H locs cells slots ls stk) (hret : ∀ r : xR, r.2.2 = some (.inl (.int 1)) → xKR P (xMuL nm) p l e R s m args below meth c Q r) : W p l e R s m args below meth c H locs cells slots Q (F0 m 0 ls stk) := by
  subst hP5
  obtain ⟨rs, h1, h2⟩ := x_oks_den (r := x_run xMT 1000000 (t_L_law P.2.2.2.2.1) 0 (x_s0 (x_e0 (-2147483648, 2147483647)))) (x_short _ hL)
  exact (x_sound (l := l) (P := P) xMT_ok 1000000).1 (xMuL nm) (t_L_law P.2.2.2.2.1) o_L_law p e s m args below meth c R Q hC 0 (x_s0 (x_e0 (-2147483648, 2147483647))) rs h1 H locs cells slots ls stk J0 (fun r hr => hret r (h2 r hr))
theorem x_finL (hP5 : P.2.2.2.2.1 = 6) {en : xE} (hen : x_chk en = true) (hC : xCx (xMuL nm) p s m args meth c R) (J0 : xJ P 4 R s (x_s1 en) H locs cells slots ls stk) (hret : ∀ r : xR, r.2.2 = some (.inl (.int 1)) → xKR P (xMuL nm) p l e R s m args below meth c Q r) : W p l e R s m args below meth c H locs cells slots Q (F0 m 18 ls stk) := by
  have gen : ∀ N : Nat, N = 6 → ∃ rs, x_run xMT 1000000 (t_L_law N) 18 (x_s1 en) = some rs ∧ ∀ q ∈ rs, q.2.2 = some (.inl (.int 1)) := by
    intro N hN
    subst hN
    exact x_oks_den hen
  obtain ⟨rs, h1, h2⟩ := gen _ hP5
  exact (x_sound (l := l) (P := P) xMT_ok 1000000).1 (xMuL nm) (t_L_law P.2.2.2.2.1) o_L_law p e s m args below meth c R Q hC 18 (x_s1 en) rs h1 H locs cells slots ls stk J0 (fun r hr => hret r (h2 r hr))
theorem x_finA (hP5 : P.2.2.2.2.1 = 6) (hC : xCx (xMuL nm) p s m args meth c R) (J0 : xJ P 4 R s (x_s0 (x_e0 (-2147483648, 2147483647))) H locs cells slots ls stk) (kk : ∀ (H : Heap) (locs : List Loc) (cells slots : Nat) (ls : Array Slot) (stk : List Value), xJ P 4 R s (x_s1 (x_e0 (-2147483648, 2147483647))) H locs cells slots ls stk → W p l e R s m args below meth c H locs cells slots Q (F0 m 18 ls stk)) : W p l e R s m args below meth c H locs cells slots Q (F0 m 0 ls stk) := by
  have gen : ∀ N : Nat, N = 6 → x_go xMT 1000000 10 (t_L_law N) 0 (x_s0 (x_e0 (-2147483648, 2147483647))) = some (18, x_s1 (x_e0 (-2147483648, 2147483647))) := by
    intro N hN
    subst hN
    exact x_phaseA
  exact x_go_sound (l := l) (P := P) xMT_ok 1000000 (μ := xMuL nm) (t := t_L_law P.2.2.2.2.1) o_L_law hC kk 10 0 (x_s0 (x_e0 (-2147483648, 2147483647))) (gen _ hP5) H locs cells slots ls stk J0
end FIN
set_option maxHeartbeats 800000 in
set_option maxRecDepth 100000 in
/-- THE LAW, from its entry -/
theorem whole_start {p : Program} {e : Env} {s : State} {m : MethodId} {below : List Frame} {meth : Method} {c : Code} (l : Launch) (hflags : l.flags = flags0) {b L : Nat} {xs : Nat → Int32} (hL : L ≤ 6) (C0 : lw_At p s m meth c b L xs) : W p l e room_1 s m #[Value.ref b] below meth c s.heap [] 0 0 (lw_Z below #[Value.ref b] s) (entryFrame m ([Value.ref b] : List Value).toArray 4) := by
  obtain ⟨hx, hb, hr, hml, hown, hts, hX, hbl, hlocks, hgv⟩ := id C0
  have hA : ∀ a : Nat, a < s.heap.size → ¬ s.heap.size ≤ a := fun a h => Nat.not_le.mpr h
  have hfl := flat_of_before _ hgv
  obtain ⟨c0, i0, hKn0⟩ := u_known (C := RX0) (T := TX0) (N := 9) (n := 9) hts (fun w h => (List.mem_filter.mp (xin_0 w h)).1) (hts (.instantiable RX0 9) (List.mem_append_right _ (List.mem_append_right _ (List.mem_append_left _ (List.mem_of_getElem? (i := 117) (by decide +kernel) : _ ∈ tables_1_2)))))
  obtain ⟨c1, i1, hKn1⟩ := u_known (C := RX1) (T := TX1) (N := 11) (n := 11) hts (fun w h => (List.mem_filter.mp (xin_1 w h)).1) (hts (.instantiable RX1 11) (List.mem_append_right _ (List.mem_append_right _ (List.mem_append_left _ (List.mem_of_getElem? (i := 73) (by decide +kernel) : _ ∈ tables_1_2)))))
  obtain ⟨c2, i2, hKn2⟩ := u_known (C := RX2) (T := TX2) (N := 15) (n := 15) hts (fun w h => (List.mem_filter.mp (xin_2 w h)).1) (hts (.instantiable RX2 15) (List.mem_append_right _ (List.mem_append_left _ (List.mem_of_getElem? (i := 169) (by decide +kernel) : _ ∈ tables_1_1))))
  obtain ⟨c3, i3, hKn3⟩ := u_known (C := RX3) (T := TX3) (N := 3) (n := 3) hts (fun w h => (List.mem_filter.mp (xin_3 w h)).1) (hts (.instantiable RX3 3) (List.mem_append_right _ (List.mem_append_left _ (List.mem_of_getElem? (i := 97) (by decide +kernel) : _ ∈ tables_1_1))))
  obtain ⟨c4, i4, hKn4⟩ := u_known (C := RX4) (T := TX4) (N := 2) (n := 2) hts (fun w h => (List.mem_filter.mp (xin_4 w h)).1) (hts (.instantiable RX4 2) (List.mem_append_right _ (List.mem_append_right _ (List.mem_append_left _ (List.mem_of_getElem? (i := 151) (by decide +kernel) : _ ∈ tables_1_2)))))
  obtain ⟨c5, i5, hKn5⟩ := u_known (C := RX5) (T := TX5) (N := 6) (n := 6) hts (fun w h => (List.mem_filter.mp (xin_5 w h)).1) (hts (.instantiable RX5 6) (List.mem_append_right _ (List.mem_append_left _ (List.mem_of_getElem? (i := 119) (by decide +kernel) : _ ∈ tables_1_1))))
  obtain ⟨c6, i6, hKn6⟩ := u_known (C := RX6) (T := TX6) (N := 5) (n := 5) hts (fun w h => (List.mem_filter.mp (xin_6 w h)).1) (hts (.instantiable RX6 5) (List.mem_append_right _ (List.mem_append_left _ (List.mem_of_getElem? (i := 113) (by decide +kernel) : _ ∈ tables_1_1))))
  obtain ⟨c7, i7, hKn7⟩ := u_known (C := RX7) (T := TX7) (N := 12) (n := 12) hts (fun w h => (List.mem_filter.mp (xin_7 w h)).1) (hts (.instantiable RX7 12) (List.mem_append_right _ (List.mem_append_right _ (List.mem_append_left _ (List.mem_of_getElem? (i := 164) (by decide +kernel) : _ ∈ tables_1_2)))))
  obtain ⟨c8, i8, hKn8⟩ := u_known (C := RX8) (T := TX8) (N := 11) (n := 11) hts (fun w h => (List.mem_filter.mp (xin_8 w h)).1) (hts (.instantiable RX8 11) (List.mem_append_right _ (List.mem_append_left _ (List.mem_of_getElem? (i := 52) (by decide +kernel) : _ ∈ tables_1_1))))
  obtain ⟨c9, i9, hKn9⟩ := u_known (C := RX9) (T := TX9) (N := 3) (n := 3) hts (fun w h => (List.mem_filter.mp (xin_9 w h)).1) (hts (.instantiable RX9 3) (List.mem_append_right _ (List.mem_append_left _ (List.mem_of_getElem? (i := 32) (by decide +kernel) : _ ∈ tables_1_1))))
  obtain ⟨c10, i10, hKn10⟩ := u_known (C := RX10) (T := TX10) (N := 9) (n := 9) hts (fun w h => (List.mem_filter.mp (xin_10 w h)).1) (hts (.instantiable RX10 9) (List.mem_append_right _ (List.mem_append_right _ (List.mem_append_left _ (List.mem_of_getElem? (i := 32) (by decide +kernel) : _ ∈ tables_1_2)))))
  obtain ⟨c11, i11, hKn11⟩ := u_known (C := RX11) (T := TX11) (N := 20) (n := 20) hts (fun w h => (List.mem_filter.mp (xin_11 w h)).1) (hts (.instantiable RX11 20) (List.mem_append_right _ (List.mem_append_left _ (List.mem_of_getElem? (i := 23) (by decide +kernel) : _ ∈ tables_1_1))))
  obtain ⟨c12, i12, hKn12⟩ := u_known (C := RX12) (T := TX12) (N := 48) (n := 48) hts (fun w h => (List.mem_filter.mp (xin_12 w h)).1) (hts (.instantiable RX12 48) (List.mem_append_right _ (List.mem_append_right _ (List.mem_append_right _ (List.mem_append_right _ (List.mem_append_right _ (List.mem_append_right _ (List.mem_append_left _ (List.mem_of_getElem? (i := 202) (by decide +kernel) : _ ∈ tables_1_6)))))))))
  obtain ⟨dC, dI, hKc⟩ : ∃ (dC : Nat → ClassId) (dI : Nat → Nat → Nat), ∀ (k : Nat) (q : vw_C), vwCl[k]? = some q → u_Kn s q.1 q.2.1 q.2.2 (dC k) (dI k) := by
    refine ⟨fun k => [c0, c1, c2, c3, c4, c5, c6, c7, c8, c9, c10, c11, c12].getD k c0, fun k => [i0, i1, i2, i3, i4, i5, i6, i7, i8, i9, i10, i11, i12].getD k i0, ?_⟩
    intro k q hq
    match k, hq with
    | 0, hq => cases hq; exact hKn0
    | 1, hq => cases hq; exact hKn1
    | 2, hq => cases hq; exact hKn2
    | 3, hq => cases hq; exact hKn3
    | 4, hq => cases hq; exact hKn4
    | 5, hq => cases hq; exact hKn5
    | 6, hq => cases hq; exact hKn6
    | 7, hq => cases hq; exact hKn7
    | 8, hq => cases hq; exact hKn8
    | 9, hq => cases hq; exact hKn9
    | 10, hq => cases hq; exact hKn10
    | 11, hq => cases hq; exact hKn11
    | 12, hq => cases hq; exact hKn12
    | k + 13, hq => simp [vwCl] at hq
  have hK : va_K (dC, dI) vwCl [] s := ⟨hKc, fun k q h => by simp at h⟩
  have n5 : 5 < 2 ^ 31 := by decide
  obtain ⟨a1, ha1, hT1⟩ := va_Tof (args := #[Value.ref b]) (s := s) (tm := .static "BreadMap" "MOVES" "[I") (ty := .int) (N := 5) (f := fun j => .int ((xTab 1).getD j 0)) (A := fun z => s.heap.size ≤ z) n5 (hfl _ (by decide +kernel)) (va_eqt (hfl _ (by decide +kernel))) (fun j hj => by
    match j, hj with
    | 0, _ => exact va_eqt (hfl _ (by decide +kernel))
    | 1, _ => exact va_eqt (hfl _ (by decide +kernel))
    | 2, _ => exact va_eqt (hfl _ (by decide +kernel))
    | 3, _ => exact va_eqt (hfl _ (by decide +kernel))
    | 4, _ => exact va_eqt (hfl _ (by decide +kernel))) hA
  obtain ⟨a2, ha2, hT2⟩ := va_Tof (args := #[Value.ref b]) (s := s) (tm := .static "BreadMap$Land" "LETTER_CRUMBS" "[I") (ty := .int) (N := 5) (f := fun j => .int ((xTab 2).getD j 0)) (A := fun z => s.heap.size ≤ z) n5 (hfl _ (by decide +kernel)) (va_eqt (hfl _ (by decide +kernel))) (fun j hj => by
    match j, hj with
    | 0, _ => exact va_eqt (hfl _ (by decide +kernel))
    | 1, _ => exact va_eqt (hfl _ (by decide +kernel))
    | 2, _ => exact va_eqt (hfl _ (by decide +kernel))
    | 3, _ => exact va_eqt (hfl _ (by decide +kernel))
    | 4, _ => exact va_eqt (hfl _ (by decide +kernel))) hA
  have hZ1 : va_Z "BreadMap" "MOVES" "[I" (.ref a1) (fun z => s.heap.size ≤ z) s s.heap := va_Zof (hts (.laysStatic "BreadMap" "MOVES" "[I") (List.mem_append_right _ (List.mem_append_right _ (List.mem_append_right _ (List.mem_append_right _ (List.mem_append_right _ (List.mem_append_right _ (List.mem_append_left _ (List.mem_of_getElem? (i := 65) (by decide +kernel) : _ ∈ tables_1_6))))))))) (hts (.initialized "BreadMap") (List.mem_append_right _ (List.mem_append_left _ (List.mem_of_getElem? (i := 1) (by decide +kernel) : _ ∈ tables_1_1)))) ha1 hA
  have hZ2 : va_Z "BreadMap$Land" "LETTER_CRUMBS" "[I" (.ref a2) (fun z => s.heap.size ≤ z) s s.heap := va_Zof (hts (.laysStatic "BreadMap$Land" "LETTER_CRUMBS" "[I") (List.mem_append_right _ (List.mem_append_right _ (List.mem_append_right _ (List.mem_append_right _ (List.mem_append_left _ (List.mem_of_getElem? (i := 203) (by decide +kernel) : _ ∈ tables_1_4))))))) (hts (.initialized "BreadMap$Land") (List.mem_append_right _ (List.mem_append_left _ (List.mem_of_getElem? (i := 7) (by decide +kernel) : _ ∈ tables_1_1)))) ha2 hA
  obtain ⟨ρ, hρ6, hρ⟩ : ∃ ρ : Nat → Int32, ρ 6 = xs 0 &&& 63 ∧ ∀ k, k < 6 → ρ k = xs k := ⟨fun k => if k = 6 then xs 0 &&& 63 else xs k, rfl, fun k hk => if_neg (by omega)⟩
  obtain ⟨ex, hex0, hex1, hex2⟩ : ∃ ex : Nat → Nat, ex 0 = b ∧ ex 1 = a1 ∧ ex 2 = a2 := ⟨fun k => if k = 0 then b else if k = 1 then a1 else a2, rfl, rfl, rfl⟩
  have hXr : va_X b L ρ s s.heap := by
    obtain ⟨scr, x1, x2, x3, x4, x5⟩ := hX
    exact ⟨scr, x1, x2, x3, x4, fun j hj => by rw [hρ j (by omega)]; exact x5 j hj⟩
  obtain ⟨P, hP⟩ : ∃ P : xP, P = (ρ, s.heap.size, ex, (dC, dI), L, xMT) := ⟨_, rfl⟩
  have hP1 : P.1 = ρ := by rw [hP]
  have hP2 : P.2.1 = s.heap.size := by rw [hP]
  have hP3 : P.2.2.1 = ex := by rw [hP]
  have hP4 : P.2.2.2.1 = (dC, dI) := by rw [hP]
  have hP5 : P.2.2.2.2.1 = L := by rw [hP]
  have jx : xX P s s.heap := by
    rw [hP]
    refine ⟨fun w hw => ?_, fun C hC => ?_, fun q hq => ?_, ?_, ?_, fun _ _ => rfl⟩
    · have hw2 := x_nestIn w hw
      have ho : w.onTables = true := by
        simp only [xNest, List.mem_cons, List.not_mem_nil, or_false] at hw
        rcases hw with rfl | rfl | rfl | rfl | rfl | rfl | rfl | rfl <;> rfl
      exact va_Nw.of ho (hts w hw2)
    · simp only [List.mem_cons, List.not_mem_nil, or_false] at hC
      rcases hC with rfl | rfl
      · exact va_AO.of (hts (.arrayOver (.object "BreadMap$Tray")) (List.mem_append_right _ (List.mem_append_left _ (List.mem_of_getElem? (i := 31) (by decide +kernel) : _ ∈ tables_1_1))))
      · exact va_AO.of (hts (.arrayOver (.object "BreadMap$Land")) (List.mem_append_right _ (List.mem_append_right _ (List.mem_append_left _ (List.mem_of_getElem? (i := 30) (by decide +kernel) : _ ∈ tables_1_2)))))
    · simp only [xStat, List.mem_cons, List.not_mem_nil, or_false] at hq
      rcases hq with rfl | rfl
      · exact ⟨by show va_Z _ _ _ (.ref (ex 1)) _ _ _; rw [hex1]; exact hZ1, by show va_T .int (ex 1) 5 _ _ _ _; rw [hex1]; exact hT1⟩
      · exact ⟨by show va_Z _ _ _ (.ref (ex 2)) _ _ _; rw [hex2]; exact hZ2, by show va_T .int (ex 2) 5 _ _ _ _; rw [hex2]; exact hT2⟩
    · show va_X (ex 0) L ρ s s.heap
      rw [hex0]; exact hXr
    · show ex 0 < s.heap.size
      rw [hex0]; exact hbl
  have hC : xCx (xMuL meth.name) p s m #[Value.ref b] meth c room_1 := ⟨hx, hb, hml, hown, fun w hw => hts w (List.mem_filter.mp hw).1, hr, hlocks, rfl, rfl⟩
  have hret : ∀ r : xR, r.2.2 = some (.inl (.int 1)) → xKR P (xMuL meth.name) p l e room_1 s m #[Value.ref b] below meth c (lw_Z below #[Value.ref b] s) r := by
    intro r hr1 H locs cells slots pc ls ov _ g2 g3 _ _ g6 g7 g8
    rw [hr1] at g7
    match ov, g7, g8 with
    | some v, g7, g8 =>
      have g7 : v = .int 1 := g7
      subst g7
      refine va_forget (fun q hq => by have := g6 q hq; rw [hP2] at this; exact this) ?_
      exact W.widen (k := 600000) (n := 7302250) g2 g3 (lw_ret hx hb hr hlocks g8.1)
  have je0 : ∀ q : Int × Int, q.1 ≤ (ρ 6).toInt → (ρ 6).toInt ≤ q.2 → xEnv P (x_e0 q) := by
    intro q q1 q2
    refine ⟨by rw [hP1, hρ6, hρ 0 (by decide)], fun k r hk => ?_⟩
    rw [hP1]
    have b1 := Int32.le_toInt (ρ k)
    have b2 := Int32.toInt_lt (ρ k)
    match k, hk with
    | 0, hk => cases hk; exact ⟨by omega, by show _ ≤ (2147483647 : Int); omega⟩
    | 1, hk => cases hk; exact ⟨by omega, by show _ ≤ (2147483647 : Int); omega⟩
    | 2, hk => cases hk; exact ⟨by omega, by show _ ≤ (2147483647 : Int); omega⟩
    | 3, hk => cases hk; exact ⟨by omega, by show _ ≤ (2147483647 : Int); omega⟩
    | 4, hk => cases hk; exact ⟨by omega, by show _ ≤ (2147483647 : Int); omega⟩
    | 5, hk => cases hk; exact ⟨by omega, by show _ ≤ (2147483647 : Int); omega⟩
    | 6, hk => cases hk; exact ⟨q1, q2⟩
    | k + 7, hk => simp [x_e0] at hk
  have jfull : xEnv P (x_e0 (-2147483648, 2147483647)) := je0 _ (by have := Int32.le_toInt (ρ 6); show (-2147483648 : Int) ≤ _; omega) (by have := Int32.toInt_lt (ρ 6); show _ ≤ (2147483647 : Int); omega)
  rw [lg_entry_eq]
  have J0 : xJ P 4 room_1 s (x_s0 (x_e0 (-2147483648, 2147483647))) s.heap [] 0 0 ((lg_sl [Value.ref b] ++ List.replicate (4 - (lg_sl [Value.ref b]).length) Slot.unset).toArray) [] := x_s0J (R := room_1) (b := b) (nc := 137) (ns := 13572) jfull (Nat.le_of_ble_eq_true rfl) (Nat.le_of_ble_eq_true rfl) hP2 (by rw [hP3]; exact hex0) jx (by rw [hP4]; exact hK)
  clear hfl hgv hts hKc hK hT1 hT2 hZ1 hZ2 C0
  rcases Nat.lt_or_ge L 6 with hlt | hge
  · exact x_finS (nm := meth.name) hP5 hlt hC J0 hret
  · have hL6 : P.2.2.2.2.1 = 6 := by rw [hP5]; omega
    refine x_finA (nm := meth.name) hL6 hC J0 (fun H locs cells slots ls stk J => ?_)
    obtain ⟨n, hn⟩ : ∃ n : Nat, (ρ 6).toInt = (n : Int) := ⟨(ρ 6).toInt.toNat, by have := (x_and63 (xs 0)).1; rw [hρ6]; omega⟩
    have hn63 : n ≤ 63 := by have := (x_and63 (xs 0)).2; rw [← hρ6, hn] at this; omega
    obtain ⟨q, t, hq, ht, hall⟩ := x_all n hn63
    obtain ⟨en, hen, jen⟩ := x_prod_den ht (je0 q (by rw [hn]; exact hq.1) (by rw [hn]; exact hq.2))
    obtain ⟨-, j2⟩ := J
    exact x_finL (nm := meth.name) hL6 (hall en hen) hC ⟨jen, j2⟩ hret
