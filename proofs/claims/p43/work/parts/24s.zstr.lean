/-! texts: String.length and String.charAt, walked in the JDK's own code -/
def wsJ0_coder_7d493 : List Cond := .code yJ0_coder_7d493 cJ0_coder_7d493 1 (some .byte) :: ([.fieldLink RJ0 38 "java/lang/String" "COMPACT_STRINGS" "Z", .fieldLink RJ0 15 "java/lang/String" "coder" "B"])
def wsJ0_length_8abf5 : List Cond := .code yJ0_length_8abf5 cJ0_length_8abf5 1 (some .int) :: ([.fieldLink RJ0 9 "java/lang/String" "value" "[B", .methodLink RJ0 335 yJ0_coder_7d493, .instanceMethod yJ0_coder_7d493, .selects RJ0 yJ0_coder_7d493 yJ0_coder_7d493, .initialized RJ0, .code yJ0_coder_7d493 cJ0_coder_7d493 1 (some .byte), .fieldLink RJ0 38 "java/lang/String" "COMPACT_STRINGS" "Z", .fieldLink RJ0 15 "java/lang/String" "coder" "B"])
def wsJ0_isLatin1_aae02 : List Cond := .code yJ0_isLatin1_aae02 cJ0_isLatin1_aae02 1 (some .boolean) :: ([.fieldLink RJ0 38 "java/lang/String" "COMPACT_STRINGS" "Z", .fieldLink RJ0 15 "java/lang/String" "coder" "B"])
def wsJ3_checkIndex_8e157 : List Cond := .code yJ3_checkIndex_8e157 cJ3_checkIndex_8e157 3 (some .int) :: ([])
def wsJ0_checkIndex_df160 : List Cond := .code yJ0_checkIndex_df160 cJ0_checkIndex_df160 2 none :: ([.fieldLink RJ0 1053 "jdk/internal/util/Preconditions" "SIOOBE_FORMATTER" "Ljava/util/function/BiFunction;", .methodLink RJ0 1059 yJ3_checkIndex_8e157, .static yJ3_checkIndex_8e157, .initialized RJ3, .code yJ3_checkIndex_8e157 cJ3_checkIndex_8e157 3 (some .int)])
def wsJ1_charAt_3b067 : List Cond := .code yJ1_charAt_3b067 cJ1_charAt_3b067 2 (some .char) :: ([.methodLink RJ1 9 yJ0_checkIndex_df160, .static yJ0_checkIndex_df160, .initialized RJ0, .code yJ0_checkIndex_df160 cJ0_checkIndex_df160 2 none, .fieldLink RJ0 1053 "jdk/internal/util/Preconditions" "SIOOBE_FORMATTER" "Ljava/util/function/BiFunction;", .methodLink RJ0 1059 yJ3_checkIndex_8e157, .static yJ3_checkIndex_8e157, .initialized RJ3, .code yJ3_checkIndex_8e157 cJ3_checkIndex_8e157 3 (some .int)])
def wsJ0_charAt_5068e_r1 : List Cond := [Cond.fieldLink RJ0 9 "java/lang/String" "value" "[B", Cond.methodLink RJ0 492 yJ0_isLatin1_aae02, Cond.instanceMethod yJ0_isLatin1_aae02, Cond.selects RJ0 yJ0_isLatin1_aae02 yJ0_isLatin1_aae02, Cond.initialized RJ0, Cond.code yJ0_isLatin1_aae02 cJ0_isLatin1_aae02 1 (some .boolean), Cond.fieldLink RJ0 38 "java/lang/String" "COMPACT_STRINGS" "Z", Cond.fieldLink RJ0 15 "java/lang/String" "coder" "B", Cond.methodLink RJ0 495 yJ1_charAt_3b067, Cond.static yJ1_charAt_3b067, Cond.initialized RJ1, Cond.code yJ1_charAt_3b067 cJ1_charAt_3b067 2 (some .char), Cond.methodLink RJ1 9 yJ0_checkIndex_df160, Cond.static yJ0_checkIndex_df160, Cond.code yJ0_checkIndex_df160 cJ0_checkIndex_df160 2 none, Cond.fieldLink RJ0 1053 "jdk/internal/util/Preconditions" "SIOOBE_FORMATTER" "Ljava/util/function/BiFunction;", Cond.methodLink RJ0 1059 yJ3_checkIndex_8e157, Cond.static yJ3_checkIndex_8e157, Cond.initialized RJ3, Cond.code yJ3_checkIndex_8e157 cJ3_checkIndex_8e157 3 (some .int), Cond.methodLink RJ0 498 yJ2_charAt_3b067, Cond.static yJ2_charAt_3b067, Cond.initialized RJ2, Cond.code yJ2_charAt_3b067 cJ2_charAt_3b067 2 (some .char)]
def wsJ0_charAt_5068e_r2 : List Cond := [Cond.methodLink RJ2 67 yJ2_checkIndex_2214a, Cond.static yJ2_checkIndex_2214a, Cond.code yJ2_checkIndex_2214a cJ2_checkIndex_2214a 2 none, Cond.methodLink RJ2 48 yJ2_length_9d52b, Cond.static yJ2_length_9d52b, Cond.code yJ2_length_9d52b cJ2_length_9d52b 1 (some .int), Cond.methodLink RJ2 414 yJ0_checkIndex_df160, Cond.methodLink RJ2 71 yJ2_getChar_3b067, Cond.static yJ2_getChar_3b067, Cond.code yJ2_getChar_3b067 cJ2_getChar_3b067 2 (some .char), Cond.fieldLink RJ2 44 "java/lang/StringUTF16" "$assertionsDisabled" "Z", Cond.fieldLink RJ2 59 "java/lang/StringUTF16" "HI_BYTE_SHIFT" "I", Cond.fieldLink RJ2 63 "java/lang/StringUTF16" "LO_BYTE_SHIFT" "I"]
def wsJ0_charAt_5068e : List Cond := .code yJ0_charAt_5068e cJ0_charAt_5068e 2 (some .char) :: ((wsJ0_charAt_5068e_r1 ++ wsJ0_charAt_5068e_r2))
theorem ggJ0_length_8abf5_J0_coder_7d493 : GoodIn wsJ0_length_8abf5 wsJ0_coder_7d493 := goodIn_r _ [6, 7, 8] (by decide +kernel) (by decide +kernel)
theorem gJ0_length_8abf5_J0_coder_7d493 : GoodIn wsJ0_length_8abf5 (wsV RJ0 335 RJ0 yJ0_coder_7d493 wsJ0_coder_7d493) := goodIn_app (goodIn_of _ (by decide +kernel)) ggJ0_length_8abf5_J0_coder_7d493
theorem dJ0_length_8abf5_0 : decode cJ0_length_8abf5 0 = .ok (.aload_n 0, 1) := by decide +kernel
theorem dJ0_length_8abf5_1 : decode cJ0_length_8abf5 1 = .ok (.getfield 9, 3) := by decide +kernel
theorem dJ0_length_8abf5_4 : decode cJ0_length_8abf5 4 = .ok (.arraylength, 1) := by decide +kernel
theorem dJ0_length_8abf5_5 : decode cJ0_length_8abf5 5 = .ok (.aload_n 0, 1) := by decide +kernel
theorem dJ0_length_8abf5_6 : decode cJ0_length_8abf5 6 = .ok (.invokevirtual 335, 3) := by decide +kernel
theorem dJ0_length_8abf5_9 : decode cJ0_length_8abf5 9 = .ok (.ishr, 1) := by decide +kernel
theorem dJ0_length_8abf5_10 : decode cJ0_length_8abf5 10 = .ok (.ireturn, 1) := by decide +kernel
theorem ggJ0_charAt_5068e_J0_isLatin1_aae02 : GoodIn wsJ0_charAt_5068e wsJ0_isLatin1_aae02 := goodIn_r _ [6, 7, 8] (by decide +kernel) (by decide +kernel)
theorem gJ0_charAt_5068e_J0_isLatin1_aae02 : GoodIn wsJ0_charAt_5068e (wsV RJ0 492 RJ0 yJ0_isLatin1_aae02 wsJ0_isLatin1_aae02) := goodIn_app (goodIn_of _ (by decide +kernel)) ggJ0_charAt_5068e_J0_isLatin1_aae02
theorem ggJ0_charAt_5068e_J1_charAt_3b067 : GoodIn wsJ0_charAt_5068e wsJ1_charAt_3b067 := goodIn_r _ [12, 13, 14, 5, 15, 16, 17, 18, 19, 20] (by decide +kernel) (by decide +kernel)
theorem gJ0_charAt_5068e_J1_charAt_3b067 : GoodIn wsJ0_charAt_5068e (va_wsS RJ0 495 yJ1_charAt_3b067 wsJ1_charAt_3b067) := goodIn_app (goodIn_of _ (by decide +kernel)) ggJ0_charAt_5068e_J1_charAt_3b067
theorem dJ0_charAt_5068e_0 : decode cJ0_charAt_5068e 0 = .ok (.aload_n 0, 1) := by decide +kernel
theorem dJ0_charAt_5068e_1 : decode cJ0_charAt_5068e 1 = .ok (.invokevirtual 492, 3) := by decide +kernel
theorem dJ0_charAt_5068e_4 : decode cJ0_charAt_5068e 4 = .ok (.ifCond .eq 12, 3) := by decide +kernel
theorem dJ0_charAt_5068e_7 : decode cJ0_charAt_5068e 7 = .ok (.aload_n 0, 1) := by decide +kernel
theorem dJ0_charAt_5068e_8 : decode cJ0_charAt_5068e 8 = .ok (.getfield 9, 3) := by decide +kernel
theorem dJ0_charAt_5068e_11 : decode cJ0_charAt_5068e 11 = .ok (.iload_n 1, 1) := by decide +kernel
theorem dJ0_charAt_5068e_12 : decode cJ0_charAt_5068e 12 = .ok (.invokestatic 495, 3) := by decide +kernel
theorem dJ0_charAt_5068e_15 : decode cJ0_charAt_5068e 15 = .ok (.ireturn, 1) := by decide +kernel
theorem dJ0_coder_7d493_0 : decode cJ0_coder_7d493 0 = .ok (.getstatic 38, 3) := by decide +kernel
theorem dJ0_coder_7d493_3 : decode cJ0_coder_7d493 3 = .ok (.ifCond .eq 10, 3) := by decide +kernel
theorem dJ0_coder_7d493_6 : decode cJ0_coder_7d493 6 = .ok (.aload_n 0, 1) := by decide +kernel
theorem dJ0_coder_7d493_7 : decode cJ0_coder_7d493 7 = .ok (.getfield 15, 3) := by decide +kernel
theorem dJ0_coder_7d493_10 : decode cJ0_coder_7d493 10 = .ok (.goto 4, 3) := by decide +kernel
theorem dJ0_coder_7d493_14 : decode cJ0_coder_7d493 14 = .ok (.ireturn, 1) := by decide +kernel
theorem dJ0_isLatin1_aae02_0 : decode cJ0_isLatin1_aae02 0 = .ok (.getstatic 38, 3) := by decide +kernel
theorem dJ0_isLatin1_aae02_3 : decode cJ0_isLatin1_aae02 3 = .ok (.ifCond .eq 14, 3) := by decide +kernel
theorem dJ0_isLatin1_aae02_6 : decode cJ0_isLatin1_aae02 6 = .ok (.aload_n 0, 1) := by decide +kernel
theorem dJ0_isLatin1_aae02_7 : decode cJ0_isLatin1_aae02 7 = .ok (.getfield 15, 3) := by decide +kernel
theorem dJ0_isLatin1_aae02_10 : decode cJ0_isLatin1_aae02 10 = .ok (.ifCond .ne 7, 3) := by decide +kernel
theorem dJ0_isLatin1_aae02_13 : decode cJ0_isLatin1_aae02 13 = .ok (.iconst 1, 1) := by decide +kernel
theorem dJ0_isLatin1_aae02_14 : decode cJ0_isLatin1_aae02 14 = .ok (.goto 4, 3) := by decide +kernel
theorem dJ0_isLatin1_aae02_18 : decode cJ0_isLatin1_aae02 18 = .ok (.ireturn, 1) := by decide +kernel
theorem ggJ0_checkIndex_df160_J3_checkIndex_8e157 : GoodIn wsJ0_checkIndex_df160 wsJ3_checkIndex_8e157 := goodIn_r _ [5] (by decide +kernel) (by decide +kernel)
theorem gJ0_checkIndex_df160_J3_checkIndex_8e157 : GoodIn wsJ0_checkIndex_df160 (va_wsS RJ0 1059 yJ3_checkIndex_8e157 wsJ3_checkIndex_8e157) := goodIn_app (goodIn_of _ (by decide +kernel)) ggJ0_checkIndex_df160_J3_checkIndex_8e157
theorem dJ0_checkIndex_df160_0 : decode cJ0_checkIndex_df160 0 = .ok (.iload_n 0, 1) := by decide +kernel
theorem dJ0_checkIndex_df160_1 : decode cJ0_checkIndex_df160 1 = .ok (.iload_n 1, 1) := by decide +kernel
theorem dJ0_checkIndex_df160_2 : decode cJ0_checkIndex_df160 2 = .ok (.getstatic 1053, 3) := by decide +kernel
theorem dJ0_checkIndex_df160_5 : decode cJ0_checkIndex_df160 5 = .ok (.invokestatic 1059, 3) := by decide +kernel
theorem dJ0_checkIndex_df160_8 : decode cJ0_checkIndex_df160 8 = .ok (.pop, 1) := by decide +kernel
theorem dJ0_checkIndex_df160_9 : decode cJ0_checkIndex_df160 9 = .ok (.return_, 1) := by decide +kernel
theorem ggJ1_charAt_3b067_J0_checkIndex_df160 : GoodIn wsJ1_charAt_3b067 wsJ0_checkIndex_df160 := goodIn_r _ [4, 5, 6, 7, 8, 9] (by decide +kernel) (by decide +kernel)
theorem gJ1_charAt_3b067_J0_checkIndex_df160 : GoodIn wsJ1_charAt_3b067 (va_wsS RJ1 9 yJ0_checkIndex_df160 wsJ0_checkIndex_df160) := goodIn_app (goodIn_of _ (by decide +kernel)) ggJ1_charAt_3b067_J0_checkIndex_df160
theorem dJ1_charAt_3b067_0 : decode cJ1_charAt_3b067 0 = .ok (.iload_n 1, 1) := by decide +kernel
theorem dJ1_charAt_3b067_1 : decode cJ1_charAt_3b067 1 = .ok (.aload_n 0, 1) := by decide +kernel
theorem dJ1_charAt_3b067_2 : decode cJ1_charAt_3b067 2 = .ok (.arraylength, 1) := by decide +kernel
theorem dJ1_charAt_3b067_3 : decode cJ1_charAt_3b067 3 = .ok (.invokestatic 9, 3) := by decide +kernel
theorem dJ1_charAt_3b067_6 : decode cJ1_charAt_3b067 6 = .ok (.aload_n 0, 1) := by decide +kernel
theorem dJ1_charAt_3b067_7 : decode cJ1_charAt_3b067 7 = .ok (.iload_n 1, 1) := by decide +kernel
theorem dJ1_charAt_3b067_8 : decode cJ1_charAt_3b067 8 = .ok (.baload, 1) := by decide +kernel
theorem dJ1_charAt_3b067_9 : decode cJ1_charAt_3b067 9 = .ok (.sipush 255, 3) := by decide +kernel
theorem dJ1_charAt_3b067_12 : decode cJ1_charAt_3b067 12 = .ok (.iand, 1) := by decide +kernel
theorem dJ1_charAt_3b067_13 : decode cJ1_charAt_3b067 13 = .ok (.i2c, 1) := by decide +kernel
theorem dJ1_charAt_3b067_14 : decode cJ1_charAt_3b067 14 = .ok (.ireturn, 1) := by decide +kernel
theorem dJ3_checkIndex_8e157_0 : decode cJ3_checkIndex_8e157 0 = .ok (.iload_n 0, 1) := by decide +kernel
theorem dJ3_checkIndex_8e157_1 : decode cJ3_checkIndex_8e157 1 = .ok (.ifCond .lt 8, 3) := by decide +kernel
theorem dJ3_checkIndex_8e157_4 : decode cJ3_checkIndex_8e157 4 = .ok (.iload_n 0, 1) := by decide +kernel
theorem dJ3_checkIndex_8e157_5 : decode cJ3_checkIndex_8e157 5 = .ok (.iload_n 1, 1) := by decide +kernel
theorem dJ3_checkIndex_8e157_6 : decode cJ3_checkIndex_8e157 6 = .ok (.if_icmp .lt 10, 3) := by decide +kernel
theorem dJ3_checkIndex_8e157_16 : decode cJ3_checkIndex_8e157 16 = .ok (.iload_n 0, 1) := by decide +kernel
theorem dJ3_checkIndex_8e157_17 : decode cJ3_checkIndex_8e157 17 = .ok (.ireturn, 1) := by decide +kernel
def tX (P : zP) (adV : Nat → Nat) (U : State) (H : Heap) : Prop := vk_S 2 zLen zByt (fun i => P.2.1 (i + 3)) adV (fun z => P.1 ≤ z) U H ∧ va_Z "java/lang/String" "COMPACT_STRINGS" "Z" (.int 1) (fun z => P.1 ≤ z) U H ∧ va_Zq "jdk/internal/util/Preconditions" "SIOOBE_FORMATTER" "Ljava/util/function/BiFunction;" (fun z => P.1 ≤ z) U H
theorem tX.moved {P : zP} {adV : Nat → Nat} {s U : State} {H : Heap} (hvm : s.vm.Alike U.vm) (h : tX P adV s H) : tX P adV U H := ⟨h.1.moved hvm, h.2.1.moved hvm, h.2.2.moved hvm⟩
def tPc (P : zP) (adV : Nat → Nat) (vs : List Value) : Array Value → State → Prop := fun a U => a = vs.toArray ∧ tX P adV U U.heap
def tQc (ov : Option Value) : Array Value → State → Outcome → State → Prop := fun _ st oc t => oc = .returned ov ∧ t.heap = st.heap
def tRm (n : Nat) : Room := { frames := n, cells := 0, slots := 0, locals := 40 * n }
abbrev tMet (l : Launch) (P : zP) (adV : Nat → Nat) (y : MethodName) (ws : List Cond) (n : Nat) (vs : List Value) (ov : Option Value) : Prop := Met l y ws (tRm n) (tPc P adV vs) (tQc ov) 0 0 (fun z => P.1 ≤ z)
theorem tPc_blind (P : zP) (adV : Nat → Nat) (vs : List Value) : FrameBlind (tPc P adV vs) := fun a U g mk q => ⟨q.1, tX.moved (s := U) (U := U.calling g mk a) (Vm.Alike.refl U.vm) q.2⟩
theorem tPc_at {P : zP} {adV : Nat → Nat} {vs : List Value} {s : State} {H : Heap} (h : tX P adV s H) : ∀ U : State, U.heap = H → s.WarmedH U.vm → tPc P adV vs vs.toArray U := fun U hU hW => ⟨rfl, by rw [hU]; exact h.moved hW.alike⟩
theorem t_after {P : zP} {p : Program} {l : Launch} {e : Env} {R : Room} {s : State} {m : MethodId} {args a : Array Value} {below : List Frame} {meth : Method} {c : Code} {H : Heap} {locs : List Loc} {cells slots pc : Nat} {ls : Array Slot} {st0 rest : List Value} {Q : State → Prop} {ov : Option Value}
    (hrun : va_Run p l e R s m args below meth c H locs cells slots 0 0 (F0 m pc ls st0) rest (tQc ov a) (fun z => P.1 ≤ z))
    (kk : ∀ L : List Loc, (∀ q ∈ L, P.1 ≤ q.base) → W p l e R s m args below meth c H (locs ++ L) cells slots Q (F0 m (pc + 3) ls (ov.toList ++ rest))) : W p l e R s m args below meth c H locs cells slots Q (F0 m pc ls st0) := by
  intro T hT X
  obtain ⟨v, st₀, t, T', L, h0, X', hL, e1, e2, ⟨hv, hh⟩, st⟩ := hrun T hT X
  cases hv
  obtain ⟨t2, a1, b1⟩ := kk L hL T' (by rw [e1, hh, h0]) X'
  exact ⟨t2, st t2 a1, b1⟩
def tCx (cc : ByteArray) (nL : Nat) (ret : Option FieldType) (own : String) (ws : List Cond) (p : Program) (s : State) (m : MethodId) (args : Array Value) (meth : Method) (c : Code) : Prop :=
  p.tables.exec = Jvm.exec ∧ c.code = cc ∧ c.maxLocals = nL ∧ s.vm.findClass own = some m.cls ∧ (∀ w ∈ ws, w.before args s = true) ∧ meth.sig.returnType = ret ∧ meth.locks = false
theorem t_met {l : Launch} {P : zP} {adV : Nat → Nat} {y : MethodName} {ws ws' : List Cond} {n : Nat} {vs : List Value} {ov : Option Value} {cc : ByteArray} {nL : Nat} {ret : Option FieldType} (hpl : plainName y.cls = true) (hw : ws = Cond.code y cc nL ret :: ws') (hlen : (lg_sl vs).length ≤ nL)
    (go : ∀ (p : Program) (e : Env) (s : State) (m : MethodId) (below : List Frame) (meth : Method) (c : Code), tCx cc nL ret y.cls ws p s m vs.toArray meth c → tX P adV s s.heap → W p l e (tRm n) s m vs.toArray below meth c s.heap [] 0 0 (MQ below (tQc ov) vs.toArray s 0 0 (fun z => P.1 ≤ z)) (F0 m 0 ((lg_sl vs ++ List.replicate (nL - (lg_sl vs).length) Slot.unset).toArray) [])) : tMet l P adV y ws n vs ov := by
  refine Met.ofW (cc := cc) (maxL := nL) (ret := ret) hpl hw ?_
  intro p e s m args below meth c s₁ B hml hv
  obtain ⟨rfl, hX⟩ := hv
  have hts := atoms_spec (ws := ws) B.pre
  rw [lg_entry_eq]
  exact go p e s m below meth c ⟨B.exec, B.bytes, hml, findClass_of_methodNamed B.named, hts, B.returns, B.notSynchronized⟩ hX
section TSTR
variable {l : Launch} {P : zP} {adV : Nat → Nat}
theorem t_check {i n : Int32} {v : Value} (h0 : ¬ i < 0) (hn : i < n) (hv : v = .null ∨ ∃ t : Nat, v = .ref t) : tMet l P adV yJ3_checkIndex_8e157 wsJ3_checkIndex_8e157 0 [.int i, .int n, v] (some (.int i)) := by
  have len : lg_sl [.int i, .int n, v] = [.val (.int i), .val (.int n), .val v] := by
    rcases hv with rfl | ⟨t, rfl⟩ <;> rfl
  refine t_met (cc := cJ3_checkIndex_8e157) (nL := 3) (ret := some .int) (by decide +kernel) rfl (by rw [len]; exact Nat.le_refl 3) ?_
  intro p e s m below meth c ⟨hx, hb, hml, hown, hts, hr, hlk⟩ _
  rw [len]
  refine lv_iload_n hx hb dJ3_checkIndex_8e157_0 (i := 0) rfl rfl ?_
  refine lv_if_lt hx hb dJ3_checkIndex_8e157_1 (tgt := 9) rfl (fun q => absurd q h0) (fun _ => ?_)
  refine lv_iload_n hx hb dJ3_checkIndex_8e157_4 (i := 0) rfl rfl ?_
  refine lv_iload_n hx hb dJ3_checkIndex_8e157_5 (i := 1) rfl rfl ?_
  refine lv_icmp_lt hx hb dJ3_checkIndex_8e157_6 (tgt := 16) rfl (fun _ => ?_) (fun q => absurd hn q)
  refine lv_iload_n hx hb dJ3_checkIndex_8e157_16 (i := 0) rfl rfl ?_
  exact W.zret hx hb hr rfl (fun t ht hW => ⟨rfl, ht⟩) (fun q h => absurd h List.not_mem_nil) dJ3_checkIndex_8e157_17 (hlocks := hlk)
theorem t_scheck {i n : Int32} (h0 : ¬ i < 0) (hn : i < n) : tMet l P adV yJ0_checkIndex_df160 wsJ0_checkIndex_df160 1 [.int i, .int n] none := by
  refine t_met (cc := cJ0_checkIndex_df160) (nL := 2) (ret := none) (by decide +kernel) rfl (Nat.le_refl 2) ?_
  intro p e s m below meth c ⟨hx, hb, hml, hown, hts, hr, hlk⟩ hX
  refine lv_iload_n hx hb dJ0_checkIndex_df160_0 (i := 0) rfl rfl ?_
  refine lv_iload_n hx hb dJ0_checkIndex_df160_1 (i := 1) rfl rfl ?_
  obtain ⟨v, hv, hZ⟩ : ∃ v : Value, (v = .null ∨ ∃ t : Nat, v = .ref t) ∧ va_Z "jdk/internal/util/Preconditions" "SIOOBE_FORMATTER" "Ljava/util/function/BiFunction;" v (fun z => P.1 ≤ z) s s.heap := by
    rcases hX.2.2 with h | ⟨t, h⟩
    · exact ⟨_, Or.inl rfl, h⟩
    · exact ⟨_, Or.inr ⟨t, rfl⟩, h⟩
  refine va_gets hx hb hZ va_S.rf hown (hts _ (List.mem_cons_of_mem _ List.mem_cons_self)) (fun x h => h) dJ0_checkIndex_df160_2 ?_
  refine t_after (va_runS (As := [.int i, .int n, v]) (rest := []) ⟨hx, hb, hml, hown, hts⟩ (t_check h0 hn hv) (va_cwS 3 hts gJ0_checkIndex_df160_J3_checkIndex_8e157 rfl rfl rfl ⟨by decide +kernel, by decide +kernel, by decide +kernel⟩ ⟨Nat.le_of_ble_eq_true rfl, Nat.le_of_ble_eq_true rfl⟩) ⟨tPc_blind _ _ _, tPc_at hX⟩ rfl rfl rfl rfl (Nat.le_of_ble_eq_true rfl) dJ0_checkIndex_df160_5 ⟨Nat.zero_le _, Nat.zero_le _⟩) ?_
  intro L hL
  refine lv_pop hx hb dJ0_checkIndex_df160_8 rfl ?_
  exact W.vret hx hb hr (fun t ht hW => ⟨rfl, ht⟩) hL dJ0_checkIndex_df160_9 (hlocks := hlk)
def tch (j k : Nat) : Int32 := (((zByt.getD j []).getD k 0 &&& 255).toUInt32 % 65536).toInt32
theorem tch_ok : ∀ j, j < 2 → ∀ k, k < zLen.getD j 0 → (narrow .char (.int (tch j k)) = .int (tch j k) ∧ (tch j k).toInt = (zTx (j + 3)).getD k 0) := by decide +kernel
theorem tln_ok : ∀ j, j < 2 → (zLen.getD j 0 = (zTx (j + 3)).length ∧ zLen.getD j 0 < 65536 ∧ Int32.ofNat (zLen.getD j 0) >>> ((0 : Int32) &&& 31) = Int32.ofNat (zLen.getD j 0)) := by decide +kernel
theorem t_lchar {j : Nat} (hj : j < 2) {i : Int32} (h0 : ¬ i < 0) (hi : i.toNatClampNeg < zLen.getD j 0) : tMet l P adV yJ1_charAt_3b067 wsJ1_charAt_3b067 2 [.ref (adV j), .int i] (some (.int (tch j i.toNatClampNeg))) := by
  refine t_met (cc := cJ1_charAt_3b067) (nL := 2) (ret := some .char) (by decide +kernel) rfl (Nat.le_refl 2) ?_
  intro p e s m below meth c ⟨hx, hb, hml, hown, hts, hr, hlk⟩ hX
  obtain ⟨cell, g1, g2, g3, g4, g5, g6, g7⟩ := (hX.1.1 j hj).2.2.2
  have hlt : i < Int32.ofNat (zLen.getD j 0) := by
    have b := (tln_ok j hj).2.1
    refine Int32.lt_iff_toInt_lt.mpr ?_
    have e1 : (Int32.ofNat (zLen.getD j 0)).toInt = ((zLen.getD j 0 : Nat) : Int) := z_ofNat (by omega)
    have e2 : i.toInt.toNat < zLen.getD j 0 := hi
    rw [e1]
    omega
  refine lv_iload_n hx hb dJ1_charAt_3b067_0 (i := 1) rfl rfl ?_
  refine lv_aload_n hx hb dJ1_charAt_3b067_1 (i := 0) rfl rfl ?_
  refine W.alen (n := Int32.ofNat (zLen.getD j 0)) hx hb g1 g2 g5 rfl rfl dJ1_charAt_3b067_2 ?_
  refine t_after (va_runS (As := [.int i, .int (Int32.ofNat (zLen.getD j 0))]) (rest := []) ⟨hx, hb, hml, hown, hts⟩ (t_scheck h0 hlt) (va_cwS 2 hts gJ1_charAt_3b067_J0_checkIndex_df160 rfl rfl rfl ⟨by decide +kernel, by decide +kernel, by decide +kernel⟩ ⟨Nat.le_of_ble_eq_true rfl, Nat.le_of_ble_eq_true rfl⟩) ⟨tPc_blind _ _ _, tPc_at hX⟩ rfl rfl rfl rfl (Nat.le_of_ble_eq_true rfl) dJ1_charAt_3b067_3 ⟨Nat.zero_le _, Nat.zero_le _⟩) ?_
  intro L hL
  refine lv_aload_n hx hb dJ1_charAt_3b067_6 (i := 0) rfl rfl ?_
  refine lv_iload_n hx hb dJ1_charAt_3b067_7 (i := 1) rfl rfl ?_
  refine W.bald (v := .int ((zByt.getD j []).getD i.toNatClampNeg 0)) hx hb g1 g2 g3 (fun q => q.elim h0 (fun h => absurd (Nat.lt_of_lt_of_le hi g4) (Nat.not_lt.mpr h))) (g6 _ hi) rfl rfl dJ1_charAt_3b067_8 ?_
  refine lv_sipush hx hb dJ1_charAt_3b067_9 (v := 255) (by decide) ?_
  refine lv_iand hx hb dJ1_charAt_3b067_12 ?_
  refine lv_i2c hx hb dJ1_charAt_3b067_13 (v := tch j i.toNatClampNeg) rfl ?_
  exact W.zret hx hb hr (tch_ok j hj _ hi).1 (fun t ht hW => ⟨rfl, ht⟩) hL dJ1_charAt_3b067_14 (hlocks := hlk)
theorem t_lat {j : Nat} (hj : j < 2) : tMet l P adV yJ0_isLatin1_aae02 wsJ0_isLatin1_aae02 0 [.ref (P.2.1 (j + 3))] (some (.int 1)) := by
  refine t_met (cc := cJ0_isLatin1_aae02) (nL := 1) (ret := some .boolean) (by decide +kernel) rfl (Nat.le_refl 1) ?_
  intro p e s m below meth c ⟨hx, hb, hml, hown, hts, hr, hlk⟩ hX
  refine va_gets hx hb hX.2.1 va_S.rf hown (hts _ (List.mem_cons_of_mem _ List.mem_cons_self)) (fun x h => h) dJ0_isLatin1_aae02_0 ?_
  refine lv_if_eq hx hb dJ0_isLatin1_aae02_3 (tgt := 17) rfl (fun q => absurd q (by decide)) (fun _ => ?_)
  refine lv_aload_n hx hb dJ0_isLatin1_aae02_6 (i := 0) rfl rfl ?_
  refine vk_getf hx hb (hX.1.1 j hj).2.1 va_S.rf hown (hts _ (List.mem_cons_of_mem _ (List.mem_cons_of_mem _ List.mem_cons_self))) (fun x h => h) dJ0_isLatin1_aae02_7 ?_
  refine lv_if_ne hx hb dJ0_isLatin1_aae02_10 (tgt := 17) rfl (fun q => absurd rfl q) (fun _ => ?_)
  refine lv_iconst hx hb dJ0_isLatin1_aae02_13 (v := 1) (by decide) ?_
  refine lv_goto hx hb dJ0_isLatin1_aae02_14 (tgt := 18) rfl ?_
  exact W.zret hx hb hr rfl (fun t ht hW => ⟨rfl, ht⟩) (fun q h => absurd h List.not_mem_nil) dJ0_isLatin1_aae02_18 (hlocks := hlk)
theorem t_coder {j : Nat} (hj : j < 2) : tMet l P adV yJ0_coder_7d493 wsJ0_coder_7d493 0 [.ref (P.2.1 (j + 3))] (some (.int 0)) := by
  refine t_met (cc := cJ0_coder_7d493) (nL := 1) (ret := some .byte) (by decide +kernel) rfl (Nat.le_refl 1) ?_
  intro p e s m below meth c ⟨hx, hb, hml, hown, hts, hr, hlk⟩ hX
  refine va_gets hx hb hX.2.1 va_S.rf hown (hts _ (List.mem_cons_of_mem _ List.mem_cons_self)) (fun x h => h) dJ0_coder_7d493_0 ?_
  refine lv_if_eq hx hb dJ0_coder_7d493_3 (tgt := 13) rfl (fun q => absurd q (by decide)) (fun _ => ?_)
  refine lv_aload_n hx hb dJ0_coder_7d493_6 (i := 0) rfl rfl ?_
  refine vk_getf hx hb (hX.1.1 j hj).2.1 va_S.rf hown (hts _ (List.mem_cons_of_mem _ (List.mem_cons_of_mem _ List.mem_cons_self))) (fun x h => h) dJ0_coder_7d493_7 ?_
  refine lv_goto hx hb dJ0_coder_7d493_10 (tgt := 14) rfl ?_
  exact W.zret hx hb hr rfl (fun t ht hW => ⟨rfl, ht⟩) (fun q h => absurd h List.not_mem_nil) dJ0_coder_7d493_14 (hlocks := hlk)
theorem t_length {j : Nat} (hj : j < 2) : tMet l P adV yJ0_length_8abf5 wsJ0_length_8abf5 1 [.ref (P.2.1 (j + 3))] (some (.int (Int32.ofNat (zLen.getD j 0)))) := by
  refine t_met (cc := cJ0_length_8abf5) (nL := 1) (ret := some .int) (by decide +kernel) rfl (Nat.le_refl 1) ?_
  intro p e s m below meth c ⟨hx, hb, hml, hown, hts, hr, hlk⟩ hX
  obtain ⟨cell, g1, g2, g3, g4, g5, g6, g7⟩ := (hX.1.1 j hj).2.2.2
  refine lv_aload_n hx hb dJ0_length_8abf5_0 (i := 0) rfl rfl ?_
  refine vk_getf hx hb (hX.1.1 j hj).2.2.1 va_S.rf hown (hts _ (List.mem_cons_of_mem _ List.mem_cons_self)) (fun x h => h) dJ0_length_8abf5_1 ?_
  refine W.alen (n := Int32.ofNat (zLen.getD j 0)) hx hb g1 g2 g5 rfl rfl dJ0_length_8abf5_4 ?_
  refine lv_aload_n hx hb dJ0_length_8abf5_5 (i := 0) rfl rfl ?_
  refine t_after (va_runV (C := RJ0) (b := P.2.1 (j + 3)) (As := []) (rest := [.int (Int32.ofNat (zLen.getD j 0))]) ⟨hx, hb, hml, hown, hts⟩ (t_coder hj) (cwV 0 hts gJ0_length_8abf5_J0_coder_7d493 rfl rfl rfl ⟨rfl, by decide +kernel, by decide +kernel, by decide +kernel⟩ ⟨Nat.le_of_ble_eq_true rfl, Nat.le_of_ble_eq_true rfl⟩) ⟨tPc_blind _ _ _, vk_recv (adK := fun i => P.2.1 (i + 3)) (i := j) hX.1 hj va_S.rf, tPc_at hX⟩ rfl rfl rfl rfl (Nat.le_of_ble_eq_true rfl) dJ0_length_8abf5_6 ⟨Nat.zero_le _, Nat.zero_le _⟩) ?_
  intro L hL
  refine lv_ishr hx hb dJ0_length_8abf5_9 ?_
  rw [(tln_ok j hj).2.2]
  exact W.zret hx hb hr rfl (fun t ht hW => ⟨rfl, ht⟩) hL dJ0_length_8abf5_10 (hlocks := hlk)
theorem t_char {j : Nat} (hj : j < 2) {i : Int32} (h0 : ¬ i < 0) (hi : i.toNatClampNeg < zLen.getD j 0) : tMet l P adV yJ0_charAt_5068e wsJ0_charAt_5068e 3 [.ref (P.2.1 (j + 3)), .int i] (some (.int (tch j i.toNatClampNeg))) := by
  refine t_met (cc := cJ0_charAt_5068e) (nL := 2) (ret := some .char) (by decide +kernel) rfl (Nat.le_refl 2) ?_
  intro p e s m below meth c ⟨hx, hb, hml, hown, hts, hr, hlk⟩ hX
  refine lv_aload_n hx hb dJ0_charAt_5068e_0 (i := 0) rfl rfl ?_
  refine t_after (va_runV (C := RJ0) (b := P.2.1 (j + 3)) (As := []) (rest := []) ⟨hx, hb, hml, hown, hts⟩ (t_lat hj) (cwV 0 hts gJ0_charAt_5068e_J0_isLatin1_aae02 rfl rfl rfl ⟨rfl, by decide +kernel, by decide +kernel, by decide +kernel⟩ ⟨Nat.le_of_ble_eq_true rfl, Nat.le_of_ble_eq_true rfl⟩) ⟨tPc_blind _ _ _, vk_recv (adK := fun i => P.2.1 (i + 3)) (i := j) hX.1 hj va_S.rf, tPc_at hX⟩ rfl rfl rfl rfl (Nat.le_of_ble_eq_true rfl) dJ0_charAt_5068e_1 ⟨Nat.zero_le _, Nat.zero_le _⟩) ?_
  intro L hL
  refine lv_if_eq hx hb dJ0_charAt_5068e_4 (tgt := 16) rfl (fun q => absurd q (by decide)) (fun _ => ?_)
  refine lv_aload_n hx hb dJ0_charAt_5068e_7 (i := 0) rfl rfl ?_
  refine vk_getf hx hb (hX.1.1 j hj).2.2.1 ⟨Nat.le_refl _, fun _ _ _ => rfl, hL⟩ hown (hts _ (List.mem_cons_of_mem _ (List.mem_append_left _ List.mem_cons_self))) (fun x h => h) dJ0_charAt_5068e_8 ?_
  refine lv_iload_n hx hb dJ0_charAt_5068e_11 (i := 1) rfl rfl ?_
  refine t_after (va_runS (As := [.ref (adV j), .int i]) (rest := []) ⟨hx, hb, hml, hown, hts⟩ (t_lchar hj h0 hi) (va_cwS 2 hts gJ0_charAt_5068e_J1_charAt_3b067 rfl rfl rfl ⟨by decide +kernel, by decide +kernel, by decide +kernel⟩ ⟨Nat.le_of_ble_eq_true rfl, Nat.le_of_ble_eq_true rfl⟩) ⟨tPc_blind _ _ _, tPc_at hX⟩ rfl rfl rfl rfl (Nat.le_of_ble_eq_true rfl) dJ0_charAt_5068e_12 ⟨Nat.zero_le _, Nat.zero_le _⟩) ?_
  intro L2 hL2
  exact W.zret hx hb hr (tch_ok j hj _ hi).1 (fun t ht hW => ⟨rfl, ht⟩) (fun q h => (List.mem_append.mp h).elim (hL q) (hL2 q)) dJ0_charAt_5068e_15 (hlocks := hlk)
end TSTR
noncomputable def tTb (k : Nat) : List Cond := match k with
  | 1 => tables_1_1
  | 3 => tables_1_3
  | 9 => tables_1_9
  | _ => []
theorem tTb_in {k : Nat} {w : Cond} (h : w ∈ tTb k) : w ∈ lw_tbl := by
  match k, h with
  | 1, h => exact List.mem_append_right _ (List.mem_append_left _ h)
  | 3, h => exact List.mem_append_right _ (List.mem_append_right _ (List.mem_append_right _ (List.mem_append_left _ h)))
  | 9, h => exact List.mem_append_right _ (List.mem_append_right _ (List.mem_append_right _ (List.mem_append_right _ (List.mem_append_right _ (List.mem_append_right _ (List.mem_append_right _ (List.mem_append_right _ (List.mem_append_right _ h))))))))
  | 0, h => cases h
  | 2, h => cases h
  | 4, h => cases h
  | 5, h => cases h
  | 6, h => cases h
  | 7, h => cases h
  | 8, h => cases h
  | k + 10, h => cases h
noncomputable def t_hasAll : List Cond → List (Nat × Nat) → Bool
  | [], _ => true
  | w :: ws, q :: ps => ((match x_nth (tTb q.1) q.2 with
    | some v => decide (v = w)
    | none => false) && goodWord w) && t_hasAll ws ps
  | _ :: _, [] => false
theorem t_hasAll_in : ∀ {ws : List Cond} {ps : List (Nat × Nat)}, t_hasAll ws ps = true → ∀ w ∈ ws, w ∈ xTB
  | [], _, _, w, hw => absurd hw List.not_mem_nil
  | _ :: _, [], h, _, _ => by cases h
  | w :: ws, q :: ps, h, w', hw => by
    have h : (((match x_nth (tTb q.1) q.2 with
      | some v => decide (v = w)
      | none => false) && goodWord w) && t_hasAll ws ps) = true := h
    rw [Bool.and_eq_true, Bool.and_eq_true, x_nth_eq] at h
    obtain ⟨⟨h1, h2⟩, h3⟩ := h
    rcases List.mem_cons.mp hw with e | e
    · subst e
      split at h1
      · rename_i v hv
        have := of_decide_eq_true h1
        subst this
        exact xTB_in (tTb_in (List.mem_of_getElem? hv)) h2
      · cases h1
    · exact t_hasAll_in h3 w' e
theorem t_wlen : ∀ w ∈ ([Cond.instanceMethod yJ0_length_8abf5, Cond.selects RJ0 yJ0_length_8abf5 yJ0_length_8abf5, Cond.initialized RJ0] : List Cond) ++ wsJ0_length_8abf5, w ∈ xTB := t_hasAll_in (ps := [(3, 155), (3, 156), (1, 17), (3, 157), (9, 224), (3, 158), (3, 159), (3, 160), (1, 17), (3, 161), (3, 162), (9, 225)]) (by decide +kernel)
theorem t_wchr : ∀ w ∈ ([Cond.instanceMethod yJ0_charAt_5068e, Cond.selects RJ0 yJ0_charAt_5068e yJ0_charAt_5068e, Cond.initialized RJ0] : List Cond) ++ wsJ0_charAt_5068e, w ∈ xTB := t_hasAll_in (ps := [(3, 165), (3, 166), (1, 17), (3, 167), (9, 224), (3, 168), (3, 169), (3, 170), (1, 17), (3, 171), (3, 162), (9, 225), (3, 172), (3, 173), (1, 18), (3, 174), (3, 175), (3, 176), (3, 177), (3, 178), (3, 180), (3, 181), (1, 19), (3, 182), (3, 183), (3, 184), (1, 20), (3, 185), (3, 186), (3, 187), (3, 188), (3, 189), (3, 190), (3, 191), (3, 192), (3, 193), (3, 194), (3, 195), (3, 196), (3, 198), (3, 200)]) (by decide +kernel)
theorem zs_slen {l : Launch} {P : zP} {M : List zY} {μ : zM} {pc index : Nat} (hd : decode μ.2.1 pc = .ok (.invokevirtual index, 3)) (hw1 : Cond.methodLink μ.1 index yJ0_length_8abf5 ∈ xTB) : zSim l P M μ pc (25, pc + 3, 0, 0, 0, []) := by
  intro p e s m args below meth c R Q d C hrm st o ho H locs cells slots ls stk J K
  obtain ⟨hx, hb, hml, hown, hts, hr, hlk⟩ := C
  obtain ⟨h, L, S0⟩ := st
  obtain ⟨jc, jg, ⟨lv, jl, jd⟩, jS, jx, jo, jk⟩ := J
  have ho : z_slen (zPD P) (pc + 3) (h, L, S0) = some o := ho
  unfold z_slen at ho
  split at ho
  · rename_i j S heq
    have heq : S0 = (3, j) :: S := heq
    split at ho
    · rename_i hA
      have ho := Option.some.inj ho
      subst ho
      subst heq
      match stk, jS with
      | v :: stk, ⟨dv, ds⟩ =>
        obtain ⟨k, hk, rfl⟩ : ∃ k : Nat, k < 2 ∧ j = ((k + 3 : Nat) : Int) := by
          rcases hA.1 with e | e
          · exact ⟨0, by omega, by omega⟩
          · exact ⟨1, by omega, by omega⟩
        have dv : v = .ref (P.2.1 (k + 3)) := dv
        subst dv
        obtain ⟨⟨adV, h1⟩, h2, h3, -⟩ := jx.2.2.2.2.1
        have hX : tX P adV s H := ⟨h1, h2, h3⟩
        have hgv : GoodIn xTB (wsV μ.1 index RJ0 yJ0_length_8abf5 wsJ0_length_8abf5) := xTB_good (fun w hw => by
          rcases List.mem_cons.mp hw with e | e
          · rw [e]; exact hw1
          · exact t_wlen w e)
        have f1 := hrm.1
        have f2 := hrm.2
        obtain ⟨cell, q1, q2, q3, -⟩ := (h1.1 k hk).1
        refine t_after (va_runV (C := RJ0) (b := P.2.1 (k + 3)) (As := []) (rest := stk) ⟨hx, hb, hml, hown, hts⟩ (t_length (adV := adV) hk) (cwV 0 hts hgv rfl rfl rfl ⟨rfl, by decide +kernel, by decide +kernel, by decide +kernel⟩ ⟨by show 1 + 1 ≤ R.frames; omega, by show 8 + (1 + 11) + 40 * 1 ≤ R.locals; omega⟩) ⟨tPc_blind _ _ _, ⟨cell, q1, q2, q3⟩, tPc_at hX⟩ rfl rfl jl.1 rfl (by rw [zsum_den ds]; show 2 * 0 + _ ≤ 8; omega) hd ⟨jc.1, jc.2⟩) ?_
        intro L2 hL2
        have b := tln_ok k hk
        refine K H (locs ++ L2) cells slots ls (.int (Int32.ofNat (zLen.getD k 0)) :: stk) ⟨jc, jg, ⟨lv, jl, jd⟩, ⟨⟨_, rfl, ?_⟩, ds⟩, jx, fun q hq => (List.mem_append.mp hq).elim (jo q) (hL2 q), jk⟩
        rw [z_ofNat (by omega), b.1]
        rfl
    · cases ho
  · cases ho
theorem zs_char {l : Launch} {P : zP} {M : List zY} {μ : zM} {pc index : Nat} (hd : decode μ.2.1 pc = .ok (.invokevirtual index, 3)) (hw1 : Cond.methodLink μ.1 index yJ0_charAt_5068e ∈ xTB) : zSim l P M μ pc (26, pc + 3, 0, 0, 0, []) := by
  intro p e s m args below meth c R Q d C hrm st o ho H locs cells slots ls stk J K
  obtain ⟨hx, hb, hml, hown, hts, hr, hlk⟩ := C
  obtain ⟨h, L, S0⟩ := st
  obtain ⟨jc, jg, ⟨lv, jl, jd⟩, jS, jx, jo, jk⟩ := J
  have ho : z_char (zPD P) (pc + 3) (h, L, S0) = some o := ho
  unfold z_char at ho
  split at ho
  · rename_i i j S heq
    have heq : S0 = (0, i) :: (3, j) :: S := heq
    split at ho
    · rename_i hA
      have ho := Option.some.inj ho
      subst ho
      subst heq
      match stk, jS with
      | vi :: v :: stk, ⟨⟨x, hvi, hxi⟩, dv, ds⟩ =>
        subst hvi
        obtain ⟨k, hk, rfl⟩ : ∃ k : Nat, k < 2 ∧ j = ((k + 3 : Nat) : Int) := by
          rcases hA.1 with e | e
          · exact ⟨0, by omega, by omega⟩
          · exact ⟨1, by omega, by omega⟩
        have dv : v = .ref (P.2.1 (k + 3)) := dv
        subst dv
        have b := tln_ok k hk
        have hi2 : i < ((zTx (k + 3)).length : Int) := hA.2.2.1
        have h0 : ¬ x < 0 := fun q => by
          have : x.toInt < (0 : Int32).toInt := Int32.lt_iff_toInt_lt.mp q
          have e0 : (0 : Int32).toInt = 0 := rfl
          omega
        have hn : x.toNatClampNeg = i.toNat := by
          show x.toInt.toNat = i.toNat
          rw [hxi]
        have hlt : x.toNatClampNeg < zLen.getD k 0 := by
          rw [hn, b.1]
          omega
        obtain ⟨⟨adV, h1⟩, h2, h3, -⟩ := jx.2.2.2.2.1
        have hX : tX P adV s H := ⟨h1, h2, h3⟩
        have hgv : GoodIn xTB (wsV μ.1 index RJ0 yJ0_charAt_5068e wsJ0_charAt_5068e) := xTB_good (fun w hw => by
          rcases List.mem_cons.mp hw with e | e
          · rw [e]; exact hw1
          · exact t_wchr w e)
        have f1 := hrm.1
        have f2 := hrm.2
        obtain ⟨cell, q1, q2, q3, -⟩ := (h1.1 k hk).1
        refine t_after (va_runV (C := RJ0) (b := P.2.1 (k + 3)) (As := [.int x]) (rest := stk) ⟨hx, hb, hml, hown, hts⟩ (t_char (adV := adV) hk h0 hlt) (cwV 1 hts hgv rfl rfl rfl ⟨rfl, by decide +kernel, by decide +kernel, by decide +kernel⟩ ⟨by show 3 + 1 ≤ R.frames; omega, by show 8 + (2 + 11) + 40 * 3 ≤ R.locals; omega⟩) ⟨tPc_blind _ _ _, ⟨cell, q1, q2, q3⟩, tPc_at hX⟩ rfl rfl jl.1 rfl (by rw [zsum_den ds]; show 2 * 0 + _ ≤ 8; omega) hd ⟨jc.1, jc.2⟩) ?_
        intro L2 hL2
        refine K H (locs ++ L2) cells slots ls (.int (tch k x.toNatClampNeg) :: stk) ⟨jc, jg, ⟨lv, jl, jd⟩, ⟨⟨_, rfl, ?_⟩, ds⟩, jx, fun q hq => (List.mem_append.mp hq).elim (jo q) (hL2 q), jk⟩
        rw [(tch_ok k hk _ hlt).2, hn]
        rfl
    · cases ho
  · cases ho
