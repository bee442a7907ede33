def tCx (cc : ByteArray) (nL : Nat) (ret : Option FieldType) (own : String) (ws : List Cond) (p : Program) (s : State) (m : MethodId) (args : Array Value) (meth : Method) (c : Code) : Prop :=
  p.tables.exec = Jvm.exec ∧ c.code = cc ∧ c.maxLocals = nL ∧ s.vm.findClass own = some m.cls ∧ (∀ w ∈ ws, w.before args s = true) ∧ meth.sig.returnType = ret ∧ meth.locks = false
theorem t_met {l : Launch} {P : zP} {adV : Nat → Nat} {y : MethodName} {ws ws' : List Cond} {n : Nat} {vs : List Value} {ov : Option Value} {cc : ByteArray} {nL : Nat} {ret : Option FieldType} (hpl : plainName y.cls = true) (hw : ws = Cond.code y cc nL ret :: ws') (hlen : (lg_sl vs).length ≤ nL)
    (go : ∀ (p : Program) (e : Env) (s : State) (m : MethodId) (below : List Frame) (meth : Method) (c : Code), tCx cc nL ret y.cls ws p s m vs.toArray meth c → tX P adV s s.heap → W p l e (tRm n) s m vs.toArray below meth c s.heap [] 0 0 (MQ below (tQc ov) vs.toArray s 0 0 (fun z => P.1 ≤ z)) (F0 m 0 ((lg_sl vs ++ List.replicate (nL - (lg_sl vs).length) Slot.unset).toArray) [])) : tMet l P adV y ws n vs ov := by
  refine Met.ofW (cc := cc) (maxL := nL) (ret := ret) hpl hw ?_
  intro p e s m args below meth c s₁ B hml hv
  obtain ⟨rfl, hX⟩ := hv
  have hts := atoms_spec (ws := ws) B.pre
  rw [lg_entry_eq]
  exact go p e s m below meth c ⟨B.exec, B.bytes, hml, findClass_of_methodNamed B.named, hts, B.returns, B.notSynchronized⟩ hX
section TSTR
variable {l : Launch} {P : zP} {adV : Nat → Nat}
theorem t_check {i n : Int32} {v : Value} (h0 : ¬ i < 0) (hn : i < n) (hv : v = .null ∨ ∃ t : Nat, v = .ref t) : tMet l P adV yJ3_checkIndex_8e157 wsJ3_checkIndex_8e157 0 [.int i, .int n, v] (some (.int i)) := by
  have len : lg_sl [.int i, .int n, v] = [.val (.int i), .val (.int n), .val v] := by
    rcases hv with rfl | ⟨t, rfl⟩ <;> rfl
  refine t_met (cc := cJ3_checkIndex_8e157) (nL := 3) (ret := some .int) (by decide +kernel) rfl (by rw [len]; exact Nat.le_refl 3) ?_
  intro p e s m below meth c ⟨hx, hb, hml, hown, hts, hr, hlk⟩ _
  rw [len]
  refine lv_iload_n hx hb dJ3_checkIndex_8e157_0 (i := 0) rfl rfl ?_
  refine lv_if_lt hx hb dJ3_checkIndex_8e157_1 (tgt := 9) rfl (fun q => absurd q h0) (fun _ => ?_)
  refine lv_iload_n hx hb dJ3_checkIndex_8e157_4 (i := 0) rfl rfl ?_
  refine lv_iload_n hx hb dJ3_checkIndex_8e157_5 (i := 1) rfl rfl ?_
  refine lv_icmp_lt hx hb dJ3_checkIndex_8e157_6 (tgt := 16) rfl (fun _ => ?_) (fun q => absurd hn q)
  refine lv_iload_n hx hb dJ3_checkIndex_8e157_16 (i := 0) rfl rfl ?_
  exact W.zret hx hb hr rfl (fun t ht hW => ⟨rfl, ht⟩) (fun q h => absurd h List.not_mem_nil) dJ3_checkIndex_8e157_17 (hlocks := hlk)
end TSTR
