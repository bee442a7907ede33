section STEPS4
variable {l : Launch} {P : xP} {M : List (xY × xT)} {μ : xM} {pc : Nat}
theorem s_newai {atype : ArrayType} (ty : FieldType) (hd : decode μ.2.1 pc = .ok (.newarray atype, 2)) (hty : newarray.typeOf atype = ty) (hk : ty = .int ∨ ty = .byte ∨ ty = .boolean) (hw : Cond.arrayClass ty ∈ xTB) : xSim l P M μ pc (i_newa ty (.inl (.int (Int32.ofNat 0))) (pc + 2)) := by
  intro p e s m args below meth c R Q C cf hcf st outs ho H locs cells slots ls stk J K
  obtain ⟨hx, hb, hml, hown, hts, hr, hlk, hnm, hR⟩ := C
  obtain ⟨en, cl, sl, h, L, S⟩ := st
  obtain ⟨je, jc, js, jg, ⟨lv, jl, jd⟩, jS, jx, jo, jk⟩ := J
  subst hty
  obtain ⟨i, S', stk', rfl, ds, h0, hlt, hc1, hs1, rfl⟩ := x_newa_inv ho jS
  have hcb : componentBytes (newarray.typeOf atype) ≤ 8 := by rcases hk with h | h | h <;> rw [h] <;> decide
  have hdv : defaultValue (newarray.typeOf atype) = .int 0 := by rcases hk with h | h | h <;> rw [h] <;> rfl
  have hra : ∀ cA, s.vm.findClass ("[" ++ (newarray.typeOf atype).toString) = some cA → va_RA s cA (newarray.typeOf atype) := fun cA h => by rcases hk with q | q | q <;> rw [q] at h ⊢ <;> exact h
  refine va_newaK hx hb (hts _ hw) rfl hd rfl h0 rfl (Nat.le_trans (Nat.mul_le_mul (Nat.le_of_lt hlt) hcb) (by decide)) (by have := jc; simp only at this; omega) (by have := js; simp only at this; omega) rfl fun H1 cA e1 z1 o1 hAr hNm => ?_
  have hk' := K _ (x_mem1 _) H1 locs (cells + 1) (slots + i.toNatClampNeg) ls (.ref H.size :: stk') ⟨je, by have := jc; simp only at this ⊢; omega, by have := js; simp only at this ⊢; omega, jg.push ⟨cA, (i.toNatClampNeg, .inl (fun _ => 0)), ?_, rfl, ⟨hk, fun j _ => rfl⟩, hAr, hra cA hNm⟩ z1 o1, ⟨lv, jl, jd⟩, ⟨?_, ds⟩, jx.kept (fun q hq => o1 q (by have := jg.1; omega)), jo, jk⟩
  · exact hk'
  · rw [e1, hdv]; rfl
  · show Value.ref H.size = .ref (P.2.1 + h.length)
    rw [jg.1]
end STEPS4
