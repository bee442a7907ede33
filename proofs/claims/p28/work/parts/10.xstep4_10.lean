section STEPS4
variable {l : Launch} {P : xP} {M : List (xY × xT)} {μ : xM} {pc : Nat}
theorem s_newal (hd : decode μ.2.1 pc = .ok (.newarray .long, 2)) (hw : Cond.arrayClass .long ∈ xTB) : xSim l P M μ pc (i_newa .long (.inl (.long (Int64.ofNat 0))) (pc + 2)) := by
  intro p e s m args below meth c R Q C cf hcf st outs ho H locs cells slots ls stk J K
  obtain ⟨hx, hb, hml, hown, hts, hr, hlk, hnm, hR⟩ := C
  obtain ⟨en, cl, sl, h, L, S⟩ := st
  obtain ⟨je, jc, js, jg, ⟨lv, jl, jd⟩, jS, jx, jo, jk⟩ := J
  obtain ⟨i, S', stk', rfl, ds, h0, hlt, hc1, hs1, rfl⟩ := x_newa_inv ho jS
  have hcb : componentBytes (newarray.typeOf .long) ≤ 8 := by decide
  refine va_newaK (atype := .long) hx hb (hts _ hw) rfl hd rfl h0 rfl (Nat.le_trans (Nat.mul_le_mul (Nat.le_of_lt hlt) hcb) (by decide)) (by have := jc; simp only at this; omega) (by have := js; simp only at this; omega) rfl fun H1 cA e1 z1 o1 hAr hNm => ?_
  have hk' := K _ (x_mem1 _) H1 locs (cells + 1) (slots + i.toNatClampNeg) ls (.ref H.size :: stk') ⟨je, by have := jc; simp only at this ⊢; omega, by have := js; simp only at this ⊢; omega, jg.push ⟨cA, (i.toNatClampNeg, .inr (.inl (fun _ => 0))), ?_, rfl, ⟨rfl, fun j _ => rfl⟩, hAr, hNm⟩ z1 o1, ⟨lv, jl, jd⟩, ⟨?_, ds⟩, jx.kept (fun q hq => o1 q (by have := jg.1; omega)), jo, jk⟩
  · exact hk'
  · rw [e1]; rfl
  · show Value.ref H.size = .ref (P.2.1 + h.length)
    rw [jg.1]
end STEPS4
