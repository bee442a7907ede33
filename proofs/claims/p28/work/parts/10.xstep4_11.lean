section STEPS4
variable {l : Launch} {P : xP} {M : List (xY × xT)} {μ : xM} {pc : Nat}
theorem s_newq {index : Nat} (C : String) (hd : decode μ.2.1 pc = .ok (.anewarray index, 3)) (hw : Cond.classLink μ.1 index C ∈ xTB) (hC : C ∈ (["BreadMap$Tray", "BreadMap$Land"] : List String)) : xSim l P M μ pc (i_newa (.object C) (.inl .null) (pc + 3)) := by
  intro p e s m args below meth c R Q C cf hcf st outs ho H locs cells slots ls stk J K
  obtain ⟨hx, hb, hml, hown, hts, hr, hlk, hnm, hR⟩ := C
  obtain ⟨en, cl, sl, h, L, S⟩ := st
  obtain ⟨je, jc, js, jg, ⟨lv, jl, jd⟩, jS, jx, jo, jk⟩ := J
  obtain ⟨i, S', stk', rfl, ds, h0, hlt, hc1, hs1, rfl⟩ := x_newa_inv ho jS
  refine W.anew hx hb hown (hts _ hw) (va_AO.use (jx.2.1 C hC)) rfl hd rfl h0 (by omega) (by have := jc; simp only at this; omega) (by have := js; simp only at this; omega) fun cA kA comp f1 f2 f3 f4 => ?_
  generalize hH1 : H.push ({ cls := cA, slots := Array.replicate i.toNatClampNeg .null, vm := .none } : Cell) = H1
  have z1 : H1.size = H.size + 1 := by rw [← hH1, Array.size_push]
  have e1 : H1[H.size]? = some (arrV cA i.toNatClampNeg (fun _ => .null)) := by rw [← hH1, Array.getElem?_push_size, ← arrV_new]
  have o1 : ∀ q : Nat, q < H.size → H1[q]? = H[q]? := fun q hq => by rw [← hH1, Array.getElem?_push, if_neg (Nat.ne_of_lt hq)]
  have hAr : ArrOfT s cA (.object C) := fun N z => ⟨(fun k h => by cases h), kA, f2, comp, f3⟩
  have hk' := K _ (x_mem1 _) H1 locs (cells + 1) (slots + i.toNatClampNeg) ls (.ref H.size :: stk') ⟨je, by have := jc; simp only at this ⊢; omega, by have := js; simp only at this ⊢; omega, jg.push ⟨cA, (i.toNatClampNeg, .inr (.inr (.inr (.inr (fun _ => none))))), ?_, rfl, ⟨⟨C, rfl⟩, fun j _ => rfl⟩, hAr, ⟨kA, comp, f2, f3, f4, f1⟩⟩ z1 o1, ⟨lv, jl, jd⟩, ⟨?_, ds⟩, jx.kept (fun q hq => o1 q (by have := jg.1; omega)), jo, jk⟩
  · exact hk'
  · rw [vp_cell_q]
    exact e1
  · show Value.ref H.size = .ref (P.2.1 + h.length)
    rw [jg.1]
end STEPS4
