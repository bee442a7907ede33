section STEPS4
variable {l : Launch} {P : xP} {M : List (xY × xT)} {μ : xM} {pc : Nat}
theorem s_new {index : Nat} {C : String} {T : u_T} {N : Nat} (ci : Nat) (ty : Nat → FieldType) (vs : List Value) (fs : List xV) (hd : decode μ.2.1 pc = .ok (.new index, 3)) (hc : vwCl[ci]? = some (C, T, N)) (hin : ∀ w ∈ u_ws C T N, w ∈ xTB) (hty : ∀ k, k < N → parseFieldDescriptor (T k).2.2.1 = some (ty k)) (hw1 : Cond.classLink μ.1 index C ∈ xTB) (hw2 : Cond.instantiable C N ∈ xTB) (hw3 : Cond.initialized C ∈ xTB) (hfs : fs = vs.map Sum.inl) (hnr : vs.all (fun v => match v with | .ref _ => false | _ => true) = true) (hdv : ∀ j, j < N → defaultValue (ty j) = vp_V vs j) : xSim l P M μ pc (i_new ci N fs (pc + 3)) := by
  intro p e s m args below meth c R Q C cf hcf st outs ho H locs cells slots ls stk J K
  obtain ⟨hx, hb, hml, hown, hts, hr, hlk, hnm, hR⟩ := C
  obtain ⟨en, cl, sl, h, L, S⟩ := st
  obtain ⟨je, jc, js, jg, ⟨lv, jl, jd⟩, jS, jx, jo, jk⟩ := J
  obtain ⟨hbb, hz⟩ := x_condS (α := List xO) (b := Nat.ble 1 cl && Nat.ble N sl) (x := x_kN (cl - 1) (fun cl => x_kN (sl - N) (fun sl => x_push h (.inr (ci, fs)) (fun h r => x_kN r (fun r => some [Sum.inr (pc + 3, en, cl, sl, h, L, (Sum.inl (Value.ref r) : xV) :: S)]))))) ho
  rw [x_kN_eq, x_kN_eq, x_push_eq, x_kN_eq] at hz
  have hz := Option.some.inj hz
  subst hz
  rw [Bool.and_eq_true] at hbb
  have hc1 := Nat.le_of_ble_eq_true hbb.1
  have hs1 := Nat.le_of_ble_eq_true hbb.2
  have hKn := jk.1 ci _ hc
  refine W.newcK hx hb hown (hts _ hw1) (hts _ hw2) (hts _ hw3) rfl hd (by have := jc; simp only at this; omega) (by have := js; simp only at this; omega) hKn.2.1 rfl fun H1 kC hkC e1 z1 o1 => ?_
  have hk' := K _ (x_mem1 _) H1 locs (cells + 1) (slots + N) ls (.ref H.size :: stk) ⟨je, by have := jc; simp only at this ⊢; omega, by have := js; simp only at this ⊢; omega, jg.push ⟨vs, by rw [hfs]; exact x_dens_lit hnr, ⟨_, hc, (u_born ty hts hin hKn hkC e1 hty).to hdv⟩⟩ z1 o1, ⟨lv, jl, jd⟩, ⟨?_, jS⟩, jx.kept (fun q hq => o1 q (by have := jg.1; omega)), jo, jk⟩
  · exact hk'
  · show Value.ref H.size = .ref (P.2.1 + h.length)
    rw [jg.1]
end STEPS4
