/-! THE CONCRETE MACHINE'S STEPS, second part: switches, fields, arrays -/
def zNs : List Nat := [9, 11, 15, 3, 2, 6, 5, 12, 11, 3, 9, 20, 48]
theorem zShape_obj {r ci n : Nat} (h : zShape[r]? = some (.inr (ci, n))) : zNs[ci]? = some n := by
  have h2 := List.mem_of_getElem? h
  have all : zShape.all (fun c => match c with
    | .inr q => zNs[q.1]? == some q.2
    | .inl q => decide (q.2 < 10000)) = true := by decide +kernel
  have h3 := List.all_eq_true.mp all _ h2
  exact eq_of_beq h3
theorem zShape_arr {r n : Nat} {ty : FieldType} (h : zShape[r]? = some (.inl (ty, n))) : n < 10000 := by
  have h2 := List.mem_of_getElem? h
  have all : zShape.all (fun c => match c with
    | .inr q => zNs[q.1]? == some q.2
    | .inl q => decide (q.2 < 10000)) = true := by decide +kernel
  have h3 := List.all_eq_true.mp all _ h2
  exact of_decide_eq_true h3
theorem zisO_den {ci : Nat} {r : Int} (h : zisO ci r = true) : ∃ n, zShape[r.toNat]? = some (.inr (ci, n)) := by
  unfold zisO at h
  split at h
  · rename_i q hq
    have : q.1 = ci := eq_of_beq h
    exact ⟨q.2, by rw [hq, ← this]⟩
  · cases h
theorem zarr_den {c : Nat} {r i : Int} (h : zarr c r i = true) : ∃ ty n, zShape[r.toNat]? = some (.inl (ty, n)) ∧ zcode ty = c ∧ 0 ≤ i ∧ i < (n : Int) := by
  unfold zarr at h
  split at h
  · rename_i q hq
    rw [Bool.and_eq_true, Bool.and_eq_true, decide_eq_true_eq, decide_eq_true_eq] at h
    exact ⟨q.1, q.2, hq, eq_of_beq h.1, h.2.1, h.2.2⟩
  · cases h
theorem zroom_den {c : Nat} {r i k : Int} (h : zroom c r i k = true) : ∃ ty n, zShape[r.toNat]? = some (.inl (ty, n)) ∧ zcode ty = c ∧ 0 ≤ i ∧ 0 ≤ k ∧ i + k ≤ (n : Int) := by
  unfold zroom at h
  split at h
  · rename_i q hq
    rw [Bool.and_eq_true, Bool.and_eq_true, Bool.and_eq_true, decide_eq_true_eq, decide_eq_true_eq, decide_eq_true_eq] at h
    exact ⟨q.1, q.2, hq, eq_of_beq h.1, h.2.1, h.2.2.1, h.2.2.2⟩
  · cases h
theorem zcode_ty {ty : FieldType} : (zcode ty = 0 → ty = .int) ∧ (zcode ty = 1 → ty = .long) ∧ (zcode ty = 2 → ty = .byte) ∧ (zcode ty = 3 → ty = .boolean) ∧ (zcode ty = 4 → ∃ C, ty = .object C) := by
  cases ty <;> simp [zcode]
theorem z_clamp {i : Int32} (h : 0 ≤ i.toInt) : (i.toNatClampNeg : Int) = i.toInt ∧ i.toNatClampNeg = i.toInt.toNat := ⟨by show ((i.toInt.toNat : Nat) : Int) = _; omega, rfl⟩
theorem z_in {i : Int32} {n : Nat} (h0 : 0 ≤ i.toInt) (h1 : i.toInt < (n : Int)) : ¬ (i < 0 ∨ n ≤ i.toNatClampNeg) ∧ i.toNatClampNeg < n ∧ i.toNatClampNeg = i.toInt.toNat := by
  have hc := (z_clamp h0).1
  refine ⟨fun q => q.elim (fun q => ?_) (fun q => by omega), by omega, rfl⟩
  rw [Int32.lt_iff_toInt_lt, Int32.toInt_zero] at q
  omega
theorem z_i0 {i : Int32} (h0 : 0 ≤ i.toInt) : ¬ i < 0 := fun q => by
  rw [Int32.lt_iff_toInt_lt, Int32.toInt_zero] at q
  omega
theorem zset_self (h : zH) (k j : Nat) (v : zV) : zset h k j v k = fun b => if b = j then v else h k b := by
  funext b
  show (if k = k ∧ b = j then v else h k b) = _
  by_cases hb : b = j
  · rw [if_pos ⟨rfl, hb⟩, if_pos hb]
  · rw [if_neg (fun q => hb q.2), if_neg hb]
theorem zset_other (h : zH) (k j : Nat) (v : zV) : ∀ a, a ≠ k → zset h k j v a = h a := by
  intro a ha
  funext b
  show (if a = k ∧ b = j then v else h a b) = _
  rw [if_neg (fun q => ha q.1)]
section ZSTEP2
variable {l : Launch} {P : zP} {M : List zY} {μ : zM} {pc : Nat}
theorem zfind_eq {d : Nat} {z : Int} : ∀ cs : List (Int × Nat), zfind d z cs = x_find d z cs
  | [] => rfl
  | q :: cs => by
    show (if z = q.1 then q.2 else zfind d z cs) = cond (decide (z = q.1)) q.2 (x_find d z cs)
    rw [zfind_eq cs]
    by_cases h : z = q.1
    · rw [if_pos h, decide_eq_true h]; rfl
    · rw [if_neg h, decide_eq_false h]; rfl
theorem z_switch (d0 : Nat) (cs : List (Int × Nat)) (row : ∀ (p : Program) (e : Env) (s : State) (m : MethodId) (args : Array Value) (below : List Frame) (meth : Method) (c : Code) (R : Room) (Q : State → Prop) (H : Heap) (locs : List Loc) (cells slots : Nat) (ls : Array Slot) (rest : List Value) (z : Int32), p.tables.exec = Jvm.exec → c.code = μ.2.1 → W p l e R s m args below meth c H locs cells slots Q (F0 m (x_find d0 z.toInt cs) ls rest) → W p l e R s m args below meth c H locs cells slots Q (F0 m pc ls (.int z :: rest))) : zSim l P M μ pc (19, d0, 0, 0, 0, cs) := by
  intro p e s m args below meth c R Q d C hrm st o ho H locs cells slots ls stk J K
  obtain ⟨hx, hb, hml, hown, hts, hr, hlk⟩ := C
  obtain ⟨h, L, S⟩ := st
  obtain ⟨jc, jg, ⟨lv, jl, jd⟩, jS, jx, jo, jk⟩ := J
  obtain ⟨x, S, stk, rfl, ds, rfl⟩ := zv_sw (show z_sw d0 cs (h, L, S) = some o from ho) jS
  have K : zKG P μ p l e R s m args below meth c Q (zfind d0 x.toInt cs) (h, L, S) := K
  rw [zfind_eq] at K
  exact row _ _ _ _ _ _ _ _ _ _ _ _ _ _ _ _ _ hx hb (K _ _ _ _ _ _ ⟨jc, jg, ⟨lv, jl, jd⟩, ds, jx, jo, jk⟩)
theorem zs_tsw {dflt lo hi : Int} {offs : Array Int} {len : Nat} (d : Nat) (cs : List (Int × Nat)) (hd : decode μ.2.1 pc = .ok (.tableswitch dflt lo hi offs, len)) (h0 : (pc : Int) + dflt = (d : Int)) (hcs : cs = offs.toList.zipIdx.map (fun q => (lo + (q.2 : Int), ((pc : Int) + q.1).toNat))) (hpos : ∀ o ∈ offs.toList, 0 ≤ (pc : Int) + o) (hn : (offs.size : Int) = hi - lo + 1) : zSim l P M μ pc (19, d, 0, 0, 0, cs) := by
  refine z_switch d cs ?_
  intro p e s m args below meth c R Q H locs cells slots ls rest z hx hb kk
  have find : ∀ (os : List Int) (i : Nat) (w : Int), (∀ o ∈ os, 0 ≤ (pc : Int) + o) → (w < lo + (i : Int) ∨ lo + (i : Int) + os.length ≤ w → x_find d w ((os.zipIdx i).map (fun q => (lo + (q.2 : Int), ((pc : Int) + q.1).toNat))) = d) ∧ ∀ (j : Nat) (o : Int), os[j]? = some o → w = lo + (i : Int) + (j : Int) → ((x_find d w ((os.zipIdx i).map (fun q => (lo + (q.2 : Int), ((pc : Int) + q.1).toNat))) : Nat) : Int) = (pc : Int) + o := by
    intro os
    induction os with
    | nil => exact fun i w _ => ⟨fun _ => rfl, fun j o h => by simp at h⟩
    | cons o os ih =>
      intro i w hp
      obtain ⟨ih1, ih2⟩ := ih (i + 1) w (fun o ho => hp o (List.mem_cons_of_mem _ ho))
      rw [List.zipIdx_cons, List.map_cons]
      refine ⟨fun h => ?_, fun j o' hj hw => ?_⟩
      · show cond (decide (w = lo + (i : Int))) _ (x_find d w _) = d
        rw [decide_eq_false (by rw [List.length_cons] at h; omega)]
        exact ih1 (by rw [List.length_cons] at h; omega)
      · show ((cond (decide (w = lo + (i : Int))) _ (x_find d w _) : Nat) : Int) = _
        cases j with
        | zero =>
          cases hj
          rw [decide_eq_true (by omega)]
          have := hp o List.mem_cons_self
          show (((pc : Int) + o).toNat : Int) = _
          omega
        | succ j =>
          rw [decide_eq_false (by omega)]
          exact ih2 j o' (by simpa using hj) (by omega)
  obtain ⟨f1, f2⟩ := find offs.toList 0 z.toInt hpos
  rw [show offs.toList.zipIdx 0 = offs.toList.zipIdx from rfl, ← hcs] at f1 f2
  have hlen : (offs.toList.length : Int) = hi - lo + 1 := by rw [Array.length_toList]; exact hn
  by_cases h : z.toInt < lo ∨ hi < z.toInt
  · refine lv_tableOut (tgt := x_find d z.toInt cs) hx hb hd h ?_ kk
    rw [f1 (by omega)]
    exact h0
  · have hj : (z.toInt - lo).toNat < offs.size := by omega
    have hget : offs[(z.toInt - lo).toNat]? = some offs[(z.toInt - lo).toNat] := Array.getElem?_eq_getElem hj
    refine lv_tableIn (tgt := x_find d z.toInt cs) hx hb hd (fun q => h (Or.inl q)) (fun q => h (Or.inr q)) hget ?_ kk
    exact (f2 (z.toInt - lo).toNat _ (by rw [Array.getElem?_toList]; exact hget) (by omega)).symm
theorem zs_lsw {dflt : Int} {ps : Array (Int × Int)} {len : Nat} (d : Nat) (cs : List (Int × Nat)) (hd : decode μ.2.1 pc = .ok (.lookupswitch dflt ps, len)) (hp : (ps.toList.zip (ps.toList.drop 1)).all (fun (a, next) => a.1 < next.1) = true) (h0 : (pc : Int) + dflt = (d : Int)) (hcs : cs = ps.toList.map (fun q => (q.1, ((pc : Int) + q.2).toNat))) (hpos : ∀ q ∈ ps.toList, 0 ≤ (pc : Int) + q.2) : zSim l P M μ pc (19, d, 0, 0, 0, cs) := by
  refine z_switch d cs ?_
  intro p e s m args below meth c R Q H locs cells slots ls rest z hx hb kk
  have find : ∀ (ps : List (Int × Int)) (w : Int), (∀ q ∈ ps, 0 ≤ (pc : Int) + q.2) → (pc : Int) + Op.lookupswitch.offset ps dflt w = ((x_find d w (ps.map (fun q => (q.1, ((pc : Int) + q.2).toNat))) : Nat) : Int) := by
    intro ps
    induction ps with
    | nil => intro w _; rw [Op.lookupswitch.offset_nil]; exact h0
    | cons q ps ih =>
      intro w hp
      have h1 := ih w (fun q hq => hp q (List.mem_cons_of_mem _ hq))
      obtain ⟨a, o⟩ := q
      rw [Op.lookupswitch.offset_cons]
      show _ = ((cond (decide (w = a)) ((pc : Int) + o).toNat (x_find d w _) : Nat) : Int)
      have h2 := hp (a, o) List.mem_cons_self
      by_cases hw : w = a
      · rw [if_pos hw.symm, decide_eq_true hw]
        show _ = (((pc : Int) + o).toNat : Int)
        simp only at h2
        omega
      · rw [if_neg (fun q => hw q.symm), decide_eq_false hw]
        exact h1
  exact lv_lookup (tgt := x_find d z.toInt cs) hx hb hd hp rfl (by rw [hcs]; exact find ps.toList z.toInt hpos) kk
theorem zs_getf {C : String} {T : u_T} {N index : Nat} (ci k : Nat) (hN : zNs[ci]? = some N) (hd : decode μ.2.1 pc = .ok (.getfield index, 3)) (hc : vwCl[ci]? = some (C, T, N)) (hk : k < N) (hin : ∀ w ∈ u_ws C T N, w ∈ xTB) (hw : Cond.fieldLink μ.1 index (T k).1 (T k).2.1 (T k).2.2.1 ∈ xTB) : zSim l P M μ pc (20, pc + 3, ci, k, 0, []) := by
  intro p e s m args below meth c R Q d C hrm st o ho H locs cells slots ls stk J K
  obtain ⟨hx, hb, hml, hown, hts, hr, hlk⟩ := C
  obtain ⟨h, L, S⟩ := st
  obtain ⟨jc, jg, ⟨lv, jl, jd⟩, jS, jx, jo, jk⟩ := J
  have ho : z_getf (pc + 3) ci k (h, L, S) = some o := ho
  unfold z_getf at ho
  split at ho
  · rename_i r S' hS
    dsimp only at hS
    subst hS
    match stk, jS with
    | _ :: stk, ⟨rfl, ds⟩ =>
      split at ho
      · rename_i hO
        have ho := Option.some.inj ho
        subst ho
        obtain ⟨n, hsh⟩ := zisO_den hO
        have hn : n = N := Option.some.inj ((zShape_obj hsh).symm.trans hN)
        subst hn
        obtain ⟨vs, hvs, hat⟩ := jg _ _ hsh
        obtain ⟨v, hv, da⟩ := hvs k hk
        exact va_get hx hb hts hin hown jk (va_P1 hat) 0 rfl hc k hk (hts _ hw) (fun _ h9 => h9) hv hd (K _ _ _ _ _ _ ⟨jc, jg, ⟨lv, jl, jd⟩, ⟨da, ds⟩, jx, jo, jk⟩)
      · cases ho
  · cases ho
theorem zs_putf {C : String} {T : u_T} {N index : Nat} (ci k t : Nat) (ty0 : Nat → FieldType) (ty : FieldType) (hN : zNs[ci]? = some N) (hd : decode μ.2.1 pc = .ok (.putfield index, 3)) (hc : vwCl[ci]? = some (C, T, N)) (hk : k < N) (hin : ∀ w ∈ u_ws C T N, w ∈ xTB) (hw : Cond.fieldLink μ.1 index (T k).1 (T k).2.1 (T k).2.2.1 ∈ xTB) (hty0 : ∀ k, k < N → parseFieldDescriptor (T k).2.2.1 = some (ty0 k)) (hnames : ∀ a, a < N → ∀ b, b < N → a ≠ b → (T a).2.1 ≠ (T b).2.1) (ht : ty0 k = ty) (htc : (t = 0 ∧ ty = .int) ∨ (t = 1 ∧ ty = .long) ∨ (t = 2 ∧ ty = .byte) ∨ (t = 3 ∧ ty = .boolean) ∨ (t = 4 ∧ fits ty (.ref 0) = true)) (hfin : (T k).2.2.2 = false) : zSim l P M μ pc (21, pc + 3, ci, k, (t : Int), []) := by
  intro p e s m args below meth c R Q d C hrm st o ho H locs cells slots ls stk J K
  obtain ⟨hx, hb, hml, hown, hts, hr, hlk⟩ := C
  obtain ⟨h, L, S⟩ := st
  obtain ⟨jc, jg, ⟨lv, jl, jd⟩, jS, jx, jo, jk⟩ := J
  have ho : z_putf (pc + 3) ci k (t : Int) (h, L, S) = some o := ho
  unfold z_putf at ho
  split at ho
  · rename_i a r S' hS
    dsimp only at hS
    subst hS
    match stk, jS with
    | w :: _ :: stk, ⟨da, rfl, ds⟩ =>
      split at ho
      · rename_i hO
        have ho := Option.some.inj ho
        subst ho
        obtain ⟨n, hsh⟩ := zisO_den hO.1
        have hn : n = N := Option.some.inj ((zShape_obj hsh).symm.trans hN)
        subst hn
        obtain ⟨vs, hvs, r', h1, cell, q1, q2, q3, q4⟩ := jg _ _ hsh
        have hr' : r' = (C, T, n) := Option.some.inj (h1.symm.trans hc)
        subst hr'
        obtain ⟨hfit, hnr⟩ := zfit_den htc (by simpa using hO.2) da
        have hty : parseFieldDescriptor (T k).2.2.1 = some ty := by rw [hty0 k hk, ht]
        have hap := va_apart (own := μ.1) hts hin ty0 hty0 hnames jk hc
        obtain ⟨hS, hfc, kC, hkC, hkind⟩ := jk.1 ci _ hc
        obtain ⟨cf', kf, fi, f, hi, hsl⟩ := hS k hk
        have hlv : k < vs.length := by
          obtain ⟨v, hv, -⟩ := hvs k hk
          exact (List.getElem?_eq_some_iff.mp hv).1
        have hlay := hts _ (hin _ (u_in_lay hk))
        unfold u_lay at hlay
        rw [if_neg (by rw [hfin]; decide)] at hlay
        have hst := (u_facts hfc hkC (u_lays hts hin hk) hi).1
        have h6 := u_store hfc hkC hkind hlay hi hty hnr hfit
        refine W.putK hx hb (f := f) ⟨hown, hts _ hw, ⟨_, _, _, hi⟩, hst⟩ (by rw [q2]; exact h6) q1 q3 (by rw [hsl]; exact k2_hasslot (q4 k hk)) rfl rfl hd fun H' e1 e2 e3 => ?_
        rw [hsl] at e1 ⊢
        refine K _ _ _ _ _ _ ⟨jc, jg.set hsh (c := .inr (ci, n)) (g' := fun b => if b = k then a else h r.toNat b) ⟨vs.set k w, ?_, _, hc, t_OB.to (V := updV (vp_V vs) k w) ⟨_, e1, q2, q3, t_set q4 hap hk w⟩ (fun j _ => vp_updV_set hlv w j)⟩ e3 (zset_self _ _ _ _) (zset_other _ _ _ _), ⟨lv, jl, jd⟩, ds, jx.kept (fun q hq => e3 q (Nat.ne_of_lt (Nat.lt_of_lt_of_le hq (Nat.le_add_right _ _)))), xlocs_put jo (Nat.le_add_right _ _), jk⟩
        intro j hj
        show ∃ v, (vs.set k w)[j]? = some v ∧ zden P (if j = k then a else h r.toNat j) v
        by_cases hjk : j = k
        · subst hjk
          exact ⟨w, by rw [List.getElem?_set_self hlv], by rw [if_pos rfl]; exact da⟩
        · obtain ⟨v, hv, dv⟩ := hvs j hj
          exact ⟨v, by rw [List.getElem?_set_ne (Ne.symm hjk)]; exact hv, by rw [if_neg hjk]; exact dv⟩
      · cases ho
  · cases ho
theorem zs_iald (hd : decode μ.2.1 pc = .ok (.iaload, 1)) : zSim l P M μ pc (22, pc + 1, 0, 0, 0, []) := by
  intro p e s m args below meth c R Q d C hrm st o ho H locs cells slots ls stk J K
  obtain ⟨hx, hb, hml, hown, hts, hr, hlk⟩ := C
  obtain ⟨h, L, S⟩ := st
  obtain ⟨jc, jg, ⟨lv, jl, jd⟩, jS, jx, jo, jk⟩ := J
  have tabv : ∀ t : Nat, (t = 1 ∨ t = 2) → ∀ j : Nat, j < (zTx t).length → zden P (0, (zTx t).getD j 0) (.int ((xTab t).getD j 0)) := by
    intro t ht j hj
    refine ⟨_, rfl, ?_⟩
    rcases ht with rfl | rfl
    · have all : ∀ j, j < 5 → ((xTab 1).getD j 0).toInt = (zTx 1).getD j 0 := by decide
      exact all j hj
    · have all : ∀ j, j < 5 → ((xTab 2).getD j 0).toInt = (zTx 2).getD j 0 := by decide
      exact all j hj
  have tab : ∀ t : Nat, (∃ C n, (C, n, t) ∈ xStat) → ∀ (iv : Int32), iv.toNatClampNeg < 5 → ¬ (iv < 0 ∨ 5 ≤ iv.toNatClampNeg) → ∀ stk : List Value, W p l e R s m args below meth c H locs cells slots Q (F0 m (pc + 1) ls (.int ((xTab t).getD iv.toNatClampNeg 0) :: stk)) → W p l e R s m args below meth c H locs cells slots Q (F0 m pc ls (.int iv :: .ref (P.2.1 t) :: stk)) := by
    intro t ⟨C, n, hm⟩ iv hlt hin stk kk
    obtain ⟨cell, g1, g2, g3, g4, -, g5, -⟩ := (jx.2.1 _ hm).2
    exact W.iald hx hb g1 g2 g3 (fun q => q.elim (fun h => hin (Or.inl h)) (fun h => hin (Or.inr (Nat.le_trans g4 h)))) (g5 _ hlt) rfl rfl hd kk
  have ho : z_ald (zPD P) (pc + 1) 0 (h, L, S) = some o := ho
  unfold z_ald at ho
  split at ho
  · rename_i i r S' hS
    dsimp only at hS
    subst hS
    match stk, jS with
    | _ :: _ :: stk, ⟨⟨iv, rfl, hi⟩, rfl, ds⟩ =>
      split at ho
      · rename_i hA
        have ho := Option.some.inj ho
        subst ho
        obtain ⟨ty, n, hsh, hty, h0, h1⟩ := zarr_den hA
        rw [← hi] at h0 h1
        obtain ⟨hin, hlt, hcl⟩ := z_in h0 h1
        obtain ⟨cA, ⟨n', X⟩, hcell, hn', hX, hAr, hRA⟩ := jg _ _ hsh
        have hn' : n' = n := hn'
        subst hn'
        have hty := zcode_ty.1 hty
        subst hty
        match X, hX, hcell with
        | .inl f, ⟨_, hX⟩, hcell =>
          exact W.iald (v := .int (f iv.toNatClampNeg)) hx hb hcell (hAr n' (fun j => .int (f j))) (fun q => by cases q) (by show ¬ (iv < 0 ∨ (arrV _ _ _).slots.size ≤ _); rw [arrV_size]; exact hin) (by show (arrV _ _ _).slots[_]? = _; rw [arrV_read _ _ hlt]) rfl rfl hd (K _ _ _ _ _ _ ⟨jc, jg, ⟨lv, jl, jd⟩, ⟨by have := hX _ hlt; rw [hcl, hi] at this; rw [hcl, hi]; exact this, ds⟩, jx, jo, jk⟩)
        | .inr (.inl f), ⟨hX, _⟩, hcell => cases hX
        | .inr (.inr (.inr (.inr f))), ⟨⟨_, hX⟩, _⟩, hcell => cases hX
      · cases ho
  · rename_i i j S' hS
    dsimp only at hS
    subst hS
    match stk, jS with
    | _ :: _ :: stk, ⟨⟨iv, rfl, hi⟩, rfl, ds⟩ =>
      split at ho
      · rename_i hA
        have ho := Option.some.inj ho
        subst ho
        obtain ⟨-, j0, j3, h0, h1⟩ := hA
        rw [← hi] at h0 h1
        obtain ⟨hin, hlt, hcl⟩ := z_in h0 h1
        obtain ⟨t, ht⟩ : ∃ t : Nat, j.toNat = t := ⟨_, rfl⟩
        have ht3 : t < 3 := by omega
        rw [ht] at K h1 hlt hin ⊢
        match t, ht3, K, hlt, hin with
        | 0, _, K, hlt, hin =>
          obtain ⟨scr, g1, g2, g3, g4, g5⟩ := jx.2.2.1
          exact W.iald (v := .int (P.2.2.2.2 iv.toNatClampNeg)) hx hb g1 g2 g3 (by rw [g4]; exact hin) (g5 _ hlt) rfl rfl hd (K _ _ _ _ _ _ ⟨jc, jg, ⟨lv, jl, jd⟩, ⟨by rw [hcl, hi]; exact zden_ofI _, ds⟩, jx, jo, jk⟩)
        | 1, _, K, hlt, hin => exact tab 1 (by simp [xStat]) iv hlt hin stk (K _ _ _ _ _ _ ⟨jc, jg, ⟨lv, jl, jd⟩, ⟨by rw [← hi, ← hcl]; exact tabv 1 (Or.inl rfl) _ hlt, ds⟩, jx, jo, jk⟩)
        | 2, _, K, hlt, hin => exact tab 2 (by simp [xStat]) iv hlt hin stk (K _ _ _ _ _ _ ⟨jc, jg, ⟨lv, jl, jd⟩, ⟨by rw [← hi, ← hcl]; exact tabv 2 (Or.inr rfl) _ hlt, ds⟩, jx, jo, jk⟩)
      · cases ho
  · cases ho
theorem zs_bald (hd : decode μ.2.1 pc = .ok (.baload, 1)) : zSim l P M μ pc (22, pc + 1, 2, 0, 0, []) := by
  intro p e s m args below meth c R Q d C hrm st o ho H locs cells slots ls stk J K
  obtain ⟨hx, hb, hml, hown, hts, hr, hlk⟩ := C
  obtain ⟨h, L, S⟩ := st
  obtain ⟨jc, jg, ⟨lv, jl, jd⟩, jS, jx, jo, jk⟩ := J
  have ho : z_ald (zPD P) (pc + 1) 2 (h, L, S) = some o := ho
  unfold z_ald at ho
  split at ho
  · rename_i i r S' hS
    dsimp only at hS
    subst hS
    match stk, jS with
    | _ :: _ :: stk, ⟨⟨iv, rfl, hi⟩, rfl, ds⟩ =>
      split at ho
      · rename_i hA
        have ho := Option.some.inj ho
        subst ho
        obtain ⟨ty, n, hsh, hty, h0, h1⟩ := zarr_den hA
        rw [← hi] at h0 h1
        obtain ⟨hin, hlt, hcl⟩ := z_in h0 h1
        obtain ⟨cA, ⟨n', X⟩, hcell, hn', hX, hAr, hRA⟩ := jg _ _ hsh
        have hn' : n' = n := hn'
        subst hn'
        have hty := zcode_ty.2.2.1 hty
        subst hty
        match X, hX, hcell with
        | .inl f, ⟨_, hX⟩, hcell =>
          exact W.bald (v := .int (f iv.toNatClampNeg)) hx hb hcell (hAr n' (fun j => .int (f j))) (fun q => by cases q) (by show ¬ (iv < 0 ∨ (arrV _ _ _).slots.size ≤ _); rw [arrV_size]; exact hin) (by show (arrV _ _ _).slots[_]? = _; rw [arrV_read _ _ hlt]) rfl rfl hd (K _ _ _ _ _ _ ⟨jc, jg, ⟨lv, jl, jd⟩, ⟨by have := hX _ hlt; rw [hcl, hi] at this; rw [hcl, hi]; exact this, ds⟩, jx, jo, jk⟩)
        | .inr (.inl f), ⟨hX, _⟩, hcell => cases hX
        | .inr (.inr (.inr (.inr f))), ⟨⟨_, hX⟩, _⟩, hcell => cases hX
      · cases ho
  · rename_i i j S' hS
    split at ho
    · rename_i hA
      exact absurd hA.1 (by decide)
    · cases ho
  · cases ho
theorem zs_zald (hd : decode μ.2.1 pc = .ok (.baload, 1)) : zSim l P M μ pc (22, pc + 1, 3, 0, 0, []) := by
  intro p e s m args below meth c R Q d C hrm st o ho H locs cells slots ls stk J K
  obtain ⟨hx, hb, hml, hown, hts, hr, hlk⟩ := C
  obtain ⟨h, L, S⟩ := st
  obtain ⟨jc, jg, ⟨lv, jl, jd⟩, jS, jx, jo, jk⟩ := J
  have ho : z_ald (zPD P) (pc + 1) 3 (h, L, S) = some o := ho
  unfold z_ald at ho
  split at ho
  · rename_i i r S' hS
    dsimp only at hS
    subst hS
    match stk, jS with
    | _ :: _ :: stk, ⟨⟨iv, rfl, hi⟩, rfl, ds⟩ =>
      split at ho
      · rename_i hA
        have ho := Option.some.inj ho
        subst ho
        obtain ⟨ty, n, hsh, hty, h0, h1⟩ := zarr_den hA
        rw [← hi] at h0 h1
        obtain ⟨hin, hlt, hcl⟩ := z_in h0 h1
        obtain ⟨cA, ⟨n', X⟩, hcell, hn', hX, hAr, hRA⟩ := jg _ _ hsh
        have hn' : n' = n := hn'
        subst hn'
        have hty := zcode_ty.2.2.2.1 hty
        subst hty
        match X, hX, hcell with
        | .inl f, ⟨_, hX⟩, hcell =>
          exact W.zald (v := .int (f iv.toNatClampNeg)) hx hb hcell (hAr n' (fun j => .int (f j))) (fun q => by cases q) (by show ¬ (iv < 0 ∨ (arrV _ _ _).slots.size ≤ _); rw [arrV_size]; exact hin) (by show (arrV _ _ _).slots[_]? = _; rw [arrV_read _ _ hlt]) rfl rfl hd (K _ _ _ _ _ _ ⟨jc, jg, ⟨lv, jl, jd⟩, ⟨by have := hX _ hlt; rw [hcl, hi] at this; rw [hcl, hi]; exact this, ds⟩, jx, jo, jk⟩)
        | .inr (.inl f), ⟨hX, _⟩, hcell => cases hX
        | .inr (.inr (.inr (.inr f))), ⟨⟨_, hX⟩, _⟩, hcell => cases hX
      · cases ho
  · rename_i i j S' hS
    split at ho
    · rename_i hA
      exact absurd hA.1 (by decide)
    · cases ho
  · cases ho
theorem zs_lald (hd : decode μ.2.1 pc = .ok (.laload, 1)) : zSim l P M μ pc (22, pc + 1, 1, 0, 0, []) := by
  intro p e s m args below meth c R Q d C hrm st o ho H locs cells slots ls stk J K
  obtain ⟨hx, hb, hml, hown, hts, hr, hlk⟩ := C
  obtain ⟨h, L, S⟩ := st
  obtain ⟨jc, jg, ⟨lv, jl, jd⟩, jS, jx, jo, jk⟩ := J
  have ho : z_ald (zPD P) (pc + 1) 1 (h, L, S) = some o := ho
  unfold z_ald at ho
  split at ho
  · rename_i i r S' hS
    dsimp only at hS
    subst hS
    match stk, jS with
    | _ :: _ :: stk, ⟨⟨iv, rfl, hi⟩, rfl, ds⟩ =>
      split at ho
      · rename_i hA
        have ho := Option.some.inj ho
        subst ho
        obtain ⟨ty, n, hsh, hty, h0, h1⟩ := zarr_den hA
        rw [← hi] at h0 h1
        obtain ⟨hin, hlt, hcl⟩ := z_in h0 h1
        obtain ⟨cA, ⟨n', X⟩, hcell, hn', hX, hAr, hRA⟩ := jg _ _ hsh
        have hn' : n' = n := hn'
        subst hn'
        have hty := zcode_ty.2.1 hty
        subst hty
        match X, hX, hcell with
        | .inr (.inl f), ⟨_, hX⟩, hcell =>
          exact W.lald (v := .long (f iv.toNatClampNeg)) hx hb hcell (hAr n' (fun j => .long (f j))) (fun q => by cases q) (by show ¬ (iv < 0 ∨ (arrV _ _ _).slots.size ≤ _); rw [arrV_size]; exact hin) (by show (arrV _ _ _).slots[_]? = _; rw [arrV_read _ _ hlt]) rfl rfl hd (K _ _ _ _ _ _ ⟨jc, jg, ⟨lv, jl, jd⟩, ⟨by have := hX _ hlt; rw [hcl, hi] at this; rw [hcl, hi]; exact this, ds⟩, jx, jo, jk⟩)
        | .inl f, ⟨hX, _⟩, hcell => rcases hX with hX | hX | hX <;> cases hX
        | .inr (.inr (.inr (.inr f))), ⟨⟨_, hX⟩, _⟩, hcell => cases hX
      · cases ho
  · rename_i i j S' hS
    split at ho
    · rename_i hA
      exact absurd hA.1 (by decide)
    · cases ho
  · cases ho
theorem zs_aald (hd : decode μ.2.1 pc = .ok (.aaload, 1)) : zSim l P M μ pc (22, pc + 1, 4, 0, 0, []) := by
  intro p e s m args below meth c R Q d C hrm st o ho H locs cells slots ls stk J K
  obtain ⟨hx, hb, hml, hown, hts, hr, hlk⟩ := C
  obtain ⟨h, L, S⟩ := st
  obtain ⟨jc, jg, ⟨lv, jl, jd⟩, jS, jx, jo, jk⟩ := J
  have ho : z_ald (zPD P) (pc + 1) 4 (h, L, S) = some o := ho
  unfold z_ald at ho
  split at ho
  · rename_i i r S' hS
    dsimp only at hS
    subst hS
    match stk, jS with
    | _ :: _ :: stk, ⟨⟨iv, rfl, hi⟩, rfl, ds⟩ =>
      split at ho
      · rename_i hA
        have ho := Option.some.inj ho
        subst ho
        obtain ⟨ty, n, hsh, hty, h0, h1⟩ := zarr_den hA
        rw [← hi] at h0 h1
        obtain ⟨hin, hlt, hcl⟩ := z_in h0 h1
        obtain ⟨cA, ⟨n', X⟩, hcell, hn', hX, hAr, hRA⟩ := jg _ _ hsh
        have hn' : n' = n := hn'
        subst hn'
        obtain ⟨C, hty⟩ := zcode_ty.2.2.2.2 hty
        subst hty
        match X, hX, hcell with
        | .inr (.inr (.inr (.inr f))), ⟨_, hX⟩, hcell =>
          exact W.aald (v := va_rf (f iv.toNatClampNeg)) (ty := .object C) hx hb hcell (hAr n' (fun j => va_rf (f j))) rfl (fun q => by cases q) (by show ¬ (iv < 0 ∨ (arrV _ _ _).slots.size ≤ _); rw [arrV_size]; exact hin) (by show (arrV _ _ _).slots[_]? = _; rw [arrV_read _ _ hlt]) rfl rfl hd (K _ _ _ _ _ _ ⟨jc, jg, ⟨lv, jl, jd⟩, ⟨by have := hX _ hlt; rw [hcl, hi] at this; rw [hcl, hi]; exact this, ds⟩, jx, jo, jk⟩)
        | .inl f, ⟨hX, _⟩, hcell => rcases hX with hX | hX | hX <;> cases hX
        | .inr (.inl f), ⟨hX, _⟩, hcell => cases hX
      · cases ho
  · rename_i i j S' hS
    split at ho
    · rename_i hA
      exact absurd hA.1 (by decide)
    · cases ho
  · cases ho
theorem zs_iast (hd : decode μ.2.1 pc = .ok (.iastore, 1)) : zSim l P M μ pc (23, pc + 1, 0, 0, 0, []) := by
  intro p e s m args below meth c R Q d C hrm st o ho H locs cells slots ls stk J K
  obtain ⟨hx, hb, hml, hown, hts, hr, hlk⟩ := C
  obtain ⟨h, L, S⟩ := st
  obtain ⟨jc, jg, ⟨lv, jl, jd⟩, jS, jx, jo, jk⟩ := J
  have ho : z_ast (pc + 1) 0 (h, L, S) = some o := ho
  unfold z_ast at ho
  split at ho
  · rename_i a i r S' hS
    dsimp only at hS
    subst hS
    match stk, jS with
    | w :: _ :: _ :: stk, ⟨da, ⟨iv, rfl, hi⟩, rfl, ds⟩ =>
      split at ho
      · rename_i hA
        have ho := Option.some.inj ho
        subst ho
        obtain ⟨ty, n, hsh, hty, h0, h1⟩ := zarr_den hA.1
        rw [← hi] at h0 h1
        obtain ⟨hin, hlt, hcl⟩ := z_in h0 h1
        have hty := zcode_ty.1 hty
        subst hty
        have hw0 : ∃ x : Int32, w = .int x := by
          match a, hA.2.1, da with
          | (0, z), _, ⟨x, h1, _⟩ => exact ⟨x, h1⟩
          | (n + 1, z), h2, _ => simp [zfit] at h2
        obtain ⟨x, rfl⟩ := hw0
        have hnr := (zfit_den (ty := .int) (Or.inl ⟨rfl, rfl⟩) hA.2.1 da).2
        have hnx : vp_nar .int x = x := by
          unfold vp_nar
          rw [hnr]
        obtain ⟨cA, ⟨n', X⟩, hcell, hn', hX, hAr, hRA⟩ := jg _ _ hsh
        have hn' : n' = n := hn'
        subst hn'
        match X, hX, hcell with
        | .inl f, ⟨hty, hX⟩, hcell =>
          refine W.iast hx hb hcell (hAr n' (fun j => .int (f j))) (fun q => by cases q) (by show ¬ (iv < 0 ∨ (arrV _ _ _).slots.size ≤ _); rw [arrV_size]; exact hin) rfl rfl hd fun H1 e z oq => ?_
          refine K _ _ _ _ _ _ ⟨jc, jg.set hsh (c := .inl (.int, n')) (g' := fun b => if b = i.toNat then a else h r.toNat b) ⟨cA, (n', .inl (upd f iv.toNatClampNeg (vp_nar .int x))), ?_, rfl, ⟨hty, fun k hk => ?_⟩, hAr, hRA⟩ oq (zset_self _ _ _ _) (zset_other _ _ _ _), ⟨lv, jl, jd⟩, ds, jx.kept (fun q hq => oq q (Nat.ne_of_lt (Nat.lt_of_lt_of_le hq (Nat.le_add_right _ _)))), xlocs_put jo (Nat.le_add_right _ _), jk⟩
          · show H1[_]? = some (vp_cell _ _)
            rw [e]
            rw [vp_cell_i, vp_cell_i, arrV_store]
            congr 2
            funext q
            by_cases hq : q = iv.toNatClampNeg
            · subst hq
              simp [updV, upd, vp_nar]
              try rfl
            · simp [updV, upd, vp_nar, hq]
          · show zden P (if k = i.toNat then a else h r.toNat k) (.int (upd f iv.toNatClampNeg (vp_nar .int x) k))
            rw [hnx, ← hi, ← hcl]
            by_cases hq : k = iv.toNatClampNeg
            · subst hq
              rw [if_pos rfl]
              simpa [upd] using da
            · rw [if_neg hq]
              simpa [upd, hq] using hX k hk
        | .inr (.inl f), ⟨hX, _⟩, hcell => cases hX
        | .inr (.inr (.inr (.inr f))), ⟨⟨_, hX⟩, _⟩, hcell => cases hX
      · cases ho
  · cases ho
theorem zs_bast (hd : decode μ.2.1 pc = .ok (.bastore, 1)) : zSim l P M μ pc (23, pc + 1, 2, 0, 0, []) := by
  intro p e s m args below meth c R Q d C hrm st o ho H locs cells slots ls stk J K
  obtain ⟨hx, hb, hml, hown, hts, hr, hlk⟩ := C
  obtain ⟨h, L, S⟩ := st
  obtain ⟨jc, jg, ⟨lv, jl, jd⟩, jS, jx, jo, jk⟩ := J
  have ho : z_ast (pc + 1) 2 (h, L, S) = some o := ho
  unfold z_ast at ho
  split at ho
  · rename_i a i r S' hS
    dsimp only at hS
    subst hS
    match stk, jS with
    | w :: _ :: _ :: stk, ⟨da, ⟨iv, rfl, hi⟩, rfl, ds⟩ =>
      split at ho
      · rename_i hA
        have ho := Option.some.inj ho
        subst ho
        obtain ⟨ty, n, hsh, hty, h0, h1⟩ := zarr_den hA.1
        rw [← hi] at h0 h1
        obtain ⟨hin, hlt, hcl⟩ := z_in h0 h1
        have hty := zcode_ty.2.2.1 hty
        subst hty
        have hw0 : ∃ x : Int32, w = .int x := by
          match a, hA.2.1, da with
          | (0, z), _, ⟨x, h1, _⟩ => exact ⟨x, h1⟩
          | (n + 1, z), h2, _ => simp [zfit] at h2
        obtain ⟨x, rfl⟩ := hw0
        have hnr := (zfit_den (ty := .byte) (Or.inr (Or.inr (Or.inl ⟨rfl, rfl⟩))) hA.2.1 da).2
        have hnx : vp_nar .byte x = x := by
          unfold vp_nar
          rw [hnr]
        obtain ⟨cA, ⟨n', X⟩, hcell, hn', hX, hAr, hRA⟩ := jg _ _ hsh
        have hn' : n' = n := hn'
        subst hn'
        match X, hX, hcell with
        | .inl f, ⟨hty, hX⟩, hcell =>
          refine W.bast hx hb hcell (hAr n' (fun j => .int (f j))) (fun q => by cases q) (by show ¬ (iv < 0 ∨ (arrV _ _ _).slots.size ≤ _); rw [arrV_size]; exact hin) rfl rfl hd fun H1 e z oq => ?_
          refine K _ _ _ _ _ _ ⟨jc, jg.set hsh (c := .inl (.byte, n')) (g' := fun b => if b = i.toNat then a else h r.toNat b) ⟨cA, (n', .inl (upd f iv.toNatClampNeg (vp_nar .byte x))), ?_, rfl, ⟨hty, fun k hk => ?_⟩, hAr, hRA⟩ oq (zset_self _ _ _ _) (zset_other _ _ _ _), ⟨lv, jl, jd⟩, ds, jx.kept (fun q hq => oq q (Nat.ne_of_lt (Nat.lt_of_lt_of_le hq (Nat.le_add_right _ _)))), xlocs_put jo (Nat.le_add_right _ _), jk⟩
          · show H1[_]? = some (vp_cell _ _)
            rw [e]
            rw [vp_cell_i, vp_cell_i, arrV_store]
            congr 2
            funext q
            by_cases hq : q = iv.toNatClampNeg
            · subst hq
              simp [updV, upd, vp_nar]
              try rfl
            · simp [updV, upd, vp_nar, hq]
          · show zden P (if k = i.toNat then a else h r.toNat k) (.int (upd f iv.toNatClampNeg (vp_nar .byte x) k))
            rw [hnx, ← hi, ← hcl]
            by_cases hq : k = iv.toNatClampNeg
            · subst hq
              rw [if_pos rfl]
              simpa [upd] using da
            · rw [if_neg hq]
              simpa [upd, hq] using hX k hk
        | .inr (.inl f), ⟨hX, _⟩, hcell => cases hX
        | .inr (.inr (.inr (.inr f))), ⟨⟨_, hX⟩, _⟩, hcell => cases hX
      · cases ho
  · cases ho
theorem zs_zast (hd : decode μ.2.1 pc = .ok (.bastore, 1)) : zSim l P M μ pc (23, pc + 1, 3, 0, 0, []) := by
  intro p e s m args below meth c R Q d C hrm st o ho H locs cells slots ls stk J K
  obtain ⟨hx, hb, hml, hown, hts, hr, hlk⟩ := C
  obtain ⟨h, L, S⟩ := st
  obtain ⟨jc, jg, ⟨lv, jl, jd⟩, jS, jx, jo, jk⟩ := J
  have ho : z_ast (pc + 1) 3 (h, L, S) = some o := ho
  unfold z_ast at ho
  split at ho
  · rename_i a i r S' hS
    dsimp only at hS
    subst hS
    match stk, jS with
    | w :: _ :: _ :: stk, ⟨da, ⟨iv, rfl, hi⟩, rfl, ds⟩ =>
      split at ho
      · rename_i hA
        have ho := Option.some.inj ho
        subst ho
        obtain ⟨ty, n, hsh, hty, h0, h1⟩ := zarr_den hA.1
        rw [← hi] at h0 h1
        obtain ⟨hin, hlt, hcl⟩ := z_in h0 h1
        have hty := zcode_ty.2.2.2.1 hty
        subst hty
        have hw0 : ∃ x : Int32, w = .int x := by
          match a, hA.2.1, da with
          | (0, z), _, ⟨x, h1, _⟩ => exact ⟨x, h1⟩
          | (n + 1, z), h2, _ => simp [zfit] at h2
        obtain ⟨x, rfl⟩ := hw0
        have hnr := (zfit_den (ty := .boolean) (Or.inr (Or.inr (Or.inr (Or.inl ⟨rfl, rfl⟩)))) hA.2.1 da).2
        have hnx : vp_nar .boolean x = x := by
          unfold vp_nar
          rw [hnr]
        obtain ⟨cA, ⟨n', X⟩, hcell, hn', hX, hAr, hRA⟩ := jg _ _ hsh
        have hn' : n' = n := hn'
        subst hn'
        match X, hX, hcell with
        | .inl f, ⟨hty, hX⟩, hcell =>
          refine W.zast hx hb hcell (hAr n' (fun j => .int (f j))) (fun q => by cases q) (by show ¬ (iv < 0 ∨ (arrV _ _ _).slots.size ≤ _); rw [arrV_size]; exact hin) rfl rfl hd fun H1 e z oq => ?_
          refine K _ _ _ _ _ _ ⟨jc, jg.set hsh (c := .inl (.boolean, n')) (g' := fun b => if b = i.toNat then a else h r.toNat b) ⟨cA, (n', .inl (upd f iv.toNatClampNeg (vp_nar .boolean x))), ?_, rfl, ⟨hty, fun k hk => ?_⟩, hAr, hRA⟩ oq (zset_self _ _ _ _) (zset_other _ _ _ _), ⟨lv, jl, jd⟩, ds, jx.kept (fun q hq => oq q (Nat.ne_of_lt (Nat.lt_of_lt_of_le hq (Nat.le_add_right _ _)))), xlocs_put jo (Nat.le_add_right _ _), jk⟩
          · show H1[_]? = some (vp_cell _ _)
            rw [e]
            rw [vp_cell_i, vp_cell_i, arrV_store]
            congr 2
            funext q
            by_cases hq : q = iv.toNatClampNeg
            · subst hq
              simp [updV, upd, vp_nar]
              try rfl
            · simp [updV, upd, vp_nar, hq]
          · show zden P (if k = i.toNat then a else h r.toNat k) (.int (upd f iv.toNatClampNeg (vp_nar .boolean x) k))
            rw [hnx, ← hi, ← hcl]
            by_cases hq : k = iv.toNatClampNeg
            · subst hq
              rw [if_pos rfl]
              simpa [upd] using da
            · rw [if_neg hq]
              simpa [upd, hq] using hX k hk
        | .inr (.inl f), ⟨hX, _⟩, hcell => cases hX
        | .inr (.inr (.inr (.inr f))), ⟨⟨_, hX⟩, _⟩, hcell => cases hX
      · cases ho
  · cases ho
theorem zs_last (hd : decode μ.2.1 pc = .ok (.lastore, 1)) : zSim l P M μ pc (23, pc + 1, 1, 0, 0, []) := by
  intro p e s m args below meth c R Q d C hrm st o ho H locs cells slots ls stk J K
  obtain ⟨hx, hb, hml, hown, hts, hr, hlk⟩ := C
  obtain ⟨h, L, S⟩ := st
  obtain ⟨jc, jg, ⟨lv, jl, jd⟩, jS, jx, jo, jk⟩ := J
  have ho : z_ast (pc + 1) 1 (h, L, S) = some o := ho
  unfold z_ast at ho
  split at ho
  · rename_i a i r S' hS
    dsimp only at hS
    subst hS
    match stk, jS with
    | w :: _ :: _ :: stk, ⟨da, ⟨iv, rfl, hi⟩, rfl, ds⟩ =>
      split at ho
      · rename_i hA
        have ho := Option.some.inj ho
        subst ho
        obtain ⟨ty, n, hsh, hty, h0, h1⟩ := zarr_den hA.1
        rw [← hi] at h0 h1
        obtain ⟨hin, hlt, hcl⟩ := z_in h0 h1
        have hty := zcode_ty.2.1 hty
        subst hty
        have hw0 : ∃ x : Int64, w = .long x := by
          match a, hA.2.1, da with
          | (1, z), _, ⟨x, h1, _⟩ => exact ⟨x, h1⟩
          | (0, z), h2, _ => simp [zfit] at h2
          | (n + 2, z), h2, _ => simp [zfit] at h2
        obtain ⟨x, rfl⟩ := hw0
        obtain ⟨cA, ⟨n', X⟩, hcell, hn', hX, hAr, hRA⟩ := jg _ _ hsh
        have hn' : n' = n := hn'
        subst hn'
        match X, hX, hcell with
        | .inr (.inl f), ⟨hty, hX⟩, hcell =>
          refine W.last hx hb hcell (hAr n' (fun j => .long (f j))) (fun q => by cases q) (by show ¬ (iv < 0 ∨ (arrV _ _ _).slots.size ≤ _); rw [arrV_size]; exact hin) rfl rfl hd fun H1 e z oq => ?_
          refine K _ _ _ _ _ _ ⟨jc, jg.set hsh (c := .inl (.long, n')) (g' := fun b => if b = i.toNat then a else h r.toNat b) ⟨cA, (n', .inr (.inl (vp_updL f iv.toNatClampNeg x))), ?_, rfl, ⟨hty, fun k hk => ?_⟩, hAr, hRA⟩ oq (zset_self _ _ _ _) (zset_other _ _ _ _), ⟨lv, jl, jd⟩, ds, jx.kept (fun q hq => oq q (Nat.ne_of_lt (Nat.lt_of_lt_of_le hq (Nat.le_add_right _ _)))), xlocs_put jo (Nat.le_add_right _ _), jk⟩
          · show H1[_]? = some (vp_cell _ _)
            rw [e]
            rw [vp_cell_l, vp_cell_l, arrV_store]
            congr 2
            funext q
            by_cases hq : q = iv.toNatClampNeg
            · subst hq
              simp [updV, vp_updL]
              try rfl
            · simp [updV, vp_updL, hq]
          · show zden P (if k = i.toNat then a else h r.toNat k) (.long (vp_updL f iv.toNatClampNeg x k))
            rw [← hi, ← hcl]
            by_cases hq : k = iv.toNatClampNeg
            · subst hq
              rw [if_pos rfl]
              simpa [vp_updL] using da
            · rw [if_neg hq]
              simpa [vp_updL, hq] using hX k hk
        | .inl f, ⟨hX, _⟩, hcell => rcases hX with hX | hX | hX <;> cases hX
        | .inr (.inr (.inr (.inr f))), ⟨⟨_, hX⟩, _⟩, hcell => cases hX
      · cases ho
  · cases ho
end ZSTEP2
