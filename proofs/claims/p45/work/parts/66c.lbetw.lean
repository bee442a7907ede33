/-! WHAT HOLDS BETWEEN THE LAW'S CALLS -/
/-! tags, and references that nothing writes, out of the types -/
noncomputable def zTyC (r : Nat) : Bool := match zShape[r]?, a_at aTy1 r with
  | some (.inl q), some l => Nat.beq (zcode q.1) 4 || (Nat.beq q.2 0 || tyI l 0 (q.2 - 1) (vTag (zcode q.1)) (a_lo (vTag (zcode q.1))) (a_hi (vTag (zcode q.1))))
  | some (.inr q), some l => (match vFt[q.1]? with
    | some fs => a_allN (fun k => match fs[k]? with
      | some c => Nat.beq c 4 || tyI l k k (vTag c) (a_lo (vTag c)) (a_hi (vTag c))
      | none => true) 0 fs.length
    | none => true)
  | _, _ => false
theorem zTyC_all : a_allN zTyC 0 137 = true := by decide +kernel
noncomputable def vRefC (x : Nat × Nat × Int) : Bool := match a_at aTy1 x.1 with
  | some l => (match a_uniF (Int.ofNat x.2.1) (Int.ofNat x.2.1) l with
    | some t => Nat.beq t.1 2 && (match t.2.2.2 with
      | [c] => @decide (c = x.2.2) (a_decEqZ _ _) && @decide (0 ≤ c) (a_decLe _ _)
      | _ => false)
    | none => false)
  | none => false
theorem vRefC_all : a_all vRefC vRefs = true := by decide +kernel
theorem zHv_of {h : zH} (ht : aTyped aTy1 h) : zHv h := by
  refine ⟨fun r k c hc h4 => ?_, fun x hx => ?_⟩
  · have hlen : zShape.length = 137 := rfl
    unfold vCode at hc
    cases hs : zShape[r]? with
    | none => rw [hs] at hc; cases hc
    | some s =>
      have hr : r < 137 := hlen ▸ (List.getElem?_eq_some_iff.mp hs).1
      have hb := a_allN_ok zTyC_all r hr
      rw [Nat.zero_add] at hb
      unfold zTyC at hb
      rw [hs] at hb hc
      cases hl : a_at aTy1 r with
      | none => rw [hl] at hb; cases s <;> cases hb
      | some l =>
        rw [hl] at hb
        match s, hb, hc with
        | .inl q, hb, hc =>
          have hc : (if k < q.2 then some (zcode q.1) else none) = some c := hc
          by_cases hk : k < q.2
          · rw [if_pos hk] at hc
            cases hc
            have hb : (Nat.beq (zcode q.1) 4 || (Nat.beq q.2 0 || tyI l 0 (q.2 - 1) (vTag (zcode q.1)) (a_lo (vTag (zcode q.1))) (a_hi (vTag (zcode q.1))))) = true := hb
            rw [Bool.or_eq_true, Bool.or_eq_true] at hb
            rcases hb with e | e | e
            · exact absurd (Nat.eq_of_beq_eq_true e) h4
            · have := Nat.eq_of_beq_eq_true e
              omega
            · exact (tyI_ok (ht r l hl) e k (Nat.zero_le k) (by omega)).1
          · rw [if_neg hk] at hc
            cases hc
        | .inr q, hb, hc =>
          have hc : (match vFt[q.1]? with
            | some fs => fs[k]?
            | none => none) = some c := hc
          have hb : (match vFt[q.1]? with
            | some fs => a_allN (fun k => match fs[k]? with
              | some c => Nat.beq c 4 || tyI l k k (vTag c) (a_lo (vTag c)) (a_hi (vTag c))
              | none => true) 0 fs.length
            | none => true) = true := hb
          cases hf : vFt[q.1]? with
          | none => rw [hf] at hc; cases hc
          | some fs =>
            rw [hf] at hb hc
            have hc : fs[k]? = some c := hc
            have hb2 := a_allN_ok hb k (List.getElem?_eq_some_iff.mp hc).1
            rw [Nat.zero_add] at hb2
            have hb3 : (match fs[k]? with
              | some c => Nat.beq c 4 || tyI l k k (vTag c) (a_lo (vTag c)) (a_hi (vTag c))
              | none => true) = true := hb2
            rw [hc] at hb3
            have hb3 : (Nat.beq c 4 || tyI l k k (vTag c) (a_lo (vTag c)) (a_hi (vTag c))) = true := hb3
            rw [Bool.or_eq_true] at hb3
            rcases hb3 with e | e
            · exact absurd (Nat.eq_of_beq_eq_true e) h4
            · exact (tyI_ok (ht r l hl) e k (Nat.le_refl k) (Nat.le_refl k)).1
  · have hb := a_all_ok vRefC_all x hx
    unfold vRefC at hb
    cases hl : a_at aTy1 x.1 with
    | none => rw [hl] at hb; cases hb
    | some l =>
      rw [hl] at hb
      have hb : (match a_uniF (Int.ofNat x.2.1) (Int.ofNat x.2.1) l with
        | some t => Nat.beq t.1 2 && (match t.2.2.2 with
          | [c] => @decide (c = x.2.2) (a_decEqZ _ _) && @decide (0 ≤ c) (a_decLe _ _)
          | _ => false)
        | none => false) = true := hb
      cases hu : a_uniF (Int.ofNat x.2.1) (Int.ofNat x.2.1) l with
      | none => rw [hu] at hb; cases hb
      | some t =>
        rw [hu] at hb
        have hb : (Nat.beq t.1 2 && (match t.2.2.2 with
          | [c] => @decide (c = x.2.2) (a_decEqZ _ _) && @decide (0 ≤ c) (a_decLe _ _)
          | _ => false)) = true := hb
        rw [Bool.and_eq_true] at hb
        have h2 := Nat.eq_of_beq_eq_true hb.1
        have hat := a_uniF_ok (j := x.2.1) hu (ht x.1 l hl) (Int.le_refl _) (Int.le_refl _)
        unfold atin at hat
        rw [h2] at hat
        obtain ⟨k, hk, hv⟩ := (hat : ∃ k ∈ t.2.2.2, h x.1 x.2.1 = if k = -1 then (4, 0) else (2, k))
        have hb2 := hb.2
        match hc : t.2.2.2, hk, hb2 with
        | [c], hk, hb2 =>
          have hb2 : (@decide (c = x.2.2) (a_decEqZ _ _) && @decide (0 ≤ c) (a_decLe _ _)) = true := hb2
          rw [Bool.and_eq_true, a_dec_eq, a_dec_eq] at hb2
          have hk := List.mem_singleton.mp hk
          rw [hv, if_neg (by omega), hk, hb2.1]
def lZ (D : zD) (h : zH) : Prop := lI aG1 D Fl0 lQs h
theorem lZ.ty {D : zD} {h : zH} (hZ : lZ D h) : aTyped aTy1 h := by
  obtain ⟨q, -, ρ, g⟩ := hZ
  exact g.2.1
theorem lZ.hv {D : zD} {h : zH} (hZ : lZ D h) : zHv h := zHv_of hZ.ty
/-- bounds of what stands somewhere -/
theorem lZ.bd {D : zD} {h : zH} (hZ : lZ D h) {r lo hi k : Nat} {a b : Int} (l : aTc) (hl : a_at aTy1 r = some l) (hb : tyI l lo hi k a b = true) : ∀ j, lo ≤ j → j ≤ hi → (h r j).1 = k ∧ a ≤ (h r j).2 ∧ (h r j).2 ≤ b := tyI_ok (hZ.ty r l hl) hb
noncomputable def rZk (r k : Nat) (ks : List Int) : Bool := match a_at aTy1 r with
  | some l => (match a_uniF (Int.ofNat k) (Int.ofNat k) l with
    | some t => Nat.beq t.1 2 && a_all (fun c => a_memI c ks) t.2.2.2
    | none => false)
  | none => false
theorem a_memI_in {z : Int} : ∀ {l : List Int}, a_memI z l = true → z ∈ l
  | [], h => by cases h
  | a :: l, h => by
    have h : (@decide (a = z) (a_decEqZ _ _) || a_memI z l) = true := h
    rw [Bool.or_eq_true, a_dec_eq] at h
    rcases h with e | e
    · rw [e]; exact List.mem_cons_self
    · exact List.mem_cons_of_mem _ (a_memI_in e)
/-- which cells a place may name -/
theorem lZ.ref {D : zD} {h : zH} (hZ : lZ D h) {r k : Nat} {ks : List Int} (hb : rZk r k ks = true) : ∃ c ∈ ks, h r k = if c = -1 then (4, 0) else (2, c) := by
  unfold rZk at hb
  cases hl : a_at aTy1 r with
  | none => rw [hl] at hb; cases hb
  | some l =>
    rw [hl] at hb
    have hb : (match a_uniF (Int.ofNat k) (Int.ofNat k) l with
      | some t => Nat.beq t.1 2 && a_all (fun c => a_memI c ks) t.2.2.2
      | none => false) = true := hb
    cases hu : a_uniF (Int.ofNat k) (Int.ofNat k) l with
    | none => rw [hu] at hb; cases hb
    | some t =>
      rw [hu] at hb
      have hb : (Nat.beq t.1 2 && a_all (fun c => a_memI c ks) t.2.2.2) = true := hb
      rw [Bool.and_eq_true] at hb
      have hat := a_uniF_ok (j := k) hu (hZ.ty r l hl) (Int.le_refl _) (Int.le_refl _)
      unfold atin at hat
      rw [Nat.eq_of_beq_eq_true hb.1] at hat
      obtain ⟨c, hc, hv⟩ := (hat : ∃ c ∈ t.2.2.2, h r k = if c = -1 then (4, 0) else (2, c))
      exact ⟨c, a_memI_in (a_all_ok hb.2 c hc), hv⟩
theorem lCallZ {D : zD} (hD : ∀ i, -2147483648 ≤ D.2 i ∧ D.2 i ≤ 2147483647) {mj : Nat} {rc : Int} {ts : List Nat} {t : Nat} {M : aM} {qs qs' : List aQ} {h : zH} {bs : List zV} (hck : a_all (lCk (aG0 aG1) sLaw 614 mj rc ts t M qs') qs = true) (hZ : lI aG1 D Fl0 qs h) (hb : lTy ts bs) : ∃ h1 z, zRun D TLw 614 mj 0 (h, zargs 0 ((2, rc) :: bs), []) (h1, some (t, z)) ∧ lI aG1 D Fl0 qs' h1 ∧ aFr M h h1 := lCall (G := aG1) (Fl := Fl0) (T := TLw) (Ks := sLaw) (fun h m => aOK0 hD h m (fun e => by cases e)) (kLaw_deps (kH2_of (bH0 hD))) hck hZ hb
theorem lZ_ini {D : zD} (hD : ∀ i, -2147483648 ≤ D.2 i ∧ D.2 i ≤ 2147483647) : lZ D hIni := by
  refine ⟨lQ_0, List.mem_cons_self, fun _ => 0, ⟨⟨?_, ?_⟩, ini_ty, ?_, ini_fl, fun _ _ _ => rfl, fun e => by cases e⟩⟩
  · intro x hx
    have : ∀ x ∈ lQ_0.2.1, x.1 < lQ_0.1 ∧ x.2.1 ≤ 0 ∧ 0 ≤ x.2.2 := by decide
    exact this x hx
  · intro x hx
    have : ∀ x ∈ lQ_0.2.2.1, False := by decide
    exact (this x hx).elim
  · intro e he
    have : e = ((0, 0, 10), (0, 0, 0)) ∨ e = ((121, 0, 23), (0, 0, 0)) := by
      have : ∀ e ∈ lQ_0.2.2.2.1, e = ((0, 0, 10), (0, 0, 0)) ∨ e = ((121, 0, 23), (0, 0, 0)) := by decide
      exact this e he
    rcases this with e' | e'
    · rw [e']
      exact ⟨Nat.zero_le _, (show (0 : Int) ≤ 10 from by decide), Nat.zero_le _, (by decide +kernel : hIni 0 10 = (0, 0))⟩
    · rw [e']
      exact ⟨Nat.zero_le _, (show (0 : Int) ≤ 23 from by decide), Nat.zero_le _, (by decide +kernel : hIni 121 23 = (0, 0))⟩
/-! the tables' code keeps types (vOK) -/
noncomputable def vOKt (t : List (List (Option zX))) : Bool := t.all fun l => l.all fun o => match o with
  | some i => vOKi i
  | none => true
theorem vOKt_ok {t : List (List (Option zX))} (h : vOKt t = true) {pc : Nat} {i : zX} (hi : z_at t pc = some i) : vOKi i = true := by
  unfold z_at at hi
  rw [x_nth_eq] at hi
  cases hl : t[Nat.div pc 16]? with
  | none => rw [hl] at hi; cases hi
  | some l =>
    rw [hl] at hi
    have hi : (match x_nth l (Nat.mod pc 16) with
      | some o => o
      | none => none) = some i := hi
    rw [x_nth_eq] at hi
    cases ho : l[Nat.mod pc 16]? with
    | none => rw [ho] at hi; cases hi
    | some o =>
      rw [ho] at hi
      have hi : o = some i := hi
      have h1 := List.all_eq_true.mp h l (List.mem_of_getElem? hl)
      have h2 := List.all_eq_true.mp h1 o (List.mem_of_getElem? ho)
      rw [hi] at h2
      exact h2
theorem vOK_all : (zMT.all vOKt) = true := by decide +kernel
theorem vOK_L : vOKt zt_L_law = true := by decide +kernel
theorem vOK_T : vOK TLw := by
  intro mi pc i hi
  unfold TLw at hi
  by_cases e : mi = 341
  · rw [if_pos e] at hi
    exact vOKt_ok vOK_L hi
  · rw [if_neg e] at hi
    have hi : (match x_nth zMT mi with
      | some t => z_at t pc
      | none => none) = some i := hi
    rw [x_nth_eq] at hi
    cases ht : zMT[mi]? with
    | none => rw [ht] at hi; cases hi
    | some t =>
      rw [ht] at hi
      exact vOKt_ok (List.all_eq_true.mp vOK_all t (List.mem_of_getElem? ht)) hi
/-- what any run comes to, a run of the law's calls comes to -/
theorem lZ.run {D : zD} {h : zH} (hZ : lZ D h) {d mi : Nat} {as : List zV} {r : zR} {Q : zR → Prop} (w : Nat) (hr : zRun D TLw d mi 0 (h, zargs 0 as, []) r) (k : ∀ N, vP D TLw N mi 0 h (vargs w as) [] Q) : Q r := by
  rw [zargs_vL w] at hr
  exact vP_run hr hZ.hv k
