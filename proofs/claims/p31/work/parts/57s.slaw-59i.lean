section
/-! HINTS OF THE LAW: the script's places, split at bounds -/
/-! the trays of both: missing in both, or alike in sort and length -/
def rTr (t : Nat) (h : zH) : Prop := ((h (2 + 2 * t) 1).2 = -1 ∧ (h 123 t).2 = -1) ∨ (0 ≤ (h (2 + 2 * t) 1).2 ∧ (h (2 + 2 * t) 1).2 ≤ 3 ∧ (h 122 t).2 = (h (2 + 2 * t) 1).2 ∧ 0 ≤ (h (2 + 2 * t) 2).2 ∧ (h (2 + 2 * t) 2).2 ≤ 60 ∧ (h 123 t).2 = (h (2 + 2 * t) 2).2)
-- the tape is as long in both
def rTl (h : zH) : Prop := (h 10 1).2 = (h 121 8).2
-- flags 355 + t: tray t; 359: the tape; 360: nothing (where it stands, branches are refuted by facts)
-- the tray that the script's place names, where it is known
-- facts that can't be together
end
section
/-! a check in several declarations: from the entry, and from each cut -/
noncomputable def a_ck0 (G : aG) (lm : aLm) (hs : aHt) (Ks : List aK) (n : Nat) (κ : aK) (cuts : List aCut) : Bool := match x_nth zMT κ.1 with
  | some t => a_from G lm hs Ks n κ cuts t none 0 (κ.2.2.1, a_args κ.2.2.2.1 0, [])
  | none => false
noncomputable def a_ck1 (G : aG) (lm : aLm) (hs : aHt) (Ks : List aK) (n : Nat) (κ : aK) (cuts : List aCut) (c : aCut) : Bool := match x_nth zMT κ.1 with
  | some t => a_all (fun x => a_scp c.2.1.1.1 x.1) c.2.2 && a_from G lm hs Ks n κ cuts t (some c.2.2) c.1 c.2.1
  | none => false
theorem a_all_mk {α : Type} {f : α → Bool} : ∀ {l : List α}, (∀ x ∈ l, f x = true) → a_all f l = true
  | [], _ => rfl
  | a :: l, h => by
    show (f a && a_all f l) = true
    rw [h a List.mem_cons_self, a_all_mk (fun x hx => h x (List.mem_cons_of_mem _ hx))]
    rfl
theorem a_check_mk {G : aG} {lm : aLm} {hs : aHt} {Ks : List aK} {n : Nat} {κ : aK} {cuts : List aCut} (h0 : a_ck0 G lm hs Ks n κ cuts = true) (h1 : ∀ c ∈ cuts, a_ck1 G lm hs Ks n κ cuts c = true) : a_check G lm hs Ks n κ cuts = true := by
  unfold a_ck0 at h0
  unfold a_ck1 at h1
  unfold a_check
  split at h0
  · rename_i t ht
    rw [ht] at h1 ⊢
    show (a_from G lm hs Ks n κ cuts t none 0 (κ.2.2.1, a_args κ.2.2.2.1 0, []) && a_all (fun c => a_all (fun x => a_scp c.2.1.1.1 x.1) c.2.2 && a_from G lm hs Ks n κ cuts t (some c.2.2) c.1 c.2.1) cuts) = true
    rw [h0, a_all_mk h1]
    rfl
  · cases h0
/-! with a guess for each way's end, which cut it comes to (a guess that fails costs time alone) -/
noncomputable def a_fineO (G : aG) (κ : aK) (cuts : List aCut) (olds : Option (List aF)) (o : Nat) (x : aRes) : Bool := match x with
  | .inl (pc, st) => (match x_nth cuts o with
    | some c => Nat.beq c.1 pc && a_cutOK G κ.2.2.1.1 olds st c
    | none => false) || a_any (fun c => Nat.beq c.1 pc && a_cutOK G κ.2.2.1.1 olds st c) cuts
  | .inr r => a_any (a_retOK G κ.2.2.1.1 r) κ.2.2.2.2.2
theorem a_any_mk {α : Type} {f : α → Bool} {a : α} : ∀ {l : List α}, a ∈ l → f a = true → a_any f l = true
  | [], h, _ => absurd h List.not_mem_nil
  | b :: l, h, hf => by
    show (f b || a_any f l) = true
    rw [Bool.or_eq_true]
    rcases List.mem_cons.mp h with e | e
    · rw [← e]; exact Or.inl hf
    · exact Or.inr (a_any_mk e hf)
theorem a_fineO_ok {G : aG} {κ : aK} {cuts : List aCut} {olds : Option (List aF)} {o : Nat} : ∀ {x : aRes}, a_fineO G κ cuts olds o x = true → a_fine G κ cuts olds x = true
  | .inl (pc, st), h => by
    have h : ((match x_nth cuts o with
      | some c => Nat.beq c.1 pc && a_cutOK G κ.2.2.1.1 olds st c
      | none => false) || a_any (fun c => Nat.beq c.1 pc && a_cutOK G κ.2.2.1.1 olds st c) cuts) = true := h
    show a_any (fun c => Nat.beq c.1 pc && a_cutOK G κ.2.2.1.1 olds st c) cuts = true
    rw [Bool.or_eq_true] at h
    rcases h with h | h
    · rw [x_nth_eq] at h
      cases hc : cuts[o]? with
      | none => rw [hc] at h; cases h
      | some c => rw [hc] at h; exact a_any_mk (List.mem_of_getElem? hc) h
    · exact h
  | .inr r, h => h
noncomputable def a_allO (G : aG) (κ : aK) (cuts : List aCut) (olds : Option (List aF)) (rs : List aRes) : List Nat → Bool := List.rec (motive := fun _ => List Nat → Bool) (fun _ => true) (fun x _ ih os => match os with
  | o :: os => a_fineO G κ cuts olds o x && ih os
  | [] => a_fine G κ cuts olds x && ih []) rs
theorem a_allO_ok {G : aG} {κ : aK} {cuts : List aCut} {olds : Option (List aF)} : ∀ {rs : List aRes} {os : List Nat}, a_allO G κ cuts olds rs os = true → a_all (a_fine G κ cuts olds) rs = true
  | [], _, _ => rfl
  | x :: rs, o :: os, h => by
    have h : (a_fineO G κ cuts olds o x && a_allO G κ cuts olds rs os) = true := h
    rw [Bool.and_eq_true] at h
    show (a_fine G κ cuts olds x && a_all (a_fine G κ cuts olds) rs) = true
    rw [a_fineO_ok h.1, a_allO_ok h.2]
    rfl
  | x :: rs, [], h => by
    have h : (a_fine G κ cuts olds x && a_allO G κ cuts olds rs []) = true := h
    rw [Bool.and_eq_true] at h
    show (a_fine G κ cuts olds x && a_all (a_fine G κ cuts olds) rs) = true
    rw [h.1, a_allO_ok h.2]
    rfl
noncomputable def a_fromO (G : aG) (lm : aLm) (hs : aHt) (Ks : List aK) (n : Nat) (κ : aK) (cuts : List aCut) (t : List (List (Option zX))) (olds : Option (List aF)) (pc : Nat) (st : aS) (os : List Nat) : Bool := a_bN (a_mask cuts) (fun k => match a_run G κ.2.2.2.2.1 lm hs Ks n κ.2.1 κ.1 t k true pc st with
  | some rs => a_allO G κ cuts olds rs os
  | none => false)
theorem a_fromO_ok {G : aG} {lm : aLm} {hs : aHt} {Ks : List aK} {n : Nat} {κ : aK} {cuts : List aCut} {t : List (List (Option zX))} {olds : Option (List aF)} {pc : Nat} {st : aS} {os : List Nat} (h : a_fromO G lm hs Ks n κ cuts t olds pc st os = true) : a_from G lm hs Ks n κ cuts t olds pc st = true := by
  unfold a_fromO at h
  unfold a_from
  rw [a_bN_eq] at h ⊢
  cases hr : a_run G κ.2.2.2.2.1 lm hs Ks n κ.2.1 κ.1 t (a_mask cuts) true pc st with
  | none => rw [hr] at h; cases h
  | some rs => rw [hr] at h; exact a_allO_ok h
noncomputable def a_ck0O (os : List Nat) (G : aG) (lm : aLm) (hs : aHt) (Ks : List aK) (n : Nat) (κ : aK) (cuts : List aCut) : Bool := match x_nth zMT κ.1 with
  | some t => a_fromO G lm hs Ks n κ cuts t none 0 (κ.2.2.1, a_args κ.2.2.2.1 0, []) os
  | none => false
noncomputable def a_ck1O (os : List Nat) (G : aG) (lm : aLm) (hs : aHt) (Ks : List aK) (n : Nat) (κ : aK) (cuts : List aCut) (c : aCut) : Bool := match x_nth zMT κ.1 with
  | some t => a_all (fun x => a_scp c.2.1.1.1 x.1) c.2.2 && a_fromO G lm hs Ks n κ cuts t (some c.2.2) c.1 c.2.1 os
  | none => false
theorem a_ck0_of {G : aG} {lm : aLm} {hs : aHt} {Ks : List aK} {n : Nat} {κ : aK} {cuts : List aCut} (os : List Nat) (h : a_ck0O os G lm hs Ks n κ cuts = true) : a_ck0 G lm hs Ks n κ cuts = true := by
  unfold a_ck0O at h
  unfold a_ck0
  cases ht : x_nth zMT κ.1 with
  | none => rw [ht] at h; cases h
  | some t => rw [ht] at h; exact a_fromO_ok h
theorem a_ck1_of {G : aG} {lm : aLm} {hs : aHt} {Ks : List aK} {n : Nat} {κ : aK} {cuts : List aCut} {c : aCut} (os : List Nat) (h : a_ck1O os G lm hs Ks n κ cuts c = true) : a_ck1 G lm hs Ks n κ cuts c = true := by
  unfold a_ck1O at h
  unfold a_ck1
  cases ht : x_nth zMT κ.1 with
  | none => rw [ht] at h; cases h
  | some t =>
    rw [ht] at h
    have h : (a_all (fun x => a_scp c.2.1.1.1 x.1) c.2.2 && a_fromO G lm hs Ks n κ cuts t (some c.2.2) c.1 c.2.1 os) = true := h
    rw [Bool.and_eq_true] at h
    show (a_all (fun x => a_scp c.2.1.1.1 x.1) c.2.2 && a_from G lm hs Ks n κ cuts t (some c.2.2) c.1 c.2.1) = true
    rw [h.1, a_fromO_ok h.2]
    rfl
/-! the walk once more, without cond and Decidable (wip/z/genq.py); that it comes to the same -/
noncomputable def aq_ck0 (G : aG) (lm : aLm) (hs : aHt) (Ks : List aK) (n : Nat) (κ : aK) (cuts : List aCut) : Bool := match x_nth zMT κ.1 with
  | some t => aq_from G lm hs Ks n κ cuts t none 0 (κ.2.2.1, aq_args κ.2.2.2.1 0, [])
  | none => false
theorem aq_ck0_e : @aq_ck0 = @a_ck0 := by
  delta aq_ck0
  simp only [aq_args_e, aq_from_e]
  rfl
noncomputable def aq_ck1 (G : aG) (lm : aLm) (hs : aHt) (Ks : List aK) (n : Nat) (κ : aK) (cuts : List aCut) (c : aCut) : Bool := match x_nth zMT κ.1 with
  | some t => (Bool.rec (motive := fun _ => Bool) false (aq_from G lm hs Ks n κ cuts t (some c.2.2) c.1 c.2.1) (aq_all (fun x => aq_scp c.2.1.1.1 x.1) c.2.2))
  | none => false
theorem aq_ck1_e : @aq_ck1 = @a_ck1 := by
  delta aq_ck1
  simp only [aq_all_e, aq_scp_e, aq_from_e, a_aq, a_oq, a_nq]
  rfl
noncomputable def aq_fineO (G : aG) (κ : aK) (cuts : List aCut) (olds : Option (List aF)) (o : Nat) (x : aRes) : Bool := match x with
  | .inl (pc, st) => (Bool.rec (motive := fun _ => Bool) (aq_any (fun c => (Bool.rec (motive := fun _ => Bool) false (aq_cutOK G κ.2.2.1.1 olds st c) (Nat.beq c.1 pc))) cuts) true ((match x_nth cuts o with
    | some c => (Bool.rec (motive := fun _ => Bool) false (aq_cutOK G κ.2.2.1.1 olds st c) (Nat.beq c.1 pc))
    | none => false)))
  | .inr r => aq_any (aq_retOK G κ.2.2.1.1 r) κ.2.2.2.2.2
theorem aq_fineO_e : @aq_fineO = @a_fineO := by
  delta aq_fineO
  simp only [aq_any_e, aq_retOK_e, aq_cutOK_e, a_aq, a_oq, a_nq]
  rfl
noncomputable def aq_allO (G : aG) (κ : aK) (cuts : List aCut) (olds : Option (List aF)) (rs : List aRes) : List Nat → Bool := List.rec (motive := fun _ => List Nat → Bool) (fun _ => true) (fun x _ ih os => match os with
  | o :: os => (Bool.rec (motive := fun _ => Bool) false (ih os) (aq_fineO G κ cuts olds o x))
  | [] => (Bool.rec (motive := fun _ => Bool) false (ih []) (aq_fine G κ cuts olds x))) rs
theorem aq_allO_e : @aq_allO = @a_allO := by
  delta aq_allO
  simp only [aq_fine_e, aq_fineO_e, a_aq, a_oq, a_nq]
  rfl
noncomputable def aq_fromO (G : aG) (lm : aLm) (hs : aHt) (Ks : List aK) (n : Nat) (κ : aK) (cuts : List aCut) (t : List (List (Option zX))) (olds : Option (List aF)) (pc : Nat) (st : aS) (os : List Nat) : Bool := a_bN (a_mask cuts) (fun k => match aq_run G κ.2.2.2.2.1 lm hs Ks n κ.2.1 κ.1 t k true pc st with
  | some rs => aq_allO G κ cuts olds rs os
  | none => false)
theorem aq_fromO_e : @aq_fromO = @a_fromO := by
  delta aq_fromO
  simp only [aq_run_e, aq_allO_e]
  rfl
noncomputable def aq_ck0O (os : List Nat) (G : aG) (lm : aLm) (hs : aHt) (Ks : List aK) (n : Nat) (κ : aK) (cuts : List aCut) : Bool := match x_nth zMT κ.1 with
  | some t => aq_fromO G lm hs Ks n κ cuts t none 0 (κ.2.2.1, aq_args κ.2.2.2.1 0, []) os
  | none => false
theorem aq_ck0O_e : @aq_ck0O = @a_ck0O := by
  delta aq_ck0O
  simp only [aq_args_e, aq_fromO_e]
  rfl
noncomputable def aq_ck1O (os : List Nat) (G : aG) (lm : aLm) (hs : aHt) (Ks : List aK) (n : Nat) (κ : aK) (cuts : List aCut) (c : aCut) : Bool := match x_nth zMT κ.1 with
  | some t => (Bool.rec (motive := fun _ => Bool) false (aq_fromO G lm hs Ks n κ cuts t (some c.2.2) c.1 c.2.1 os) (aq_all (fun x => aq_scp c.2.1.1.1 x.1) c.2.2))
  | none => false
theorem aq_ck1O_e : @aq_ck1O = @a_ck1O := by
  delta aq_ck1O
  simp only [aq_all_e, aq_scp_e, aq_fromO_e, a_aq, a_oq, a_nq]
  rfl
theorem aq_check_of {G : aG} {hs : aHt} {Ks : List aK} {n : Nat} {κ : aK} {cuts : List aCut} (h : aq_check G aqLmR hs Ks n κ cuts = true) : a_check G aLmR hs Ks n κ cuts = true := by
  rw [← aq_check_e, ← aqLmR_e]
  exact h
theorem aq_ck0_of {G : aG} {hs : aHt} {Ks : List aK} {n : Nat} {κ : aK} {cuts : List aCut} (h : aq_ck0 G aqLmR hs Ks n κ cuts = true) : a_ck0 G aLmR hs Ks n κ cuts = true := by
  rw [← aq_ck0_e, ← aqLmR_e]
  exact h
theorem aq_ck0O_of {G : aG} {hs : aHt} {Ks : List aK} {n : Nat} {κ : aK} {cuts : List aCut} (os : List Nat) (h : aq_ck0O os G aqLmR hs Ks n κ cuts = true) : a_ck0O os G aLmR hs Ks n κ cuts = true := by
  rw [← aq_ck0O_e, ← aqLmR_e]
  exact h
theorem aq_ck1_of {G : aG} {hs : aHt} {Ks : List aK} {n : Nat} {κ : aK} {cuts : List aCut} {c : aCut} (h : aq_ck1 G aqLmR hs Ks n κ cuts c = true) : a_ck1 G aLmR hs Ks n κ cuts c = true := by
  rw [← aq_ck1_e, ← aqLmR_e]
  exact h
theorem aq_ck1O_of {G : aG} {hs : aHt} {Ks : List aK} {n : Nat} {κ : aK} {cuts : List aCut} {c : aCut} (os : List Nat) (h : aq_ck1O os G aqLmR hs Ks n κ cuts c = true) : a_ck1O os G aLmR hs Ks n κ cuts c = true := by
  rw [← aq_ck1O_e, ← aqLmR_e]
  exact h
theorem aq_all_of {G : aG} {hs : aHt} {Ks : List aK} {n : Nat} {κ : aK} {cuts cs : List aCut} (l : List (List Nat × aCut)) (e : l.map Prod.snd = cs) (h : l.all (fun x => aq_ck1O x.1 G aqLmR hs Ks n κ cuts x.2) = true) : ∀ c ∈ cs, a_ck1 G aLmR hs Ks n κ cuts c = true := by
  subst e
  intro c hc
  obtain ⟨x, hx, e⟩ := List.mem_map.mp hc
  subst e
  exact a_ck1_of x.1 (aq_ck1O_of x.1 (List.all_eq_true.mp h x hx))
end
section
/-! STEPS BY HAND over the concrete machine -/
section HS
variable {D : zD} {T : zT} {d mi pc nx a b : Nat} {z : Int} {cs : List (Int × Nat)} {h : zH} {L : zL} {S : List zV} {r : zR}
theorem hq_push {t : Nat} (hi : T mi pc = some (0, nx, t, b, z, cs)) (k : zRun D T d mi nx (h, L, (t, z) :: S) r) : zRun D T d mi pc (h, L, S) r := zRun.step hi rfl k
theorem hq_pushZ {t : Nat} {w : Int} (hi : T mi pc = some (0, nx, t, b, z, cs)) (hw : z = w) (k : zRun D T d mi nx (h, L, (t, w) :: S) r) : zRun D T d mi pc (h, L, S) r := by
  subst hw
  exact zRun.step hi rfl k
theorem hq_goto (hi : T mi pc = some (1, nx, a, b, z, cs)) (k : zRun D T d mi nx (h, L, S) r) : zRun D T d mi pc (h, L, S) r := zRun.step hi rfl k
theorem hq_load (hi : T mi pc = some (2, nx, a, b, z, cs)) {v : zV} (hv : L a = some v) (hk : zkind v = b) (k : zRun D T d mi nx (h, L, v :: S) r) : zRun D T d mi pc (h, L, S) r := by
  refine zRun.step hi ?_ k
  show z_load nx a b (h, L, S) = _
  unfold z_load
  dsimp only
  rw [hv]
  exact if_pos hk
theorem hq_store (hi : T mi pc = some (3, nx, a, b, z, cs)) {v : zV} (hk : zkind v = b ∧ b ≠ 1) (k : zRun D T d mi nx (h, zput1 L a v, S) r) : zRun D T d mi pc (h, L, v :: S) r := by
  refine zRun.step hi ?_ k
  show z_store1 nx a b (h, L, v :: S) = _
  exact if_pos hk
theorem hq_iinc (hi : T mi pc = some (5, nx, a, b, z, cs)) {x w : Int} (hv : L a = some (0, x)) (he : (Int32.ofInt x + Int32.ofInt z).toInt = w) (k : zRun D T d mi nx (h, zput1 L a (0, w), S) r) : zRun D T d mi pc (h, L, S) r := by
  subst he
  refine zRun.step hi ?_ k
  show z_iinc nx a z (h, L, S) = _
  unfold z_iinc
  dsimp only
  rw [hv]
  rfl
theorem hq_iincZ (hi : T mi pc = some (5, nx, a, b, z, cs)) {x u w : Int} (hu : z = u) (hv : L a = some (0, x)) (he : (Int32.ofInt x + Int32.ofInt u).toInt = w) (k : zRun D T d mi nx (h, zput1 L a (0, w), S) r) : zRun D T d mi pc (h, L, S) r := by
  subst hu
  exact hq_iinc hi hv he k
theorem hq_bin (hi : T mi pc = some (7, nx, a, b, z, cs)) {x y w : Int} (he : (zf32 b (Int32.ofInt x) (Int32.ofInt y)).toInt = w) (k : zRun D T d mi nx (h, L, (0, w) :: S) r) : zRun D T d mi pc (h, L, (0, y) :: (0, x) :: S) r := by
  subst he
  exact zRun.step hi rfl k
theorem hq_div (hi : T mi pc = some (8, nx, a, b, z, cs)) {x y w : Int} (hy : y ≠ 0) (he : (zd32 b (Int32.ofInt x) (Int32.ofInt y)).toInt = w) (k : zRun D T d mi nx (h, L, (0, w) :: S) r) : zRun D T d mi pc (h, L, (0, y) :: (0, x) :: S) r := by
  subst he
  refine zRun.step hi ?_ k
  show z_div32 nx b (h, L, (0, y) :: (0, x) :: S) = _
  exact if_neg hy
theorem hq_i2l (hi : T mi pc = some (13, nx, a, b, z, cs)) {x : Int} (k : zRun D T d mi nx (h, L, (1, x) :: S) r) : zRun D T d mi pc (h, L, (0, x) :: S) r := zRun.step hi rfl k
theorem hq_dup (hi : T mi pc = some (15, nx, a, 2, z, cs)) {v : zV} (hc : zcat v = 1) (k : zRun D T d mi nx (h, L, v :: v :: S) r) : zRun D T d mi pc (h, L, v :: S) r := by
  refine zRun.step hi ?_ k
  show z_stk nx 2 (h, L, v :: S) = _
  exact if_pos hc
theorem hq_ifT (hi : T mi pc = some (16, nx, a, b, z, cs)) {x : Int} (hb : zrel b x 0 = true) (k : zRun D T d mi a (h, L, S) r) : zRun D T d mi pc (h, L, (0, x) :: S) r := by
  refine zRun.step hi ?_ k
  show znx (if zrel b x 0 then a else nx) (h, L, S) = _
  rw [if_pos hb]
  rfl
theorem hq_ifF (hi : T mi pc = some (16, nx, a, b, z, cs)) {x : Int} (hb : zrel b x 0 = false) (k : zRun D T d mi nx (h, L, S) r) : zRun D T d mi pc (h, L, (0, x) :: S) r := by
  refine zRun.step hi ?_ k
  show znx (if zrel b x 0 then a else nx) (h, L, S) = _
  rw [hb, if_neg Bool.false_ne_true]
  rfl
theorem hq_icT (hi : T mi pc = some (17, nx, a, b, z, cs)) {x y : Int} (hb : zrel b x y = true) (k : zRun D T d mi a (h, L, S) r) : zRun D T d mi pc (h, L, (0, y) :: (0, x) :: S) r := by
  refine zRun.step hi ?_ k
  show znx (if zrel b x y then a else nx) (h, L, S) = _
  rw [if_pos hb]
  rfl
theorem hq_icF (hi : T mi pc = some (17, nx, a, b, z, cs)) {x y : Int} (hb : zrel b x y = false) (k : zRun D T d mi nx (h, L, S) r) : zRun D T d mi pc (h, L, (0, y) :: (0, x) :: S) r := by
  refine zRun.step hi ?_ k
  show znx (if zrel b x y then a else nx) (h, L, S) = _
  rw [hb, if_neg Bool.false_ne_true]
  rfl
theorem hq_lcmp (hi : T mi pc = some (18, nx, a, b, z, cs)) {x y w : Int} (he : (if y < x then (1 : Int) else if x = y then 0 else -1) = w) (k : zRun D T d mi nx (h, L, (0, w) :: S) r) : zRun D T d mi pc (h, L, (1, y) :: (1, x) :: S) r := by
  subst he
  exact zRun.step hi rfl k
theorem hq_getf (hi : T mi pc = some (20, nx, a, b, z, cs)) {x : Int} {v : zV} (hr : zisO a x = true) (hv : h x.toNat b = v) (k : zRun D T d mi nx (h, L, v :: S) r) : zRun D T d mi pc (h, L, (2, x) :: S) r := by
  subst hv
  refine zRun.step hi ?_ k
  show (if zisO a x then znx nx (h, L, h x.toNat b :: S) else none) = _
  rw [if_pos hr]
  rfl
theorem hq_putf (hi : T mi pc = some (21, nx, a, b, z, cs)) {x : Int} {v : zV} (hr : zisO a x = true ∧ zfit z.toNat v = true) (k : zRun D T d mi nx (zset h x.toNat b v, L, S) r) : zRun D T d mi pc (h, L, v :: (2, x) :: S) r := by
  refine zRun.step hi ?_ k
  show (if zisO a x ∧ zfit z.toNat v then znx nx (zset h x.toNat b v, L, S) else none) = _
  rw [if_pos hr]
  rfl
theorem hq_ald (hi : T mi pc = some (22, nx, a, b, z, cs)) {x i : Int} {v : zV} (hr : zarr a x i = true) (hv : h x.toNat i.toNat = v) (k : zRun D T d mi nx (h, L, v :: S) r) : zRun D T d mi pc (h, L, (0, i) :: (2, x) :: S) r := by
  subst hv
  refine zRun.step hi ?_ k
  show (if zarr a x i then znx nx (h, L, h x.toNat i.toNat :: S) else none) = _
  rw [if_pos hr]
  rfl
theorem hq_ast (hi : T mi pc = some (23, nx, a, b, z, cs)) {x i : Int} {v : zV} (hr : zarr a x i = true ∧ zfit a v = true ∧ a < 4) (k : zRun D T d mi nx (zset h x.toNat i.toNat v, L, S) r) : zRun D T d mi pc (h, L, v :: (0, i) :: (2, x) :: S) r := by
  refine zRun.step hi ?_ k
  show (if zarr a x i ∧ zfit a v ∧ a < 4 then znx nx (zset h x.toNat i.toNat v, L, S) else none) = _
  rw [if_pos hr]
  rfl
theorem hq_call (hi : T mi pc = some (29, nx, a, b, z, cs)) {as S' : List zV} {h1 : zH} {v : Option zV} (ht : ztake b S [] = some (as, S')) (hc : zsum S' ≤ 8 ∧ zsum as ≤ (cs.head?.elim 0 (fun q => q.2)) ∧ (0 ≤ z → (as.head?.any fun v => v.1 == 2 && zisO z.toNat v.2) = true)) (h1r : zRun D T d a 0 (h, zargs 0 as, []) (h1, v)) (k : zRun D T (d + 1) mi nx (h1, L, zpush v S') r) : zRun D T (d + 1) mi pc (h, L, S) r := by
  refine zRun.call (r1 := (h1, v)) hi ?_ h1r k
  show z_call nx a b z (cs.head?.elim 0 (fun q => q.2)) (h, L, S) = _
  unfold z_call
  dsimp only
  rw [ht]
  exact if_pos hc
theorem hq_ret (hi : T mi pc = some (30, nx, a, 1, z, cs)) {v : zV} (hf : zfit a v = true ∧ v.1 = 0) : zRun D T d mi pc (h, L, [v]) (h, some v) := by
  refine zRun.ret hi ?_
  show (if zfit a v ∧ v.1 = 0 then (some (Sum.inl (h, some v)) : Option zO) else none) = _
  rw [if_pos hf]
end HS
/-! arithmetic -/
theorem hq_ofI {x : Int} (h1 : -2147483648 ≤ x) (h2 : x < 2147483648) : (Int32.ofInt x).toInt = x := by
  exact Int32.toInt_ofInt_of_le (by omega) (by omega)
theorem hq_add {x y : Int} (h1 : -2147483648 ≤ x + y) (h2 : x + y < 2147483648) : (zf32 0 (Int32.ofInt x) (Int32.ofInt y)).toInt = x + y := by
  show (Int32.ofInt x + Int32.ofInt y).toInt = x + y
  rw [← Int32.ofInt_add]
  exact hq_ofI h1 h2
theorem hq_inc {x y : Int} (h1 : -2147483648 ≤ x + y) (h2 : x + y < 2147483648) : (Int32.ofInt x + Int32.ofInt y).toInt = x + y := hq_add h1 h2
theorem hq_sub {x y : Int} (h1 : -2147483648 ≤ x - y) (h2 : x - y < 2147483648) : (zf32 1 (Int32.ofInt x) (Int32.ofInt y)).toInt = x - y := by
  show (Int32.ofInt x - Int32.ofInt y).toInt = x - y
  rw [← Int32.ofInt_sub]
  exact hq_ofI h1 h2
theorem hq_mul {x y : Int} (h1 : -2147483648 ≤ x * y) (h2 : x * y < 2147483648) : (zf32 2 (Int32.ofInt x) (Int32.ofInt y)).toInt = x * y := by
  show (Int32.ofInt x * Int32.ofInt y).toInt = x * y
  rw [← Int32.ofInt_mul]
  exact hq_ofI h1 h2
theorem hq_divI {x y : Int} (h0 : 0 ≤ x) (h1 : x < 2147483648) (h2 : 0 < y) (h3 : y < 2147483648) : (Int32.ofInt x / Int32.ofInt y).toInt = x / y := by
  have q : 0 ≤ x / y := Int.ediv_nonneg h0 (by omega)
  have q2 : x / y ≤ x := Int.ediv_le_self _ h0
  rw [Int32.toInt_div, hq_ofI (by omega) h1, hq_ofI (by omega) h3, Int.tdiv_eq_ediv_of_nonneg h0]
  exact Int.bmod_eq_of_le (by omega) (by omega)
theorem hq_quo {x y : Int} (h0 : 0 ≤ x) (h1 : x < 2147483648) (h2 : 0 < y) (h3 : y < 2147483648) : (zd32 0 (Int32.ofInt x) (Int32.ofInt y)).toInt = x / y := hq_divI h0 h1 h2 h3
theorem hq_rem {x y : Int} (h0 : 0 ≤ x) (h1 : x < 2147483648) (h2 : 0 < y) (h3 : y < 2147483648) : (zd32 1 (Int32.ofInt x) (Int32.ofInt y)).toInt = x % y := by
  have e : (Int32.ofInt x / Int32.ofInt y) = Int32.ofInt (x / y) := by
    have := hq_divI h0 h1 h2 h3
    rw [← this, Int32.ofInt_toInt]
  show (Int32.ofInt x - Int32.ofInt x / Int32.ofInt y * Int32.ofInt y).toInt = x % y
  rw [e, ← Int32.ofInt_mul, ← Int32.ofInt_sub]
  have m1 : 0 ≤ x % y := Int.emod_nonneg _ (by omega)
  have m2 : x % y < y := Int.emod_lt_of_pos _ h2
  have m3 : x - x / y * y = x % y := by rw [Int.mul_comm, Int.emod_def]
  rw [m3]
  exact hq_ofI (by omega) (by omega)
end
section
/-! RUNS BY HAND: what the reference's small methods answer -/
def hTab (T : zT) : Prop := ∀ mi t, x_nth zMT mi = some t → ∀ pc i, z_at t pc = some i → T mi pc = some i
theorem zr0T {x y : Int} (h : x < y) : zrel 0 x y = true := decide_eq_true h
theorem zr0F {x y : Int} (h : y ≤ x) : zrel 0 x y = false := decide_eq_false (by omega)
theorem zr1T {x y : Int} (h : y < x) : zrel 1 x y = true := decide_eq_true h
theorem zr1F {x y : Int} (h : x ≤ y) : zrel 1 x y = false := decide_eq_false (by omega)
theorem zr2T {x y : Int} (h : x = y) : zrel 2 x y = true := decide_eq_true h
theorem zr2F {x y : Int} (h : x ≠ y) : zrel 2 x y = false := decide_eq_false h
theorem za126 {i : Int} (h1 : 0 ≤ i) (h2 : i < 2750) : zarr 0 126 i = true := by
  show (true && (decide (0 ≤ i) && decide (i < 2750))) = true
  rw [decide_eq_true h1, decide_eq_true h2]; rfl
theorem za130 {i : Int} (h1 : 0 ≤ i) (h2 : i < 48) : zarr 0 130 i = true := by
  show (true && (decide (0 ≤ i) && decide (i < 48))) = true
  rw [decide_eq_true h1, decide_eq_true h2]; rfl
theorem za132 {i : Int} (h1 : 0 ≤ i) (h2 : i < 49) : zarr 0 132 i = true := by
  show (true && (decide (0 ≤ i) && decide (i < 49))) = true
  rw [decide_eq_true h1, decide_eq_true h2]; rfl
theorem za129 {i : Int} (h1 : 0 ≤ i) (h2 : i < 48) : zarr 3 129 i = true := by
  show (true && (decide (0 ≤ i) && decide (i < 48))) = true
  rw [decide_eq_true h1, decide_eq_true h2]; rfl
def hc (h : zH) (k : Nat) : Int := (h 126 k).2
def hout (h : zH) (k : Nat) : Int := (h 130 k).2
-- what these methods rest on
def hHp (h : zH) : Prop := (h 121 20 = (2, 126) ∧ h 121 27 = (2, 130) ∧ h 121 30 = (2, 132)) ∧ (∀ k, k < 2750 → (h 126 k).1 = 0) ∧ (∀ k, k < 48 → (h 130 k).1 = 0 ∧ 0 ≤ hout h k ∧ hout h k ≤ 1000000) ∧ (2 ≤ hc h 0 ∧ hc h 0 ≤ 8) ∧ (1 ≤ hc h 1 ∧ hc h 1 ≤ 6) ∧ (∀ k, k < 48 → (-1 ≤ hc h (5 + k) ∧ hc h (5 + k) ≤ 4) ∧ (0 ≤ hc h (53 + k) ∧ hc h (53 + k) ≤ 9)) ∧ ∀ k, k < 144 → 0 ≤ hc h (101 + k) ∧ hc h (101 + k) ≤ 3
theorem hHp.c {h : zH} (hp : hHp h) : h 121 20 = (2, 126) := hp.1.1
theorem hHp.o {h : zH} (hp : hHp h) : h 121 27 = (2, 130) := hp.1.2.1
theorem hHp.w {h : zH} (hp : hHp h) : h 121 30 = (2, 132) := hp.1.2.2
theorem hKd {h : zH} (hp : hHp h) {k : Nat} (hk : k < 2750) : h 126 k = (0, hc h k) := Prod.ext (hp.2.1 k hk) rfl
theorem hKo {h : zH} (hp : hHp h) {k : Nat} (hk : k < 48) : h 130 k = (0, hout h k) := Prod.ext (hp.2.2.1 k hk).1 rfl
section HB
variable {D : zD} {T : zT} {h : zH} {d : Nat}
theorem hm_isIn (hT : hTab T) : ∀ pc i, z_at zt_X12_isIn pc = some i → T 252 pc = some i := hT 252 _ rfl
theorem hm_isCell (hT : hTab T) : ∀ pc i, z_at zt_X12_isCell pc = some i → T 244 pc = some i := hT 244 _ rfl
theorem hm_at2 (hT : hTab T) : ∀ pc i, z_at zt_X12_at2 pc = some i → T 197 pc = some i := hT 197 _ rfl
theorem hm_cells (hT : hTab T) : ∀ pc i, z_at zt_X12_cells pc = some i → T 206 pc = some i := hT 206 _ rfl
theorem hm_stateOf (hT : hTab T) : ∀ pc i, z_at zt_X12_stateOf pc = some i → T 314 pc = some i := hT 314 _ rfl
theorem hm_state (hT : hTab T) : ∀ pc i, z_at zt_X12_state pc = some i → T 313 pc = some i := hT 313 _ rfl
theorem hm_crumbsOf (hT : hTab T) : ∀ pc i, z_at zt_X12_crumbsOf pc = some i → T 215 pc = some i := hT 215 _ rfl
theorem hm_letterCost (hT : hTab T) : ∀ pc i, z_at zt_X12_letterCost pc = some i → T 271 pc = some i := hT 271 _ rfl
theorem hm_beside (hT : hTab T) : ∀ pc i, z_at zt_X12_beside pc = some i → T 200 pc = some i := hT 200 _ rfl
theorem hm_costOf (hT : hTab T) : ∀ pc i, z_at zt_X12_costOf pc = some i → T 212 pc = some i := hT 212 _ rfl
theorem hm_goesBy (hT : hTab T) : ∀ pc i, z_at zt_X12_goesBy pc = some i → T 232 pc = some i := hT 232 _ rfl
theorem hm_wayOf (hT : hTab T) : ∀ pc i, z_at zt_X12_wayOf pc = some i → T 336 pc = some i := hT 336 _ rfl
theorem hm_tellWay (hT : hTab T) : ∀ pc i, z_at zt_X12_tellWay pc = some i → T 324 pc = some i := hT 324 _ rfl
theorem hm_tellCompany (hT : hTab T) : ∀ pc i, z_at zt_X12_tellCompany pc = some i → T 323 pc = some i := hT 323 _ rfl
theorem hm_heapFrom (hT : hTab T) : ∀ pc i, z_at zt_X12_heapFrom pc = some i → T 237 pc = some i := hT 237 _ rfl
theorem hm_doOne (hT : hTab T) : ∀ pc i, z_at zt_X12_doOne pc = some i → T 220 pc = some i := hT 220 _ rfl
theorem hm_avoids (hT : hTab T) : ∀ pc i, z_at zt_X12_avoids pc = some i → T 198 pc = some i := hT 198 _ rfl
theorem r_isInT (hT : hTab T) {x lo hi : Int} (h1 : lo ≤ x) (h2 : x ≤ hi) : zRun D T (d) 252 0 (h, zargs 0 [(1, x), (1, lo), (1, hi)], []) (h, some (0, 1)) := by
  have hm := hm_isIn (T := T) hT
  refine hq_load (hm _ _ rfl) rfl rfl ?_
  refine hq_load (hm _ _ rfl) rfl rfl ?_
  refine hq_lcmp (hm _ _ rfl) rfl ?_
  refine hq_ifF (hm _ _ rfl) (zr0F (by split <;> (try split) <;> omega)) ?_
  refine hq_load (hm _ _ rfl) rfl rfl ?_
  refine hq_load (hm _ _ rfl) rfl rfl ?_
  refine hq_lcmp (hm _ _ rfl) rfl ?_
  refine hq_ifF (hm _ _ rfl) (zr1F (by split <;> (try split) <;> omega)) ?_
  refine hq_pushZ (w := 1) (hm _ _ rfl) rfl ?_
  refine hq_goto (hm _ _ rfl) ?_
  exact hq_ret (hm _ _ rfl) ⟨rfl, rfl⟩
theorem r_isInF (hT : hTab T) {x lo hi : Int} (h1 : x < lo ∨ hi < x) : zRun D T d 252 0 (h, zargs 0 [(1, x), (1, lo), (1, hi)], []) (h, some (0, 0)) := by
  have hm := hm_isIn (T := T) hT
  by_cases h0 : x < lo
  · refine hq_load (hm _ _ rfl) rfl rfl ?_
    refine hq_load (hm _ _ rfl) rfl rfl ?_
    refine hq_lcmp (hm _ _ rfl) rfl ?_
    refine hq_ifT (hm _ _ rfl) (zr0T (by split <;> (try split) <;> omega)) ?_
    refine hq_pushZ (w := 0) (hm _ _ rfl) rfl ?_
    exact hq_ret (hm _ _ rfl) ⟨rfl, rfl⟩
  · refine hq_load (hm _ _ rfl) rfl rfl ?_
    refine hq_load (hm _ _ rfl) rfl rfl ?_
    refine hq_lcmp (hm _ _ rfl) rfl ?_
    refine hq_ifF (hm _ _ rfl) (zr0F (by split <;> (try split) <;> omega)) ?_
    refine hq_load (hm _ _ rfl) rfl rfl ?_
    refine hq_load (hm _ _ rfl) rfl rfl ?_
    refine hq_lcmp (hm _ _ rfl) rfl ?_
    refine hq_ifT (hm _ _ rfl) (zr1T (by split <;> (try split) <;> omega)) ?_
    refine hq_pushZ (w := 0) (hm _ _ rfl) rfl ?_
    exact hq_ret (hm _ _ rfl) ⟨rfl, rfl⟩
theorem r_isCellT (hT : hTab T) (hp : hHp h) {x y : Int} (h1 : 0 ≤ x ∧ x ≤ hc h 0 - 1 ∧ 0 ≤ y ∧ y ≤ hc h 1 - 1) : zRun D T (d + 1) 244 0 (h, zargs 0 [(2, 121), (0, x), (0, y)], []) (h, some (0, 1)) := by
  have hm := hm_isCell (T := T) hT
  obtain ⟨-, -, -, b0, b1, -⟩ := id hp
  refine hq_load (hm _ _ rfl) rfl rfl ?_
  refine hq_i2l (hm _ _ rfl) ?_
  refine hq_pushZ (w := 0) (hm _ _ rfl) rfl ?_
  refine hq_load (hm _ _ rfl) rfl rfl ?_
  refine hq_getf (hm _ _ rfl) rfl hp.c ?_
  refine hq_pushZ (w := 0) (hm _ _ rfl) rfl ?_
  refine hq_ald (hm _ _ rfl) (za126 (by omega) (by omega)) (hKd hp (k := 0) (by omega)) ?_
  refine hq_pushZ (w := 1) (hm _ _ rfl) rfl ?_
  refine hq_bin (hm _ _ rfl) (hq_sub (by omega) (by omega)) ?_
  refine hq_i2l (hm _ _ rfl) ?_
  refine hq_call (hm _ _ rfl) rfl ⟨Nat.le_of_ble_eq_true rfl, Nat.le_of_ble_eq_true rfl, fun h => absurd h (by decide)⟩ (r_isInT hT (by omega) (by omega)) ?_
  refine hq_ifF (hm _ _ rfl) (zr2F (by omega)) ?_
  refine hq_load (hm _ _ rfl) rfl rfl ?_
  refine hq_i2l (hm _ _ rfl) ?_
  refine hq_pushZ (w := 0) (hm _ _ rfl) rfl ?_
  refine hq_load (hm _ _ rfl) rfl rfl ?_
  refine hq_getf (hm _ _ rfl) rfl hp.c ?_
  refine hq_pushZ (w := 1) (hm _ _ rfl) rfl ?_
  refine hq_ald (hm _ _ rfl) (za126 (by omega) (by omega)) (hKd hp (k := 1) (by omega)) ?_
  refine hq_pushZ (w := 1) (hm _ _ rfl) rfl ?_
  refine hq_bin (hm _ _ rfl) (hq_sub (by omega) (by omega)) ?_
  refine hq_i2l (hm _ _ rfl) ?_
  refine hq_call (hm _ _ rfl) rfl ⟨Nat.le_of_ble_eq_true rfl, Nat.le_of_ble_eq_true rfl, fun h => absurd h (by decide)⟩ (r_isInT hT (by omega) (by omega)) ?_
  refine hq_ifF (hm _ _ rfl) (zr2F (by omega)) ?_
  refine hq_pushZ (w := 1) (hm _ _ rfl) rfl ?_
  refine hq_goto (hm _ _ rfl) ?_
  exact hq_ret (hm _ _ rfl) ⟨rfl, rfl⟩
theorem r_isCellF (hT : hTab T) (hp : hHp h) {x y : Int} (h1 : ¬ (0 ≤ x ∧ x ≤ hc h 0 - 1 ∧ 0 ≤ y ∧ y ≤ hc h 1 - 1)) : zRun D T (d + 1) 244 0 (h, zargs 0 [(2, 121), (0, x), (0, y)], []) (h, some (0, 0)) := by
  have hm := hm_isCell (T := T) hT
  obtain ⟨-, -, -, b0, b1, -⟩ := id hp
  by_cases h0 : 0 ≤ x ∧ x ≤ hc h 0 - 1
  · refine hq_load (hm _ _ rfl) rfl rfl ?_
    refine hq_i2l (hm _ _ rfl) ?_
    refine hq_pushZ (w := 0) (hm _ _ rfl) rfl ?_
    refine hq_load (hm _ _ rfl) rfl rfl ?_
    refine hq_getf (hm _ _ rfl) rfl hp.c ?_
    refine hq_pushZ (w := 0) (hm _ _ rfl) rfl ?_
    refine hq_ald (hm _ _ rfl) (za126 (by omega) (by omega)) (hKd hp (k := 0) (by omega)) ?_
    refine hq_pushZ (w := 1) (hm _ _ rfl) rfl ?_
    refine hq_bin (hm _ _ rfl) (hq_sub (by omega) (by omega)) ?_
    refine hq_i2l (hm _ _ rfl) ?_
    refine hq_call (hm _ _ rfl) rfl ⟨Nat.le_of_ble_eq_true rfl, Nat.le_of_ble_eq_true rfl, fun h => absurd h (by decide)⟩ (r_isInT hT (by omega) (by omega)) ?_
    refine hq_ifF (hm _ _ rfl) (zr2F (by omega)) ?_
    refine hq_load (hm _ _ rfl) rfl rfl ?_
    refine hq_i2l (hm _ _ rfl) ?_
    refine hq_pushZ (w := 0) (hm _ _ rfl) rfl ?_
    refine hq_load (hm _ _ rfl) rfl rfl ?_
    refine hq_getf (hm _ _ rfl) rfl hp.c ?_
    refine hq_pushZ (w := 1) (hm _ _ rfl) rfl ?_
    refine hq_ald (hm _ _ rfl) (za126 (by omega) (by omega)) (hKd hp (k := 1) (by omega)) ?_
    refine hq_pushZ (w := 1) (hm _ _ rfl) rfl ?_
    refine hq_bin (hm _ _ rfl) (hq_sub (by omega) (by omega)) ?_
    refine hq_i2l (hm _ _ rfl) ?_
    refine hq_call (hm _ _ rfl) rfl ⟨Nat.le_of_ble_eq_true rfl, Nat.le_of_ble_eq_true rfl, fun h => absurd h (by decide)⟩ (r_isInF hT (by omega)) ?_
    refine hq_ifT (hm _ _ rfl) (zr2T rfl) ?_
    refine hq_pushZ (w := 0) (hm _ _ rfl) rfl ?_
    exact hq_ret (hm _ _ rfl) ⟨rfl, rfl⟩
  · refine hq_load (hm _ _ rfl) rfl rfl ?_
    refine hq_i2l (hm _ _ rfl) ?_
    refine hq_pushZ (w := 0) (hm _ _ rfl) rfl ?_
    refine hq_load (hm _ _ rfl) rfl rfl ?_
    refine hq_getf (hm _ _ rfl) rfl hp.c ?_
    refine hq_pushZ (w := 0) (hm _ _ rfl) rfl ?_
    refine hq_ald (hm _ _ rfl) (za126 (by omega) (by omega)) (hKd hp (k := 0) (by omega)) ?_
    refine hq_pushZ (w := 1) (hm _ _ rfl) rfl ?_
    refine hq_bin (hm _ _ rfl) (hq_sub (by omega) (by omega)) ?_
    refine hq_i2l (hm _ _ rfl) ?_
    refine hq_call (hm _ _ rfl) rfl ⟨Nat.le_of_ble_eq_true rfl, Nat.le_of_ble_eq_true rfl, fun h => absurd h (by decide)⟩ (r_isInF hT (by omega)) ?_
    refine hq_ifT (hm _ _ rfl) (zr2T rfl) ?_
    refine hq_pushZ (w := 0) (hm _ _ rfl) rfl ?_
    exact hq_ret (hm _ _ rfl) ⟨rfl, rfl⟩
theorem h_prod (hp : hHp h) {x y : Int} (h1 : 0 ≤ x ∧ x ≤ hc h 0 - 1 ∧ 0 ≤ y ∧ y ≤ hc h 1 - 1) : 0 ≤ hc h 0 * y ∧ 0 ≤ hc h 0 * y + x ∧ hc h 0 * y + x < hc h 0 * hc h 1 ∧ hc h 0 * hc h 1 ≤ 48 := by
  obtain ⟨-, -, -, b0, b1, -⟩ := id hp
  have m1 : 0 ≤ hc h 0 * y := Int.mul_nonneg (by omega) (by omega)
  have m2 : hc h 0 * y ≤ hc h 0 * (hc h 1 - 1) := Int.mul_le_mul_of_nonneg_left (by omega) (by omega)
  have m3 : hc h 0 * (hc h 1 - 1) = hc h 0 * hc h 1 - hc h 0 := by rw [Int.mul_sub, Int.mul_one]
  have m4 : hc h 0 * hc h 1 ≤ 8 * 6 := Int.mul_le_mul (by omega) (by omega) (by omega) (by omega)
  omega
theorem r_at2 (hT : hTab T) (hp : hHp h) {x y : Int} (h1 : 0 ≤ x ∧ x ≤ hc h 0 - 1 ∧ 0 ≤ y ∧ y ≤ hc h 1 - 1) : zRun D T (d) 197 0 (h, zargs 0 [(2, 121), (0, x), (0, y)], []) (h, some (0, hc h 0 * y + x)) := by
  have hm := hm_at2 (T := T) hT
  obtain ⟨m1, m2, m3, m4⟩ := h_prod hp h1
  obtain ⟨-, -, -, b0, b1, -⟩ := id hp
  refine hq_load (hm _ _ rfl) rfl rfl ?_
  refine hq_getf (hm _ _ rfl) rfl hp.c ?_
  refine hq_pushZ (w := 0) (hm _ _ rfl) rfl ?_
  refine hq_ald (hm _ _ rfl) (za126 (by omega) (by omega)) (hKd hp (k := 0) (by omega)) ?_
  refine hq_load (hm _ _ rfl) rfl rfl ?_
  refine hq_bin (hm _ _ rfl) (hq_mul (by omega) (by omega)) ?_
  refine hq_load (hm _ _ rfl) rfl rfl ?_
  refine hq_bin (hm _ _ rfl) (hq_add (by omega) (by omega)) ?_
  exact hq_ret (hm _ _ rfl) ⟨rfl, rfl⟩
theorem r_cells (hT : hTab T) (hp : hHp h) : zRun D T (d) 206 0 (h, zargs 0 [(2, 121)], []) (h, some (0, hc h 0 * hc h 1)) := by
  have hm := hm_cells (T := T) hT
  obtain ⟨-, -, -, b0, b1, -⟩ := id hp
  have m4 : hc h 0 * hc h 1 ≤ 8 * 6 := Int.mul_le_mul (by omega) (by omega) (by omega) (by omega)
  have m1 : 0 ≤ hc h 0 * hc h 1 := Int.mul_nonneg (by omega) (by omega)
  refine hq_load (hm _ _ rfl) rfl rfl ?_
  refine hq_getf (hm _ _ rfl) rfl hp.c ?_
  refine hq_pushZ (w := 0) (hm _ _ rfl) rfl ?_
  refine hq_ald (hm _ _ rfl) (za126 (by omega) (by omega)) (hKd hp (k := 0) (by omega)) ?_
  refine hq_load (hm _ _ rfl) rfl rfl ?_
  refine hq_getf (hm _ _ rfl) rfl hp.c ?_
  refine hq_pushZ (w := 1) (hm _ _ rfl) rfl ?_
  refine hq_ald (hm _ _ rfl) (za126 (by omega) (by omega)) (hKd hp (k := 1) (by omega)) ?_
  refine hq_bin (hm _ _ rfl) (hq_mul (by omega) (by omega)) ?_
  exact hq_ret (hm _ _ rfl) ⟨rfl, rfl⟩
def bX (h : zH) (cell way : Int) : Int := cell % hc h 0 + (if way = 0 then 1 else if way = 2 then -1 else 0)
def bY (h : zH) (cell way : Int) : Int := cell / hc h 0 + (if way = 1 then 1 else if way = 3 then -1 else 0)
def bE (h : zH) (cell way : Int) : Int := if 0 ≤ bX h cell way ∧ bX h cell way ≤ hc h 0 - 1 ∧ 0 ≤ bY h cell way ∧ bY h cell way ≤ hc h 1 - 1 then hc h 0 * bY h cell way + bX h cell way else -1
theorem bE_b (hp : hHp h) (cell way : Int) : -1 ≤ bE h cell way ∧ bE h cell way < hc h 0 * hc h 1 ∧ hc h 0 * hc h 1 ≤ 48 := by
  obtain ⟨-, -, -, b0, b1, -⟩ := id hp
  have m4 : hc h 0 * hc h 1 ≤ 8 * 6 := Int.mul_le_mul (by omega) (by omega) (by omega) (by omega)
  have m1 : 0 ≤ hc h 0 * hc h 1 := Int.mul_nonneg (by omega) (by omega)
  unfold bE
  split
  · rename_i hx
    obtain ⟨m1, m2, m3, m4⟩ := h_prod hp hx
    omega
  · omega
theorem r_beside (hT : hTab T) (hp : hHp h) {cell way : Int} (h1 : 0 ≤ cell) (h2 : cell < 48) : zRun D T (d + 2) 200 0 (h, zargs 0 [(2, 121), (0, cell), (0, way)], []) (h, some (0, bE h cell way)) := by
  have hm := hm_beside (T := T) hT
  obtain ⟨-, -, -, b0, b1, -⟩ := id hp
  have q1 : 0 ≤ cell % hc h 0 := Int.emod_nonneg _ (by omega)
  have q2 : cell % hc h 0 < hc h 0 := Int.emod_lt_of_pos _ (by omega)
  have q3 : 0 ≤ cell / hc h 0 := Int.ediv_nonneg h1 (by omega)
  have q4 : cell / hc h 0 ≤ cell := Int.ediv_le_self _ h1
  have ex : ∃ dx, dx = (if way = 0 then (1 : Int) else if way = 2 then -1 else 0) ∧ -1 ≤ dx ∧ dx ≤ 1 := ⟨_, rfl, by split <;> (try split) <;> omega, by split <;> (try split) <;> omega⟩
  have ey : ∃ dy, dy = (if way = 1 then (1 : Int) else if way = 3 then -1 else 0) ∧ -1 ≤ dy ∧ dy ≤ 1 := ⟨_, rfl, by split <;> (try split) <;> omega, by split <;> (try split) <;> omega⟩
  obtain ⟨dx, edx, x1, x2⟩ := ex
  obtain ⟨dy, edy, y1, y2⟩ := ey
  have eX : bX h cell way = cell % hc h 0 + dx := by rw [edx]; rfl
  have eY : bY h cell way = cell / hc h 0 + dy := by rw [edy]; rfl
  refine hq_load (hm _ _ rfl) rfl rfl ?_
  refine hq_load (hm _ _ rfl) rfl rfl ?_
  refine hq_getf (hm _ _ rfl) rfl hp.c ?_
  refine hq_pushZ (w := 0) (hm _ _ rfl) rfl ?_
  refine hq_ald (hm _ _ rfl) (za126 (by omega) (by omega)) (hKd hp (k := 0) (by omega)) ?_
  refine hq_div (hm _ _ rfl) (by omega) (hq_rem h1 (by omega) (by omega) (by omega)) ?_
  have k26 : zRun D T (d + 2) 200 26 (h, zargs 0 [(2, 121), (0, cell), (0, way)], [(0, dx), (0, cell % hc h 0)]) (h, some (0, bE h cell way)) := by
    refine hq_bin (hm _ _ rfl) (hq_add (by omega) (by omega)) ?_
    refine hq_store (hm _ _ rfl) ⟨rfl, Nat.ne_of_beq_eq_false rfl⟩ ?_
    refine hq_load (hm _ _ rfl) rfl rfl ?_
    refine hq_load (hm _ _ rfl) rfl rfl ?_
    refine hq_getf (hm _ _ rfl) rfl hp.c ?_
    refine hq_pushZ (w := 0) (hm _ _ rfl) rfl ?_
    refine hq_ald (hm _ _ rfl) (za126 (by omega) (by omega)) (hKd hp (k := 0) (by omega)) ?_
    refine hq_div (hm _ _ rfl) (by omega) (hq_quo h1 (by omega) (by omega) (by omega)) ?_
    have k55 : zRun D T (d + 2) 200 55 (h, zput1 (zargs 0 [(2, 121), (0, cell), (0, way)]) 3 (0, cell % hc h 0 + dx), [(0, dy), (0, cell / hc h 0)]) (h, some (0, bE h cell way)) := by
      refine hq_bin (hm _ _ rfl) (hq_add (by omega) (by omega)) ?_
      refine hq_store (hm _ _ rfl) ⟨rfl, Nat.ne_of_beq_eq_false rfl⟩ ?_
      by_cases hin : 0 ≤ bX h cell way ∧ bX h cell way ≤ hc h 0 - 1 ∧ 0 ≤ bY h cell way ∧ bY h cell way ≤ hc h 1 - 1
      · have eb : bE h cell way = hc h 0 * (cell / hc h 0 + dy) + (cell % hc h 0 + dx) := by rw [← eX, ← eY]; exact if_pos hin
        rw [eX, eY] at hin
        rw [eb]
        refine hq_load (hm _ _ rfl) rfl rfl ?_
        refine hq_load (hm _ _ rfl) rfl rfl ?_
        refine hq_load (hm _ _ rfl) rfl rfl ?_
        refine hq_call (hm _ _ rfl) rfl ⟨Nat.le_of_ble_eq_true rfl, Nat.le_of_ble_eq_true rfl, fun _ => rfl⟩ (r_isCellT hT hp hin) ?_
        refine hq_ifF (hm _ _ rfl) (zr2F (by omega)) ?_
        refine hq_load (hm _ _ rfl) rfl rfl ?_
        refine hq_load (hm _ _ rfl) rfl rfl ?_
        refine hq_load (hm _ _ rfl) rfl rfl ?_
        refine hq_call (hm _ _ rfl) rfl ⟨Nat.le_of_ble_eq_true rfl, Nat.le_of_ble_eq_true rfl, fun _ => rfl⟩ (r_at2 hT hp hin) ?_
        refine hq_goto (hm _ _ rfl) ?_
        exact hq_ret (hm _ _ rfl) ⟨rfl, rfl⟩
      · have eb : bE h cell way = -1 := if_neg hin
        rw [eX, eY] at hin
        rw [eb]
        refine hq_load (hm _ _ rfl) rfl rfl ?_
        refine hq_load (hm _ _ rfl) rfl rfl ?_
        refine hq_load (hm _ _ rfl) rfl rfl ?_
        refine hq_call (hm _ _ rfl) rfl ⟨Nat.le_of_ble_eq_true rfl, Nat.le_of_ble_eq_true rfl, fun _ => rfl⟩ (r_isCellF hT hp hin) ?_
        refine hq_ifT (hm _ _ rfl) (zr2T rfl) ?_
        refine hq_pushZ (w := -1) (hm _ _ rfl) rfl ?_
        exact hq_ret (hm _ _ rfl) ⟨rfl, rfl⟩
    by_cases w1 : way = 1
    · rw [if_pos w1] at edy
      rw [edy] at k55
      refine hq_load (hm _ _ rfl) rfl rfl ?_
      refine hq_pushZ (w := 1) (hm _ _ rfl) rfl ?_
      refine hq_icT (hm _ _ rfl) (zr2T w1) ?_
      refine hq_pushZ (w := 1) (hm _ _ rfl) rfl ?_
      refine hq_goto (hm _ _ rfl) ?_
      exact k55
    · rw [if_neg w1] at edy
      by_cases w3 : way = 3
      · rw [if_pos w3] at edy
        rw [edy] at k55
        refine hq_load (hm _ _ rfl) rfl rfl ?_
        refine hq_pushZ (w := 1) (hm _ _ rfl) rfl ?_
        refine hq_icF (hm _ _ rfl) (zr2F w1) ?_
        refine hq_load (hm _ _ rfl) rfl rfl ?_
        refine hq_pushZ (w := 3) (hm _ _ rfl) rfl ?_
        refine hq_icT (hm _ _ rfl) (zr2T w3) ?_
        refine hq_pushZ (w := -1) (hm _ _ rfl) rfl ?_
        refine hq_goto (hm _ _ rfl) ?_
        exact k55
      · rw [if_neg w3] at edy
        rw [edy] at k55
        refine hq_load (hm _ _ rfl) rfl rfl ?_
        refine hq_pushZ (w := 1) (hm _ _ rfl) rfl ?_
        refine hq_icF (hm _ _ rfl) (zr2F w1) ?_
        refine hq_load (hm _ _ rfl) rfl rfl ?_
        refine hq_pushZ (w := 3) (hm _ _ rfl) rfl ?_
        refine hq_icF (hm _ _ rfl) (zr2F w3) ?_
        refine hq_pushZ (w := 0) (hm _ _ rfl) rfl ?_
        exact k55
  by_cases w0 : way = 0
  · rw [if_pos w0] at edx
    rw [edx] at k26
    refine hq_load (hm _ _ rfl) rfl rfl ?_
    refine hq_ifT (hm _ _ rfl) (zr2T w0) ?_
    refine hq_pushZ (w := 1) (hm _ _ rfl) rfl ?_
    refine hq_goto (hm _ _ rfl) ?_
    exact k26
  · rw [if_neg w0] at edx
    by_cases w2 : way = 2
    · rw [if_pos w2] at edx
      rw [edx] at k26
      refine hq_load (hm _ _ rfl) rfl rfl ?_
      refine hq_ifF (hm _ _ rfl) (zr2F w0) ?_
      refine hq_load (hm _ _ rfl) rfl rfl ?_
      refine hq_pushZ (w := 2) (hm _ _ rfl) rfl ?_
      refine hq_icT (hm _ _ rfl) (zr2T w2) ?_
      refine hq_pushZ (w := -1) (hm _ _ rfl) rfl ?_
      refine hq_goto (hm _ _ rfl) ?_
      exact k26
    · rw [if_neg w2] at edx
      rw [edx] at k26
      refine hq_load (hm _ _ rfl) rfl rfl ?_
      refine hq_ifF (hm _ _ rfl) (zr2F w0) ?_
      refine hq_load (hm _ _ rfl) rfl rfl ?_
      refine hq_pushZ (w := 2) (hm _ _ rfl) rfl ?_
      refine hq_icF (hm _ _ rfl) (zr2F w2) ?_
      refine hq_pushZ (w := 0) (hm _ _ rfl) rfl ?_
      exact k26
def lE (x : Int) : Int := if x = 0 then 2 else if x = 1 then 1 else if x = 3 then 5 else if x = 4 then 3 else 4
theorem r_letterCost (hT : hTab T) {x : Int} : zRun D T d 271 0 (h, zargs 0 [(0, x)], []) (h, some (0, lE x)) := by
  have hm := hm_letterCost (T := T) hT
  unfold lE
  split
  · rename_i e0
    refine hq_load (hm _ _ rfl) rfl rfl ?_
    refine hq_ifT (hm _ _ rfl) (zr2T e0) ?_
    refine hq_pushZ (w := 2) (hm _ _ rfl) rfl ?_
    refine hq_goto (hm _ _ rfl) ?_
    exact hq_ret (hm _ _ rfl) ⟨rfl, rfl⟩
  · rename_i e0
    split
    · rename_i e1
      refine hq_load (hm _ _ rfl) rfl rfl ?_
      refine hq_ifF (hm _ _ rfl) (zr2F e0) ?_
      refine hq_load (hm _ _ rfl) rfl rfl ?_
      refine hq_pushZ (w := 1) (hm _ _ rfl) rfl ?_
      refine hq_icT (hm _ _ rfl) (zr2T e1) ?_
      refine hq_pushZ (w := 1) (hm _ _ rfl) rfl ?_
      refine hq_goto (hm _ _ rfl) ?_
      exact hq_ret (hm _ _ rfl) ⟨rfl, rfl⟩
    · rename_i e1
      split
      · rename_i e3
        refine hq_load (hm _ _ rfl) rfl rfl ?_
        refine hq_ifF (hm _ _ rfl) (zr2F e0) ?_
        refine hq_load (hm _ _ rfl) rfl rfl ?_
        refine hq_pushZ (w := 1) (hm _ _ rfl) rfl ?_
        refine hq_icF (hm _ _ rfl) (zr2F e1) ?_
        refine hq_load (hm _ _ rfl) rfl rfl ?_
        refine hq_pushZ (w := 3) (hm _ _ rfl) rfl ?_
        refine hq_icT (hm _ _ rfl) (zr2T e3) ?_
        refine hq_pushZ (w := 5) (hm _ _ rfl) rfl ?_
        refine hq_goto (hm _ _ rfl) ?_
        exact hq_ret (hm _ _ rfl) ⟨rfl, rfl⟩
      · rename_i e3
        split
        · rename_i e4
          refine hq_load (hm _ _ rfl) rfl rfl ?_
          refine hq_ifF (hm _ _ rfl) (zr2F e0) ?_
          refine hq_load (hm _ _ rfl) rfl rfl ?_
          refine hq_pushZ (w := 1) (hm _ _ rfl) rfl ?_
          refine hq_icF (hm _ _ rfl) (zr2F e1) ?_
          refine hq_load (hm _ _ rfl) rfl rfl ?_
          refine hq_pushZ (w := 3) (hm _ _ rfl) rfl ?_
          refine hq_icF (hm _ _ rfl) (zr2F e3) ?_
          refine hq_load (hm _ _ rfl) rfl rfl ?_
          refine hq_pushZ (w := 4) (hm _ _ rfl) rfl ?_
          refine hq_icT (hm _ _ rfl) (zr2T e4) ?_
          refine hq_pushZ (w := 3) (hm _ _ rfl) rfl ?_
          refine hq_goto (hm _ _ rfl) ?_
          exact hq_ret (hm _ _ rfl) ⟨rfl, rfl⟩
        · rename_i e4
          refine hq_load (hm _ _ rfl) rfl rfl ?_
          refine hq_ifF (hm _ _ rfl) (zr2F e0) ?_
          refine hq_load (hm _ _ rfl) rfl rfl ?_
          refine hq_pushZ (w := 1) (hm _ _ rfl) rfl ?_
          refine hq_icF (hm _ _ rfl) (zr2F e1) ?_
          refine hq_load (hm _ _ rfl) rfl rfl ?_
          refine hq_pushZ (w := 3) (hm _ _ rfl) rfl ?_
          refine hq_icF (hm _ _ rfl) (zr2F e3) ?_
          refine hq_load (hm _ _ rfl) rfl rfl ?_
          refine hq_pushZ (w := 4) (hm _ _ rfl) rfl ?_
          refine hq_icF (hm _ _ rfl) (zr2F e4) ?_
          refine hq_pushZ (w := 4) (hm _ _ rfl) rfl ?_
          exact hq_ret (hm _ _ rfl) ⟨rfl, rfl⟩
theorem lE_b (x : Int) : 1 ≤ lE x ∧ lE x ≤ 5 := by
  unfold lE
  split <;> (try split) <;> (try split) <;> (try split) <;> omega
def cR (h : zH) (cell : Int) : Int := lE (hc h (5 + cell).toNat) + hc h (53 + cell).toNat
theorem cR_b (hp : hHp h) {cell : Int} (h1 : 0 ≤ cell) (h2 : cell < 48) : (1 ≤ cR h cell ∧ cR h cell ≤ 14) ∧ 0 ≤ hc h (53 + cell).toNat ∧ hc h (53 + cell).toNat ≤ 9 := by
  obtain ⟨-, -, -, -, -, b2, -⟩ := id hp
  have b := (b2 cell.toNat (by omega)).2
  rw [show 53 + cell.toNat = (53 + cell).toNat by omega] at b
  have l := lE_b (hc h (5 + cell).toNat)
  unfold cR
  omega
theorem r_crumbsOf (hT : hTab T) (hp : hHp h) {cell : Int} (h1 : 0 ≤ cell) (h2 : cell < 48) : zRun D T (d + 1) 215 0 (h, zargs 0 [(2, 121), (0, cell)], []) (h, some (0, cR h cell)) := by
  have hm := hm_crumbsOf (T := T) hT
  have cb := cR_b hp h1 h2
  refine hq_load (hm _ _ rfl) rfl rfl ?_
  refine hq_getf (hm _ _ rfl) rfl hp.c ?_
  refine hq_pushZ (w := 5) (hm _ _ rfl) rfl ?_
  refine hq_load (hm _ _ rfl) rfl rfl ?_
  refine hq_bin (hm _ _ rfl) (hq_add (by omega) (by omega)) ?_
  refine hq_ald (hm _ _ rfl) (za126 (by omega) (by omega)) (hKd hp (by omega)) ?_
  refine hq_call (hm _ _ rfl) rfl ⟨Nat.le_of_ble_eq_true rfl, Nat.le_of_ble_eq_true rfl, fun h => absurd h (by decide)⟩ (r_letterCost hT) ?_
  refine hq_load (hm _ _ rfl) rfl rfl ?_
  refine hq_getf (hm _ _ rfl) rfl hp.c ?_
  refine hq_pushZ (w := 53) (hm _ _ rfl) rfl ?_
  refine hq_load (hm _ _ rfl) rfl rfl ?_
  refine hq_bin (hm _ _ rfl) (hq_add (by omega) (by omega)) ?_
  refine hq_ald (hm _ _ rfl) (za126 (by omega) (by omega)) (hKd hp (by omega)) ?_
  refine hq_bin (hm _ _ rfl) (hq_add (by show _ ≤ cR h cell; omega) (by show cR h cell < _; omega)) ?_
  exact hq_ret (hm _ _ rfl) ⟨rfl, rfl⟩
theorem r_state (hT : hTab T) {copy cell : Int} (h0 : 0 ≤ copy ∧ copy ≤ 2) (h1 : 0 ≤ cell) (h2 : cell < 48) : zRun D T (d) 313 0 (h, zargs 0 [(0, copy), (0, cell)], []) (h, some (0, 101 + 48 * copy + cell)) := by
  have hm := hm_state (T := T) hT
  refine hq_pushZ (w := 101) (hm _ _ rfl) rfl ?_
  refine hq_pushZ (w := 48) (hm _ _ rfl) rfl ?_
  refine hq_load (hm _ _ rfl) rfl rfl ?_
  refine hq_bin (hm _ _ rfl) (hq_mul (by omega) (by omega)) ?_
  refine hq_bin (hm _ _ rfl) (hq_add (by omega) (by omega)) ?_
  refine hq_load (hm _ _ rfl) rfl rfl ?_
  refine hq_bin (hm _ _ rfl) (hq_add (by omega) (by omega)) ?_
  exact hq_ret (hm _ _ rfl) ⟨rfl, rfl⟩
theorem r_stateOf (hT : hTab T) (hp : hHp h) {copy cell : Int} (h0 : 0 ≤ copy ∧ copy ≤ 2) (h1 : 0 ≤ cell) (h2 : cell < 48) : zRun D T (d + 1) 314 0 (h, zargs 0 [(2, 121), (0, copy), (0, cell)], []) (h, some (0, hc h (101 + 48 * copy + cell).toNat)) := by
  have hm := hm_stateOf (T := T) hT
  refine hq_load (hm _ _ rfl) rfl rfl ?_
  refine hq_getf (hm _ _ rfl) rfl hp.c ?_
  refine hq_load (hm _ _ rfl) rfl rfl ?_
  refine hq_load (hm _ _ rfl) rfl rfl ?_
  refine hq_call (hm _ _ rfl) rfl ⟨Nat.le_of_ble_eq_true rfl, Nat.le_of_ble_eq_true rfl, fun h => absurd h (by decide)⟩ (r_state hT h0 h1 h2) ?_
  refine hq_ald (hm _ _ rfl) (za126 (by omega) (by omega)) (hKd hp (by omega)) ?_
  exact hq_ret (hm _ _ rfl) ⟨rfl, rfl⟩
def cS (h : zH) (copy cell : Int) : Int := if copy < 0 then 0 else hc h (101 + 48 * copy + cell).toNat
def cE (h : zH) (copy cell : Int) : Int := if cS h copy cell = 2 then 5 + hc h (53 + cell).toNat else if cS h copy cell > 0 ∨ hc h (5 + cell).toNat = 3 then 1000000 else cR h cell
theorem cE_b (hp : hHp h) {copy cell : Int} (h1 : 0 ≤ cell) (h2 : cell < 48) : (1 ≤ cE h copy cell ∧ cE h copy cell ≤ 14) ∨ cE h copy cell = 1000000 := by
  have cb := cR_b hp h1 h2
  unfold cE
  split
  · left; omega
  · split
    · right; rfl
    · left; omega
theorem r_costOf (hT : hTab T) (hp : hHp h) {copy cell : Int} (h0 : -1 ≤ copy ∧ copy ≤ 2) (h1 : 0 ≤ cell) (h2 : cell < 48) : zRun D T (d + 2) 212 0 (h, zargs 0 [(2, 121), (0, copy), (0, cell)], []) (h, some (0, cE h copy cell)) := by
  have hm := hm_costOf (T := T) hT
  have cb := cR_b hp h1 h2
  have k14 : zRun D T (d + 2) 212 14 (h, zargs 0 [(2, 121), (0, copy), (0, cell)], [(0, cS h copy cell)]) (h, some (0, cE h copy cell)) := by
    refine hq_store (hm _ _ rfl) ⟨rfl, Nat.ne_of_beq_eq_false rfl⟩ ?_
    unfold cE
    split
    · rename_i e2
      refine hq_load (hm _ _ rfl) rfl rfl ?_
      refine hq_pushZ (w := 2) (hm _ _ rfl) rfl ?_
      refine hq_icT (hm _ _ rfl) (zr2T e2) ?_
      refine hq_pushZ (w := 5) (hm _ _ rfl) rfl ?_
      refine hq_load (hm _ _ rfl) rfl rfl ?_
      refine hq_getf (hm _ _ rfl) rfl hp.c ?_
      refine hq_pushZ (w := 53) (hm _ _ rfl) rfl ?_
      refine hq_load (hm _ _ rfl) rfl rfl ?_
      refine hq_bin (hm _ _ rfl) (hq_add (by omega) (by omega)) ?_
      refine hq_ald (hm _ _ rfl) (za126 (by omega) (by omega)) (hKd hp (by omega)) ?_
      refine hq_bin (hm _ _ rfl) (hq_add (by omega) (by omega)) ?_
      exact hq_ret (hm _ _ rfl) ⟨rfl, rfl⟩
    · rename_i e2
      split
      · rename_i e3
        by_cases e4 : cS h copy cell > 0
        · refine hq_load (hm _ _ rfl) rfl rfl ?_
          refine hq_pushZ (w := 2) (hm _ _ rfl) rfl ?_
          refine hq_icF (hm _ _ rfl) (zr2F e2) ?_
          refine hq_load (hm _ _ rfl) rfl rfl ?_
          refine hq_ifT (hm _ _ rfl) (zr1T e4) ?_
          refine hq_pushZ (w := 1000000) (hm _ _ rfl) rfl ?_
          refine hq_goto (hm _ _ rfl) ?_
          exact hq_ret (hm _ _ rfl) ⟨rfl, rfl⟩
        · refine hq_load (hm _ _ rfl) rfl rfl ?_
          refine hq_pushZ (w := 2) (hm _ _ rfl) rfl ?_
          refine hq_icF (hm _ _ rfl) (zr2F e2) ?_
          refine hq_load (hm _ _ rfl) rfl rfl ?_
          refine hq_ifF (hm _ _ rfl) (zr1F (by omega)) ?_
          refine hq_load (hm _ _ rfl) rfl rfl ?_
          refine hq_getf (hm _ _ rfl) rfl hp.c ?_
          refine hq_pushZ (w := 5) (hm _ _ rfl) rfl ?_
          refine hq_load (hm _ _ rfl) rfl rfl ?_
          refine hq_bin (hm _ _ rfl) (hq_add (by omega) (by omega)) ?_
          refine hq_ald (hm _ _ rfl) (za126 (by omega) (by omega)) (hKd hp (by omega)) ?_
          refine hq_pushZ (w := 3) (hm _ _ rfl) rfl ?_
          refine hq_icT (hm _ _ rfl) (zr2T (e3.resolve_left e4)) ?_
          refine hq_pushZ (w := 1000000) (hm _ _ rfl) rfl ?_
          refine hq_goto (hm _ _ rfl) ?_
          exact hq_ret (hm _ _ rfl) ⟨rfl, rfl⟩
      · rename_i e3
        refine hq_load (hm _ _ rfl) rfl rfl ?_
        refine hq_pushZ (w := 2) (hm _ _ rfl) rfl ?_
        refine hq_icF (hm _ _ rfl) (zr2F e2) ?_
        refine hq_load (hm _ _ rfl) rfl rfl ?_
        refine hq_ifF (hm _ _ rfl) (zr1F (by omega)) ?_
        refine hq_load (hm _ _ rfl) rfl rfl ?_
        refine hq_getf (hm _ _ rfl) rfl hp.c ?_
        refine hq_pushZ (w := 5) (hm _ _ rfl) rfl ?_
        refine hq_load (hm _ _ rfl) rfl rfl ?_
        refine hq_bin (hm _ _ rfl) (hq_add (by omega) (by omega)) ?_
        refine hq_ald (hm _ _ rfl) (za126 (by omega) (by omega)) (hKd hp (by omega)) ?_
        refine hq_pushZ (w := 3) (hm _ _ rfl) rfl ?_
        refine hq_icF (hm _ _ rfl) (zr2F (fun e => e3 (Or.inr e))) ?_
        refine hq_load (hm _ _ rfl) rfl rfl ?_
        refine hq_load (hm _ _ rfl) rfl rfl ?_
        refine hq_call (hm _ _ rfl) rfl ⟨Nat.le_of_ble_eq_true rfl, Nat.le_of_ble_eq_true rfl, fun _ => rfl⟩ (r_crumbsOf hT hp h1 h2) ?_
        exact hq_ret (hm _ _ rfl) ⟨rfl, rfl⟩
  by_cases w : copy < 0
  · rw [show cS h copy cell = 0 from if_pos w] at k14
    refine hq_load (hm _ _ rfl) rfl rfl ?_
    refine hq_ifT (hm _ _ rfl) (zr0T w) ?_
    refine hq_pushZ (w := 0) (hm _ _ rfl) rfl ?_
    refine hq_goto (hm _ _ rfl) ?_
    exact k14
  · rw [show cS h copy cell = hc h (101 + 48 * copy + cell).toNat from if_neg w] at k14
    refine hq_load (hm _ _ rfl) rfl rfl ?_
    refine hq_ifF (hm _ _ rfl) (zr0F (by omega)) ?_
    refine hq_load (hm _ _ rfl) rfl rfl ?_
    refine hq_load (hm _ _ rfl) rfl rfl ?_
    refine hq_load (hm _ _ rfl) rfl rfl ?_
    refine hq_call (hm _ _ rfl) rfl ⟨Nat.le_of_ble_eq_true rfl, Nat.le_of_ble_eq_true rfl, fun _ => rfl⟩ (r_stateOf hT hp (by omega) h1 h2) ?_
    exact k14
def gE (h : zH) (copy cell way : Int) : Int := if bE h cell way < 0 ∨ cE h copy (bE h cell way) = 1000000 ∨ hout h (bE h cell way).toNat = 1000000 then 1000000 else 100 * cE h copy (bE h cell way) + 1 + hout h (bE h cell way).toNat
theorem r_goesBy (hT : hTab T) (hp : hHp h) {copy cell way : Int} (h0 : -1 ≤ copy ∧ copy ≤ 2) (h1 : 0 ≤ cell) (h2 : cell < 48) : zRun D T (d + 3) 232 0 (h, zargs 0 [(2, 121), (0, copy), (0, cell), (0, way)], []) (h, some (0, gE h copy cell way)) := by
  have hm := hm_goesBy (T := T) hT
  have bb := bE_b hp cell way
  refine hq_load (hm _ _ rfl) rfl rfl ?_
  refine hq_load (hm _ _ rfl) rfl rfl ?_
  refine hq_load (hm _ _ rfl) rfl rfl ?_
  refine hq_call (hm _ _ rfl) rfl ⟨Nat.le_of_ble_eq_true rfl, Nat.le_of_ble_eq_true rfl, fun _ => rfl⟩ (r_beside hT hp h1 h2) ?_
  refine hq_store (hm _ _ rfl) ⟨rfl, Nat.ne_of_beq_eq_false rfl⟩ ?_
  by_cases e1 : bE h cell way < 0
  · rw [show gE h copy cell way = 1000000 from if_pos (Or.inl e1)]
    refine hq_load (hm _ _ rfl) rfl rfl ?_
    refine hq_ifT (hm _ _ rfl) (zr0T e1) ?_
    refine hq_pushZ (w := 1000000) (hm _ _ rfl) rfl ?_
    exact hq_ret (hm _ _ rfl) ⟨rfl, rfl⟩
  by_cases e2 : cE h copy (bE h cell way) = 1000000
  · rw [show gE h copy cell way = 1000000 from if_pos (Or.inr (Or.inl e2))]
    refine hq_load (hm _ _ rfl) rfl rfl ?_
    refine hq_ifF (hm _ _ rfl) (zr0F (by omega)) ?_
    refine hq_load (hm _ _ rfl) rfl rfl ?_
    refine hq_load (hm _ _ rfl) rfl rfl ?_
    refine hq_load (hm _ _ rfl) rfl rfl ?_
    refine hq_call (hm _ _ rfl) rfl ⟨Nat.le_of_ble_eq_true rfl, Nat.le_of_ble_eq_true rfl, fun _ => rfl⟩ (r_costOf hT hp h0 (by omega) (by omega)) ?_
    refine hq_pushZ (w := 1000000) (hm _ _ rfl) rfl ?_
    refine hq_icT (hm _ _ rfl) (zr2T e2) ?_
    refine hq_pushZ (w := 1000000) (hm _ _ rfl) rfl ?_
    exact hq_ret (hm _ _ rfl) ⟨rfl, rfl⟩
  by_cases e3 : hout h (bE h cell way).toNat = 1000000
  · rw [show gE h copy cell way = 1000000 from if_pos (Or.inr (Or.inr e3))]
    refine hq_load (hm _ _ rfl) rfl rfl ?_
    refine hq_ifF (hm _ _ rfl) (zr0F (by omega)) ?_
    refine hq_load (hm _ _ rfl) rfl rfl ?_
    refine hq_load (hm _ _ rfl) rfl rfl ?_
    refine hq_load (hm _ _ rfl) rfl rfl ?_
    refine hq_call (hm _ _ rfl) rfl ⟨Nat.le_of_ble_eq_true rfl, Nat.le_of_ble_eq_true rfl, fun _ => rfl⟩ (r_costOf hT hp h0 (by omega) (by omega)) ?_
    refine hq_pushZ (w := 1000000) (hm _ _ rfl) rfl ?_
    refine hq_icF (hm _ _ rfl) (zr2F e2) ?_
    refine hq_load (hm _ _ rfl) rfl rfl ?_
    refine hq_getf (hm _ _ rfl) rfl hp.o ?_
    refine hq_load (hm _ _ rfl) rfl rfl ?_
    refine hq_ald (hm _ _ rfl) (za130 (by omega) (by omega)) (hKo hp (by omega)) ?_
    refine hq_pushZ (w := 1000000) (hm _ _ rfl) rfl ?_
    refine hq_icT (hm _ _ rfl) (zr2T e3) ?_
    refine hq_pushZ (w := 1000000) (hm _ _ rfl) rfl ?_
    exact hq_ret (hm _ _ rfl) ⟨rfl, rfl⟩
  have cb := (cE_b hp (copy := copy) (cell := bE h cell way) (by omega) (by omega)).resolve_right e2
  have ob := (hp.2.2.1 (bE h cell way).toNat (by omega)).2
  rw [show gE h copy cell way = 100 * cE h copy (bE h cell way) + 1 + hout h (bE h cell way).toNat from if_neg (fun e => e.elim e1 (fun e => e.elim e2 e3))]
  refine hq_load (hm _ _ rfl) rfl rfl ?_
  refine hq_ifF (hm _ _ rfl) (zr0F (by omega)) ?_
  refine hq_load (hm _ _ rfl) rfl rfl ?_
  refine hq_load (hm _ _ rfl) rfl rfl ?_
  refine hq_load (hm _ _ rfl) rfl rfl ?_
  refine hq_call (hm _ _ rfl) rfl ⟨Nat.le_of_ble_eq_true rfl, Nat.le_of_ble_eq_true rfl, fun _ => rfl⟩ (r_costOf hT hp h0 (by omega) (by omega)) ?_
  refine hq_pushZ (w := 1000000) (hm _ _ rfl) rfl ?_
  refine hq_icF (hm _ _ rfl) (zr2F e2) ?_
  refine hq_load (hm _ _ rfl) rfl rfl ?_
  refine hq_getf (hm _ _ rfl) rfl hp.o ?_
  refine hq_load (hm _ _ rfl) rfl rfl ?_
  refine hq_ald (hm _ _ rfl) (za130 (by omega) (by omega)) (hKo hp (by omega)) ?_
  refine hq_pushZ (w := 1000000) (hm _ _ rfl) rfl ?_
  refine hq_icF (hm _ _ rfl) (zr2F e3) ?_
  refine hq_pushZ (w := 100) (hm _ _ rfl) rfl ?_
  refine hq_load (hm _ _ rfl) rfl rfl ?_
  refine hq_load (hm _ _ rfl) rfl rfl ?_
  refine hq_load (hm _ _ rfl) rfl rfl ?_
  refine hq_call (hm _ _ rfl) rfl ⟨Nat.le_of_ble_eq_true rfl, Nat.le_of_ble_eq_true rfl, fun _ => rfl⟩ (r_costOf hT hp h0 (by omega) (by omega)) ?_
  refine hq_bin (hm _ _ rfl) (hq_mul (by omega) (by omega)) ?_
  refine hq_pushZ (w := 1) (hm _ _ rfl) rfl ?_
  refine hq_bin (hm _ _ rfl) (hq_add (by omega) (by omega)) ?_
  refine hq_load (hm _ _ rfl) rfl rfl ?_
  refine hq_getf (hm _ _ rfl) rfl hp.o ?_
  refine hq_load (hm _ _ rfl) rfl rfl ?_
  refine hq_ald (hm _ _ rfl) (za130 (by omega) (by omega)) (hKo hp (by omega)) ?_
  refine hq_bin (hm _ _ rfl) (hq_add (by omega) (by omega)) ?_
  exact hq_ret (hm _ _ rfl) ⟨rfl, rfl⟩
end HB
end
section
/-! wayOf BY HAND: it ends; what it leaves in out[] is stable and comes from somewhere -/
def hEq (h h' : zH) : Prop := ∀ r k, ¬ (r = 130 ∧ k < 48) → h' r k = h r k
theorem hEq.refl (h : zH) : hEq h h := fun _ _ _ => rfl
theorem hEq.trans {a b c : zH} (h1 : hEq a b) (h2 : hEq b c) : hEq a c := fun r k hn => (h2 r k hn).trans (h1 r k hn)
theorem heq_hc {h h' : zH} (e : hEq h h') (k : Nat) : hc h' k = hc h k := by
  show (h' 126 k).2 = (h 126 k).2
  rw [e 126 k (fun c => by omega)]
theorem heq_bE {h h' : zH} (e : hEq h h') (cell way : Int) : bE h' cell way = bE h cell way := by
  unfold bE bX bY
  rw [heq_hc e 0, heq_hc e 1]
theorem heq_cE {h h' : zH} (e : hEq h h') (copy cell : Int) : cE h' copy cell = cE h copy cell := by
  unfold cE cS cR
  simp only [heq_hc e]
def hDn (h h' : zH) : Prop := ∀ k, k < 48 → hout h' k ≤ hout h k
theorem gE_mono {h h' : zH} (hp : hHp h) (e : hEq h h') (hd : hDn h h') {copy cell way : Int} (hn : gE h copy cell way < 1000000) : gE h' copy cell way ≤ gE h copy cell way := by
  have bb := bE_b hp cell way
  unfold gE at hn ⊢
  rw [heq_bE e, heq_cE e]
  split at hn
  · omega
  · rename_i hf
    rw [if_neg hf]
    have d1 := hd (bE h cell way).toNat (by omega)
    have o1 := (hp.2.2.1 (bE h cell way).toNat (by omega)).2
    rw [if_neg (fun c => by
      rcases c with c | c | c
      · exact hf (Or.inl c)
      · exact hf (Or.inr (Or.inl c))
      · omega)]
    omega
theorem gE_low {h : zH} (hp : hHp h) {copy cell way : Int} : (gE h copy cell way = 1000000) ∨ (0 ≤ bE h cell way ∧ bE h cell way < hc h 0 * hc h 1 ∧ bE h cell way < 48 ∧ hout h (bE h cell way).toNat < gE h copy cell way ∧ hout h (bE h cell way).toNat < 1000000 ∧ 0 ≤ gE h copy cell way ∧ gE h copy cell way ≤ 1002000) := by
  have bb := bE_b hp cell way
  unfold gE
  split
  · left; rfl
  · rename_i hf
    right
    have c0 : ¬ bE h cell way < 0 := fun e => hf (Or.inl e)
    have c2 : hout h (bE h cell way).toNat ≠ 1000000 := fun e => hf (Or.inr (Or.inr e))
    have c1 := (cE_b hp (copy := copy) (cell := bE h cell way) (by omega) (by omega)).resolve_right (fun e => hf (Or.inr (Or.inl e)))
    have o1 := (hp.2.2.1 (bE h cell way).toNat (by omega)).2
    omega
def hInv (copy to : Int) (h : zH) : Prop := ∀ cell : Int, 0 ≤ cell → cell < hc h 0 * hc h 1 → cell ≠ to → hout h cell.toNat < 1000000 → ∃ way : Int, 0 ≤ way ∧ way < 4 ∧ gE h copy cell way ≤ hout h cell.toNat
def hStb (copy : Int) (h : zH) : Prop := ∀ cell way : Int, 0 ≤ cell → cell < hc h 0 * hc h 1 → 0 ≤ way → way < 4 → hout h cell.toNat ≤ gE h copy cell way
def hsum (h : zH) : Nat → Int
  | 0 => 0
  | n + 1 => hsum h n + hout h n
theorem hout_set {h : zH} {k j : Nat} {v : Int} : hout (zset h 130 k (0, v)) j = if j = k then v else hout h j := by
  show (if (130 : Nat) = 130 ∧ j = k then ((0, v) : zV) else h 130 j).2 = _
  by_cases e : j = k
  · rw [if_pos ⟨rfl, e⟩, if_pos e]
  · rw [if_neg (fun c => e c.2), if_neg e]; rfl
theorem hsum_set {h : zH} {k : Nat} {v : Int} : ∀ n, hsum (zset h 130 k (0, v)) n = hsum h n + (if k < n then v - hout h k else 0)
  | 0 => by rw [if_neg (by omega)]; rfl
  | n + 1 => by
    show hsum (zset h 130 k (0, v)) n + hout (zset h 130 k (0, v)) n = hsum h n + hout h n + _
    rw [hsum_set n, hout_set]
    by_cases e : n = k
    · subst e
      rw [if_pos rfl, if_neg (by omega), if_pos (by omega)]; omega
    · rw [if_neg e]
      by_cases e2 : k < n
      · rw [if_pos e2, if_pos (by omega)]; omega
      · rw [if_neg e2, if_neg (by omega)]; omega
theorem hsum_nn {h : zH} (hp : hHp h) : ∀ n, n ≤ 48 → 0 ≤ hsum h n
  | 0, _ => Int.le_refl 0
  | n + 1, hn => by
    have := hsum_nn hp n (by omega)
    have o := (hp.2.2.1 n (by omega)).2
    show 0 ≤ hsum h n + hout h n
    omega
theorem hEq_set {h : zH} {k : Nat} {v : zV} (hk : k < 48) : hEq h (zset h 130 k v) := fun r j hn => if_neg (fun c => hn ⟨c.1, by omega⟩)
theorem hHp.set {h : zH} (hp : hHp h) {k : Nat} {v : Int} (h1 : 0 ≤ v) (h2 : v ≤ 1000000) (hk : k < 48) : hHp (zset h 130 k (0, v)) := by
  have e := hEq_set (h := h) (v := (0, v)) hk
  obtain ⟨⟨a1, a2, a3⟩, a4, a5, a6, a7, a8, a9⟩ := hp
  refine ⟨⟨?_, ?_, ?_⟩, fun j hj => ?_, fun j hj => ?_, ?_, ?_, fun j hj => ?_, fun j hj => ?_⟩
  · rw [e _ _ (fun c => by omega)]; exact a1
  · rw [e _ _ (fun c => by omega)]; exact a2
  · rw [e _ _ (fun c => by omega)]; exact a3
  · rw [e _ _ (fun c => by omega)]; exact a4 j hj
  · rw [hout_set]
    by_cases c : j = k
    · rw [if_pos c]
      exact ⟨by show (if (130 : Nat) = 130 ∧ j = k then ((0, v) : zV) else h 130 j).1 = 0; rw [if_pos ⟨rfl, c⟩], h1, h2⟩
    · rw [if_neg c]
      exact ⟨by show (if (130 : Nat) = 130 ∧ j = k then ((0, v) : zV) else h 130 j).1 = 0; rw [if_neg (fun x => c x.2)]; exact (a5 j hj).1, (a5 j hj).2⟩
  · rw [heq_hc e]; exact a6
  · rw [heq_hc e]; exact a7
  · rw [heq_hc e, heq_hc e]; exact a8 j hj
  · rw [heq_hc e]; exact a9 j hj
-- a better way is written
theorem hInv.set {h : zH} (hp : hHp h) {copy to cell way : Int} (hi : hInv copy to h) (c1 : 0 ≤ cell) (c2 : cell < hc h 0 * hc h 1) (w1 : 0 ≤ way) (w2 : way < 4) (hv : gE h copy cell way < hout h cell.toNat) : hInv copy to (zset h 130 cell.toNat (0, gE h copy cell way)) ∧ hsum (zset h 130 cell.toNat (0, gE h copy cell way)) 48 < hsum h 48 ∧ hHp (zset h 130 cell.toNat (0, gE h copy cell way)) ∧ hEq h (zset h 130 cell.toNat (0, gE h copy cell way)) := by
  have cb := bE_b hp cell way
  have o1 := (hp.2.2.1 cell.toNat (by omega)).2
  have gl := (gE_low hp (copy := copy) (cell := cell) (way := way)).resolve_left (by omega)
  have e : hEq h (zset h 130 cell.toNat (0, gE h copy cell way)) := hEq_set (by omega)
  have hd : hDn h (zset h 130 cell.toNat (0, gE h copy cell way)) := fun k hk => by
    rw [hout_set]
    by_cases c : k = cell.toNat
    · rw [if_pos c, c]; omega
    · rw [if_neg c]; omega
  refine ⟨fun x x1 x2 x3 x4 => ?_, ?_, hp.set (by omega) (by omega) (by omega), e⟩
  · rw [heq_hc e, heq_hc e] at x2
    rw [hout_set] at x4 ⊢
    by_cases c : x.toNat = cell.toNat
    · have c' : x = cell := by omega
      rw [if_pos c, c']
      exact ⟨way, w1, w2, gE_mono hp e hd (by omega)⟩
    · rw [if_neg c] at x4 ⊢
      obtain ⟨w, y1, y2, y3⟩ := hi x x1 x2 x3 x4
      exact ⟨w, y1, y2, Int.le_trans (gE_mono hp e hd (by omega)) y3⟩
  · rw [hsum_set, if_pos (by omega)]; omega
/-! its locals -/
def hwV (x : Option Int) : Option zV := match x with
  | some x => some (0, x)
  | none => none
def hw (a b c : Int) (m ce w v : Option Int) : zL := fun k => match k with
  | 0 => some (2, 121)
  | 1 => some (0, a)
  | 2 => some (0, b)
  | 3 => some (0, c)
  | 4 => hwV m
  | 5 => hwV ce
  | 6 => hwV w
  | 7 => hwV v
  | _ => none
theorem hwV_put {x : Option Int} {p : Prop} [Decidable p] : (match hwV x with
  | some w => if p ∧ zcat w = 2 then none else some w
  | none => none) = hwV x := by
  cases x with
  | none => rfl
  | some x => exact if_neg (fun c => absurd c.2 (Nat.ne_of_beq_eq_false rfl))
section LW
variable {a b c x : Int} {m ce w v : Option Int}
theorem hw_p4 : zput1 (hw a b c m ce w v) 4 (0, x) = hw a b c (some x) ce w v := by
  funext k
  match k with
  | 0 => rfl
  | 1 => rfl
  | 2 => rfl
  | 3 => rfl
  | 4 => rfl
  | 5 => exact hwV_put
  | 6 => exact hwV_put
  | 7 => exact hwV_put
  | k + 8 => exact if_neg (by omega)
theorem hw_p5 : zput1 (hw a b c m ce w v) 5 (0, x) = hw a b c m (some x) w v := by
  funext k
  match k with
  | 0 => rfl
  | 1 => rfl
  | 2 => rfl
  | 3 => rfl
  | 4 => exact hwV_put
  | 5 => rfl
  | 6 => exact hwV_put
  | 7 => exact hwV_put
  | k + 8 => exact if_neg (by omega)
theorem hw_p6 : zput1 (hw a b c m ce w v) 6 (0, x) = hw a b c m ce (some x) v := by
  funext k
  match k with
  | 0 => rfl
  | 1 => rfl
  | 2 => rfl
  | 3 => rfl
  | 4 => exact hwV_put
  | 5 => exact hwV_put
  | 6 => rfl
  | 7 => exact hwV_put
  | k + 8 => exact if_neg (by omega)
theorem hw_p7 : zput1 (hw a b c m ce w v) 7 (0, x) = hw a b c m ce w (some x) := by
  funext k
  match k with
  | 0 => rfl
  | 1 => rfl
  | 2 => rfl
  | 3 => rfl
  | 4 => exact hwV_put
  | 5 => exact hwV_put
  | 6 => exact hwV_put
  | 7 => rfl
  | k + 8 => exact if_neg (by omega)
theorem hw_args : zargs 0 [(2, 121), (0, a), (0, b), (0, c)] = hw a b c none none none none := by
  funext k
  match k with
  | 0 => rfl
  | 1 => rfl
  | 2 => rfl
  | 3 => rfl
  | 4 => rfl
  | 5 => rfl
  | 6 => rfl
  | 7 => rfl
  | k + 8 =>
    show (if k + 8 = 0 then some ((2, 121) : zV) else if k + 8 = 1 then some (0, a) else if k + 8 = 2 then some (0, b) else if k + 8 = 3 then some (0, c) else none) = none
    rw [if_neg (by omega), if_neg (by omega), if_neg (by omega), if_neg (by omega)]
end LW
section WO
variable {D : zD} {T : zT} {d : Nat} {copy from_ to : Int}
-- better, or nothing was better
def hRel (copy : Int) (P : Int → Int → Prop) (h : zH) (more : Int) (h' : zH) (more' : Int) : Prop := (more' = more ∧ h' = h ∧ ∀ cell way, P cell way → hout h cell.toNat ≤ gE h copy cell way) ∨ (more' = 1 ∧ hsum h' 48 < hsum h 48)
def hGood (copy to : Int) (h : zH) : Prop := hHp h ∧ hInv copy to h
theorem w_ways (hT : hTab T) (c0 : -1 ≤ copy ∧ copy ≤ 2) {cell : Int} (c1 : 0 ≤ cell) : ∀ (n : Nat) (h : zH) (more : Int) (v : Option Int), n ≤ 4 → hGood copy to h → cell < hc h 0 * hc h 1 → ∃ h' more' v', hGood copy to h' ∧ hEq h h' ∧ hRel copy (fun c w => c = cell ∧ 4 - (n : Int) ≤ w ∧ w < 4) h more h' more' ∧ ∀ zr, zRun D T (d + 4) 336 111 (h', hw copy from_ to (some more') (some cell) (some 4) v', []) zr → zRun D T (d + 4) 336 61 (h, hw copy from_ to (some more) (some cell) (some (4 - (n : Int))) v, []) zr
  | 0, h, more, v, hn, hg, c2 => by
    have hm := hm_wayOf (T := T) hT
    refine ⟨h, more, v, hg, hEq.refl h, Or.inl ⟨rfl, rfl, fun c w hx => by omega⟩, fun zr k => ?_⟩
    rw [show (4 : Int) - ((0 : Nat) : Int) = 4 by omega]
    refine hq_load (hm _ _ rfl) rfl rfl ?_
    refine hq_pushZ (w := 4) (hm _ _ rfl) rfl ?_
    refine hq_icF (hm _ _ rfl) (zr0F (by omega)) ?_
    exact k
  | n + 1, h, more, v, hn, hg, c2 => by
    have hm := hm_wayOf (T := T) hT
    have hp := hg.1
    have cb := (bE_b hp cell 0).2.2
    obtain ⟨way, hway⟩ : ∃ way : Int, way = 4 - ((n + 1 : Nat) : Int) := ⟨_, rfl⟩
    rw [← hway]
    by_cases hlt : gE h copy cell way < hout h cell.toNat
    · obtain ⟨i1, i2, i3, i4⟩ := hInv.set hp (way := way) hg.2 c1 c2 (by omega) (by omega) hlt
      obtain ⟨h', more', v', g1, g2, g3, g4⟩ := w_ways hT c0 c1 n (zset h 130 cell.toNat (0, gE h copy cell way)) 1 (some (gE h copy cell way)) (by omega) ⟨i3, i1⟩ (by rw [heq_hc i4, heq_hc i4]; exact c2)
      refine ⟨h', more', v', g1, i4.trans g2, Or.inr ?_, fun zr k => ?_⟩
      · rcases g3 with ⟨e1, e2, -⟩ | ⟨e1, e2⟩
        · exact ⟨e1, by rw [e2]; exact i2⟩
        · exact ⟨e1, by omega⟩
      · have k := g4 zr k
        rw [show (4 : Int) - (n : Int) = way + 1 by omega] at k
        refine hq_load (hm _ _ rfl) rfl rfl ?_
        refine hq_pushZ (w := 4) (hm _ _ rfl) rfl ?_
        refine hq_icT (hm _ _ rfl) (zr0T (by omega)) ?_
        refine hq_load (hm _ _ rfl) rfl rfl ?_
        refine hq_load (hm _ _ rfl) rfl rfl ?_
        refine hq_load (hm _ _ rfl) rfl rfl ?_
        refine hq_load (hm _ _ rfl) rfl rfl ?_
        refine hq_call (hm _ _ rfl) rfl ⟨Nat.le_of_ble_eq_true rfl, Nat.le_of_ble_eq_true rfl, fun _ => rfl⟩ (r_goesBy hT hp c0 c1 (by omega)) ?_
        refine hq_store (hm _ _ rfl) ⟨rfl, Nat.ne_of_beq_eq_false rfl⟩ ?_
        show zRun _ _ _ _ _ (h, zput1 (hw copy from_ to (some more) (some cell) (some way) v) 7 (0, gE h copy cell way), []) _
        rw [hw_p7]
        refine hq_load (hm _ _ rfl) rfl rfl ?_
        refine hq_load (hm _ _ rfl) rfl rfl ?_
        refine hq_getf (hm _ _ rfl) rfl hp.o ?_
        refine hq_load (hm _ _ rfl) rfl rfl ?_
        refine hq_ald (hm _ _ rfl) (za130 (by omega) (by omega)) (hKo hp (by omega)) ?_
        refine hq_icT (hm _ _ rfl) (zr0T hlt) ?_
        refine hq_load (hm _ _ rfl) rfl rfl ?_
        refine hq_getf (hm _ _ rfl) rfl hp.o ?_
        refine hq_load (hm _ _ rfl) rfl rfl ?_
        refine hq_load (hm _ _ rfl) rfl rfl ?_
        refine hq_ast (hm _ _ rfl) ⟨za130 (by omega) (by omega), rfl, by decide⟩ ?_
        refine hq_pushZ (w := 1) (hm _ _ rfl) rfl ?_
        refine hq_store (hm _ _ rfl) ⟨rfl, Nat.ne_of_beq_eq_false rfl⟩ ?_
        rw [hw_p4]
        refine hq_iincZ (u := 1) (hm _ _ rfl) rfl rfl (hq_inc (by omega) (by omega)) ?_
        rw [hw_p6]
        refine hq_goto (hm _ _ rfl) ?_
        exact k
    · obtain ⟨h', more', v', g1, g2, g3, g4⟩ := w_ways hT c0 c1 n h more (some (gE h copy cell way)) (by omega) hg c2
      refine ⟨h', more', v', g1, g2, ?_, fun zr k => ?_⟩
      · rcases g3 with ⟨e1, e2, e3⟩ | e
        · refine Or.inl ⟨e1, e2, fun c w hx => ?_⟩
          by_cases ew : w = way
          · rw [ew, hx.1]; omega
          · exact e3 c w ⟨hx.1, by omega, hx.2.2⟩
        · exact Or.inr e
      · have k := g4 zr k
        rw [show (4 : Int) - (n : Int) = way + 1 by omega] at k
        refine hq_load (hm _ _ rfl) rfl rfl ?_
        refine hq_pushZ (w := 4) (hm _ _ rfl) rfl ?_
        refine hq_icT (hm _ _ rfl) (zr0T (by omega)) ?_
        refine hq_load (hm _ _ rfl) rfl rfl ?_
        refine hq_load (hm _ _ rfl) rfl rfl ?_
        refine hq_load (hm _ _ rfl) rfl rfl ?_
        refine hq_load (hm _ _ rfl) rfl rfl ?_
        refine hq_call (hm _ _ rfl) rfl ⟨Nat.le_of_ble_eq_true rfl, Nat.le_of_ble_eq_true rfl, fun _ => rfl⟩ (r_goesBy hT hp c0 c1 (by omega)) ?_
        refine hq_store (hm _ _ rfl) ⟨rfl, Nat.ne_of_beq_eq_false rfl⟩ ?_
        show zRun _ _ _ _ _ (h, zput1 (hw copy from_ to (some more) (some cell) (some way) v) 7 (0, gE h copy cell way), []) _
        rw [hw_p7]
        refine hq_load (hm _ _ rfl) rfl rfl ?_
        refine hq_load (hm _ _ rfl) rfl rfl ?_
        refine hq_getf (hm _ _ rfl) rfl hp.o ?_
        refine hq_load (hm _ _ rfl) rfl rfl ?_
        refine hq_ald (hm _ _ rfl) (za130 (by omega) (by omega)) (hKo hp (by omega)) ?_
        refine hq_icF (hm _ _ rfl) (zr0F (by omega)) ?_
        refine hq_goto (hm _ _ rfl) ?_
        refine hq_iincZ (u := 1) (hm _ _ rfl) rfl rfl (hq_inc (by omega) (by omega)) ?_
        rw [hw_p6]
        refine hq_goto (hm _ _ rfl) ?_
        exact k
theorem w_cells (hT : hTab T) (c0 : -1 ≤ copy ∧ copy ≤ 2) : ∀ (n : Nat) (h : zH) (more cx : Int) (w v : Option Int), hGood copy to h → 0 ≤ cx → hc h 0 * hc h 1 - cx = (n : Int) → ∃ h' more' cx' w' v', hGood copy to h' ∧ hEq h h' ∧ hRel copy (fun c w => cx ≤ c ∧ c < hc h 0 * hc h 1 ∧ 0 ≤ w ∧ w < 4) h more h' more' ∧ ∀ zr, zRun D T (d + 4) 336 38 (h', hw copy from_ to (some more') (some cx') w' v', []) zr → zRun D T (d + 4) 336 49 (h, hw copy from_ to (some more) (some cx) w v, []) zr
  | 0, h, more, cx, w, v, hg, c1, hn => by
    have hm := hm_wayOf (T := T) hT
    have hp := hg.1
    refine ⟨h, more, cx, w, v, hg, hEq.refl h, Or.inl ⟨rfl, rfl, fun c w hx => by omega⟩, fun zr k => ?_⟩
    refine hq_load (hm _ _ rfl) rfl rfl ?_
    refine hq_load (hm _ _ rfl) rfl rfl ?_
    refine hq_call (hm _ _ rfl) rfl ⟨Nat.le_of_ble_eq_true rfl, Nat.le_of_ble_eq_true rfl, fun _ => rfl⟩ (r_cells hT hp) ?_
    refine hq_icF (hm _ _ rfl) (zr0F (by omega)) ?_
    refine hq_goto (hm _ _ rfl) ?_
    exact k
  | n + 1, h, more, cx, w, v, hg, c1, hn => by
    have hm := hm_wayOf (T := T) hT
    have hp := hg.1
    have cb := (bE_b hp cx 0).2.2
    obtain ⟨h1, more1, v1, g1, g2, g3, g4⟩ := w_ways (D := D) (d := d) (from_ := from_) (to := to) hT c0 c1 4 h more v (Nat.le_refl 4) hg (by omega)
    have q0 := heq_hc g2 0
    have q1 := heq_hc g2 1
    obtain ⟨h', more', cx', w', v', k1, k2, k3, k4⟩ := w_cells hT c0 n h1 more1 (cx + 1) (some 4) v1 g1 (by omega) (by rw [q0, q1]; omega)
    refine ⟨h', more', cx', w', v', k1, g2.trans k2, ?_, fun zr k => ?_⟩
    · rcases g3 with ⟨e1, e2, e3⟩ | ⟨e1, e2⟩
      · subst e2
        rcases k3 with ⟨f1, f2, f3⟩ | ⟨f1, f2⟩
        · refine Or.inl ⟨f1.trans e1, f2, fun c w hx => ?_⟩
          by_cases ec : c = cx
          · exact e3 c w ⟨ec, by omega, hx.2.2.2⟩
          · exact f3 c w ⟨by omega, hx.2.1, hx.2.2⟩
        · exact Or.inr ⟨f1, f2⟩
      · rcases k3 with ⟨f1, f2, -⟩ | ⟨f1, f2⟩
        · exact Or.inr ⟨f1.trans e1, by rw [f2]; exact e2⟩
        · exact Or.inr ⟨f1, by omega⟩
    · have k := k4 zr k
      refine hq_load (hm _ _ rfl) rfl rfl ?_
      refine hq_load (hm _ _ rfl) rfl rfl ?_
      refine hq_call (hm _ _ rfl) rfl ⟨Nat.le_of_ble_eq_true rfl, Nat.le_of_ble_eq_true rfl, fun _ => rfl⟩ (r_cells hT hp) ?_
      refine hq_icT (hm _ _ rfl) (zr0T (by omega)) ?_
      refine hq_pushZ (w := 0) (hm _ _ rfl) rfl ?_
      refine hq_store (hm _ _ rfl) ⟨rfl, Nat.ne_of_beq_eq_false rfl⟩ ?_
      rw [hw_p6]
      refine g4 zr ?_
      refine hq_iincZ (u := 1) (hm _ _ rfl) rfl rfl (hq_inc (by omega) (by omega)) ?_
      rw [hw_p5]
      refine hq_goto (hm _ _ rfl) ?_
      exact k
theorem w_while (hT : hTab T) (c0 : -1 ≤ copy ∧ copy ≤ 2) : ∀ (n : Nat) (h : zH) (ce w v : Option Int), hGood copy to h → hsum h 48 = (n : Int) → ∃ h' ce' w' v', hGood copy to h' ∧ hEq h h' ∧ hStb copy h' ∧ ∀ zr, zRun D T (d + 4) 336 120 (h', hw copy from_ to (some 0) ce' w' v', []) zr → zRun D T (d + 4) 336 38 (h, hw copy from_ to (some 1) ce w v, []) zr := by
  intro n
  induction n using Nat.strongRecOn with
  | ind n ih =>
    intro h ce w v hg hn
    have hm := hm_wayOf (T := T) hT
    have hp := hg.1
    obtain ⟨-, -, -, b0, b1, -⟩ := id hp
    have m1 : 0 ≤ hc h 0 * hc h 1 := Int.mul_nonneg (by omega) (by omega)
    obtain ⟨h1, more1, cell1, w1, v1, g1, g2, g3, g4⟩ := w_cells (D := D) (d := d) (from_ := from_) (to := to) hT c0 (hc h 0 * hc h 1).toNat h 0 0 w v hg (Int.le_refl 0) (by omega)
    have pre : ∀ zr, zRun D T (d + 4) 336 38 (h1, hw copy from_ to (some more1) (some cell1) w1 v1, []) zr → zRun D T (d + 4) 336 38 (h, hw copy from_ to (some 1) ce w v, []) zr := fun zr k => by
      have k := g4 zr k
      refine hq_load (hm _ _ rfl) rfl rfl ?_
      refine hq_ifF (hm _ _ rfl) (zr2F (by omega)) ?_
      refine hq_pushZ (w := 0) (hm _ _ rfl) rfl ?_
      refine hq_store (hm _ _ rfl) ⟨rfl, Nat.ne_of_beq_eq_false rfl⟩ ?_
      rw [hw_p4]
      refine hq_pushZ (w := 0) (hm _ _ rfl) rfl ?_
      refine hq_store (hm _ _ rfl) ⟨rfl, Nat.ne_of_beq_eq_false rfl⟩ ?_
      rw [hw_p5]
      exact k
    rcases g3 with ⟨e1, e2, e3⟩ | ⟨e1, e2⟩
    · subst e2
      refine ⟨h1, some cell1, w1, v1, g1, hEq.refl _, fun cell way x1 x2 x3 x4 => e3 cell way ⟨x1, x2, x3, x4⟩, fun zr k => pre zr ?_⟩
      rw [e1]
      refine hq_load (hm _ _ rfl) rfl rfl ?_
      refine hq_ifT (hm _ _ rfl) (zr2T rfl) ?_
      exact k
    · have nn := hsum_nn g1.1 48 (Nat.le_refl 48)
      obtain ⟨h', ce', w', v', k1, k2, k3, k4⟩ := ih (hsum h1 48).toNat (by omega) h1 (some cell1) w1 v1 g1 (by omega)
      refine ⟨h', ce', w', v', k1, g2.trans k2, k3, fun zr k => pre zr ?_⟩
      rw [e1]
      exact k4 zr k
-- all far, then 0 where it leads
theorem w_fill (hT : hTab T) : ∀ (n : Nat) (h : zH) (k : Int), hHp h → 0 ≤ k → hc h 0 * hc h 1 - k = (n : Int) → ∃ h', hHp h' ∧ hEq h h' ∧ (∀ j : Int, 0 ≤ j → j < hc h 0 * hc h 1 → hout h' j.toNat = 1000000 ∨ (j < k ∧ hout h' j.toNat = hout h j.toNat)) ∧ ∃ m', ∀ zr, zRun D T (d + 4) 336 28 (h', hw copy from_ to (some m') none none none, []) zr → zRun D T (d + 4) 336 3 (h, hw copy from_ to (some k) none none none, []) zr
  | 0, h, k, hp, k0, hn => by
    have hm := hm_wayOf (T := T) hT
    refine ⟨h, hp, hEq.refl h, fun j j1 j2 => Or.inr ⟨by omega, rfl⟩, k, fun zr kk => ?_⟩
    refine hq_load (hm _ _ rfl) rfl rfl ?_
    refine hq_load (hm _ _ rfl) rfl rfl ?_
    refine hq_call (hm _ _ rfl) rfl ⟨Nat.le_of_ble_eq_true rfl, Nat.le_of_ble_eq_true rfl, fun _ => rfl⟩ (r_cells hT hp) ?_
    refine hq_icF (hm _ _ rfl) (zr0F (by omega)) ?_
    exact kk
  | n + 1, h, k, hp, k0, hn => by
    have hm := hm_wayOf (T := T) hT
    have cb := (bE_b hp 0 0).2.2
    have hp1 := hp.set (k := k.toNat) (v := 1000000) (by omega) (by omega) (by omega)
    have e1 : hEq h (zset h 130 k.toNat (0, 1000000)) := hEq_set (by omega)
    have q0 := heq_hc e1 0
    have q1 := heq_hc e1 1
    obtain ⟨h', g1, g2, g3, m', g4⟩ := w_fill hT n (zset h 130 k.toNat (0, 1000000)) (k + 1) hp1 (by omega) (by rw [q0, q1]; omega)
    rw [q0, q1] at g3
    refine ⟨h', g1, e1.trans g2, fun j j1 j2 => ?_, m', fun zr kk => ?_⟩
    · rcases g3 j j1 j2 with e | ⟨x1, x2⟩
      · exact Or.inl e
      · rw [hout_set] at x2
        by_cases c : j.toNat = k.toNat
        · rw [if_pos c] at x2; exact Or.inl x2
        · rw [if_neg c] at x2; exact Or.inr ⟨by omega, x2⟩
    · have kk := g4 zr kk
      refine hq_load (hm _ _ rfl) rfl rfl ?_
      refine hq_load (hm _ _ rfl) rfl rfl ?_
      refine hq_call (hm _ _ rfl) rfl ⟨Nat.le_of_ble_eq_true rfl, Nat.le_of_ble_eq_true rfl, fun _ => rfl⟩ (r_cells hT hp) ?_
      refine hq_icT (hm _ _ rfl) (zr0T (by omega)) ?_
      refine hq_load (hm _ _ rfl) rfl rfl ?_
      refine hq_getf (hm _ _ rfl) rfl hp.o ?_
      refine hq_load (hm _ _ rfl) rfl rfl ?_
      refine hq_pushZ (w := 1000000) (hm _ _ rfl) rfl ?_
      refine hq_ast (hm _ _ rfl) ⟨za130 (by omega) (by omega), rfl, by decide⟩ ?_
      refine hq_iincZ (u := 1) (hm _ _ rfl) rfl rfl (hq_inc (by omega) (by omega)) ?_
      rw [hw_p4]
      refine hq_goto (hm _ _ rfl) ?_
      exact kk
def wE (h : zH) (from_ : Int) : Int := if hout h from_.toNat = 1000000 then 1000000 else hout h from_.toNat / 100
theorem r_wayOf (hT : hTab T) {h : zH} (hp : hHp h) (c0 : -1 ≤ copy ∧ copy ≤ 2) (c1 : 0 ≤ from_ ∧ from_ < 48) (c2 : 0 ≤ to ∧ to < 48) : ∃ h', hHp h' ∧ hEq h h' ∧ hInv copy to h' ∧ hStb copy h' ∧ zRun D T (d + 4) 336 0 (h, zargs 0 [(2, 121), (0, copy), (0, from_), (0, to)], []) (h', some (0, wE h' from_)) := by
  have hm := hm_wayOf (T := T) hT
  obtain ⟨-, -, -, b0, b1, -⟩ := id hp
  have m1 : 0 ≤ hc h 0 * hc h 1 := Int.mul_nonneg (by omega) (by omega)
  obtain ⟨h1, f1, f2, f3, m', f4⟩ := w_fill (D := D) (d := d) (copy := copy) (from_ := from_) (to := to) hT (hc h 0 * hc h 1).toNat h 0 hp (Int.le_refl 0) (by omega)
  have e1 : hEq h1 (zset h1 130 to.toNat (0, 0)) := hEq_set (by omega)
  have hp1 := f1.set (k := to.toNat) (v := 0) (Int.le_refl 0) (by omega) (by omega)
  have i1 : hInv copy to (zset h1 130 to.toNat (0, 0)) := by
    intro cell x1 x2 x3 x4
    rw [heq_hc e1, heq_hc e1, heq_hc f2, heq_hc f2] at x2
    rw [hout_set, if_neg (by omega)] at x4
    rcases f3 cell x1 x2 with e | ⟨e, -⟩
    · omega
    · omega
  have nn := hsum_nn hp1 48 (Nat.le_refl 48)
  obtain ⟨h', ce, w, v, g1, g2, g3, g4⟩ := w_while (D := D) (d := d) (from_ := from_) hT c0 (hsum (zset h1 130 to.toNat (0, 0)) 48).toNat (zset h1 130 to.toNat (0, 0)) none none none ⟨hp1, i1⟩ (by omega)
  refine ⟨h', g1.1, f2.trans (e1.trans g2), g1.2, g3, ?_⟩
  rw [hw_args]
  refine hq_pushZ (w := 0) (hm _ _ rfl) rfl ?_
  refine hq_store (hm _ _ rfl) ⟨rfl, Nat.ne_of_beq_eq_false rfl⟩ ?_
  rw [hw_p4]
  refine f4 _ ?_
  clear hp
  have hp := f1
  refine hq_load (hm _ _ rfl) rfl rfl ?_
  refine hq_getf (hm _ _ rfl) rfl hp.o ?_
  refine hq_load (hm _ _ rfl) rfl rfl ?_
  refine hq_pushZ (w := 0) (hm _ _ rfl) rfl ?_
  refine hq_ast (hm _ _ rfl) ⟨za130 (by omega) (by omega), rfl, by decide⟩ ?_
  refine hq_pushZ (w := 1) (hm _ _ rfl) rfl ?_
  refine hq_store (hm _ _ rfl) ⟨rfl, Nat.ne_of_beq_eq_false rfl⟩ ?_
  rw [hw_p4]
  refine g4 _ ?_
  clear hp
  have hp := g1.1
  have o1 := (hp.2.2.1 from_.toNat (by omega)).2
  unfold wE
  split
  · rename_i e
    refine hq_load (hm _ _ rfl) rfl rfl ?_
    refine hq_getf (hm _ _ rfl) rfl hp.o ?_
    refine hq_load (hm _ _ rfl) rfl rfl ?_
    refine hq_ald (hm _ _ rfl) (za130 (by omega) (by omega)) (hKo hp (by omega)) ?_
    refine hq_pushZ (w := 1000000) (hm _ _ rfl) rfl ?_
    refine hq_icT (hm _ _ rfl) (zr2T e) ?_
    refine hq_pushZ (w := 1000000) (hm _ _ rfl) rfl ?_
    refine hq_goto (hm _ _ rfl) ?_
    exact hq_ret (hm _ _ rfl) ⟨rfl, rfl⟩
  · rename_i e
    refine hq_load (hm _ _ rfl) rfl rfl ?_
    refine hq_getf (hm _ _ rfl) rfl hp.o ?_
    refine hq_load (hm _ _ rfl) rfl rfl ?_
    refine hq_ald (hm _ _ rfl) (za130 (by omega) (by omega)) (hKo hp (by omega)) ?_
    refine hq_pushZ (w := 1000000) (hm _ _ rfl) rfl ?_
    refine hq_icF (hm _ _ rfl) (zr2F e) ?_
    refine hq_load (hm _ _ rfl) rfl rfl ?_
    refine hq_getf (hm _ _ rfl) rfl hp.o ?_
    refine hq_load (hm _ _ rfl) rfl rfl ?_
    refine hq_ald (hm _ _ rfl) (za130 (by omega) (by omega)) (hKo hp (by omega)) ?_
    refine hq_pushZ (w := 100) (hm _ _ rfl) rfl ?_
    refine hq_div (hm _ _ rfl) (by omega) (hq_quo (by omega) (by omega) (by omega) (by omega)) ?_
    exact hq_ret (hm _ _ rfl) ⟨rfl, rfl⟩
end WO
end
section
/-! tellWay, tellCompany BY HAND -/
-- all that matters to ways is as it was
def hSm (h h' : zH) : Prop := ∀ r k, ¬ (r = 132 ∧ k < 49) → ¬ (r = 121 ∧ k = 31) → h' r k = h r k
theorem hSm.hHp {h h' : zH} (e : hSm h h') (hp : hHp h) : hHp h' := by
  obtain ⟨⟨a1, a2, a3⟩, a4, a5, a6, a7, a8, a9⟩ := hp
  have q : ∀ k, hc h' k = hc h k := fun k => by show (h' 126 k).2 = (h 126 k).2; rw [e 126 k (fun c => by omega) (fun c => by omega)]
  have w : ∀ k, hout h' k = hout h k := fun k => by show (h' 130 k).2 = (h 130 k).2; rw [e 130 k (fun c => by omega) (fun c => by omega)]
  refine ⟨⟨?_, ?_, ?_⟩, fun j hj => ?_, fun j hj => ?_, ?_, ?_, fun j hj => ?_, fun j hj => ?_⟩
  · rw [e _ _ (fun c => by omega) (fun c => by omega)]; exact a1
  · rw [e _ _ (fun c => by omega) (fun c => by omega)]; exact a2
  · rw [e _ _ (fun c => by omega) (fun c => by omega)]; exact a3
  · rw [e _ _ (fun c => by omega) (fun c => by omega)]; exact a4 j hj
  · rw [e _ _ (fun c => by omega) (fun c => by omega), w]; exact a5 j hj
  · rw [q]; exact a6
  · rw [q]; exact a7
  · rw [q, q]; exact a8 j hj
  · rw [q]; exact a9 j hj
theorem hsm_hc {h h' : zH} (e : hSm h h') (k : Nat) : hc h' k = hc h k := by show (h' 126 k).2 = (h 126 k).2; rw [e 126 k (fun c => by omega) (fun c => by omega)]
theorem hsm_out {h h' : zH} (e : hSm h h') (k : Nat) : hout h' k = hout h k := by show (h' 130 k).2 = (h 130 k).2; rw [e 130 k (fun c => by omega) (fun c => by omega)]
theorem hsm_gE {h h' : zH} (e : hSm h h') (copy cell way : Int) : gE h' copy cell way = gE h copy cell way ∧ bE h' cell way = bE h cell way := by
  have b : bE h' cell way = bE h cell way := by unfold bE bX bY; simp only [hsm_hc e]
  refine ⟨?_, b⟩
  unfold gE
  rw [b]
  unfold cE cS cR
  simp only [hsm_hc e, hsm_out e]
theorem hSm.trans {a b c : zH} (h1 : hSm a b) (h2 : hSm b c) : hSm a c := fun r k x y => (h2 r k x y).trans (h1 r k x y)
def hcnt (h : zH) (x : Int) : Nat → Nat
  | 0 => 0
  | n + 1 => hcnt h x n + if hout h n < x then 1 else 0
theorem hcnt_le {h : zH} {x : Int} : ∀ n, hcnt h x n ≤ n
  | 0 => Nat.le_refl 0
  | n + 1 => by
    have := hcnt_le (h := h) (x := x) n
    show hcnt h x n + (if hout h n < x then 1 else 0) ≤ n + 1
    split <;> omega
theorem hcnt_lt {h : zH} {x y : Int} (hxy : x ≤ y) {k : Nat} (h1 : x ≤ hout h k) (h2 : hout h k < y) : ∀ n, hcnt h x n + (if k < n then 1 else 0) ≤ hcnt h y n
  | 0 => by rw [if_neg (by omega)]; exact Nat.le_refl 0
  | n + 1 => by
    have ih := hcnt_lt hxy h1 h2 n
    show hcnt h x n + (if hout h n < x then 1 else 0) + _ ≤ hcnt h y n + (if hout h n < y then 1 else 0)
    by_cases c : k < n
    · rw [if_pos c] at ih
      rw [if_pos (show k < n + 1 by omega)]
      by_cases c2 : hout h n < x
      · rw [if_pos c2, if_pos (by omega)]; omega
      · rw [if_neg c2]
        split <;> omega
    · rw [if_neg c] at ih
      by_cases c3 : k = n
      · subst c3
        rw [if_pos (show k < k + 1 by omega), if_neg (by omega), if_pos h2]; omega
      · rw [if_neg (show ¬ k < n + 1 by omega)]
        by_cases c2 : hout h n < x
        · rw [if_pos c2, if_pos (by omega)]; omega
        · rw [if_neg c2]
          split <;> omega
theorem hcnt_self {h : zH} {k : Nat} : ∀ n, hcnt h (hout h k) n + (if k < n then 1 else 0) ≤ n
  | 0 => by rw [if_neg (by omega)]; exact Nat.le_refl 0
  | n + 1 => by
    have ih := hcnt_self (h := h) (k := k) n
    show hcnt h (hout h k) n + (if hout h n < hout h k then 1 else 0) + _ ≤ n + 1
    by_cases c : k < n
    · rw [if_pos c] at ih
      rw [if_pos (show k < n + 1 by omega)]
      split <;> omega
    · by_cases c3 : k = n
      · subst c3
        rw [if_pos (show k < k + 1 by omega), if_neg (by omega)]
        have := hcnt_le (h := h) (x := hout h k) k
        omega
      · rw [if_neg c] at ih
        rw [if_neg (show ¬ k < n + 1 by omega)]
        split <;> omega
-- the row: its numbers, its cells
def tRow (h : zH) (n : Int) : Prop := h 121 31 = (0, n) ∧ (∀ i, i < 49 → (h 132 i).1 = 0 ∧ 0 ≤ (h 132 i).2 ∧ (h 132 i).2 ≤ 47) ∧ ∀ i : Nat, (i : Int) < n → i < 49 → (h 132 i).2 < hc h 0 * hc h 1
def tIn (h : zH) : Prop := ∀ i, i < 49 → (h 132 i).1 = 0 ∧ 0 ≤ (h 132 i).2 ∧ (h 132 i).2 ≤ 47
theorem tRow_add {h : zH} (hp : hHp h) {n b : Int} (ht : tRow h n) (n0 : 0 ≤ n) (n1 : n < 49) (b0 : 0 ≤ b) (b1 : b < hc h 0 * hc h 1) (b2 : b < 48) : tRow (zset (zset h 132 n.toNat (0, b)) 121 31 (0, n + 1)) (n + 1) ∧ hSm h (zset (zset h 132 n.toNat (0, b)) 121 31 (0, n + 1)) := by
  have e : hSm h (zset (zset h 132 n.toNat (0, b)) 121 31 (0, n + 1)) := fun r k x y => by
    show (if r = 121 ∧ k = 31 then _ else if r = 132 ∧ k = n.toNat then _ else h r k) = h r k
    rw [if_neg y, if_neg (fun c => x ⟨c.1, by omega⟩)]
  have v : ∀ i, zset (zset h 132 n.toNat (0, b)) 121 31 (0, n + 1) 132 i = if i = n.toNat then (0, b) else h 132 i := fun i => by
    show (if (132 : Nat) = 121 ∧ i = 31 then _ else if (132 : Nat) = 132 ∧ i = n.toNat then ((0, b) : zV) else h 132 i) = _
    rw [if_neg (fun c => absurd c.1 (by decide))]
    by_cases c : i = n.toNat
    · rw [if_pos ⟨rfl, c⟩, if_pos c]
    · rw [if_neg (fun x => c x.2), if_neg c]
  refine ⟨⟨if_pos ⟨rfl, rfl⟩, fun i hi => ?_, fun i h1 h2 => ?_⟩, e⟩
  · rw [v]
    by_cases c : i = n.toNat
    · rw [if_pos c]; exact ⟨rfl, b0, by show b ≤ 47; omega⟩
    · rw [if_neg c]; exact ht.2.1 i hi
  · rw [v, hsm_hc e, hsm_hc e]
    by_cases c : i = n.toNat
    · rw [if_pos c]; exact b1
    · rw [if_neg c]; exact ht.2.2 i (by omega) h2
section TW
variable {D : zD} {T : zT} {d : Nat} {copy from_ to : Int}
-- which way it goes on
theorem t_way (hT : hTab T) {h : zH} (hp : hHp h) (c0 : -1 ≤ copy ∧ copy ≤ 2) {cost at_ : Int} (a1 : 0 ≤ at_) (a2 : at_ < 48) {w0 : Int} (e0 : gE h copy at_ w0 = hout h at_.toNat) (w4 : w0 < 4) : ∀ (n : Nat) (way : Int), w0 - way = (n : Int) → 0 ≤ way → ∃ w1, gE h copy at_ w1 = hout h at_.toNat ∧ ∀ zr, zRun D T (d + 5) 324 75 (h, hw copy from_ to (some cost) (some at_) (some w1) none, []) zr → zRun D T (d + 5) 324 50 (h, hw copy from_ to (some cost) (some at_) (some way) none, []) zr := by
  intro n
  induction n with
  | zero =>
    intro way hn hw0
    have hm := hm_tellWay (T := T) hT
    have ew : way = w0 := by omega
    subst ew
    refine ⟨way, e0, fun zr k => ?_⟩
    refine hq_load (hm _ _ rfl) rfl rfl ?_
    refine hq_load (hm _ _ rfl) rfl rfl ?_
    refine hq_load (hm _ _ rfl) rfl rfl ?_
    refine hq_load (hm _ _ rfl) rfl rfl ?_
    refine hq_call (hm _ _ rfl) rfl ⟨Nat.le_of_ble_eq_true rfl, Nat.le_of_ble_eq_true rfl, fun _ => rfl⟩ (r_goesBy (d := d + 1) hT hp c0 a1 a2) ?_
    refine hq_load (hm _ _ rfl) rfl rfl ?_
    refine hq_getf (hm _ _ rfl) rfl hp.o ?_
    refine hq_load (hm _ _ rfl) rfl rfl ?_
    refine hq_ald (hm _ _ rfl) (za130 (by omega) (by omega)) (hKo hp (by omega)) ?_
    refine hq_icT (hm _ _ rfl) (zr2T e0) ?_
    exact k
  | succ n ih =>
    intro way hn hw0
    have hm := hm_tellWay (T := T) hT
    by_cases e : gE h copy at_ way = hout h at_.toNat
    · refine ⟨way, e, fun zr k => ?_⟩
      refine hq_load (hm _ _ rfl) rfl rfl ?_
      refine hq_load (hm _ _ rfl) rfl rfl ?_
      refine hq_load (hm _ _ rfl) rfl rfl ?_
      refine hq_load (hm _ _ rfl) rfl rfl ?_
      refine hq_call (hm _ _ rfl) rfl ⟨Nat.le_of_ble_eq_true rfl, Nat.le_of_ble_eq_true rfl, fun _ => rfl⟩ (r_goesBy (d := d + 1) hT hp c0 a1 a2) ?_
      refine hq_load (hm _ _ rfl) rfl rfl ?_
      refine hq_getf (hm _ _ rfl) rfl hp.o ?_
      refine hq_load (hm _ _ rfl) rfl rfl ?_
      refine hq_ald (hm _ _ rfl) (za130 (by omega) (by omega)) (hKo hp (by omega)) ?_
      refine hq_icT (hm _ _ rfl) (zr2T e) ?_
      exact k
    · obtain ⟨w1, g1, g2⟩ := ih (way + 1) (by omega) (by omega)
      refine ⟨w1, g1, fun zr k => ?_⟩
      have k := g2 zr k
      refine hq_load (hm _ _ rfl) rfl rfl ?_
      refine hq_load (hm _ _ rfl) rfl rfl ?_
      refine hq_load (hm _ _ rfl) rfl rfl ?_
      refine hq_load (hm _ _ rfl) rfl rfl ?_
      refine hq_call (hm _ _ rfl) rfl ⟨Nat.le_of_ble_eq_true rfl, Nat.le_of_ble_eq_true rfl, fun _ => rfl⟩ (r_goesBy (d := d + 1) hT hp c0 a1 a2) ?_
      refine hq_load (hm _ _ rfl) rfl rfl ?_
      refine hq_getf (hm _ _ rfl) rfl hp.o ?_
      refine hq_load (hm _ _ rfl) rfl rfl ?_
      refine hq_ald (hm _ _ rfl) (za130 (by omega) (by omega)) (hKo hp (by omega)) ?_
      refine hq_icF (hm _ _ rfl) (zr2F e) ?_
      refine hq_iincZ (u := 1) (hm _ _ rfl) rfl rfl (hq_inc (by omega) (by omega)) ?_
      rw [hw_p6]
      refine hq_goto (hm _ _ rfl) ?_
      exact k
theorem t_loop (hT : hTab T) (c0 : -1 ≤ copy ∧ copy ≤ 2) {cost : Int} : ∀ (m : Nat) (h : zH) (n at_ : Int) (w : Option Int), hHp h → hInv copy to h → hStb copy h → tRow h n → 1 ≤ n → 0 ≤ at_ → at_ < 48 → (at_ ≠ to → at_ < hc h 0 * hc h 1 ∧ hout h at_.toNat < 1000000) → hcnt h (hout h at_.toNat) 48 = m → n + (m : Int) ≤ 48 → ∃ h' n', hSm h h' ∧ tRow h' n' ∧ 1 ≤ n' ∧ n' ≤ 48 ∧ zRun D T (d + 5) 324 41 (h, hw copy from_ to (some cost) (some at_) w none, []) (h', some (0, cost)) := by
  intro m
  induction m using Nat.strongRecOn with
  | ind m ih =>
    intro h n at_ w hp hi hs ht n1 a1 a2 ha hm_ hn
    have hm := hm_tellWay (T := T) hT
    by_cases e : at_ = to
    · refine ⟨h, n, fun _ _ _ _ => rfl, ht, n1, by omega, ?_⟩
      refine hq_load (hm _ _ rfl) rfl rfl ?_
      refine hq_load (hm _ _ rfl) rfl rfl ?_
      refine hq_icT (hm _ _ rfl) (zr2T e) ?_
      refine hq_load (hm _ _ rfl) rfl rfl ?_
      exact hq_ret (hm _ _ rfl) ⟨rfl, rfl⟩
    · obtain ⟨b1, b2⟩ := ha e
      obtain ⟨w0, x1, x2, x3⟩ := hi at_ a1 b1 e b2
      have x4 : gE h copy at_ w0 = hout h at_.toNat := Int.le_antisymm x3 (hs at_ w0 a1 b1 x1 x2)
      obtain ⟨w1, y1, y2⟩ := t_way (D := D) (d := d) (from_ := from_) (to := to) (cost := cost) hT hp c0 a1 a2 x4 x2 w0.toNat 0 (by omega) (Int.le_refl 0)
      obtain ⟨z1, z2, z3, z4, z5, -⟩ := (gE_low hp (copy := copy) (cell := at_) (way := w1)).resolve_left (by omega)
      obtain ⟨t1, t2⟩ := tRow_add hp ht (by omega) (by omega) z1 z2 z3
      have hp' := t2.hHp hp
      have cl := hcnt_lt (h := h) (x := hout h (bE h at_ w1).toNat) (y := hout h at_.toNat) (by omega) (Int.le_refl _) (by omega) 48
      rw [if_pos (by omega)] at cl
      have ec : hcnt (zset (zset h 132 n.toNat (0, bE h at_ w1)) 121 31 (0, n + 1)) (hout (zset (zset h 132 n.toNat (0, bE h at_ w1)) 121 31 (0, n + 1)) (bE h at_ w1).toNat) 48 = hcnt h (hout h (bE h at_ w1).toNat) 48 := by
        rw [hsm_out t2]
        have : ∀ x j, hcnt (zset (zset h 132 n.toNat (0, bE h at_ w1)) 121 31 (0, n + 1)) x j = hcnt h x j := fun x j => by
          induction j with
          | zero => rfl
          | succ j ih =>
            show hcnt _ x j + (if hout _ j < x then 1 else 0) = hcnt h x j + _
            rw [ih, hsm_out t2]
        exact this _ _
      obtain ⟨h', n', g1, g2, g3, g4, g5⟩ := ih (hcnt h (hout h (bE h at_ w1).toNat) 48) (by omega) (zset (zset h 132 n.toNat (0, bE h at_ w1)) 121 31 (0, n + 1)) (n + 1) (bE h at_ w1) (some w1) hp'
        (fun cell q1 q2 q3 q4 => by
          rw [hsm_hc t2, hsm_hc t2] at q2
          rw [hsm_out t2] at q4 ⊢
          obtain ⟨w, r1, r2, r3⟩ := hi cell q1 q2 q3 q4
          exact ⟨w, r1, r2, by rw [(hsm_gE t2 copy cell w).1]; exact r3⟩)
        (fun cell way q1 q2 q3 q4 => by
          rw [hsm_hc t2, hsm_hc t2] at q2
          rw [hsm_out t2, (hsm_gE t2 copy cell way).1]
          exact hs cell way q1 q2 q3 q4)
        t1 (by omega) z1 z3 (fun _ => by rw [hsm_hc t2, hsm_hc t2, hsm_out t2]; exact ⟨z2, z5⟩) ec (by omega)
      refine ⟨h', n', t2.trans g1, g2, g3, g4, ?_⟩
      refine hq_load (hm _ _ rfl) rfl rfl ?_
      refine hq_load (hm _ _ rfl) rfl rfl ?_
      refine hq_icF (hm _ _ rfl) (zr2F e) ?_
      refine hq_pushZ (w := 0) (hm _ _ rfl) rfl ?_
      refine hq_store (hm _ _ rfl) ⟨rfl, Nat.ne_of_beq_eq_false rfl⟩ ?_
      rw [hw_p6]
      refine y2 _ ?_
      refine hq_load (hm _ _ rfl) rfl rfl ?_
      refine hq_load (hm _ _ rfl) rfl rfl ?_
      refine hq_load (hm _ _ rfl) rfl rfl ?_
      refine hq_call (hm _ _ rfl) rfl ⟨Nat.le_of_ble_eq_true rfl, Nat.le_of_ble_eq_true rfl, fun _ => rfl⟩ (r_beside (d := d + 2) hT hp a1 a2) ?_
      refine hq_store (hm _ _ rfl) ⟨rfl, Nat.ne_of_beq_eq_false rfl⟩ ?_
      show zRun _ _ _ _ _ (h, zput1 (hw copy from_ to (some cost) (some at_) (some w1) none) 5 (0, bE h at_ w1), []) _
      rw [hw_p5]
      refine hq_load (hm _ _ rfl) rfl rfl ?_
      refine hq_getf (hm _ _ rfl) rfl hp.w ?_
      refine hq_load (hm _ _ rfl) rfl rfl ?_
      refine hq_getf (hm _ _ rfl) rfl ht.1 ?_
      refine hq_load (hm _ _ rfl) rfl rfl ?_
      refine hq_ast (hm _ _ rfl) ⟨za132 (by omega) (by omega), rfl, by decide⟩ ?_
      refine hq_load (hm _ _ rfl) rfl rfl ?_
      refine hq_dup (hm _ _ rfl) rfl ?_
      refine hq_getf (hm _ _ rfl) rfl ht.1 ?_
      refine hq_pushZ (w := 1) (hm _ _ rfl) rfl ?_
      refine hq_bin (hm _ _ rfl) (hq_add (by omega) (by omega)) ?_
      refine hq_putf (hm _ _ rfl) ⟨rfl, rfl⟩ ?_
      refine hq_goto (hm _ _ rfl) ?_
      exact g5
theorem wE_b {h : zH} (hp : hHp h) (c1 : 0 ≤ from_ ∧ from_ < 48) : 0 ≤ wE h from_ ∧ wE h from_ ≤ 1000000 := by
  have o1 := (hp.2.2.1 from_.toNat (by omega)).2
  unfold wE
  split <;> omega
theorem r_tellWay (hT : hTab T) {h : zH} (hp : hHp h) (ht : tIn h) (c0 : -1 ≤ copy ∧ copy ≤ 2) (c1 : 0 ≤ from_ ∧ from_ < 48) (c3 : from_ < hc h 0 * hc h 1) (c2 : 0 ≤ to ∧ to < 48) : ∃ h1 h' n' v, hHp h1 ∧ hEq h h1 ∧ hSm h1 h' ∧ tRow h' n' ∧ 0 ≤ n' ∧ n' ≤ 48 ∧ 0 ≤ v ∧ v ≤ 1000000 ∧ zRun D T (d + 5) 324 0 (h, zargs 0 [(2, 121), (0, copy), (0, from_), (0, to)], []) (h', some (0, v)) := by
  have hm := hm_tellWay (T := T) hT
  obtain ⟨h1, w1, w2, w3, w4, w5⟩ := r_wayOf (D := D) (d := d) hT hp c0 c1 c2
  have wb := wE_b w1 c1
  have s1 : hSm h1 (zset h1 121 31 (0, 0)) := fun r k _ y => if_neg y
  have t1 : tIn (zset h1 121 31 (0, 0)) := fun i hi => by
    have e : zset h1 121 31 (0, 0) 132 i = h 132 i := (if_neg (fun c => absurd c.1 (by decide))).trans (w2 132 i (fun c => by omega))
    rw [e]; exact ht i hi
  by_cases e : wE h1 from_ = 1000000
  · refine ⟨h1, zset h1 121 31 (0, 0), 0, 1000000, w1, w2, s1, ⟨if_pos ⟨rfl, rfl⟩, t1, fun i hi _ => by omega⟩, Int.le_refl 0, by omega, by omega, Int.le_refl _, ?_⟩
    rw [hw_args]
    refine hq_load (hm _ _ rfl) rfl rfl ?_
    refine hq_load (hm _ _ rfl) rfl rfl ?_
    refine hq_load (hm _ _ rfl) rfl rfl ?_
    refine hq_load (hm _ _ rfl) rfl rfl ?_
    refine hq_call (hm _ _ rfl) rfl ⟨Nat.le_of_ble_eq_true rfl, Nat.le_of_ble_eq_true rfl, fun _ => rfl⟩ w5 ?_
    refine hq_store (hm _ _ rfl) ⟨rfl, Nat.ne_of_beq_eq_false rfl⟩ ?_
    show zRun _ _ _ _ _ (h1, zput1 (hw copy from_ to none none none none) 4 (0, wE h1 from_), []) _
    rw [hw_p4]
    refine hq_load (hm _ _ rfl) rfl rfl ?_
    refine hq_pushZ (w := 0) (hm _ _ rfl) rfl ?_
    refine hq_putf (hm _ _ rfl) ⟨rfl, rfl⟩ ?_
    refine hq_load (hm _ _ rfl) rfl rfl ?_
    refine hq_pushZ (w := 1000000) (hm _ _ rfl) rfl ?_
    refine hq_icT (hm _ _ rfl) (zr2T e) ?_
    refine hq_pushZ (w := 1000000) (hm _ _ rfl) rfl ?_
    exact hq_ret (hm _ _ rfl) ⟨rfl, rfl⟩
  · have s2 := s1.hHp w1
    have ob := (w1.2.2.1 from_.toNat (by omega)).2
    have of : hout h1 from_.toNat < 1000000 := by
      unfold wE at e
      split at e
      · exact absurd rfl e
      · omega
    have q0 : hc h1 0 * hc h1 1 = hc h 0 * hc h 1 := by rw [heq_hc w2, heq_hc w2]
    obtain ⟨t3, t4⟩ := tRow_add (n := 0) (b := from_) s2 (⟨if_pos ⟨rfl, rfl⟩, t1, fun i hi _ => by omega⟩ : tRow (zset h1 121 31 (0, 0)) 0) (Int.le_refl 0) (by omega) c1.1 (by rw [hsm_hc s1, hsm_hc s1, q0]; exact c3) c1.2
    have s3 := s1.trans t4
    have hp3 := t4.hHp s2
    have cs := hcnt_self (h := zset (zset (zset h1 121 31 (0, 0)) 132 (0 : Int).toNat (0, from_)) 121 31 (0, 0 + 1)) (k := from_.toNat) 48
    rw [if_pos (by omega)] at cs
    obtain ⟨h', n', g1, g2, g3, g4, g5⟩ := t_loop (D := D) (T := T) (d := d) (copy := copy) (from_ := from_) (to := to) (cost := wE h1 from_) hT c0 _ _ (0 + 1) from_ none hp3
      (fun cell q1 q2 q3 q4 => by
        rw [hsm_hc s3, hsm_hc s3] at q2
        rw [hsm_out s3] at q4 ⊢
        obtain ⟨w, r1, r2, r3⟩ := w3 cell q1 q2 q3 q4
        exact ⟨w, r1, r2, by rw [(hsm_gE s3 copy cell w).1]; exact r3⟩)
      (fun cell way q1 q2 q3 q4 => by
        rw [hsm_hc s3, hsm_hc s3] at q2
        rw [hsm_out s3, (hsm_gE s3 copy cell way).1]
        exact w4 cell way q1 q2 q3 q4)
      t3 (by omega) c1.1 c1.2 (fun _ => by rw [hsm_hc s3, hsm_hc s3, hsm_out s3, q0]; exact ⟨c3, of⟩) rfl (by omega)
    refine ⟨h1, h', n', wE h1 from_, w1, w2, s3.trans g1, g2, by omega, g4, wb.1, wb.2, ?_⟩
    rw [hw_args]
    refine hq_load (hm _ _ rfl) rfl rfl ?_
    refine hq_load (hm _ _ rfl) rfl rfl ?_
    refine hq_load (hm _ _ rfl) rfl rfl ?_
    refine hq_load (hm _ _ rfl) rfl rfl ?_
    refine hq_call (hm _ _ rfl) rfl ⟨Nat.le_of_ble_eq_true rfl, Nat.le_of_ble_eq_true rfl, fun _ => rfl⟩ w5 ?_
    refine hq_store (hm _ _ rfl) ⟨rfl, Nat.ne_of_beq_eq_false rfl⟩ ?_
    show zRun _ _ _ _ _ (h1, zput1 (hw copy from_ to none none none none) 4 (0, wE h1 from_), []) _
    rw [hw_p4]
    refine hq_load (hm _ _ rfl) rfl rfl ?_
    refine hq_pushZ (w := 0) (hm _ _ rfl) rfl ?_
    refine hq_putf (hm _ _ rfl) ⟨rfl, rfl⟩ ?_
    refine hq_load (hm _ _ rfl) rfl rfl ?_
    refine hq_pushZ (w := 1000000) (hm _ _ rfl) rfl ?_
    refine hq_icF (hm _ _ rfl) (zr2F e) ?_
    refine hq_load (hm _ _ rfl) rfl rfl ?_
    refine hq_store (hm _ _ rfl) ⟨rfl, Nat.ne_of_beq_eq_false rfl⟩ ?_
    rw [hw_p5]
    clear hp
    have hp := s2
    refine hq_load (hm _ _ rfl) rfl rfl ?_
    refine hq_getf (hm _ _ rfl) rfl hp.w ?_
    refine hq_pushZ (w := 0) (hm _ _ rfl) rfl ?_
    refine hq_load (hm _ _ rfl) rfl rfl ?_
    refine hq_ast (hm _ _ rfl) ⟨za132 (Int.le_refl 0) (by omega), rfl, by decide⟩ ?_
    refine hq_load (hm _ _ rfl) rfl rfl ?_
    refine hq_pushZ (w := 1) (hm _ _ rfl) rfl ?_
    refine hq_putf (hm _ _ rfl) ⟨rfl, rfl⟩ ?_
    exact g5
theorem r_tellCompany (hT : hTab T) {h : zH} (hp : hHp h) (ht : tIn h) {k : Int} (k0 : 0 ≤ k) (k1 : k ≤ 5) (b1 : 0 ≤ hc h (263 + k).toNat ∧ hc h (263 + k).toNat ≤ 2) (b2 : 0 ≤ hc h (245 + k).toNat ∧ hc h (245 + k).toNat < 48) (b3 : 0 ≤ hc h (251 + k).toNat ∧ hc h (251 + k).toNat < 48) (b4 : hc h (245 + k).toNat < hc h 0 * hc h 1) : ∃ h1 h' n' v, hHp h1 ∧ hEq h h1 ∧ hSm h1 h' ∧ tRow h' n' ∧ 0 ≤ n' ∧ n' ≤ 48 ∧ 0 ≤ v ∧ v ≤ 1000000 ∧ zRun D T (d + 6) 323 0 (h, zargs 0 [(2, 121), (0, k)], []) (h', some (0, v)) := by
  have hm := hm_tellCompany (T := T) hT
  obtain ⟨h1, h', n', v, g1, g2, g3, g4, g5, g6, g7, g8, g9⟩ := r_tellWay (D := D) (d := d) hT hp ht (copy := hc h (263 + k).toNat) (from_ := hc h (245 + k).toNat) (to := hc h (251 + k).toNat) ⟨by omega, b1.2⟩ b2 b4 b3
  refine ⟨h1, h', n', v, g1, g2, g3, g4, g5, g6, g7, g8, ?_⟩
  refine hq_load (hm _ _ rfl) rfl rfl ?_
  refine hq_load (hm _ _ rfl) rfl rfl ?_
  refine hq_getf (hm _ _ rfl) rfl hp.c ?_
  refine hq_pushZ (w := 263) (hm _ _ rfl) rfl ?_
  refine hq_load (hm _ _ rfl) rfl rfl ?_
  refine hq_bin (hm _ _ rfl) (hq_add (by omega) (by omega)) ?_
  refine hq_ald (hm _ _ rfl) (za126 (by omega) (by omega)) (hKd hp (by omega)) ?_
  refine hq_load (hm _ _ rfl) rfl rfl ?_
  refine hq_getf (hm _ _ rfl) rfl hp.c ?_
  refine hq_pushZ (w := 245) (hm _ _ rfl) rfl ?_
  refine hq_load (hm _ _ rfl) rfl rfl ?_
  refine hq_bin (hm _ _ rfl) (hq_add (by omega) (by omega)) ?_
  refine hq_ald (hm _ _ rfl) (za126 (by omega) (by omega)) (hKd hp (by omega)) ?_
  refine hq_load (hm _ _ rfl) rfl rfl ?_
  refine hq_getf (hm _ _ rfl) rfl hp.c ?_
  refine hq_pushZ (w := 251) (hm _ _ rfl) rfl ?_
  refine hq_load (hm _ _ rfl) rfl rfl ?_
  refine hq_bin (hm _ _ rfl) (hq_add (by omega) (by omega)) ?_
  refine hq_ald (hm _ _ rfl) (za126 (by omega) (by omega)) (hKd hp (by omega)) ?_
  refine hq_call (hm _ _ rfl) rfl ⟨Nat.le_of_ble_eq_true rfl, Nat.le_of_ble_eq_true rfl, fun _ => rfl⟩ g9 ?_
  exact hq_ret (hm _ _ rfl) ⟨rfl, rfl⟩
end TW
end
section
/-! CUTS BY HAND; FAMILIES: contracts deeper by a number -/
section LH
variable {o : Nat} {X : aX} {T : zT} {Ks : List aK}
theorem a_cutsH_ok (hX : aOK X) (hK : ∀ κ ∈ Ks, aSpecO o X.1 X.2.1 X.2.2.1 T κ) (hT : ∀ mi t, x_nth zMT mi = some t → ∀ pc i, z_at t pc = some i → T mi pc = some i) {lm : aLm} (hlm : aLmOK X lm) {hs : aHt} {n : Nat} {κ : aK} {cuts : List aCut} {t : List (List (Option zX))} (ht : ∀ pc i, z_at t pc = some i → T κ.1 pc = some i) (hm : X.2.2.2.2 = κ.2.2.2.2.1) (hand : Nat → Bool)
    (hsc : ∀ c ∈ cuts, a_all (fun x => a_scp c.2.1.1.1 x.1) c.2.2 = true) (hc : ∀ c ∈ cuts, hand c.1 = false → a_from X.1 lm hs Ks n κ cuts t (some c.2.2) c.1 c.2.1 = true)
    (hH : ∀ c ∈ cuts, hand c.1 = true → κ.2.2.1.1 ≤ c.2.1.1.1 → ∀ ρ z, aStD X ρ c.2.1 z → aGood o X T κ κ.2.1 κ.1 c.1 z ρ ∨ aNext o X T κ cuts κ.2.1 κ.1 c.1 z ρ (some c.2.2) c.2.1.1.1) :
    ∀ c ∈ cuts, κ.2.2.1.1 ≤ c.2.1.1.1 → ∀ ρ z, aStD X ρ c.2.1 z → aGood o X T κ κ.2.1 κ.1 c.1 z ρ := by
  obtain ⟨K, hKl⟩ := a_maxlen cuts
  have key : ∀ v : List Int, ∀ c ∈ cuts, κ.2.2.1.1 ≤ c.2.1.1.1 → ∀ ρ z, aStD X ρ c.2.1 z → aMs ρ c.2.2 = v → aGood o X T κ κ.2.1 κ.1 c.1 z ρ := by
    intro v
    induction aLex_acc K v with
    | intro v _ ih =>
      intro c hcm hck ρ z g hv
      have step : aGood o X T κ κ.2.1 κ.1 c.1 z ρ ∨ aNext o X T κ cuts κ.2.1 κ.1 c.1 z ρ (some c.2.2) c.2.1.1.1 := by
        cases hh : hand c.1 with
        | true => exact hH c hcm hh hck ρ z g
        | false => exact a_from_ok hX hK hT hlm ht hm (hc c hcm hh) hck g
      rcases step with h | ⟨c', hc', σ, z', b1, b2, b3, b4, b5⟩
      · exact h
      · have hl := b5 c.2.2 rfl (fun x hx p hp => Nat.le_of_ble_eq_true (a_all_ok (a_all_ok (hsc c hcm) x hx) p hp))
        rw [hv] at hl
        exact (ih _ (hl.le K (hKl c' hc')) c' hc' b2 σ z' b3 rfl).back b1 b4
  exact fun c hc hk ρ z g => key _ c hc hk ρ z g rfl
/-- where a run has come to a state that fits a cut -/
theorem aNext.of {κ : aK} {cuts : List aCut} {d mi pc : Nat} {z z' : zS} {ρ ρ' : Nat → Int} {os : List aF} {n : Nat} {c : aCut} (hc : c ∈ cuts) {st : aS} (hr : a_cutOK X.1 κ.2.2.1.1 (some os) st c = true) (hk : κ.2.2.1.1 ≤ st.1.1) (ha : aAg ρ ρ' n) (hn : κ.2.2.1.1 ≤ n) (g : aStD X ρ' st z') (hz : ∀ zr, zRun X.2.1 T (o + d) mi c.1 z' zr → zRun X.2.1 T (o + d) mi pc z zr) : aNext o X T κ cuts d mi pc z ρ (some os) n := by
  obtain ⟨σ, b1, b2, b3, b4⟩ := a_cutOK_ok hr hk g
  refine ⟨c, hc, σ, z', fun i hi => (b1 i hi).trans (ha i (Nat.lt_of_lt_of_le hi hn)), b2, b3, hz, fun os' ho hsc => ?_⟩
  cases ho
  have := b4 os rfl
  rw [aMs_ag ha hsc] at this
  exact this
end LH
/-! one flag of another meaning -/
def FlW (Fl : Nat → zH → Prop) (j0 : Nat) (P : zH → Prop) : Nat → zH → Prop := fun j h => if j = j0 then P h else Fl j h
theorem FlW_ne {Fl : Nat → zH → Prop} {j0 : Nat} {P : zH → Prop} {j : Nat} {h : zH} (hj : j ≠ j0) : FlW Fl j0 P j h ↔ Fl j h := by
  unfold FlW
  rw [if_neg hj]
theorem FlW_eq {Fl : Nat → zH → Prop} {j0 : Nat} {P : zH → Prop} {h : zH} : FlW Fl j0 P j0 h ↔ P h := by
  unfold FlW
  rw [if_pos rfl]
theorem aOK_W {G : aG} {D : zD} {Fl : Nat → zH → Prop} {h : zH} {m : aM} (hX : aOK (G, D, Fl, h, m)) {j0 : Nat} (hj : 353 ≤ j0) {P : zH → Prop} {s : aM} (hs : a_at G.2.1 j0 = some s) (hP : ∀ h h' : zH, (∀ r k, aIn s r k → h' r k = h r k) → P h → P h') : aOK (G, D, FlW Fl j0 P, h, m) := by
  refine ⟨⟨fun j m' hm h1 h2 he hf => ?_, hX.1.2⟩, hX.2.1, fun j h1 a b => ?_⟩
  · by_cases e : j = j0
    · subst e
      have hm : a_at G.2.1 j = some m' := hm
      rw [hs] at hm
      cases hm
      exact FlW_eq.mpr (hP h1 h2 he (FlW_eq.mp hf))
    · exact (FlW_ne e).mpr (hX.1.1 j m' hm h1 h2 he ((FlW_ne e).mp hf))
  · have : FlW Fl j0 P j h1 ↔ Fl j h1 := FlW_ne (by omega)
    exact this.trans (hX.2.2 j h1 a b)
theorem aFlOK_W {G : aG} {D : zD} {Fl : Nat → zH → Prop} {h : zH} {m : aM} (hX : aFlOK (G, D, Fl, h, m)) {j0 : Nat} (hj : 353 ≤ j0) {P : zH → Prop} : aFlOK (G, D, FlW Fl j0 P, h, m) := fun j h1 hj1 => (FlW_ne (show j ≠ j0 by omega)).trans (hX j h1 hj1)
/-! contracts and cuts with a flag more; of another depth -/
def qfl (j : Nat) (q : aQ) : aQ := (q.1, q.2.1, q.2.2.1, q.2.2.2.1, j :: q.2.2.2.2)
def kfl (j : Nat) (κ : aK) : aK := (κ.1, κ.2.1, qfl j κ.2.2.1, κ.2.2.2.1, κ.2.2.2.2.1, κ.2.2.2.2.2.map fun p => (qfl j p.1, p.2))
def kdp (d : Nat) (κ : aK) : aK := (κ.1, d, κ.2.2)
def cfl (j : Nat) (c : aCut) : aCut := (c.1, (qfl j c.2.1.1, c.2.1.2), c.2.2)
-- a place known more at the entry
noncomputable def kov (e : (Nat × Nat × Int) × aV) (κ : aK) : aK := (κ.1, κ.2.1, a_addO κ.2.2.1 e, κ.2.2.2.1, κ.2.2.2.2.1, κ.2.2.2.2.2)
/-- a post in the one meaning is one in the other -/
theorem aDen.fl {G : aG} {D : zD} {Fl Fl' : Nat → zH → Prop} {h0 : zH} {m : aM} {ρ : Nat → Int} {q : aQ} {h : zH} (g : aDen (G, D, Fl, h0, m) ρ q h) (hf : ∀ j ∈ q.2.2.2.2, Fl j h → Fl' j h) : aDen (G, D, Fl', h0, m) ρ q h := ⟨g.1, g.2.1, g.2.2.1, fun j hj => hf j hj (g.2.2.2.1 j hj), g.2.2.2.2.1, g.2.2.2.2.2⟩
theorem aDen.qfl {G : aG} {D : zD} {Fl : Nat → zH → Prop} {h0 : zH} {m : aM} {ρ : Nat → Int} {q : aQ} {h : zH} (g : aDen (G, D, Fl, h0, m) ρ q h) {j : Nat} (hj : Fl j h) : aDen (G, D, Fl, h0, m) ρ (qfl j q) h := ⟨g.1, g.2.1, g.2.2.1, fun i hi => (List.mem_cons.mp hi).elim (fun e => by rw [e]; exact hj) (g.2.2.2.1 i), g.2.2.2.2.1, g.2.2.2.2.2⟩
end
section
/-! RUNS COMPUTED (zEv); WHAT ANY RUN COMES TO (vP): partial correctness, whose runs' being there others show -/
noncomputable def zEvB (f : Nat → Nat → zS → Option zR) (mi : Nat) (o : Option zO) : Option zR := match o with
  | none => none
  | some (.inl r) => some r
  | some (.inr (.inl q)) => f mi q.1 q.2
  | some (.inr (.inr q)) => match f q.1 0 (q.2.2.2.1, zargs 0 q.2.1, []) with
    | none => none
    | some r1 => f mi q.2.2.1 (r1.1, q.2.2.2.2.1, zpush r1.2 q.2.2.2.2.2)
noncomputable def zEvA (D : zD) (T : zT) (f : Nat → Nat → zS → Option zR) (mi pc : Nat) (st : zS) : Option zR := match T mi pc with
  | none => none
  | some i => zEvB f mi (zi D i st)
noncomputable def zEv (D : zD) (T : zT) (n : Nat) : Nat → Nat → zS → Option zR := Nat.rec (motive := fun _ => Nat → Nat → zS → Option zR) (fun _ _ _ => none) (fun _ f mi pc st => zEvA D T f mi pc st) n
theorem zEv_s {D : zD} {T : zT} {n mi pc : Nat} {st : zS} {i : zX} (hi : T mi pc = some i) : zEv D T (n + 1) mi pc st = zEvB (zEv D T n) mi (zi D i st) := by
  show zEvA D T (zEv D T n) mi pc st = _
  unfold zEvA
  rw [hi]
theorem zEvB_mono {f g : Nat → Nat → zS → Option zR} (hfg : ∀ mi pc st r, f mi pc st = some r → g mi pc st = some r) {mi : Nat} {o : Option zO} {r : zR} (h : zEvB f mi o = some r) : zEvB g mi o = some r := by
  match o, h with
  | none, h => cases h
  | some (.inl q), h => exact h
  | some (.inr (.inl q)), h => exact hfg _ _ _ _ h
  | some (.inr (.inr q)), h =>
    have h : (match f q.1 0 (q.2.2.2.1, zargs 0 q.2.1, []) with
      | none => none
      | some r1 => f mi q.2.2.1 (r1.1, q.2.2.2.2.1, zpush r1.2 q.2.2.2.2.2)) = some r := h
    show (match g q.1 0 (q.2.2.2.1, zargs 0 q.2.1, []) with
      | none => none
      | some r1 => g mi q.2.2.1 (r1.1, q.2.2.2.2.1, zpush r1.2 q.2.2.2.2.2)) = some r
    cases hc : f q.1 0 (q.2.2.2.1, zargs 0 q.2.1, []) with
    | none => rw [hc] at h; cases h
    | some r1 =>
      rw [hc] at h
      rw [hfg _ _ _ _ hc]
      exact hfg _ _ _ _ h
theorem zEv_up {D : zD} {T : zT} : ∀ {n mi pc : Nat} {st : zS} {r : zR}, zEv D T n mi pc st = some r → zEv D T (n + 1) mi pc st = some r := by
  intro n
  induction n with
  | zero => intro mi pc st r h; cases h
  | succ n ih =>
    intro mi pc st r h
    cases hi : T mi pc with
    | none =>
      have h : zEvA D T (zEv D T n) mi pc st = some r := h
      unfold zEvA at h
      rw [hi] at h
      cases h
    | some i =>
      rw [zEv_s hi] at h ⊢
      exact zEvB_mono (fun _ _ _ _ => ih) h
theorem zEv_le {D : zD} {T : zT} {n m mi pc : Nat} {st : zS} {r : zR} (h : zEv D T n mi pc st = some r) (hm : n ≤ m) : zEv D T m mi pc st = some r := by
  obtain ⟨k, rfl⟩ := Nat.le.dest hm
  clear hm
  induction k with
  | zero => exact h
  | succ k ih => exact zEv_up ih
theorem zRun_ev {D : zD} {T : zT} {d mi pc : Nat} {st : zS} {r : zR} (h : zRun D T d mi pc st r) : ∃ n, zEv D T n mi pc st = some r := by
  refine h (fun _ mi pc st r => ∃ n, zEv D T n mi pc st = some r) ?_
  intro d mi pc st r ⟨i, hi, hF⟩
  cases hz : zi D i st with
  | none => rw [hz] at hF; exact hF.elim
  | some o =>
    rw [hz] at hF
    match o, hF, hz with
    | .inl q, hF, hz =>
      have hF : r = q := hF
      exact ⟨1, by rw [zEv_s hi, hz, hF]; rfl⟩
    | .inr (.inl q), ⟨n, hn⟩, hz => exact ⟨n + 1, by rw [zEv_s hi, hz]; exact hn⟩
    | .inr (.inr q), ⟨d', r1, _, ⟨n1, h2⟩, ⟨n2, h3⟩⟩, hz =>
      refine ⟨max n1 n2 + 1, ?_⟩
      rw [zEv_s hi, hz]
      show (match zEv D T (max n1 n2) q.1 0 (q.2.2.2.1, zargs 0 q.2.1, []) with
        | none => none
        | some r1 => zEv D T (max n1 n2) mi q.2.2.1 (r1.1, q.2.2.2.2.1, zpush r1.2 q.2.2.2.2.2)) = some r
      rw [zEv_le h2 (Nat.le_max_left _ _)]
      exact zEv_le h3 (Nat.le_max_right _ _)
theorem zRun_det {D : zD} {T : zT} {d d' mi pc : Nat} {st : zS} {r r' : zR} (h : zRun D T d mi pc st r) (h' : zRun D T d' mi pc st r') : r = r' := by
  obtain ⟨n, h1⟩ := zRun_ev h
  obtain ⟨m, h2⟩ := zRun_ev h'
  have e1 := zEv_le h1 (Nat.le_max_left n m)
  have e2 := zEv_le h2 (Nat.le_max_right n m)
  rw [e1] at e2
  cases e2
  rfl
/-! the heap's tags, and the references that no method writes -/
def vFt : List (List Nat) := [[4, 4, 0, 0, 1, 4, 4, 4, 0], [4, 4, 1, 4, 4, 4, 4, 0, 0, 0, 0], [0, 0, 0, 0, 0, 4, 4, 4, 4, 4, 4, 4, 4, 4, 4], [4, 4, 3], [4, 4], [0, 0, 4, 4, 4, 4], [4, 4, 4, 4, 0], [4, 4, 4, 4, 0, 0, 3, 0, 0, 0, 0, 3], [4, 0, 4, 4, 4, 4, 0, 0, 0, 0, 0], [4, 0, 0], [4, 4, 4, 1, 0, 0, 4, 0, 1], [0, 1, 1, 4, 4, 4, 4, 4, 4, 4, 0, 4, 4, 4, 4, 4, 4, 0, 0, 4], [0, 0, 1, 1, 4, 4, 4, 4, 0, 0, 0, 0, 0, 0, 0, 0, 0, 0, 0, 1, 4, 4, 4, 0, 3, 0, 4, 4, 4, 0, 4, 0, 0, 0, 0, 0, 4, 4, 4, 4, 3, 3, 0, 0, 0, 0, 0, 0]]
def vMut : List (Nat × Nat) := [(0, 0), (0, 1), (1, 1), (3, 1), (4, 0), (4, 1), (6, 2), (7, 2), (7, 3), (11, 7), (11, 8)]
def vRefs : List (Nat × Nat × Int) := [(0, 3, 1), (0, 4, 10), (0, 5, 16), (0, 6, 17), (0, 9, 54), (0, 11, 100), (0, 12, 105), (0, 13, 110), (0, 14, 114), (0, 15, 117), (0, 16, 119), (0, 19, 120), (1, 0, 2), (1, 1, 4), (1, 2, 6), (1, 3, 8), (2, 0, 3), (4, 0, 5), (6, 0, 7), (8, 0, 9), (10, 0, 11), (10, 2, 12), (10, 3, 13), (10, 4, 14), (10, 5, 15), (16, 0, 10), (17, 0, 10), (17, 1, 18), (17, 3, 23), (18, 2, 19), (18, 3, 20), (18, 4, 21), (18, 5, 22), (24, 5, 25), (24, 6, 26), (24, 7, 27), (24, 8, 28), (24, 9, 29), (24, 10, 30), (24, 11, 31), (24, 12, 32), (24, 13, 33), (24, 14, 34), (34, 2, 35), (34, 3, 36), (34, 4, 37), (34, 5, 38), (39, 5, 40), (39, 6, 41), (39, 7, 42), (39, 8, 43), (39, 9, 44), (39, 10, 45), (39, 11, 46), (39, 12, 47), (39, 13, 48), (39, 14, 49), (49, 2, 50), (49, 3, 51), (49, 4, 52), (49, 5, 53), (54, 0, 55), (54, 1, 70), (54, 2, 85), (55, 5, 56), (55, 6, 57), (55, 7, 58), (55, 8, 59), (55, 9, 60), (55, 10, 61), (55, 11, 62), (55, 12, 63), (55, 13, 64), (55, 14, 65), (65, 2, 66), (65, 3, 67), (65, 4, 68), (65, 5, 69), (70, 5, 71), (70, 6, 72), (70, 7, 73), (70, 8, 74), (70, 9, 75), (70, 10, 76), (70, 11, 77), (70, 12, 78), (70, 13, 79), (70, 14, 80), (80, 2, 81), (80, 3, 82), (80, 4, 83), (80, 5, 84), (85, 5, 86), (85, 6, 87), (85, 7, 88), (85, 8, 89), (85, 9, 90), (85, 10, 91), (85, 11, 92), (85, 12, 93), (85, 13, 94), (85, 14, 95), (95, 2, 96), (95, 3, 97), (95, 4, 98), (95, 5, 99), (100, 0, 101), (100, 1, 102), (100, 2, 103), (100, 6, 104), (105, 0, 100), (105, 3, 106), (105, 4, 107), (105, 5, 108), (105, 6, 109), (110, 5, 111), (110, 6, 112), (110, 7, 113), (117, 0, 100), (117, 1, 118), (121, 4, 122), (121, 5, 123), (121, 6, 124), (121, 7, 125), (121, 20, 126), (121, 21, 127), (121, 22, 128), (121, 26, 129), (121, 27, 130), (121, 28, 131), (121, 30, 132), (121, 36, 133), (121, 37, 134), (121, 38, 135), (121, 39, 136)]
def vCode (r k : Nat) : Option Nat := match zShape[r]? with
  | some (.inl q) => if k < q.2 then some (zcode q.1) else none
  | some (.inr q) => match vFt[q.1]? with
    | some l => l[k]?
    | none => none
  | none => none
def vTag (c : Nat) : Nat := if c = 1 then 1 else 0
def zHv (h : zH) : Prop := (∀ r k c, vCode r k = some c → c ≠ 4 → (h r k).1 = vTag c) ∧ ∀ x ∈ vRefs, h x.1 x.2.1 = (2, x.2.2)
def vOKi (i : zX) : Bool := match i with
  | (21, _, ci, k, c, _) => (match vFt[ci]? with
    | some l => l[k]? == some c.toNat
    | none => false) && (c.toNat != 4 || vMut.contains (ci, k))
  | _ => true
def vOK (T : zT) : Prop := ∀ mi pc i, T mi pc = some i → vOKi i = true
theorem vRefs_ok : (vRefs.all fun x => vCode x.1 x.2.1 == some 4 && (match zShape[x.1]? with
  | some (.inr q) => !vMut.contains (q.1, x.2.1)
  | _ => true)) = true := by decide +kernel
theorem vRefs_at {x : Nat × Nat × Int} (hx : x ∈ vRefs) : vCode x.1 x.2.1 = some 4 ∧ ∀ q, zShape[x.1]? = some (.inr q) → vMut.contains (q.1, x.2.1) = false := by
  have h := List.all_eq_true.mp vRefs_ok x hx
  rw [Bool.and_eq_true] at h
  refine ⟨eq_of_beq h.1, fun q hq => ?_⟩
  have h2 := h.2
  rw [hq] at h2
  have h2 : (!vMut.contains (q.1, x.2.1)) = true := h2
  rw [Bool.not_eq_true'] at h2
  exact h2
theorem zfit_tag {c : Nat} {v : zV} (h : zfit c v = true) (hc : c ≠ 4) : v.1 = vTag c := by
  unfold zfit at h
  split at h
  · exact of_decide_eq_true h
  · exact of_decide_eq_true h
  · rw [Bool.and_eq_true] at h; exact of_decide_eq_true h.1
  · rw [Bool.and_eq_true] at h; exact of_decide_eq_true h.1
  · exact absurd rfl hc
  · cases h
theorem zset_same {h : zH} {r k : Nat} {v : zV} : zset h r k v r k = v := if_pos ⟨rfl, rfl⟩
theorem zset_ne {h : zH} {r k r' k' : Nat} {v : zV} (hn : ¬ (r' = r ∧ k' = k)) : zset h r k v r' k' = h r' k' := if_neg hn
theorem zHv.set {h : zH} (hv : zHv h) {r k c : Nat} {v : zV} (hc : vCode r k = some c) (hf : c ≠ 4 → v.1 = vTag c) (hr : ∀ x ∈ vRefs, ¬ (x.1 = r ∧ x.2.1 = k)) : zHv (zset h r k v) := by
  refine ⟨fun r' k' c' h1 h2 => ?_, fun x hx => ?_⟩
  · by_cases e : r' = r ∧ k' = k
    · obtain ⟨rfl, rfl⟩ := e
      rw [hc] at h1
      cases h1
      rw [zset_same]
      exact hf h2
    · rw [zset_ne e]
      exact hv.1 _ _ _ h1 h2
  · rw [zset_ne (hr x hx)]
    exact hv.2 x hx
theorem zHv.putf {h : zH} (hv : zHv h) {nx ci k r : Nat} {c : Int} {cs : List (Int × Nat)} {v : zV} (hO : vOKi (21, nx, ci, k, c, cs) = true) (hr : zisO ci (r : Int) = true) (hf : zfit c.toNat v = true) : zHv (zset h r k v) := by
  have hO : ((match vFt[ci]? with
    | some l => l[k]? == some c.toNat
    | none => false) && (c.toNat != 4 || vMut.contains (ci, k))) = true := hO
  rw [Bool.and_eq_true] at hO
  unfold zisO at hr
  rw [Int.toNat_natCast] at hr
  split at hr
  · rename_i q hq
    have hq1 : q.1 = ci := eq_of_beq hr
    have hcode : vCode r k = some c.toNat := by
      unfold vCode
      rw [hq]
      show (match vFt[q.1]? with
        | some l => l[k]?
        | none => none) = _
      rw [hq1]
      cases hl : vFt[ci]? with
      | none => rw [hl] at hO; exact absurd hO.1 Bool.false_ne_true
      | some l => rw [hl] at hO; exact eq_of_beq hO.1
    refine hv.set hcode (fun hne => zfit_tag hf hne) (fun x hx e => ?_)
    obtain ⟨e1, e2⟩ := e
    obtain ⟨x1, x2⟩ := vRefs_at hx
    rw [e1, e2, hcode] at x1
    have x1 : c.toNat = 4 := Option.some.inj x1
    rw [e1] at x2
    have := x2 q hq
    rw [hq1, e2] at this
    have h4 := hO.2
    rw [this, Bool.or_false, x1] at h4
    exact absurd h4 (by decide)
  · cases hr
theorem zHv.ast {h : zH} (hv : zHv h) {c : Nat} {r i : Int} {v : zV} (hr : zarr c r i = true) (hf : zfit c v = true) (h4 : c < 4) : zHv (zset h r.toNat i.toNat v) := by
  unfold zarr at hr
  split at hr
  · rename_i q hq
    rw [Bool.and_eq_true, Bool.and_eq_true] at hr
    have e1 : zcode q.1 = c := eq_of_beq hr.1
    have e2 : 0 ≤ i := of_decide_eq_true hr.2.1
    have e3 : i < (q.2 : Int) := of_decide_eq_true hr.2.2
    have hcode : vCode r.toNat i.toNat = some c := by
      unfold vCode
      rw [hq]
      show (if i.toNat < q.2 then some (zcode q.1) else none) = _
      rw [if_pos (by omega), e1]
    refine hv.set hcode (fun hne => zfit_tag hf hne) (fun x hx e => ?_)
    have := (vRefs_at hx).1
    rw [e.1, e.2, hcode] at this
    cases this
    omega
  · cases hr
theorem zHv.copy {h : zH} (hv : zHv h) {c : Nat} {r0 sp r1 dp n : Int} (h0 : zroom c r0 sp n = true) (h1 : zroom c r1 dp n = true) (h2 : c < 2) : zHv (zcopy h r0.toNat sp.toNat r1.toNat dp.toNat n.toNat) := by
  unfold zroom at h0 h1
  split at h0
  · rename_i q hq
    split at h1
    · rename_i p hp
      rw [Bool.and_eq_true, Bool.and_eq_true, Bool.and_eq_true] at h0 h1
      have a1 : zcode q.1 = c := eq_of_beq h0.1
      have a2 : 0 ≤ sp := of_decide_eq_true h0.2.1
      have a3 : 0 ≤ n := of_decide_eq_true h0.2.2.1
      have a4 : sp + n ≤ (q.2 : Int) := of_decide_eq_true h0.2.2.2
      have b1 : zcode p.1 = c := eq_of_beq h1.1
      have b2 : 0 ≤ dp := of_decide_eq_true h1.2.1
      have b4 : dp + n ≤ (p.2 : Int) := of_decide_eq_true h1.2.2.2
      have src : ∀ k, k < n.toNat → vCode r0.toNat (sp.toNat + k) = some c := fun k hk => by
        unfold vCode
        rw [hq]
        show (if sp.toNat + k < q.2 then some (zcode q.1) else none) = _
        rw [if_pos (by omega), a1]
      have dst : ∀ k, k < n.toNat → vCode r1.toNat (dp.toNat + k) = some c := fun k hk => by
        unfold vCode
        rw [hp]
        show (if dp.toNat + k < p.2 then some (zcode p.1) else none) = _
        rw [if_pos (by omega), b1]
      refine ⟨fun r' k' c' x1 x2 => ?_, fun x hx => ?_⟩
      · show (if r' = r1.toNat ∧ dp.toNat ≤ k' ∧ k' < dp.toNat + n.toNat then h r0.toNat (sp.toNat + (k' - dp.toNat)) else h r' k').1 = _
        by_cases e : r' = r1.toNat ∧ dp.toNat ≤ k' ∧ k' < dp.toNat + n.toNat
        · rw [if_pos e]
          obtain ⟨rfl, e2, e3⟩ := e
          have d := dst (k' - dp.toNat) (by omega)
          rw [show dp.toNat + (k' - dp.toNat) = k' by omega, x1] at d
          cases d
          exact hv.1 _ _ _ (src (k' - dp.toNat) (by omega)) x2
        · rw [if_neg e]
          exact hv.1 _ _ _ x1 x2
      · show (if x.1 = r1.toNat ∧ dp.toNat ≤ x.2.1 ∧ x.2.1 < dp.toNat + n.toNat then h r0.toNat (sp.toNat + (x.2.1 - dp.toNat)) else h x.1 x.2.1) = _
        rw [if_neg (fun e => ?_)]
        · exact hv.2 x hx
        · have d := dst (x.2.1 - dp.toNat) (by omega)
          rw [show dp.toNat + (x.2.1 - dp.toNat) = x.2.1 by omega, ← e.1, (vRefs_at hx).1] at d
          cases d
          omega
    · cases h1
  · cases h0
def zOh (o : zO) : zH := match o with
  | .inl r => r.1
  | .inr (.inl q) => q.2.1
  | .inr (.inr q) => q.2.2.2.1
section ZH
variable {D : zD} {st : zS} {o : zO} {nx a b : Nat} {z : Int} {cs : List (Int × Nat)}
theorem zh_load (h : z_load nx a b st = some o) : zOh o = st.1 := by
  unfold z_load znx at h
  repeat' split at h
  all_goals first | (cases h; rfl) | cases h
theorem zh_store1 (h : z_store1 nx a b st = some o) : zOh o = st.1 := by
  unfold z_store1 znx at h
  repeat' split at h
  all_goals first | (cases h; rfl) | cases h
theorem zh_store2 (h : z_store2 nx a st = some o) : zOh o = st.1 := by
  unfold z_store2 znx at h
  repeat' split at h
  all_goals first | (cases h; rfl) | cases h
theorem zh_iinc (h : z_iinc nx a z st = some o) : zOh o = st.1 := by
  unfold z_iinc znx at h
  repeat' split at h
  all_goals first | (cases h; rfl) | cases h
theorem zh_un32 (h : z_un32 nx b st = some o) : zOh o = st.1 := by
  unfold z_un32 znx at h
  repeat' split at h
  all_goals first | (cases h; rfl) | cases h
theorem zh_bin32 (h : z_bin32 nx b st = some o) : zOh o = st.1 := by
  unfold z_bin32 znx at h
  repeat' split at h
  all_goals first | (cases h; rfl) | cases h
theorem zh_div32 (h : z_div32 nx b st = some o) : zOh o = st.1 := by
  unfold z_div32 znx at h
  repeat' split at h
  all_goals first | (cases h; rfl) | cases h
theorem zh_neg64 (h : z_neg64 nx st = some o) : zOh o = st.1 := by
  unfold z_neg64 znx at h
  repeat' split at h
  all_goals first | (cases h; rfl) | cases h
theorem zh_bin64 (h : z_bin64 nx b st = some o) : zOh o = st.1 := by
  unfold z_bin64 znx at h
  repeat' split at h
  all_goals first | (cases h; rfl) | cases h
theorem zh_div64 (h : z_div64 nx b st = some o) : zOh o = st.1 := by
  unfold z_div64 znx at h
  repeat' split at h
  all_goals first | (cases h; rfl) | cases h
theorem zh_sh64 (h : z_sh64 nx b st = some o) : zOh o = st.1 := by
  unfold z_sh64 znx at h
  repeat' split at h
  all_goals first | (cases h; rfl) | cases h
theorem zh_i2l (h : z_i2l nx st = some o) : zOh o = st.1 := by
  unfold z_i2l znx at h
  repeat' split at h
  all_goals first | (cases h; rfl) | cases h
theorem zh_l2i (h : z_l2i nx st = some o) : zOh o = st.1 := by
  unfold z_l2i znx at h
  repeat' split at h
  all_goals first | (cases h; rfl) | cases h
theorem zh_lcmp (h : z_lcmp nx st = some o) : zOh o = st.1 := by
  unfold z_lcmp at h
  split at h
  · have h : znx nx _ = some o := h
    unfold znx at h
    cases h
    rfl
  · cases h
theorem zh_stk (h : z_stk nx b st = some o) : zOh o = st.1 := by
  unfold z_stk znx at h
  repeat' split at h
  all_goals first | (cases h; rfl) | cases h
theorem zh_if (h : z_if nx a b st = some o) : zOh o = st.1 := by
  unfold z_if at h
  split at h
  · have h : znx _ _ = some o := h
    unfold znx at h
    cases h
    rfl
  · cases h
theorem zh_icmp (h : z_icmp nx a b st = some o) : zOh o = st.1 := by
  unfold z_icmp at h
  split at h
  · have h : znx _ _ = some o := h
    unfold znx at h
    cases h
    rfl
  · cases h
theorem zh_sw (h : z_sw nx cs st = some o) : zOh o = st.1 := by
  unfold z_sw at h
  split at h
  · have h : znx _ _ = some o := h
    unfold znx at h
    cases h
    rfl
  · cases h
theorem zh_getf (h : z_getf nx a b st = some o) : zOh o = st.1 := by
  unfold z_getf znx at h
  repeat' split at h
  all_goals first | (cases h; rfl) | cases h
theorem zh_ald (h : z_ald D nx a st = some o) : zOh o = st.1 := by
  unfold z_ald znx at h
  repeat' split at h
  all_goals first | (cases h; rfl) | cases h
theorem zh_alen (h : z_alen D nx st = some o) : zOh o = st.1 := by
  unfold z_alen znx at h
  repeat' split at h
  all_goals first | (cases h; rfl) | cases h
theorem zh_slen (h : z_slen D nx st = some o) : zOh o = st.1 := by
  unfold z_slen znx at h
  repeat' split at h
  all_goals first | (cases h; rfl) | cases h
theorem zh_char (h : z_char D nx st = some o) : zOh o = st.1 := by
  unfold z_char znx at h
  repeat' split at h
  all_goals first | (cases h; rfl) | cases h
theorem zh_math (h : z_math nx b st = some o) : zOh o = st.1 := by
  unfold z_math at h
  split at h
  · split at h
    · unfold znx at h; cases h; rfl
    · cases h
  · split at h
    · unfold znx at h; cases h; rfl
    · cases h
  · split at h
    · unfold znx at h; cases h; rfl
    · cases h
  · split at h
    · have h : znx _ _ = some o := h
      unfold znx at h; cases h; rfl
    · cases h
  · cases h
theorem zh_call {c : Int} {w mj n : Nat} (h : z_call nx mj n c w st = some o) : zOh o = st.1 := by
  unfold z_call at h
  repeat' split at h
  all_goals first | (cases h; rfl) | cases h
theorem zh_ret (h : z_ret b a st = some o) : zOh o = st.1 := by
  unfold z_ret at h
  repeat' split at h
  all_goals first | (cases h; rfl) | cases h
theorem zh_putf (hO : vOKi (21, nx, a, b, z, cs) = true) (hv : zHv st.1) (h : z_putf nx a b z st = some o) : zHv (zOh o) := by
  unfold z_putf znx at h
  split at h
  · rename_i v r S hS
    split at h
    · rename_i hc
      cases h
      show zHv (zset st.1 r.toNat b v)
      have hr : zisO a (r.toNat : Int) = true := by
        have := hc.1
        unfold zisO at this ⊢
        rw [Int.toNat_natCast]
        exact this
      exact hv.putf hO hr hc.2
    · cases h
  · cases h
theorem zh_ast (hv : zHv st.1) (h : z_ast nx a st = some o) : zHv (zOh o) := by
  unfold z_ast znx at h
  split at h
  · split at h
    · rename_i hc
      cases h
      exact hv.ast hc.1 hc.2.1 hc.2.2
    · cases h
  · cases h
theorem zh_copy (hv : zHv st.1) (h : z_copy nx a st = some o) : zHv (zOh o) := by
  unfold z_copy znx at h
  split at h
  · split at h
    · rename_i hc
      cases h
      exact hv.copy hc.1 hc.2.1 hc.2.2.2
    · cases h
  · cases h
end ZH
theorem zi_hv {D : zD} {st : zS} {o : zO} : ∀ {i : zX}, vOKi i = true → zHv st.1 → zi D i st = some o → zHv (zOh o)
  | (0, nx, a, b, z, cs), _, hv, h => by cases h; exact hv
  | (1, nx, a, b, z, cs), _, hv, h => by cases h; exact hv
  | (2, nx, a, b, z, cs), _, hv, h => by rw [zh_load h]; exact hv
  | (3, nx, a, b, z, cs), _, hv, h => by rw [zh_store1 h]; exact hv
  | (4, nx, a, b, z, cs), _, hv, h => by rw [zh_store2 h]; exact hv
  | (5, nx, a, b, z, cs), _, hv, h => by rw [zh_iinc h]; exact hv
  | (6, nx, a, b, z, cs), _, hv, h => by rw [zh_un32 h]; exact hv
  | (7, nx, a, b, z, cs), _, hv, h => by rw [zh_bin32 h]; exact hv
  | (8, nx, a, b, z, cs), _, hv, h => by rw [zh_div32 h]; exact hv
  | (9, nx, a, b, z, cs), _, hv, h => by rw [zh_neg64 h]; exact hv
  | (10, nx, a, b, z, cs), _, hv, h => by rw [zh_bin64 h]; exact hv
  | (11, nx, a, b, z, cs), _, hv, h => by rw [zh_div64 h]; exact hv
  | (12, nx, a, b, z, cs), _, hv, h => by rw [zh_sh64 h]; exact hv
  | (13, nx, a, b, z, cs), _, hv, h => by rw [zh_i2l h]; exact hv
  | (14, nx, a, b, z, cs), _, hv, h => by rw [zh_l2i h]; exact hv
  | (15, nx, a, b, z, cs), _, hv, h => by rw [zh_stk h]; exact hv
  | (16, nx, a, b, z, cs), _, hv, h => by rw [zh_if h]; exact hv
  | (17, nx, a, b, z, cs), _, hv, h => by rw [zh_icmp h]; exact hv
  | (18, nx, a, b, z, cs), _, hv, h => by rw [zh_lcmp h]; exact hv
  | (19, nx, a, b, z, cs), _, hv, h => by rw [zh_sw h]; exact hv
  | (20, nx, a, b, z, cs), _, hv, h => by rw [zh_getf h]; exact hv
  | (21, nx, a, b, z, cs), hO, hv, h => zh_putf hO hv h
  | (22, nx, a, b, z, cs), _, hv, h => by rw [zh_ald h]; exact hv
  | (23, nx, a, b, z, cs), _, hv, h => zh_ast hv h
  | (24, nx, a, b, z, cs), _, hv, h => by rw [zh_alen h]; exact hv
  | (25, nx, a, b, z, cs), _, hv, h => by rw [zh_slen h]; exact hv
  | (26, nx, a, b, z, cs), _, hv, h => by rw [zh_char h]; exact hv
  | (27, nx, a, b, z, cs), _, hv, h => by rw [zh_math h]; exact hv
  | (28, nx, a, b, z, cs), _, hv, h => zh_copy hv h
  | (29, nx, a, b, z, cs), _, hv, h => by rw [zh_call h]; exact hv
  | (30, nx, a, b, z, cs), _, hv, h => by rw [zh_ret h]; exact hv
  | (n + 31, nx, a, b, z, cs), _, hv, h => by cases h
theorem zEv_hv {D : zD} {T : zT} (hO : vOK T) : ∀ {n mi pc : Nat} {st : zS} {r : zR}, zEv D T n mi pc st = some r → zHv st.1 → zHv r.1 := by
  intro n
  induction n with
  | zero => intro mi pc st r h; cases h
  | succ n ih =>
    intro mi pc st r h hv
    cases hi : T mi pc with
    | none =>
      have h : zEvA D T (zEv D T n) mi pc st = some r := h
      unfold zEvA at h
      rw [hi] at h
      cases h
    | some i =>
      rw [zEv_s hi] at h
      cases hz : zi D i st with
      | none => rw [hz] at h; cases h
      | some o =>
        have g := zi_hv (hO _ _ _ hi) hv hz
        rw [hz] at h
        match o, h, g with
        | .inl q, h, g => cases h; exact g
        | .inr (.inl q), h, g => exact ih h g
        | .inr (.inr q), h, g =>
          have h : (match zEv D T n q.1 0 (q.2.2.2.1, zargs 0 q.2.1, []) with
            | none => none
            | some r1 => zEv D T n mi q.2.2.1 (r1.1, q.2.2.2.2.1, zpush r1.2 q.2.2.2.2.2)) = some r := h
          cases hc : zEv D T n q.1 0 (q.2.2.2.1, zargs 0 q.2.1, []) with
          | none => rw [hc] at h; cases h
          | some r1 => rw [hc] at h; exact ih h (ih hc g)
end
section
/-! LOCALS AS LISTS -/
def vL (l : List (Option zV)) : zL := fun k => match l[k]? with
  | some v => v
  | none => none
def vkill (v : Option zV) : Option zV := match v with
  | some w => if zcat w = 2 then none else some w
  | none => none
def vk1 (i : Nat) (a : Option zV) : Option zV := match i with
  | 0 => vkill a
  | _ + 1 => a
theorem vk1_eq {i : Nat} {a : Option zV} : (match a with
  | some w => if 0 + 1 = i + 1 ∧ zcat w = 2 then none else some w
  | none => none) = vk1 i a := by
  cases i with
  | zero =>
    cases a with
    | none => rfl
    | some w =>
      show (if 0 + 1 = 0 + 1 ∧ zcat w = 2 then none else some w) = if zcat w = 2 then none else some w
      by_cases h : zcat w = 2
      · rw [if_pos ⟨rfl, h⟩, if_pos h]
      · rw [if_neg (fun c => h c.2), if_neg h]
  | succ i =>
    cases a with
    | none => rfl
    | some w => exact if_neg (fun c => absurd c.1 (by omega))
def vput1 : List (Option zV) → Nat → zV → List (Option zV)
  | [], _, _ => []
  | _ :: t, 0, v => some v :: t
  | a :: t, i + 1, v => vk1 i a :: vput1 t i v
def vput2 : List (Option zV) → Nat → zV → List (Option zV)
  | [], _, _ => []
  | _ :: t, 0, v => some v :: (match t with
    | [] => []
    | _ :: t' => none :: t')
  | a :: t, i + 1, v => vk1 i a :: vput2 t i v
def vargs : Nat → List zV → List (Option zV)
  | w, [] => List.replicate w none
  | w, v :: vs => some v :: (if zcat v = 2 then none :: vargs (w - 2) vs else vargs (w - 1) vs)
theorem vL_cons {a : Option zV} {t : List (Option zV)} {k : Nat} : vL (a :: t) (k + 1) = vL t k := rfl
theorem vput1_eq {v : zV} : ∀ {l : List (Option zV)} {i : Nat}, i < l.length → zput1 (vL l) i v = vL (vput1 l i v)
  | [], i, h => absurd h (Nat.not_lt_zero _)
  | a :: t, 0, _ => by
    funext k
    unfold zput1
    cases k with
    | zero => rfl
    | succ k =>
      rw [if_neg (by omega), vL_cons]
      show _ = vL t k
      cases vL t k with
      | none => rfl
      | some w => exact if_neg (fun c => by omega)
  | a :: t, i + 1, h => by
    have ih := vput1_eq (v := v) (l := t) (i := i) (Nat.lt_of_succ_lt_succ h)
    funext k
    cases k with
    | zero =>
      unfold zput1
      rw [if_neg (by omega)]
      exact vk1_eq
    | succ k =>
      show zput1 (vL (a :: t)) (i + 1) v (k + 1) = vL (vput1 t i v) k
      rw [← ih]
      unfold zput1
      rw [vL_cons]
      by_cases e : k = i
      · rw [if_pos e, if_pos (by omega)]
      · rw [if_neg e, if_neg (by omega)]
        cases vL t k with
        | none => rfl
        | some w =>
          show (if k + 1 + 1 = i + 1 ∧ zcat w = 2 then none else some w) = if k + 1 = i ∧ zcat w = 2 then none else some w
          by_cases e2 : k + 1 = i ∧ zcat w = 2
          · rw [if_pos e2, if_pos ⟨by omega, e2.2⟩]
          · rw [if_neg e2, if_neg (fun c => e2 ⟨by omega, c.2⟩)]
theorem vput2_eq {v : zV} : ∀ {l : List (Option zV)} {i : Nat}, i < l.length → zput2 (vL l) i v = vL (vput2 l i v)
  | [], i, h => absurd h (Nat.not_lt_zero _)
  | a :: t, 0, _ => by
    funext k
    unfold zput2
    cases k with
    | zero => rfl
    | succ k =>
      rw [if_neg (by omega), vL_cons]
      cases k with
      | zero =>
        rw [if_pos rfl]
        cases t <;> rfl
      | succ k =>
        rw [if_neg (by omega)]
        cases t with
        | nil => rfl
        | cons b t =>
          show _ = vL t k
          rw [vL_cons]
          cases vL t k with
          | none => rfl
          | some w => exact if_neg (fun c => by omega)
  | a :: t, i + 1, h => by
    have ih := vput2_eq (v := v) (l := t) (i := i) (Nat.lt_of_succ_lt_succ h)
    funext k
    cases k with
    | zero =>
      unfold zput2
      rw [if_neg (by omega), if_neg (by omega)]
      exact vk1_eq
    | succ k =>
      show zput2 (vL (a :: t)) (i + 1) v (k + 1) = vL (vput2 t i v) k
      rw [← ih]
      unfold zput2
      rw [vL_cons]
      by_cases e : k = i
      · rw [if_pos e, if_pos (by omega)]
      · rw [if_neg e, if_neg (by omega)]
        by_cases e1 : k = i + 1
        · rw [if_pos e1, if_pos (by omega)]
        · rw [if_neg e1, if_neg (by omega)]
          cases vL t k with
          | none => rfl
          | some w =>
            show (if k + 1 + 1 = i + 1 ∧ zcat w = 2 then none else some w) = if k + 1 = i ∧ zcat w = 2 then none else some w
            by_cases e2 : k + 1 = i ∧ zcat w = 2
            · rw [if_pos e2, if_pos ⟨by omega, e2.2⟩]
            · rw [if_neg e2, if_neg (fun c => e2 ⟨by omega, c.2⟩)]
theorem vL_rep {w k : Nat} : vL (List.replicate w none) k = none := by
  unfold vL
  rw [List.getElem?_replicate]
  by_cases h : k < w
  · rw [if_pos h]
  · rw [if_neg h]
theorem zargs_lt : ∀ {as : List zV} {i k : Nat}, k < i → zargs i as k = none
  | [], i, k, _ => rfl
  | v :: vs, i, k, h => by
    show (if k = i then some v else zargs (if zcat v = 2 then i + 2 else i + 1) vs k) = none
    rw [if_neg (by omega)]
    exact zargs_lt (by split <;> omega)
theorem zargs_sh : ∀ {as : List zV} {w i k : Nat}, zargs i as (i + k) = vL (vargs w as) k
  | [], w, i, k => vL_rep.symm
  | v :: vs, w, i, k => by
    show (if i + k = i then some v else zargs (if zcat v = 2 then i + 2 else i + 1) vs (i + k)) = _
    cases k with
    | zero => rw [if_pos (Nat.add_zero i)]; rfl
    | succ k =>
      rw [if_neg (by omega)]
      show _ = vL (if zcat v = 2 then none :: vargs (w - 2) vs else vargs (w - 1) vs) k
      by_cases h : zcat v = 2
      · rw [if_pos h, if_pos h]
        cases k with
        | zero => exact zargs_lt (by omega)
        | succ k =>
          show _ = vL (vargs (w - 2) vs) k
          rw [show i + (k + 1 + 1) = i + 2 + k by omega]
          exact zargs_sh
      · rw [if_neg h, if_neg h, show i + (k + 1) = i + 1 + k by omega]
        exact zargs_sh
theorem zargs_vL {as : List zV} (w : Nat) : zargs 0 as = vL (vargs w as) := by
  funext k
  rw [← zargs_sh (i := 0), Nat.zero_add]
/-! WHAT ANY RUN COMES TO -/
def vP (D : zD) (T : zT) (N mi pc : Nat) (h : zH) (l : List (Option zV)) (S : List zV) (Q : zR → Prop) : Prop := zHv h → ∀ n r, n < N → zEv D T n mi pc (h, vL l, S) = some r → Q r
theorem vP_dn {D : zD} {T : zT} {N mi pc : Nat} {h : zH} {l : List (Option zV)} {S : List zV} {Q : zR → Prop} (k : vP D T (N + 1) mi pc h l S Q) : vP D T N mi pc h l S Q := fun hv n r hn => k hv n r (by omega)
theorem vP_le {D : zD} {T : zT} {M N mi pc : Nat} {h : zH} {l : List (Option zV)} {S : List zV} {Q : zR → Prop} (hM : N ≤ M) (k : vP D T M mi pc h l S Q) : vP D T N mi pc h l S Q := fun hv n r hn => k hv n r (by omega)
theorem vP_stepS {D : zD} {T : zT} {N mi pc : Nat} {h : zH} {l : List (Option zV)} {S : List zV} {Q : zR → Prop} {i : zX} (hi : T mi pc = some i) (hz : ∀ o, zHv h → zi D i (h, vL l, S) = some o → ∃ nx h' l' S', o = .inr (.inl (nx, (h', vL l', S'))) ∧ zHv h' ∧ vP D T N mi nx h' l' S' Q) : vP D T (N + 1) mi pc h l S Q := by
  intro hv n r hn he
  cases n with
  | zero => cases he
  | succ n =>
    rw [zEv_s hi] at he
    cases hzz : zi D i (h, vL l, S) with
    | none => rw [hzz] at he; cases he
    | some o =>
      rw [hzz] at he
      obtain ⟨nx, h', l', S', e, hv', k⟩ := hz o hv hzz
      rw [e] at he
      exact k hv' n r (by omega) he
theorem vP_mono {D : zD} {T : zT} {N mi pc : Nat} {h : zH} {l : List (Option zV)} {S : List zV} {Q Q' : zR → Prop} (hO : vOK T) (hQ : ∀ r, zHv r.1 → Q r → Q' r) (k : vP D T N mi pc h l S Q) : vP D T N mi pc h l S Q' := fun hv n r hn he => hQ r (zEv_hv hO he hv) (k hv n r hn he)
/-- a run that is there -/
theorem vP_run {D : zD} {T : zT} {d mi pc : Nat} {h : zH} {l : List (Option zV)} {S : List zV} {Q : zR → Prop} {r : zR} (hr : zRun D T d mi pc (h, vL l, S) r) (hv : zHv h) (k : ∀ N, vP D T N mi pc h l S Q) : Q r := by
  obtain ⟨n, hn⟩ := zRun_ev hr
  exact k (n + 1) hv n r (Nat.lt_succ_self _) hn
theorem vP_loop {D : zD} {T : zT} {mi pc : Nat} {Q : zR → Prop} (I : zH → List (Option zV) → Prop) (st : ∀ N h l, I h l → (∀ h' l', I h' l' → vP D T N mi pc h' l' [] Q) → vP D T (N + 1) mi pc h l [] Q) : ∀ N h l, I h l → vP D T N mi pc h l [] Q := by
  intro N
  induction N with
  | zero => exact fun h l _ _ n r hn => absurd hn (Nat.not_lt_zero _)
  | succ N ih => exact fun h l hI => st N h l hI ih
section VR
variable {D : zD} {T : zT} {N mi pc nx a b : Nat} {z : Int} {cs : List (Int × Nat)} {h : zH} {l : List (Option zV)} {S : List zV} {Q : zR → Prop}
theorem vP_E {i : zX} {h' : zH} {l' : List (Option zV)} {S' : List zV} (hi : T mi pc = some i) (hz : zi D i (h, vL l, S) = some (.inr (.inl (nx, (h', vL l', S'))))) (hh : zHv h → zHv h') (k : vP D T N mi nx h' l' S' Q) : vP D T (N + 1) mi pc h l S Q := vP_stepS hi (fun o hv ho => by
  rw [hz] at ho
  cases ho
  exact ⟨nx, h', l', S', rfl, hh hv, k⟩)
theorem vP_N {i : zX} (hi : T mi pc = some i) (hz : zi D i (h, vL l, S) = none) : vP D T N mi pc h l S Q := vP_dn (vP_stepS hi (fun o _ ho => by
  rw [hz] at ho
  cases ho))
theorem v_push {t : Nat} (w : Int) (hi : T mi pc = some (0, nx, t, b, z, cs)) (hw : z = w) (k : vP D T N mi nx h l ((t, w) :: S) Q) : vP D T N mi pc h l S Q := by
  subst hw
  exact vP_dn (vP_E hi rfl id k)
theorem v_goto (hi : T mi pc = some (1, nx, a, b, z, cs)) (k : vP D T N mi nx h l S Q) : vP D T N mi pc h l S Q := vP_dn (vP_E hi rfl id k)
theorem v_loadS {v : zV} (hi : T mi pc = some (2, nx, a, b, z, cs)) (hl : vL l a = some v) (hk : zkind v = b) (k : vP D T N mi nx h l (v :: S) Q) : vP D T (N + 1) mi pc h l S Q := by
  refine vP_E hi ?_ id k
  show z_load nx a b (h, vL l, S) = _
  unfold z_load
  dsimp only
  rw [hl]
  exact if_pos hk
theorem v_load {v : zV} (hi : T mi pc = some (2, nx, a, b, z, cs)) (hl : vL l a = some v) (hk : zkind v = b) (k : vP D T N mi nx h l (v :: S) Q) : vP D T N mi pc h l S Q := vP_dn (v_loadS hi hl hk k)
theorem v_store1 {v : zV} (l' : List (Option zV)) (hi : T mi pc = some (3, nx, a, b, z, cs)) (hk : zkind v = b ∧ b ≠ 1) (hn : a < l.length) (hl : vput1 l a v = l') (k : vP D T N mi nx h l' S Q) : vP D T N mi pc h l (v :: S) Q := by
  subst hl
  refine vP_dn (vP_E hi ?_ id k)
  show z_store1 nx a b (h, vL l, v :: S) = _
  rw [← vput1_eq hn]
  exact if_pos hk
theorem v_store2 {x : Int} (l' : List (Option zV)) (hi : T mi pc = some (4, nx, a, b, z, cs)) (hn : a < l.length) (hl : vput2 l a (1, x) = l') (k : vP D T N mi nx h l' S Q) : vP D T N mi pc h l ((1, x) :: S) Q := by
  subst hl
  refine vP_dn (vP_E hi ?_ id k)
  show z_store2 nx a (h, vL l, (1, x) :: S) = _
  rw [← vput2_eq hn]
  rfl
theorem v_iinc {x u w : Int} (l' : List (Option zV)) (hi : T mi pc = some (5, nx, a, b, z, cs)) (hu : z = u) (hv : vL l a = some (0, x)) (hn : a < l.length) (he : (Int32.ofInt x + Int32.ofInt u).toInt = w) (hl : vput1 l a (0, w) = l') (k : vP D T N mi nx h l' S Q) : vP D T N mi pc h l S Q := by
  subst hl he hu
  refine vP_dn (vP_E hi ?_ id k)
  show z_iinc nx a z (h, vL l, S) = _
  rw [← vput1_eq hn]
  unfold z_iinc
  dsimp only
  rw [hv]
  rfl
theorem v_un {x w : Int} (hi : T mi pc = some (6, nx, a, b, z, cs)) (he : (zu32 b (Int32.ofInt x)).toInt = w) (k : vP D T N mi nx h l ((0, w) :: S) Q) : vP D T N mi pc h l ((0, x) :: S) Q := by
  subst he
  exact vP_dn (vP_E hi rfl id k)
theorem v_bin {x y w : Int} (hi : T mi pc = some (7, nx, a, b, z, cs)) (he : (zf32 b (Int32.ofInt x) (Int32.ofInt y)).toInt = w) (k : vP D T N mi nx h l ((0, w) :: S) Q) : vP D T N mi pc h l ((0, y) :: (0, x) :: S) Q := by
  subst he
  exact vP_dn (vP_E hi rfl id k)
theorem v_div {x y w : Int} (hi : T mi pc = some (8, nx, a, b, z, cs)) (he : y ≠ 0 → (zd32 b (Int32.ofInt x) (Int32.ofInt y)).toInt = w) (k : y ≠ 0 → vP D T N mi nx h l ((0, w) :: S) Q) : vP D T N mi pc h l ((0, y) :: (0, x) :: S) Q := by
  by_cases hy : y = 0
  · refine vP_N hi ?_
    show z_div32 nx b (h, vL l, (0, y) :: (0, x) :: S) = _
    exact if_pos hy
  · have he := he hy
    subst he
    refine vP_dn (vP_E hi ?_ id (k hy))
    show z_div32 nx b (h, vL l, (0, y) :: (0, x) :: S) = _
    exact if_neg hy
theorem v_bin64 {x y w : Int} (hi : T mi pc = some (10, nx, a, b, z, cs)) (he : (zf64 b (Int64.ofInt x) (Int64.ofInt y)).toInt = w) (k : vP D T N mi nx h l ((1, w) :: S) Q) : vP D T N mi pc h l ((1, y) :: (1, x) :: S) Q := by
  subst he
  exact vP_dn (vP_E hi rfl id k)
theorem v_div64 {x y w : Int} (hi : T mi pc = some (11, nx, a, b, z, cs)) (he : y ≠ 0 → (zd64 b (Int64.ofInt x) (Int64.ofInt y)).toInt = w) (k : y ≠ 0 → vP D T N mi nx h l ((1, w) :: S) Q) : vP D T N mi pc h l ((1, y) :: (1, x) :: S) Q := by
  by_cases hy : y = 0
  · refine vP_N hi ?_
    show z_div64 nx b (h, vL l, (1, y) :: (1, x) :: S) = _
    exact if_pos hy
  · have he := he hy
    subst he
    refine vP_dn (vP_E hi ?_ id (k hy))
    show z_div64 nx b (h, vL l, (1, y) :: (1, x) :: S) = _
    exact if_neg hy
theorem v_sh64 {x y w : Int} (hi : T mi pc = some (12, nx, a, b, z, cs)) (he : (zs64 b (Int64.ofInt x) (Int32.ofInt y)).toInt = w) (k : vP D T N mi nx h l ((1, w) :: S) Q) : vP D T N mi pc h l ((0, y) :: (1, x) :: S) Q := by
  subst he
  exact vP_dn (vP_E hi rfl id k)
theorem v_i2l {x : Int} (hi : T mi pc = some (13, nx, a, b, z, cs)) (k : vP D T N mi nx h l ((1, x) :: S) Q) : vP D T N mi pc h l ((0, x) :: S) Q := vP_dn (vP_E hi rfl id k)
theorem v_pop {t : Nat} {x : Int} (hi : T mi pc = some (15, nx, a, 0, z, cs)) (ht : t ≠ 1) (k : vP D T N mi nx h l S Q) : vP D T N mi pc h l ((t, x) :: S) Q := by
  refine vP_dn (vP_E hi ?_ id k)
  show z_stk nx 0 (h, vL l, (t, x) :: S) = _
  refine if_pos ?_
  show (if t = 1 then 2 else 1) = 1
  rw [if_neg ht]
theorem v_dup {t : Nat} {x : Int} (hi : T mi pc = some (15, nx, a, 2, z, cs)) (ht : t ≠ 1) (k : vP D T N mi nx h l ((t, x) :: (t, x) :: S) Q) : vP D T N mi pc h l ((t, x) :: S) Q := by
  refine vP_dn (vP_E hi ?_ id k)
  show z_stk nx 2 (h, vL l, (t, x) :: S) = _
  refine if_pos ?_
  show (if t = 1 then 2 else 1) = 1
  rw [if_neg ht]
theorem v_dupd {t u : Nat} {x y : Int} (hi : T mi pc = some (15, nx, a, 3, z, cs)) (ht : t ≠ 1) (hu : u ≠ 1) (k : vP D T N mi nx h l ((t, x) :: (u, y) :: (t, x) :: (u, y) :: S) Q) : vP D T N mi pc h l ((t, x) :: (u, y) :: S) Q := by
  refine vP_dn (vP_E hi ?_ id k)
  show z_stk nx 3 (h, vL l, (t, x) :: (u, y) :: S) = _
  refine if_pos ⟨?_, ?_⟩
  · show (if t = 1 then 2 else 1) = 1
    rw [if_neg ht]
  · show (if u = 1 then 2 else 1) = 1
    rw [if_neg hu]
def vRl (b : Nat) (x y : Int) : Prop := match b with
  | 0 => x < y
  | 1 => y < x
  | _ => x = y
theorem vRl_T : ∀ {b : Nat} {x y : Int}, vRl b x y → zrel b x y = true
  | 0, _, _, h => decide_eq_true h
  | 1, _, _, h => decide_eq_true h
  | _ + 2, _, _, h => decide_eq_true h
theorem vRl_F : ∀ {b : Nat} {x y : Int}, ¬ vRl b x y → zrel b x y = false
  | 0, _, _, h => decide_eq_false h
  | 1, _, _, h => decide_eq_false h
  | _ + 2, _, _, h => decide_eq_false h
theorem v_if {x : Int} (hi : T mi pc = some (16, nx, a, b, z, cs)) (k1 : vRl b x 0 → vP D T N mi a h l S Q) (k2 : ¬ vRl b x 0 → vP D T N mi nx h l S Q) : vP D T N mi pc h l ((0, x) :: S) Q := by
  have e : zi D (16, nx, a, b, z, cs) (h, vL l, (0, x) :: S) = znx (if zrel b x 0 then a else nx) (h, vL l, S) := rfl
  by_cases c : vRl b x 0
  · refine vP_dn (vP_E hi ?_ id (k1 c))
    rw [e, vRl_T c]
    rfl
  · refine vP_dn (vP_E hi ?_ id (k2 c))
    rw [e, vRl_F c]
    rfl
theorem v_ic {x y : Int} (hi : T mi pc = some (17, nx, a, b, z, cs)) (k1 : vRl b x y → vP D T N mi a h l S Q) (k2 : ¬ vRl b x y → vP D T N mi nx h l S Q) : vP D T N mi pc h l ((0, y) :: (0, x) :: S) Q := by
  have e : zi D (17, nx, a, b, z, cs) (h, vL l, (0, y) :: (0, x) :: S) = znx (if zrel b x y then a else nx) (h, vL l, S) := rfl
  by_cases c : vRl b x y
  · refine vP_dn (vP_E hi ?_ id (k1 c))
    rw [e, vRl_T c]
    rfl
  · refine vP_dn (vP_E hi ?_ id (k2 c))
    rw [e, vRl_F c]
    rfl
theorem v_lcmp {x y : Int} (hi : T mi pc = some (18, nx, a, b, z, cs)) (k : vP D T N mi nx h l ((0, if y < x then 1 else if x = y then 0 else -1) :: S) Q) : vP D T N mi pc h l ((1, y) :: (1, x) :: S) Q := vP_dn (vP_E hi rfl id k)
/-- a comparison of longs, then a branch on it -/
theorem v_lif {x y : Int} {nx2 a2 b2 : Nat} {z2 : Int} {cs2 : List (Int × Nat)} (hi : T mi pc = some (18, nx, a, b, z, cs)) (hi2 : T mi nx = some (16, nx2, a2, b2, z2, cs2)) (k1 : vRl b2 x y → vP D T N mi a2 h l S Q) (k2 : ¬ vRl b2 x y → vP D T N mi nx2 h l S Q) : vP D T N mi pc h l ((1, y) :: (1, x) :: S) Q := by
  refine v_lcmp hi (v_if hi2 (fun c => k1 ?_) (fun c => k2 (fun d => c ?_)))
  · revert c
    unfold vRl
    split <;> (repeat' split) <;> intros <;> omega
  · revert d
    unfold vRl
    split <;> (repeat' split) <;> intros <;> omega
def vSw (D : zD) (T : zT) (N mi nx : Nat) (x : Int) (h : zH) (l : List (Option zV)) (S : List zV) (Q : zR → Prop) : List (Int × Nat) → Prop
  | [] => vP D T N mi nx h l S Q
  | q :: cs => (x = q.1 → vP D T N mi q.2 h l S Q) ∧ (x ≠ q.1 → vSw D T N mi nx x h l S Q cs)
theorem v_sw {x : Int} (hi : T mi pc = some (19, nx, a, b, z, cs)) (k : vSw D T N mi nx x h l S Q cs) : vP D T N mi pc h l ((0, x) :: S) Q := by
  have key : vP D T N mi (zfind nx x cs) h l S Q := by
    clear hi
    induction cs with
    | nil => exact k
    | cons q cs ih =>
      by_cases c : x = q.1
      · rw [show zfind nx x (q :: cs) = q.2 from if_pos c]
        exact k.1 c
      · rw [show zfind nx x (q :: cs) = zfind nx x cs from if_neg c]
        exact ih (k.2 c)
  exact vP_dn (vP_E hi rfl id key)
theorem v_getf {v : zV} {r : Nat} {x : Int} (hi : T mi pc = some (20, nx, a, b, z, cs)) (hx : x.toNat = r) (hr : zisO a x = true) (hv : zHv h → h r b = v) (k : vP D T N mi nx h l (v :: S) Q) : vP D T N mi pc h l ((2, x) :: S) Q := by
  subst hx
  refine vP_dn (vP_stepS hi (fun o hv' ho => ?_))
  have ho : (if zisO a x then znx nx (h, vL l, h x.toNat b :: S) else none) = some o := ho
  rw [if_pos hr, hv hv'] at ho
  cases ho
  exact ⟨_, _, _, _, rfl, hv', k⟩
theorem zHv.at {h : zH} (hv : zHv h) {r k t : Nat} (hc : (match vCode r k with
  | some c => c != 4 && vTag c == t
  | none => false) = true) : h r k = (t, (h r k).2) := by
  cases e : vCode r k with
  | none => rw [e] at hc; cases hc
  | some c =>
    rw [e] at hc
    have hc : (c != 4 && vTag c == t) = true := hc
    rw [Bool.and_eq_true] at hc
    have h1 : c ≠ 4 := fun e => by rw [e] at hc; exact absurd hc.1 Bool.false_ne_true
    exact Prod.ext ((hv.1 _ _ _ e h1).trans (eq_of_beq hc.2)) rfl
def vRef (r k : Nat) : List (Nat × Nat × Int) → Option Int
  | [] => none
  | x :: t => if x.1 = r ∧ x.2.1 = k then some x.2.2 else vRef r k t
theorem vRef_mem {r k : Nat} {c : Int} : ∀ {t : List (Nat × Nat × Int)}, vRef r k t = some c → (r, k, c) ∈ t
  | [], h => by cases h
  | x :: t, h => by
    have h : (if x.1 = r ∧ x.2.1 = k then some x.2.2 else vRef r k t) = some c := h
    by_cases e : x.1 = r ∧ x.2.1 = k
    · rw [if_pos e] at h
      have h := Option.some.inj h
      have hx : x = (r, k, c) := Prod.ext e.1 (Prod.ext e.2 h)
      rw [hx]
      exact List.mem_cons_self
    · rw [if_neg e] at h
      exact List.mem_cons_of_mem _ (vRef_mem h)
theorem zHv.ref {h : zH} (hv : zHv h) {r k : Nat} {c : Int} (hc : vRef r k vRefs = some c) : h r k = (2, c) := hv.2 _ (vRef_mem hc)
/-- a number's field -/
theorem v_getI {t r : Nat} {x : Int} (hi : T mi pc = some (20, nx, a, b, z, cs)) (hx : x.toNat = r) (hr : zisO a x = true) (hc : (match vCode r b with
  | some c => c != 4 && vTag c == t
  | none => false) = true) (k : vP D T N mi nx h l ((t, (h r b).2) :: S) Q) : vP D T N mi pc h l ((2, x) :: S) Q := v_getf hi hx hr (fun hv => hv.at hc) k
/-- a reference that no method writes -/
theorem v_getR {c : Int} {r : Nat} {x : Int} (hi : T mi pc = some (20, nx, a, b, z, cs)) (hx : x.toNat = r) (hr : zisO a x = true) (hc : vRef r b vRefs = some c) (k : vP D T N mi nx h l ((2, c) :: S) Q) : vP D T N mi pc h l ((2, x) :: S) Q := v_getf hi hx hr (fun hv => hv.ref hc) k
theorem v_putf {v : zV} {r : Nat} {x : Int} (hO : vOK T) (hi : T mi pc = some (21, nx, a, b, z, cs)) (hx : x = (r : Int)) (k : zfit z.toNat v = true → vP D T N mi nx (zset h r b v) l S Q) : vP D T N mi pc h l (v :: (2, x) :: S) Q := by
  subst hx
  refine vP_dn (vP_stepS hi (fun o hv' ho => ?_))
  have ho : (if zisO a (r : Int) ∧ zfit z.toNat v then znx nx (zset h (r : Int).toNat b v, vL l, S) else none) = some o := ho
  by_cases c : zisO a (r : Int) ∧ zfit z.toNat v
  · rw [if_pos c, Int.toNat_natCast] at ho
    cases ho
    exact ⟨_, _, _, _, rfl, hv'.putf (hO _ _ _ hi) c.1 c.2, k c.2⟩
  · rw [if_neg c] at ho
    cases ho
theorem zarr_b {c : Nat} {r i : Int} {q : FieldType × Nat} (hs : zShape[r.toNat]? = some (.inl q)) (h : zarr c r i = true) : 0 ≤ i ∧ i < (q.2 : Int) := by
  unfold zarr at h
  rw [hs] at h
  have h : (zcode q.1 == c && (decide (0 ≤ i) && decide (i < (q.2 : Int)))) = true := h
  rw [Bool.and_eq_true, Bool.and_eq_true] at h
  exact ⟨of_decide_eq_true h.2.1, of_decide_eq_true h.2.2⟩
theorem v_aldV {v : zV} {r n : Nat} {x i : Int} {ty : FieldType} (hi : T mi pc = some (22, nx, a, b, z, cs)) (hx : x.toNat = r) (hs : zShape[r]? = some (.inl (ty, n))) (hv : zHv h → 0 ≤ i → i < (n : Int) → h r i.toNat = v) (k : 0 ≤ i → i < (n : Int) → vP D T N mi nx h l (v :: S) Q) : vP D T N mi pc h l ((0, i) :: (2, x) :: S) Q := by
  subst hx
  refine vP_dn (vP_stepS hi (fun o hv' ho => ?_))
  have ho : (if zarr a x i then znx nx (h, vL l, h x.toNat i.toNat :: S) else none) = some o := ho
  by_cases c : zarr a x i = true
  · have bb := zarr_b hs c
    rw [if_pos c, hv hv' bb.1 bb.2] at ho
    cases ho
    exact ⟨_, _, _, _, rfl, hv', k bb.1 bb.2⟩
  · rw [if_neg c] at ho
    cases ho
/-- a number out of an array -/
theorem v_ald {t r n : Nat} {x i : Int} {ty : FieldType} (hi : T mi pc = some (22, nx, a, b, z, cs)) (hx : x.toNat = r) (hs : zShape[r]? = some (.inl (ty, n))) (hc : (zcode ty != 4 && vTag (zcode ty) == t) = true) (k : 0 ≤ i → i < (n : Int) → vP D T N mi nx h l ((t, (h r i.toNat).2) :: S) Q) : vP D T N mi pc h l ((0, i) :: (2, x) :: S) Q := v_aldV hi hx hs (fun hv h1 h2 => hv.at (by
  unfold vCode
  rw [hs]
  show (match (if i.toNat < n then some (zcode ty) else none) with
    | some c => c != 4 && vTag c == t
    | none => false) = true
  rw [if_pos (by omega)]
  exact hc)) k
theorem v_aldE {t r n : Nat} {x i w : Int} {ty : FieldType} (hi : T mi pc = some (22, nx, a, b, z, cs)) (hx : x.toNat = r) (hs : zShape[r]? = some (.inl (ty, n))) (hc : (zcode ty != 4 && vTag (zcode ty) == t) = true) (he : (h r i.toNat).2 = w) (k : 0 ≤ i → i < (n : Int) → vP D T N mi nx h l ((t, w) :: S) Q) : vP D T N mi pc h l ((0, i) :: (2, x) :: S) Q := by
  subst he
  exact v_ald hi hx hs hc k
theorem v_aldS {j : Nat} {x i : Int} (hi : T mi pc = some (22, nx, 0, b, z, cs)) (hx : x = (j : Int)) (k : 0 ≤ i → i < (zlen D j : Int) → vP D T N mi nx h l ((0, zat D j i.toNat) :: S) Q) : vP D T N mi pc h l ((0, i) :: (3, x) :: S) Q := by
  subst hx
  refine vP_dn (vP_stepS hi (fun o hv' ho => ?_))
  have ho : (if 0 = 0 ∧ 0 ≤ (j : Int) ∧ (j : Int) < 3 ∧ 0 ≤ i ∧ i < (zlen D (j : Int).toNat : Int) then znx nx (h, vL l, (0, zat D (j : Int).toNat i.toNat) :: S) else none) = some o := ho
  by_cases c : 0 = 0 ∧ 0 ≤ (j : Int) ∧ (j : Int) < 3 ∧ 0 ≤ i ∧ i < (zlen D (j : Int).toNat : Int)
  · rw [if_pos c] at ho
    cases ho
    rw [Int.toNat_natCast] at c ⊢
    exact ⟨_, _, _, _, rfl, hv', k c.2.2.2.1 c.2.2.2.2⟩
  · rw [if_neg c] at ho
    cases ho
theorem v_ast {v : zV} {r n : Nat} {x i : Int} {ty : FieldType} (hi : T mi pc = some (23, nx, a, b, z, cs)) (hx : x.toNat = r) (hs : zShape[r]? = some (.inl (ty, n))) (k : 0 ≤ i → i < (n : Int) → zfit a v = true → vP D T N mi nx (zset h r i.toNat v) l S Q) : vP D T N mi pc h l (v :: (0, i) :: (2, x) :: S) Q := by
  subst hx
  refine vP_dn (vP_stepS hi (fun o hv' ho => ?_))
  have ho : (if zarr a x i ∧ zfit a v ∧ a < 4 then znx nx (zset h x.toNat i.toNat v, vL l, S) else none) = some o := ho
  by_cases c : zarr a x i ∧ zfit a v ∧ a < 4
  · rw [if_pos c] at ho
    cases ho
    have bb := zarr_b hs c.1
    exact ⟨_, _, _, _, rfl, hv'.ast c.1 c.2.1 c.2.2, k bb.1 bb.2 c.2.1⟩
  · rw [if_neg c] at ho
    cases ho
theorem v_alen {r n : Nat} {x : Int} {ty : FieldType} (hi : T mi pc = some (24, nx, a, b, z, cs)) (hx : x.toNat = r) (hs : zShape[r]? = some (.inl (ty, n))) (k : vP D T N mi nx h l ((0, (n : Int)) :: S) Q) : vP D T N mi pc h l ((2, x) :: S) Q := by
  subst hx
  refine vP_dn (vP_E hi ?_ id k)
  show (match zShape[x.toNat]? with
    | some (.inl q) => znx nx (h, vL l, (0, (q.2 : Int)) :: S)
    | _ => none) = _
  rw [hs]
  rfl
theorem v_slen {j : Nat} {x : Int} (hi : T mi pc = some (25, nx, a, b, z, cs)) (hx : x = (j : Int)) (k : vP D T N mi nx h l ((0, (zlen D j : Int)) :: S) Q) : vP D T N mi pc h l ((3, x) :: S) Q := by
  subst hx
  refine vP_dn (vP_stepS hi (fun o hv' ho => ?_))
  have ho : (if ((j : Int) = 3 ∨ (j : Int) = 4) ∧ zsum S ≤ 8 then znx nx (h, vL l, (0, (zlen D (j : Int).toNat : Int)) :: S) else none) = some o := ho
  by_cases c : ((j : Int) = 3 ∨ (j : Int) = 4) ∧ zsum S ≤ 8
  · rw [if_pos c] at ho
    cases ho
    rw [Int.toNat_natCast]
    exact ⟨_, _, _, _, rfl, hv', k⟩
  · rw [if_neg c] at ho
    cases ho
theorem v_char {j : Nat} {x i : Int} (hi : T mi pc = some (26, nx, a, b, z, cs)) (hx : x = (j : Int)) (k : 0 ≤ i → i < (zlen D j : Int) → vP D T N mi nx h l ((0, zat D j i.toNat) :: S) Q) : vP D T N mi pc h l ((0, i) :: (3, x) :: S) Q := by
  subst hx
  refine vP_dn (vP_stepS hi (fun o hv' ho => ?_))
  have ho : (if ((j : Int) = 3 ∨ (j : Int) = 4) ∧ 0 ≤ i ∧ i < (zlen D (j : Int).toNat : Int) ∧ zsum S ≤ 8 then znx nx (h, vL l, (0, zat D (j : Int).toNat i.toNat) :: S) else none) = some o := ho
  by_cases c : ((j : Int) = 3 ∨ (j : Int) = 4) ∧ 0 ≤ i ∧ i < (zlen D (j : Int).toNat : Int) ∧ zsum S ≤ 8
  · rw [if_pos c] at ho
    cases ho
    rw [Int.toNat_natCast] at c ⊢
    exact ⟨_, _, _, _, rfl, hv', k c.2.1 c.2.2.1⟩
  · rw [if_neg c] at ho
    cases ho
theorem v_max {x y : Int} (hi : T mi pc = some (27, nx, a, 0, z, cs)) (k : vP D T N mi nx h l ((0, if x < y then y else x) :: S) Q) : vP D T N mi pc h l ((0, y) :: (0, x) :: S) Q := by
  refine vP_dn (vP_stepS hi (fun o hv' ho => ?_))
  have ho : (if zsum S ≤ 8 then znx nx (h, vL l, (0, zm32 0 x y) :: S) else none) = some o := ho
  by_cases c : zsum S ≤ 8
  · rw [if_pos c] at ho
    cases ho
    exact ⟨_, _, _, _, rfl, hv', k⟩
  · rw [if_neg c] at ho
    cases ho
theorem v_min {x y : Int} (hi : T mi pc = some (27, nx, a, 1, z, cs)) (k : vP D T N mi nx h l ((0, if y < x then y else x) :: S) Q) : vP D T N mi pc h l ((0, y) :: (0, x) :: S) Q := by
  refine vP_dn (vP_stepS hi (fun o hv' ho => ?_))
  have ho : (if zsum S ≤ 8 then znx nx (h, vL l, (0, zm32 1 x y) :: S) else none) = some o := ho
  by_cases c : zsum S ≤ 8
  · rw [if_pos c] at ho
    cases ho
    exact ⟨_, _, _, _, rfl, hv', k⟩
  · rw [if_neg c] at ho
    cases ho
theorem v_abs {x : Int} (hi : T mi pc = some (27, nx, a, 3, z, cs)) (k : vP D T N mi nx h l ((1, if 0 < x then x else (-Int64.ofInt x).toInt) :: S) Q) : vP D T N mi pc h l ((1, x) :: S) Q := by
  refine vP_dn (vP_stepS hi (fun o hv' ho => ?_))
  have ho : (if zsum S ≤ 8 then znx nx (h, vL l, (1, if 0 < x then x else (-Int64.ofInt x).toInt) :: S) else none) = some o := ho
  by_cases c : zsum S ≤ 8
  · rw [if_pos c] at ho
    cases ho
    exact ⟨_, _, _, _, rfl, hv', k⟩
  · rw [if_neg c] at ho
    cases ho
theorem v_copy {r0 r1 n0 n1 : Nat} {x0 x1 sp dp n : Int} {ty0 ty1 : FieldType} (hi : T mi pc = some (28, nx, a, b, z, cs)) (h0 : x0.toNat = r0) (h1 : x1.toNat = r1) (hs0 : zShape[r0]? = some (.inl (ty0, n0))) (hs1 : zShape[r1]? = some (.inl (ty1, n1))) (k : 0 ≤ n → 0 ≤ sp → 0 ≤ dp → sp + n ≤ (n0 : Int) → dp + n ≤ (n1 : Int) → vP D T N mi nx (zcopy h r0 sp.toNat r1 dp.toNat n.toNat) l S Q) : vP D T N mi pc h l ((0, n) :: (0, dp) :: (2, x1) :: (0, sp) :: (2, x0) :: S) Q := by
  subst h0 h1
  refine vP_dn (vP_stepS hi (fun o hv' ho => ?_))
  have ho : (if zroom a x0 sp n ∧ zroom a x1 dp n ∧ zsum S ≤ 8 ∧ a < 2 then znx nx (zcopy h x0.toNat sp.toNat x1.toNat dp.toNat n.toNat, vL l, S) else none) = some o := ho
  by_cases c : zroom a x0 sp n ∧ zroom a x1 dp n ∧ zsum S ≤ 8 ∧ a < 2
  · rw [if_pos c] at ho
    cases ho
    have b0 := c.1
    have b1 := c.2.1
    unfold zroom at b0 b1
    rw [hs0] at b0
    rw [hs1] at b1
    have b0 : (zcode ty0 == a && (decide (0 ≤ sp) && (decide (0 ≤ n) && decide (sp + n ≤ (n0 : Int))))) = true := b0
    have b1 : (zcode ty1 == a && (decide (0 ≤ dp) && (decide (0 ≤ n) && decide (dp + n ≤ (n1 : Int))))) = true := b1
    rw [Bool.and_eq_true, Bool.and_eq_true, Bool.and_eq_true] at b0 b1
    exact ⟨_, _, _, _, rfl, hv'.copy c.1 c.2.1 c.2.2.2, k (of_decide_eq_true b0.2.2.1) (of_decide_eq_true b0.2.1) (of_decide_eq_true b1.2.1) (of_decide_eq_true b0.2.2.2) (of_decide_eq_true b1.2.2.2)⟩
  · rw [if_neg c] at ho
    cases ho
theorem v_call {as S' : List zV} {w : Nat} (la : List (Option zV)) (hO : vOK T) (hi : T mi pc = some (29, nx, a, b, z, cs)) (ht : ztake b S [] = some (as, S')) (hl : vargs w as = la) (k : vP D T N a 0 h la [] (fun r1 => vP D T N mi nx r1.1 l (zpush r1.2 S') Q)) : vP D T N mi pc h l S Q := by
  subst hl
  intro hv n r hn he
  cases n with
  | zero => cases he
  | succ n =>
    rw [zEv_s hi] at he
    have e : zi D (29, nx, a, b, z, cs) (h, vL l, S) = z_call nx a b z (cs.head?.elim 0 (fun q => q.2)) (h, vL l, S) := rfl
    rw [e] at he
    unfold z_call at he
    dsimp only at he
    rw [ht] at he
    dsimp only at he
    split at he
    · have he : (match zEv D T n a 0 (h, zargs 0 as, []) with
        | none => none
        | some r1 => zEv D T n mi nx (r1.1, vL l, zpush r1.2 S')) = some r := he
      cases hc : zEv D T n a 0 (h, zargs 0 as, []) with
      | none => rw [hc] at he; cases he
      | some r1 =>
        rw [hc] at he
        have hv1 := zEv_hv hO hc hv
        rw [zargs_vL w] at hc
        exact k hv n r1 (by omega) hc hv1 n r (by omega) he
    · cases he
theorem v_ret {v : zV} (hi : T mi pc = some (30, nx, a, b, z, cs)) (hb : b = 1 ∨ b = 2) (k : Q (h, some v)) : vP D T N mi pc h l [v] Q := by
  refine vP_dn (N := N) ?_
  intro hv n r hn he
  cases n with
  | zero => cases he
  | succ n =>
    rw [zEv_s hi] at he
    have e : zi D (30, nx, a, b, z, cs) (h, vL l, [v]) = z_ret b a (h, vL l, [v]) := rfl
    rw [e] at he
    rcases hb with rfl | rfl
    · have he : zEvB (zEv D T n) mi (if zfit a v ∧ v.1 = 0 then some (.inl (h, some v)) else none) = some r := he
      by_cases c : zfit a v ∧ v.1 = 0
      · rw [if_pos c] at he
        cases he
        exact k
      · rw [if_neg c] at he
        cases he
    · have he : zEvB (zEv D T n) mi (if v.1 = 1 then some (.inl (h, some v)) else none) = some r := he
      by_cases c : v.1 = 1
      · rw [if_pos c] at he
        cases he
        exact k
      · rw [if_neg c] at he
        cases he
theorem v_ret0 (hi : T mi pc = some (30, nx, a, 0, z, cs)) (k : Q (h, none)) : vP D T N mi pc h l [] Q := by
  refine vP_dn (N := N) ?_
  intro hv n r hn he
  cases n with
  | zero => cases he
  | succ n =>
    rw [zEv_s hi] at he
    cases he
    exact k
end VR
end
section
/-! NAMES AND ARITHMETIC FOR RUNS BY STEPS -/
def vB (x : Int) : Int := (zu32 1 (Int32.ofInt x)).toInt
def v32 (b : Nat) (x y : Int) : Int := (zf32 b (Int32.ofInt x) (Int32.ofInt y)).toInt
def v64 (b : Nat) (x y : Int) : Int := (zf64 b (Int64.ofInt x) (Int64.ofInt y)).toInt
def vS (b : Nat) (x y : Int) : Int := (zs64 b (Int64.ofInt x) (Int32.ofInt y)).toInt
theorem vcopy_ne {h : zH} {r0 sp r1 dp n a b : Nat} (hn : ¬ (a = r1 ∧ dp ≤ b ∧ b < dp + n)) : zcopy h r0 sp r1 dp n a b = h a b := if_neg hn
theorem vz_inc {x u w : Int} (h1 : -2147483648 ≤ w ∧ w < 2147483648) (h2 : x + u = w) : (Int32.ofInt x + Int32.ofInt u).toInt = w := by
  subst h2
  exact hq_inc h1.1 h1.2
theorem vz_ofL {x : Int} (h1 : -9223372036854775808 ≤ x) (h2 : x < 9223372036854775808) : (Int64.ofInt x).toInt = x := Int64.toInt_ofInt_of_le (by omega) (by omega)
theorem vz_addL {x y : Int} (h1 : -9223372036854775808 ≤ x + y) (h2 : x + y < 9223372036854775808) : (zf64 0 (Int64.ofInt x) (Int64.ofInt y)).toInt = x + y := by
  show (Int64.ofInt x + Int64.ofInt y).toInt = x + y
  rw [← Int64.ofInt_add]
  exact vz_ofL h1 h2
theorem vz_subL {x y : Int} (h1 : -9223372036854775808 ≤ x - y) (h2 : x - y < 9223372036854775808) : (zf64 1 (Int64.ofInt x) (Int64.ofInt y)).toInt = x - y := by
  show (Int64.ofInt x - Int64.ofInt y).toInt = x - y
  rw [← Int64.ofInt_sub]
  exact vz_ofL h1 h2
theorem vz_mulL {x y : Int} (h1 : -9223372036854775808 ≤ x * y) (h2 : x * y < 9223372036854775808) : (zf64 2 (Int64.ofInt x) (Int64.ofInt y)).toInt = x * y := by
  show (Int64.ofInt x * Int64.ofInt y).toInt = x * y
  rw [← Int64.ofInt_mul]
  exact vz_ofL h1 h2
/-- any run from a heap of the right tags -/
theorem vP_hv {D : zD} {T : zT} {N mi pc : Nat} {h : zH} {l : List (Option zV)} {S : List zV} {Q : zR → Prop} (k : zHv h → vP D T N mi pc h l S Q) : vP D T N mi pc h l S Q := fun hv => k hv hv
theorem vP_Q {D : zD} {T : zT} {N mi pc : Nat} {h : zH} {l : List (Option zV)} {S : List zV} {Q Q' : zR → Prop} (hQ : ∀ r, Q r → Q' r) (k : vP D T N mi pc h l S Q) : vP D T N mi pc h l S Q' := fun hv n r hn he => hQ r (k hv n r hn he)
end
section
/-! A FIELD THAT NOTHING WRITES: code closed under going on and calling, without a putfield of it -/
def fwS (inS : Nat → Nat → Bool) (ci k mi : Nat) (i : zX) : Bool := match i with
  | (16, nx, a, _, _, _) => inS mi nx && inS mi a
  | (17, nx, a, _, _, _) => inS mi nx && inS mi a
  | (19, nx, _, _, _, cs) => inS mi nx && cs.all (fun q => inS mi q.2)
  | (21, nx, a, b, _, _) => inS mi nx && !(a == ci && b == k)
  | (29, nx, a, _, _, _) => inS mi nx && inS a 0
  | (30, _, _, _, _, _) => true
  | (_, nx, _, _, _, _) => inS mi nx
def fwOK (inS : Nat → Nat → Bool) (ci k : Nat) (T : zT) : Prop := ∀ mi pc i, inS mi pc = true → T mi pc = some i → fwS inS ci k mi i = true
theorem zi_fr {D : zD} {st : zS} {o : zO} {inS : Nat → Nat → Bool} {ci k mi r0 w : Nat} (hs : zShape[r0]? = some (.inr (ci, w))) : ∀ {i : zX}, fwS inS ci k mi i = true → zi D i st = some o → zOh o r0 k = st.1 r0 k
  | (0, nx, a, b, z, cs), _, h => by cases h; rfl
  | (1, nx, a, b, z, cs), _, h => by cases h; rfl
  | (2, nx, a, b, z, cs), _, h => by rw [zh_load h]
  | (3, nx, a, b, z, cs), _, h => by rw [zh_store1 h]
  | (4, nx, a, b, z, cs), _, h => by rw [zh_store2 h]
  | (5, nx, a, b, z, cs), _, h => by rw [zh_iinc h]
  | (6, nx, a, b, z, cs), _, h => by rw [zh_un32 h]
  | (7, nx, a, b, z, cs), _, h => by rw [zh_bin32 h]
  | (8, nx, a, b, z, cs), _, h => by rw [zh_div32 h]
  | (9, nx, a, b, z, cs), _, h => by rw [zh_neg64 h]
  | (10, nx, a, b, z, cs), _, h => by rw [zh_bin64 h]
  | (11, nx, a, b, z, cs), _, h => by rw [zh_div64 h]
  | (12, nx, a, b, z, cs), _, h => by rw [zh_sh64 h]
  | (13, nx, a, b, z, cs), _, h => by rw [zh_i2l h]
  | (14, nx, a, b, z, cs), _, h => by rw [zh_l2i h]
  | (15, nx, a, b, z, cs), _, h => by rw [zh_stk h]
  | (16, nx, a, b, z, cs), _, h => by rw [zh_if h]
  | (17, nx, a, b, z, cs), _, h => by rw [zh_icmp h]
  | (18, nx, a, b, z, cs), _, h => by rw [zh_lcmp h]
  | (19, nx, a, b, z, cs), _, h => by rw [zh_sw h]
  | (20, nx, a, b, z, cs), _, h => by rw [zh_getf h]
  | (21, nx, a, b, z, cs), hO, h => by
    have hO : (inS mi nx && !(a == ci && b == k)) = true := hO
    rw [Bool.and_eq_true, Bool.not_eq_true'] at hO
    have h : z_putf nx a b z st = some o := h
    unfold z_putf znx at h
    split at h
    · rename_i v r S hS
      split at h
      · rename_i hc
        cases h
        show zset st.1 r.toNat b v r0 k = st.1 r0 k
        refine zset_ne (fun e => ?_)
        obtain ⟨e1, e2⟩ := e
        have hr := hc.1
        unfold zisO at hr
        rw [← e1, hs] at hr
        have hr : (ci == a) = true := hr
        have e3 : ci = a := eq_of_beq hr
        rw [← e3, e2, beq_self_eq_true, beq_self_eq_true] at hO
        exact absurd hO.2 (by decide)
      · cases h
    · cases h
  | (22, nx, a, b, z, cs), _, h => by rw [zh_ald h]
  | (23, nx, a, b, z, cs), _, h => by
    have h : z_ast nx a st = some o := h
    unfold z_ast znx at h
    split at h
    · rename_i v i r S hS
      split at h
      · rename_i hc
        cases h
        show zset st.1 r.toNat i.toNat v r0 k = st.1 r0 k
        refine zset_ne (fun e => ?_)
        have hr := hc.1
        unfold zarr at hr
        rw [← e.1, hs] at hr
        cases hr
      · cases h
    · cases h
  | (24, nx, a, b, z, cs), _, h => by rw [zh_alen h]
  | (25, nx, a, b, z, cs), _, h => by rw [zh_slen h]
  | (26, nx, a, b, z, cs), _, h => by rw [zh_char h]
  | (27, nx, a, b, z, cs), _, h => by rw [zh_math h]
  | (28, nx, a, b, z, cs), _, h => by
    have h : z_copy nx a st = some o := h
    unfold z_copy znx at h
    split at h
    · rename_i n dp r1 sp r0' S hS
      split at h
      · rename_i hc
        cases h
        show zcopy st.1 r0'.toNat sp.toNat r1.toNat dp.toNat n.toNat r0 k = st.1 r0 k
        refine if_neg (fun e => ?_)
        have hr := hc.2.1
        unfold zroom at hr
        rw [← e.1, hs] at hr
        cases hr
      · cases h
    · cases h
  | (29, nx, a, b, z, cs), _, h => by rw [zh_call h]
  | (30, nx, a, b, z, cs), _, h => by rw [zh_ret h]
  | (n + 31, nx, a, b, z, cs), _, h => by cases h
/-- where a step goes on -/
theorem zi_nx {D : zD} {st : zS} {inS : Nat → Nat → Bool} {ci k mi : Nat} {q : Nat × zS} : ∀ {i : zX}, fwS inS ci k mi i = true → zi D i st = some (.inr (.inl q)) → inS mi q.1 = true := by
  intro i hf h
  obtain ⟨op, nx, a, b, z, cs⟩ := i
  match op, hf, h with
  | 0, hf, h => cases h; exact hf
  | 1, hf, h => cases h; exact hf
  | 2, hf, h =>
    have h : z_load nx a b st = _ := h
    unfold z_load znx at h
    repeat' split at h
    all_goals first | (cases h; exact hf) | cases h
  | 3, hf, h =>
    have h : z_store1 nx a b st = _ := h
    unfold z_store1 znx at h
    repeat' split at h
    all_goals first | (cases h; exact hf) | cases h
  | 4, hf, h =>
    have h : z_store2 nx a st = _ := h
    unfold z_store2 znx at h
    repeat' split at h
    all_goals first | (cases h; exact hf) | cases h
  | 5, hf, h =>
    have h : z_iinc nx a z st = _ := h
    unfold z_iinc znx at h
    repeat' split at h
    all_goals first | (cases h; exact hf) | cases h
  | 6, hf, h =>
    have h : z_un32 nx b st = _ := h
    unfold z_un32 znx at h
    repeat' split at h
    all_goals first | (cases h; exact hf) | cases h
  | 7, hf, h =>
    have h : z_bin32 nx b st = _ := h
    unfold z_bin32 znx at h
    repeat' split at h
    all_goals first | (cases h; exact hf) | cases h
  | 8, hf, h =>
    have h : z_div32 nx b st = _ := h
    unfold z_div32 znx at h
    repeat' split at h
    all_goals first | (cases h; exact hf) | cases h
  | 9, hf, h =>
    have h : z_neg64 nx st = _ := h
    unfold z_neg64 znx at h
    repeat' split at h
    all_goals first | (cases h; exact hf) | cases h
  | 10, hf, h =>
    have h : z_bin64 nx b st = _ := h
    unfold z_bin64 znx at h
    repeat' split at h
    all_goals first | (cases h; exact hf) | cases h
  | 11, hf, h =>
    have h : z_div64 nx b st = _ := h
    unfold z_div64 znx at h
    repeat' split at h
    all_goals first | (cases h; exact hf) | cases h
  | 12, hf, h =>
    have h : z_sh64 nx b st = _ := h
    unfold z_sh64 znx at h
    repeat' split at h
    all_goals first | (cases h; exact hf) | cases h
  | 13, hf, h =>
    have h : z_i2l nx st = _ := h
    unfold z_i2l znx at h
    repeat' split at h
    all_goals first | (cases h; exact hf) | cases h
  | 14, hf, h =>
    have h : z_l2i nx st = _ := h
    unfold z_l2i znx at h
    repeat' split at h
    all_goals first | (cases h; exact hf) | cases h
  | 15, hf, h =>
    have h : z_stk nx b st = _ := h
    unfold z_stk znx at h
    repeat' split at h
    all_goals first | (cases h; exact hf) | cases h
  | 16, hf, h =>
    have hf : (inS mi nx && inS mi a) = true := hf
    rw [Bool.and_eq_true] at hf
    have h : z_if nx a b st = _ := h
    unfold z_if at h
    split at h
    · have h : znx _ _ = some (.inr (.inl q)) := h
      unfold znx at h
      cases h
      show inS mi (if _ then a else nx) = true
      split
      · exact hf.2
      · exact hf.1
    · cases h
  | 17, hf, h =>
    have hf : (inS mi nx && inS mi a) = true := hf
    rw [Bool.and_eq_true] at hf
    have h : z_icmp nx a b st = _ := h
    unfold z_icmp at h
    split at h
    · have h : znx _ _ = some (.inr (.inl q)) := h
      unfold znx at h
      cases h
      show inS mi (if _ then a else nx) = true
      split
      · exact hf.2
      · exact hf.1
    · cases h
  | 18, hf, h =>
    have h : z_lcmp nx st = _ := h
    unfold z_lcmp at h
    split at h
    · have h : znx nx _ = some (.inr (.inl q)) := h
      unfold znx at h
      cases h
      exact hf
    · cases h
  | 19, hf, h =>
    have hf : (inS mi nx && cs.all (fun q => inS mi q.2)) = true := hf
    rw [Bool.and_eq_true] at hf
    have h : z_sw nx cs st = _ := h
    unfold z_sw at h
    split at h
    · rename_i x S hS
      have h : znx _ _ = some (.inr (.inl q)) := h
      unfold znx at h
      cases h
      have key : ∀ l : List (Int × Nat), l.all (fun q => inS mi q.2) = true → inS mi (zfind nx x l) = true := by
        intro l
        induction l with
        | nil => exact fun _ => hf.1
        | cons c l ih =>
          intro h2
          have h2 : (inS mi c.2 && l.all (fun q => inS mi q.2)) = true := h2
          rw [Bool.and_eq_true] at h2
          show inS mi (if x = c.1 then c.2 else zfind nx x l) = true
          split
          · exact h2.1
          · exact ih h2.2
      exact key cs hf.2
    · cases h
  | 20, hf, h =>
    have h : z_getf nx a b st = _ := h
    unfold z_getf znx at h
    repeat' split at h
    all_goals first | (cases h; exact hf) | cases h
  | 21, hf, h =>
    have hf : (inS mi nx && !(a == ci && b == k)) = true := hf
    rw [Bool.and_eq_true] at hf
    have h : z_putf nx a b z st = _ := h
    unfold z_putf znx at h
    repeat' split at h
    all_goals first | (cases h; exact hf.1) | cases h
  | 22, hf, h =>
    have h : z_ald D nx a st = _ := h
    unfold z_ald znx at h
    repeat' split at h
    all_goals first | (cases h; exact hf) | cases h
  | 23, hf, h =>
    have h : z_ast nx a st = _ := h
    unfold z_ast znx at h
    repeat' split at h
    all_goals first | (cases h; exact hf) | cases h
  | 24, hf, h =>
    have h : z_alen D nx st = _ := h
    unfold z_alen znx at h
    repeat' split at h
    all_goals first | (cases h; exact hf) | cases h
  | 25, hf, h =>
    have h : z_slen D nx st = _ := h
    unfold z_slen znx at h
    repeat' split at h
    all_goals first | (cases h; exact hf) | cases h
  | 26, hf, h =>
    have h : z_char D nx st = _ := h
    unfold z_char znx at h
    repeat' split at h
    all_goals first | (cases h; exact hf) | cases h
  | 27, hf, h =>
    have h : z_math nx b st = _ := h
    unfold z_math at h
    split at h
    · split at h
      · unfold znx at h; cases h; exact hf
      · cases h
    · split at h
      · unfold znx at h; cases h; exact hf
      · cases h
    · split at h
      · unfold znx at h; cases h; exact hf
      · cases h
    · split at h
      · have h : znx nx _ = some (.inr (.inl q)) := h
        unfold znx at h; cases h; exact hf
      · cases h
    · cases h
  | 28, hf, h =>
    have h : z_copy nx a st = _ := h
    unfold z_copy znx at h
    repeat' split at h
    all_goals first | (cases h; exact hf) | cases h
  | 29, hf, h =>
    have h : z_call nx a b z (cs.head?.elim 0 (fun q => q.2)) st = _ := h
    unfold z_call at h
    repeat' split at h
    all_goals cases h
  | 30, hf, h =>
    have h : z_ret b a st = _ := h
    unfold z_ret at h
    repeat' split at h
    all_goals cases h
  | n + 31, hf, h => cases h
theorem zi_cl {D : zD} {st : zS} {inS : Nat → Nat → Bool} {ci k mi : Nat} {q : Nat × List zV × Nat × zS} : ∀ {i : zX}, fwS inS ci k mi i = true → zi D i st = some (.inr (.inr q)) → inS mi q.2.2.1 = true ∧ inS q.1 0 = true := by
  intro i hf h
  obtain ⟨op, nx, a, b, z, cs⟩ := i
  match op, hf, h with
  | 0, hf, h => cases h
  | 1, hf, h => cases h
  | 2, hf, h =>
    have h : z_load nx a b st = _ := h
    unfold z_load znx at h
    repeat' split at h
    all_goals cases h
  | 3, hf, h =>
    have h : z_store1 nx a b st = _ := h
    unfold z_store1 znx at h
    repeat' split at h
    all_goals cases h
  | 4, hf, h =>
    have h : z_store2 nx a st = _ := h
    unfold z_store2 znx at h
    repeat' split at h
    all_goals cases h
  | 5, hf, h =>
    have h : z_iinc nx a z st = _ := h
    unfold z_iinc znx at h
    repeat' split at h
    all_goals cases h
  | 6, hf, h =>
    have h : z_un32 nx b st = _ := h
    unfold z_un32 znx at h
    repeat' split at h
    all_goals cases h
  | 7, hf, h =>
    have h : z_bin32 nx b st = _ := h
    unfold z_bin32 znx at h
    repeat' split at h
    all_goals cases h
  | 8, hf, h =>
    have h : z_div32 nx b st = _ := h
    unfold z_div32 znx at h
    repeat' split at h
    all_goals cases h
  | 9, hf, h =>
    have h : z_neg64 nx st = _ := h
    unfold z_neg64 znx at h
    repeat' split at h
    all_goals cases h
  | 10, hf, h =>
    have h : z_bin64 nx b st = _ := h
    unfold z_bin64 znx at h
    repeat' split at h
    all_goals cases h
  | 11, hf, h =>
    have h : z_div64 nx b st = _ := h
    unfold z_div64 znx at h
    repeat' split at h
    all_goals cases h
  | 12, hf, h =>
    have h : z_sh64 nx b st = _ := h
    unfold z_sh64 znx at h
    repeat' split at h
    all_goals cases h
  | 13, hf, h =>
    have h : z_i2l nx st = _ := h
    unfold z_i2l znx at h
    repeat' split at h
    all_goals cases h
  | 14, hf, h =>
    have h : z_l2i nx st = _ := h
    unfold z_l2i znx at h
    repeat' split at h
    all_goals cases h
  | 15, hf, h =>
    have h : z_stk nx b st = _ := h
    unfold z_stk znx at h
    repeat' split at h
    all_goals cases h
  | 16, hf, h =>
    have h : z_if nx a b st = _ := h
    unfold z_if at h
    split at h
    · have h : znx _ _ = some (.inr (.inr q)) := h
      unfold znx at h
      cases h
    · cases h
  | 17, hf, h =>
    have h : z_icmp nx a b st = _ := h
    unfold z_icmp at h
    split at h
    · have h : znx _ _ = some (.inr (.inr q)) := h
      unfold znx at h
      cases h
    · cases h
  | 18, hf, h =>
    have h : z_lcmp nx st = _ := h
    unfold z_lcmp at h
    split at h
    · have h : znx nx _ = some (.inr (.inr q)) := h
      unfold znx at h
      cases h
    · cases h
  | 19, hf, h =>
    have h : z_sw nx cs st = _ := h
    unfold z_sw at h
    split at h
    · have h : znx _ _ = some (.inr (.inr q)) := h
      unfold znx at h
      cases h
    · cases h
  | 20, hf, h =>
    have h : z_getf nx a b st = _ := h
    unfold z_getf znx at h
    repeat' split at h
    all_goals cases h
  | 21, hf, h =>
    have h : z_putf nx a b z st = _ := h
    unfold z_putf znx at h
    repeat' split at h
    all_goals cases h
  | 22, hf, h =>
    have h : z_ald D nx a st = _ := h
    unfold z_ald znx at h
    repeat' split at h
    all_goals cases h
  | 23, hf, h =>
    have h : z_ast nx a st = _ := h
    unfold z_ast znx at h
    repeat' split at h
    all_goals cases h
  | 24, hf, h =>
    have h : z_alen D nx st = _ := h
    unfold z_alen znx at h
    repeat' split at h
    all_goals cases h
  | 25, hf, h =>
    have h : z_slen D nx st = _ := h
    unfold z_slen znx at h
    repeat' split at h
    all_goals cases h
  | 26, hf, h =>
    have h : z_char D nx st = _ := h
    unfold z_char znx at h
    repeat' split at h
    all_goals cases h
  | 27, hf, h =>
    have h : z_math nx b st = _ := h
    unfold z_math at h
    split at h
    · split at h
      · unfold znx at h; cases h
      · cases h
    · split at h
      · unfold znx at h; cases h
      · cases h
    · split at h
      · unfold znx at h; cases h
      · cases h
    · split at h
      · have h : znx nx _ = some (.inr (.inr q)) := h
        unfold znx at h; cases h
      · cases h
    · cases h
  | 28, hf, h =>
    have h : z_copy nx a st = _ := h
    unfold z_copy znx at h
    repeat' split at h
    all_goals cases h
  | 29, hf, h =>
    have hf : (inS mi nx && inS a 0) = true := hf
    rw [Bool.and_eq_true] at hf
    have h : z_call nx a b z (cs.head?.elim 0 (fun q => q.2)) st = _ := h
    unfold z_call at h
    repeat' split at h
    all_goals first | (cases h; exact hf) | cases h
  | 30, hf, h =>
    have h : z_ret b a st = _ := h
    unfold z_ret at h
    repeat' split at h
    all_goals cases h
  | n + 31, hf, h => cases h
theorem zi_inl {D : zD} {st : zS} {q : zR} : ∀ {i : zX}, zi D i st = some (.inl q) → i.1 = 30 := by
  intro i h
  obtain ⟨op, nx, a, b, z, cs⟩ := i
  match op, h with
  | 0, h => cases h
  | 1, h => cases h
  | 2, h =>
    have h : z_load nx a b st = _ := h
    unfold z_load znx at h
    repeat' split at h
    all_goals cases h
  | 3, h =>
    have h : z_store1 nx a b st = _ := h
    unfold z_store1 znx at h
    repeat' split at h
    all_goals cases h
  | 4, h =>
    have h : z_store2 nx a st = _ := h
    unfold z_store2 znx at h
    repeat' split at h
    all_goals cases h
  | 5, h =>
    have h : z_iinc nx a z st = _ := h
    unfold z_iinc znx at h
    repeat' split at h
    all_goals cases h
  | 6, h =>
    have h : z_un32 nx b st = _ := h
    unfold z_un32 znx at h
    repeat' split at h
    all_goals cases h
  | 7, h =>
    have h : z_bin32 nx b st = _ := h
    unfold z_bin32 znx at h
    repeat' split at h
    all_goals cases h
  | 8, h =>
    have h : z_div32 nx b st = _ := h
    unfold z_div32 znx at h
    repeat' split at h
    all_goals cases h
  | 9, h =>
    have h : z_neg64 nx st = _ := h
    unfold z_neg64 znx at h
    repeat' split at h
    all_goals cases h
  | 10, h =>
    have h : z_bin64 nx b st = _ := h
    unfold z_bin64 znx at h
    repeat' split at h
    all_goals cases h
  | 11, h =>
    have h : z_div64 nx b st = _ := h
    unfold z_div64 znx at h
    repeat' split at h
    all_goals cases h
  | 12, h =>
    have h : z_sh64 nx b st = _ := h
    unfold z_sh64 znx at h
    repeat' split at h
    all_goals cases h
  | 13, h =>
    have h : z_i2l nx st = _ := h
    unfold z_i2l znx at h
    repeat' split at h
    all_goals cases h
  | 14, h =>
    have h : z_l2i nx st = _ := h
    unfold z_l2i znx at h
    repeat' split at h
    all_goals cases h
  | 15, h =>
    have h : z_stk nx b st = _ := h
    unfold z_stk znx at h
    repeat' split at h
    all_goals cases h
  | 16, h =>
    have h : z_if nx a b st = _ := h
    unfold z_if at h
    split at h
    · have h : znx _ _ = some (.inl q) := h
      unfold znx at h
      cases h
    · cases h
  | 17, h =>
    have h : z_icmp nx a b st = _ := h
    unfold z_icmp at h
    split at h
    · have h : znx _ _ = some (.inl q) := h
      unfold znx at h
      cases h
    · cases h
  | 18, h =>
    have h : z_lcmp nx st = _ := h
    unfold z_lcmp at h
    split at h
    · have h : znx nx _ = some (.inl q) := h
      unfold znx at h
      cases h
    · cases h
  | 19, h =>
    have h : z_sw nx cs st = _ := h
    unfold z_sw at h
    split at h
    · have h : znx _ _ = some (.inl q) := h
      unfold znx at h
      cases h
    · cases h
  | 20, h =>
    have h : z_getf nx a b st = _ := h
    unfold z_getf znx at h
    repeat' split at h
    all_goals cases h
  | 21, h =>
    have h : z_putf nx a b z st = _ := h
    unfold z_putf znx at h
    repeat' split at h
    all_goals cases h
  | 22, h =>
    have h : z_ald D nx a st = _ := h
    unfold z_ald znx at h
    repeat' split at h
    all_goals cases h
  | 23, h =>
    have h : z_ast nx a st = _ := h
    unfold z_ast znx at h
    repeat' split at h
    all_goals cases h
  | 24, h =>
    have h : z_alen D nx st = _ := h
    unfold z_alen znx at h
    repeat' split at h
    all_goals cases h
  | 25, h =>
    have h : z_slen D nx st = _ := h
    unfold z_slen znx at h
    repeat' split at h
    all_goals cases h
  | 26, h =>
    have h : z_char D nx st = _ := h
    unfold z_char znx at h
    repeat' split at h
    all_goals cases h
  | 27, h =>
    have h : z_math nx b st = _ := h
    unfold z_math at h
    split at h
    · split at h
      · unfold znx at h; cases h
      · cases h
    · split at h
      · unfold znx at h; cases h
      · cases h
    · split at h
      · unfold znx at h; cases h
      · cases h
    · split at h
      · have h : znx nx _ = some (.inl q) := h
        unfold znx at h; cases h
      · cases h
    · cases h
  | 28, h =>
    have h : z_copy nx a st = _ := h
    unfold z_copy znx at h
    repeat' split at h
    all_goals cases h
  | 29, h =>
    have h : z_call nx a b z (cs.head?.elim 0 (fun q => q.2)) st = _ := h
    unfold z_call at h
    repeat' split at h
    all_goals cases h
  | 30, h =>
    rfl
  | n + 31, h => cases h
theorem zEv_fr {D : zD} {T : zT} {inS : Nat → Nat → Bool} {ci k r0 w : Nat} (hs : zShape[r0]? = some (.inr (ci, w))) (hW : fwOK inS ci k T) : ∀ {n mi pc : Nat} {st : zS} {r : zR}, zEv D T n mi pc st = some r → inS mi pc = true → r.1 r0 k = st.1 r0 k := by
  intro n
  induction n with
  | zero => intro mi pc st r h; cases h
  | succ n ih =>
    intro mi pc st r h hS
    cases hi : T mi pc with
    | none =>
      have h : zEvA D T (zEv D T n) mi pc st = some r := h
      unfold zEvA at h
      rw [hi] at h
      cases h
    | some i =>
      rw [zEv_s hi] at h
      have hf := hW mi pc i hS hi
      cases hz : zi D i st with
      | none => rw [hz] at h; cases h
      | some o =>
        have g := zi_fr (k := k) hs hf hz
        rw [hz] at h
        match o, h, g, hz with
        | .inl q, h, g, _ => cases h; exact g
        | .inr (.inl q), h, g, hz => exact (ih h (zi_nx hf hz)).trans g
        | .inr (.inr q), h, g, hz =>
          obtain ⟨c1, c2⟩ := zi_cl hf hz
          have h : (match zEv D T n q.1 0 (q.2.2.2.1, zargs 0 q.2.1, []) with
            | none => none
            | some r1 => zEv D T n mi q.2.2.1 (r1.1, q.2.2.2.2.1, zpush r1.2 q.2.2.2.2.2)) = some r := h
          cases hc : zEv D T n q.1 0 (q.2.2.2.1, zargs 0 q.2.1, []) with
          | none => rw [hc] at h; cases h
          | some r1 => rw [hc] at h; exact ((ih h c1).trans (ih hc c2)).trans g
/-- what any run comes to keeps the field -/
theorem vP_fr {D : zD} {T : zT} {inS : Nat → Nat → Bool} {ci k r0 w : Nat} (hs : zShape[r0]? = some (.inr (ci, w))) (hW : fwOK inS ci k T) {N mi pc : Nat} {h : zH} {l : List (Option zV)} {S : List zV} (hS : inS mi pc = true) : vP D T N mi pc h l S (fun r => r.1 r0 k = h r0 k) := fun _ _ _ _ he => zEv_fr hs hW he hS
end
