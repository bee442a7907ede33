/-! a check in several declarations: from the entry, and from each cut -/
noncomputable def a_ck0 (G : aG) (lm : aLm) (hs : aHt) (Ks : List aK) (n : Nat) (κ : aK) (cuts : List aCut) : Bool := match x_nth zMT κ.1 with
  | some t => a_from G lm hs Ks n κ cuts t none 0 (κ.2.2.1, a_args κ.2.2.2.1 0, [])
  | none => false
noncomputable def a_ck1 (G : aG) (lm : aLm) (hs : aHt) (Ks : List aK) (n : Nat) (κ : aK) (cuts : List aCut) (c : aCut) : Bool := match x_nth zMT κ.1 with
  | some t => a_all (fun x => a_scp c.2.1.1.1 x.1) c.2.2 && a_from G lm hs Ks n κ cuts t (some c.2.2) c.1 c.2.1
  | none => false
theorem a_all_mk {α : Type} {f : α → Bool} : ∀ {l : List α}, (∀ x ∈ l, f x = true) → a_all f l = true
  | [], _ => rfl
  | a :: l, h => by
    show (f a && a_all f l) = true
    rw [h a List.mem_cons_self, a_all_mk (fun x hx => h x (List.mem_cons_of_mem _ hx))]
    rfl
theorem a_check_mk {G : aG} {lm : aLm} {hs : aHt} {Ks : List aK} {n : Nat} {κ : aK} {cuts : List aCut} (h0 : a_ck0 G lm hs Ks n κ cuts = true) (h1 : ∀ c ∈ cuts, a_ck1 G lm hs Ks n κ cuts c = true) : a_check G lm hs Ks n κ cuts = true := by
  unfold a_ck0 at h0
  unfold a_ck1 at h1
  unfold a_check
  split at h0
  · rename_i t ht
    rw [ht] at h1 ⊢
    show (a_from G lm hs Ks n κ cuts t none 0 (κ.2.2.1, a_args κ.2.2.2.1 0, []) && a_all (fun c => a_all (fun x => a_scp c.2.1.1.1 x.1) c.2.2 && a_from G lm hs Ks n κ cuts t (some c.2.2) c.1 c.2.1) cuts) = true
    rw [h0, a_all_mk h1]
    rfl
  · cases h0
/-! with a guess for each way's end, which cut it comes to (a guess that fails costs time alone) -/
noncomputable def a_fineO (G : aG) (κ : aK) (cuts : List aCut) (olds : Option (List aF)) (o : Nat) (x : aRes) : Bool := match x with
  | .inl (pc, st) => (match x_nth cuts o with
    | some c => Nat.beq c.1 pc && a_cutOK G κ.2.2.1.1 olds st c
    | none => false) || a_any (fun c => Nat.beq c.1 pc && a_cutOK G κ.2.2.1.1 olds st c) cuts
  | .inr r => a_any (a_retOK G κ.2.2.1.1 r) κ.2.2.2.2.2
theorem a_any_mk {α : Type} {f : α → Bool} {a : α} : ∀ {l : List α}, a ∈ l → f a = true → a_any f l = true
  | [], h, _ => absurd h List.not_mem_nil
  | b :: l, h, hf => by
    show (f b || a_any f l) = true
    rw [Bool.or_eq_true]
    rcases List.mem_cons.mp h with e | e
    · rw [← e]; exact Or.inl hf
    · exact Or.inr (a_any_mk e hf)
theorem a_fineO_ok {G : aG} {κ : aK} {cuts : List aCut} {olds : Option (List aF)} {o : Nat} : ∀ {x : aRes}, a_fineO G κ cuts olds o x = true → a_fine G κ cuts olds x = true
  | .inl (pc, st), h => by
    have h : ((match x_nth cuts o with
      | some c => Nat.beq c.1 pc && a_cutOK G κ.2.2.1.1 olds st c
      | none => false) || a_any (fun c => Nat.beq c.1 pc && a_cutOK G κ.2.2.1.1 olds st c) cuts) = true := h
    show a_any (fun c => Nat.beq c.1 pc && a_cutOK G κ.2.2.1.1 olds st c) cuts = true
    rw [Bool.or_eq_true] at h
    rcases h with h | h
    · rw [x_nth_eq] at h
      cases hc : cuts[o]? with
      | none => rw [hc] at h; cases h
      | some c => rw [hc] at h; exact a_any_mk (List.mem_of_getElem? hc) h
    · exact h
  | .inr r, h => h
noncomputable def a_allO (G : aG) (κ : aK) (cuts : List aCut) (olds : Option (List aF)) (rs : List aRes) : List Nat → Bool := List.rec (motive := fun _ => List Nat → Bool) (fun _ => true) (fun x _ ih os => match os with
  | o :: os => a_fineO G κ cuts olds o x && ih os
  | [] => a_fine G κ cuts olds x && ih []) rs
theorem a_allO_ok {G : aG} {κ : aK} {cuts : List aCut} {olds : Option (List aF)} : ∀ {rs : List aRes} {os : List Nat}, a_allO G κ cuts olds rs os = true → a_all (a_fine G κ cuts olds) rs = true
  | [], _, _ => rfl
  | x :: rs, o :: os, h => by
    have h : (a_fineO G κ cuts olds o x && a_allO G κ cuts olds rs os) = true := h
    rw [Bool.and_eq_true] at h
    show (a_fine G κ cuts olds x && a_all (a_fine G κ cuts olds) rs) = true
    rw [a_fineO_ok h.1, a_allO_ok h.2]
    rfl
  | x :: rs, [], h => by
    have h : (a_fine G κ cuts olds x && a_allO G κ cuts olds rs []) = true := h
    rw [Bool.and_eq_true] at h
    show (a_fine G κ cuts olds x && a_all (a_fine G κ cuts olds) rs) = true
    rw [h.1, a_allO_ok h.2]
    rfl
noncomputable def a_fromO (G : aG) (lm : aLm) (hs : aHt) (Ks : List aK) (n : Nat) (κ : aK) (cuts : List aCut) (t : List (List (Option zX))) (olds : Option (List aF)) (pc : Nat) (st : aS) (os : List Nat) : Bool := a_bN (a_mask cuts) (fun k => match a_run G κ.2.2.2.2.1 lm hs Ks n κ.2.1 κ.1 t k true pc st with
  | some rs => a_allO G κ cuts olds rs os
  | none => false)
theorem a_fromO_ok {G : aG} {lm : aLm} {hs : aHt} {Ks : List aK} {n : Nat} {κ : aK} {cuts : List aCut} {t : List (List (Option zX))} {olds : Option (List aF)} {pc : Nat} {st : aS} {os : List Nat} (h : a_fromO G lm hs Ks n κ cuts t olds pc st os = true) : a_from G lm hs Ks n κ cuts t olds pc st = true := by
  unfold a_fromO at h
  unfold a_from
  rw [a_bN_eq] at h ⊢
  cases hr : a_run G κ.2.2.2.2.1 lm hs Ks n κ.2.1 κ.1 t (a_mask cuts) true pc st with
  | none => rw [hr] at h; cases h
  | some rs => rw [hr] at h; exact a_allO_ok h
noncomputable def a_ck0O (os : List Nat) (G : aG) (lm : aLm) (hs : aHt) (Ks : List aK) (n : Nat) (κ : aK) (cuts : List aCut) : Bool := match x_nth zMT κ.1 with
  | some t => a_fromO G lm hs Ks n κ cuts t none 0 (κ.2.2.1, a_args κ.2.2.2.1 0, []) os
  | none => false
noncomputable def a_ck1O (os : List Nat) (G : aG) (lm : aLm) (hs : aHt) (Ks : List aK) (n : Nat) (κ : aK) (cuts : List aCut) (c : aCut) : Bool := match x_nth zMT κ.1 with
  | some t => a_all (fun x => a_scp c.2.1.1.1 x.1) c.2.2 && a_fromO G lm hs Ks n κ cuts t (some c.2.2) c.1 c.2.1 os
  | none => false
theorem a_ck0_of {G : aG} {lm : aLm} {hs : aHt} {Ks : List aK} {n : Nat} {κ : aK} {cuts : List aCut} (os : List Nat) (h : a_ck0O os G lm hs Ks n κ cuts = true) : a_ck0 G lm hs Ks n κ cuts = true := by
  unfold a_ck0O at h
  unfold a_ck0
  cases ht : x_nth zMT κ.1 with
  | none => rw [ht] at h; cases h
  | some t => rw [ht] at h; exact a_fromO_ok h
theorem a_ck1_of {G : aG} {lm : aLm} {hs : aHt} {Ks : List aK} {n : Nat} {κ : aK} {cuts : List aCut} {c : aCut} (os : List Nat) (h : a_ck1O os G lm hs Ks n κ cuts c = true) : a_ck1 G lm hs Ks n κ cuts c = true := by
  unfold a_ck1O at h
  unfold a_ck1
  cases ht : x_nth zMT κ.1 with
  | none => rw [ht] at h; cases h
  | some t =>
    rw [ht] at h
    have h : (a_all (fun x => a_scp c.2.1.1.1 x.1) c.2.2 && a_fromO G lm hs Ks n κ cuts t (some c.2.2) c.1 c.2.1 os) = true := h
    rw [Bool.and_eq_true] at h
    show (a_all (fun x => a_scp c.2.1.1.1 x.1) c.2.2 && a_from G lm hs Ks n κ cuts t (some c.2.2) c.1 c.2.1) = true
    rw [h.1, a_fromO_ok h.2]
    rfl
/-! the walk once more, without cond and Decidable (wip/z/genq.py); that it comes to the same -/
noncomputable def aq_ck0 (G : aG) (lm : aLm) (hs : aHt) (Ks : List aK) (n : Nat) (κ : aK) (cuts : List aCut) : Bool := match x_nth zMT κ.1 with
  | some t => aq_from G lm hs Ks n κ cuts t none 0 (κ.2.2.1, aq_args κ.2.2.2.1 0, [])
  | none => false
theorem aq_ck0_e : @aq_ck0 = @a_ck0 := by
  delta aq_ck0
  simp only [aq_args_e, aq_from_e]
  rfl
noncomputable def aq_ck1 (G : aG) (lm : aLm) (hs : aHt) (Ks : List aK) (n : Nat) (κ : aK) (cuts : List aCut) (c : aCut) : Bool := match x_nth zMT κ.1 with
  | some t => (Bool.rec (motive := fun _ => Bool) false (aq_from G lm hs Ks n κ cuts t (some c.2.2) c.1 c.2.1) (aq_all (fun x => aq_scp c.2.1.1.1 x.1) c.2.2))
  | none => false
theorem aq_ck1_e : @aq_ck1 = @a_ck1 := by
  delta aq_ck1
  simp only [aq_all_e, aq_scp_e, aq_from_e, a_aq, a_oq, a_nq]
  rfl
noncomputable def aq_fineO (G : aG) (κ : aK) (cuts : List aCut) (olds : Option (List aF)) (o : Nat) (x : aRes) : Bool := match x with
  | .inl (pc, st) => (Bool.rec (motive := fun _ => Bool) (aq_any (fun c => (Bool.rec (motive := fun _ => Bool) false (aq_cutOK G κ.2.2.1.1 olds st c) (Nat.beq c.1 pc))) cuts) true ((match x_nth cuts o with
    | some c => (Bool.rec (motive := fun _ => Bool) false (aq_cutOK G κ.2.2.1.1 olds st c) (Nat.beq c.1 pc))
    | none => false)))
  | .inr r => aq_any (aq_retOK G κ.2.2.1.1 r) κ.2.2.2.2.2
theorem aq_fineO_e : @aq_fineO = @a_fineO := by
  delta aq_fineO
  simp only [aq_any_e, aq_retOK_e, aq_cutOK_e, a_aq, a_oq, a_nq]
  rfl
noncomputable def aq_allO (G : aG) (κ : aK) (cuts : List aCut) (olds : Option (List aF)) (rs : List aRes) : List Nat → Bool := List.rec (motive := fun _ => List Nat → Bool) (fun _ => true) (fun x _ ih os => match os with
  | o :: os => (Bool.rec (motive := fun _ => Bool) false (ih os) (aq_fineO G κ cuts olds o x))
  | [] => (Bool.rec (motive := fun _ => Bool) false (ih []) (aq_fine G κ cuts olds x))) rs
theorem aq_allO_e : @aq_allO = @a_allO := by
  delta aq_allO
  simp only [aq_fine_e, aq_fineO_e, a_aq, a_oq, a_nq]
  rfl
noncomputable def aq_fromO (G : aG) (lm : aLm) (hs : aHt) (Ks : List aK) (n : Nat) (κ : aK) (cuts : List aCut) (t : List (List (Option zX))) (olds : Option (List aF)) (pc : Nat) (st : aS) (os : List Nat) : Bool := a_bN (a_mask cuts) (fun k => match aq_run G κ.2.2.2.2.1 lm hs Ks n κ.2.1 κ.1 t k true pc st with
  | some rs => aq_allO G κ cuts olds rs os
  | none => false)
theorem aq_fromO_e : @aq_fromO = @a_fromO := by
  delta aq_fromO
  simp only [aq_run_e, aq_allO_e]
  rfl
noncomputable def aq_ck0O (os : List Nat) (G : aG) (lm : aLm) (hs : aHt) (Ks : List aK) (n : Nat) (κ : aK) (cuts : List aCut) : Bool := match x_nth zMT κ.1 with
  | some t => aq_fromO G lm hs Ks n κ cuts t none 0 (κ.2.2.1, aq_args κ.2.2.2.1 0, []) os
  | none => false
theorem aq_ck0O_e : @aq_ck0O = @a_ck0O := by
  delta aq_ck0O
  simp only [aq_args_e, aq_fromO_e]
  rfl
noncomputable def aq_ck1O (os : List Nat) (G : aG) (lm : aLm) (hs : aHt) (Ks : List aK) (n : Nat) (κ : aK) (cuts : List aCut) (c : aCut) : Bool := match x_nth zMT κ.1 with
  | some t => (Bool.rec (motive := fun _ => Bool) false (aq_fromO G lm hs Ks n κ cuts t (some c.2.2) c.1 c.2.1 os) (aq_all (fun x => aq_scp c.2.1.1.1 x.1) c.2.2))
  | none => false
theorem aq_ck1O_e : @aq_ck1O = @a_ck1O := by
  delta aq_ck1O
  simp only [aq_all_e, aq_scp_e, aq_fromO_e, a_aq, a_oq, a_nq]
  rfl
theorem aq_check_of {G : aG} {hs : aHt} {Ks : List aK} {n : Nat} {κ : aK} {cuts : List aCut} (h : aq_check G aqLmR hs Ks n κ cuts = true) : a_check G aLmR hs Ks n κ cuts = true := by
  rw [← aq_check_e, ← aqLmR_e]
  exact h
theorem aq_ck0_of {G : aG} {hs : aHt} {Ks : List aK} {n : Nat} {κ : aK} {cuts : List aCut} (h : aq_ck0 G aqLmR hs Ks n κ cuts = true) : a_ck0 G aLmR hs Ks n κ cuts = true := by
  rw [← aq_ck0_e, ← aqLmR_e]
  exact h
theorem aq_ck0O_of {G : aG} {hs : aHt} {Ks : List aK} {n : Nat} {κ : aK} {cuts : List aCut} (os : List Nat) (h : aq_ck0O os G aqLmR hs Ks n κ cuts = true) : a_ck0O os G aLmR hs Ks n κ cuts = true := by
  rw [← aq_ck0O_e, ← aqLmR_e]
  exact h
theorem aq_ck1_of {G : aG} {hs : aHt} {Ks : List aK} {n : Nat} {κ : aK} {cuts : List aCut} {c : aCut} (h : aq_ck1 G aqLmR hs Ks n κ cuts c = true) : a_ck1 G aLmR hs Ks n κ cuts c = true := by
  rw [← aq_ck1_e, ← aqLmR_e]
  exact h
theorem aq_ck1O_of {G : aG} {hs : aHt} {Ks : List aK} {n : Nat} {κ : aK} {cuts : List aCut} {c : aCut} (os : List Nat) (h : aq_ck1O os G aqLmR hs Ks n κ cuts c = true) : a_ck1O os G aLmR hs Ks n κ cuts c = true := by
  rw [← aq_ck1O_e, ← aqLmR_e]
  exact h
theorem aq_all_of {G : aG} {hs : aHt} {Ks : List aK} {n : Nat} {κ : aK} {cuts cs : List aCut} (l : List (List Nat × aCut)) (e : l.map Prod.snd = cs) (h : l.all (fun x => aq_ck1O x.1 G aqLmR hs Ks n κ cuts x.2) = true) : ∀ c ∈ cs, a_ck1 G aLmR hs Ks n κ cuts c = true := by
  subst e
  intro c hc
  obtain ⟨x, hx, e⟩ := List.mem_map.mp hc
  subst e
  exact a_ck1_of x.1 (aq_ck1O_of x.1 (List.all_eq_true.mp h x hx))
