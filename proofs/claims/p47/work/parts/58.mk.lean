/-! a check in several declarations: from the entry, and from each cut -/
noncomputable def a_ck0 (G : aG) (lm : aLm) (hs : aHt) (Ks : List aK) (n : Nat) (κ : aK) (cuts : List aCut) : Bool := match x_nth zMT κ.1 with
  | some t => a_from G lm hs Ks n κ cuts t none 0 (κ.2.2.1, a_args κ.2.2.2.1 0, [])
  | none => false
noncomputable def a_ck1 (G : aG) (lm : aLm) (hs : aHt) (Ks : List aK) (n : Nat) (κ : aK) (cuts : List aCut) (c : aCut) : Bool := match x_nth zMT κ.1 with
  | some t => a_all (fun x => a_scp c.2.1.1.1 x.1) c.2.2 && a_from G lm hs Ks n κ cuts t (some c.2.2) c.1 c.2.1
  | none => false
theorem a_all_mk {α : Type} {f : α → Bool} : ∀ {l : List α}, (∀ x ∈ l, f x = true) → a_all f l = true
  | [], _ => rfl
  | a :: l, h => by
    show (f a && a_all f l) = true
    rw [h a List.mem_cons_self, a_all_mk (fun x hx => h x (List.mem_cons_of_mem _ hx))]
    rfl
theorem a_check_mk {G : aG} {lm : aLm} {hs : aHt} {Ks : List aK} {n : Nat} {κ : aK} {cuts : List aCut} (h0 : a_ck0 G lm hs Ks n κ cuts = true) (h1 : ∀ c ∈ cuts, a_ck1 G lm hs Ks n κ cuts c = true) : a_check G lm hs Ks n κ cuts = true := by
  unfold a_ck0 at h0
  unfold a_ck1 at h1
  unfold a_check
  split at h0
  · rename_i t ht
    rw [ht] at h1 ⊢
    show (a_from G lm hs Ks n κ cuts t none 0 (κ.2.2.1, a_args κ.2.2.2.1 0, []) && a_all (fun c => a_all (fun x => a_scp c.2.1.1.1 x.1) c.2.2 && a_from G lm hs Ks n κ cuts t (some c.2.2) c.1 c.2.1) cuts) = true
    rw [h0, a_all_mk h1]
    rfl
  · cases h0
