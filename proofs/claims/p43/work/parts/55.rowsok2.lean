theorem a_notF {b : Bool} (h : (!b) = false) : b = true := by cases b with
  | true => rfl
  | false => cases h
section TH2
variable {β : Type} {X : aX} {ρ : Nat → Int} {q : aQ} {h : zH} {f : aQ → Option β} {r : β}
theorem a_dropF_ok {j0 n : Nat} (hr : a_dropF j0 n q f = some r) (g : aDen X ρ q h) : aThen X ρ q h f r := by
  unfold a_dropF at hr
  rw [x_spine_eq] at hr
  exact aThen.same hr rfl (g.setF fun j hj => g.2.2.2.1 j (a_flt_mem hj).1)
theorem a_dropO_ok {p : (Nat × Nat × Int) × aV → Bool} (hr : a_dropO p q f = some r) (g : aDen X ρ q h) : aThen X ρ q h f r := by
  unfold a_dropO at hr
  rw [x_spine_eq] at hr
  exact aThen.same hr rfl (g.setO fun e he => g.2.2.1 e (a_flt_mem he).1)
theorem aDen.cell (g : aDen X ρ q h) {r k : Nat} {v : aV} (hv : aR ρ q.1 v (h r k)) : aDen X ρ (a_addO q ((r, 0, Int.ofNat k), v)) h := g.setO fun e he => by
  rcases List.mem_cons.mp he with e' | e'
  · rw [e']
    exact ⟨Nat.zero_le _, Int.natCast_nonneg k, hv⟩
  · exact g.2.2.1 e e'
theorem a_readAK_ok {r0 : Nat} {f : aQ → Option β} : ∀ {n : Nat} {ρ : Nat → Int} {q : aQ}, (∀ k, k < n → (h r0 k).1 = 0) → a_readAK r0 f n q = some r → aDen X ρ q h → aThen X ρ q h f r
  | 0, _, _, _, hr, g => aThen.here hr g
  | n + 1, ρ, q, hi, hr, g => by
    have hr : (match a_oget q.2.2.2.1 r0 0 (Int.ofNat n) with
      | some _ => a_readAK r0 f n q
      | none => x_kN (q.1 + 1) (fun m => x_kN n (fun i => a_readAK r0 f n (m, q.2.1, q.2.2.1, ((r0, 0, Int.ofNat i), (0, m, 0)) :: q.2.2.2.1, q.2.2.2.2)))) = some r := hr
    split at hr
    · exact a_readAK_ok (fun k hk => hi k (Nat.lt_succ_of_lt hk)) hr g
    · rw [x_kN_eq, x_kN_eq] at hr
      have g1 := g.push (z := (h r0 n).2) (Int.le_refl _) (Int.le_refl _)
      have g2 := g1.bound (E := q.2.1) (fun x hx => g1.1.1 x (List.mem_cons_of_mem _ hx))
      have hv : aR (aup ρ q.1 (h r0 n).2) (q.1 + 1) (0, q.1 + 1, 0) (h r0 n) := by
        refine ⟨Nat.le_refl _, ?_⟩
        show h r0 n = (0, aup ρ q.1 (h r0 n).2 q.1 + 0)
        rw [aup_at, Int.add_zero, ← hi n (Nat.lt_succ_self n)]
      have g3 := g2.cell (r := r0) (k := n) hv
      obtain ⟨q', ρ', e1, e2, e3, e4⟩ := a_readAK_ok (fun k hk => hi k (Nat.lt_succ_of_lt hk)) hr g3
      exact ⟨q', ρ', e1, (aup_ag ρ q.1 (h r0 n).2).trans e2 (Nat.le_succ _), Nat.le_trans (Nat.le_succ _) e3, e4⟩
theorem a_ofR_ok {γ : Type} {L : aL} {loc : Nat} {f : Nat → Option γ} {r : γ} (hr : a_ofR L loc f = some r) : ∃ o, o < 6 ∧ f o = some r := by
  unfold a_ofR at hr
  split at hr
  · rcases x_condT hr with ⟨-, hr⟩ | ⟨-, hr⟩
    · split at hr
      · rename_i o ho
        exact ⟨o, (a_ordI_ok ho).1, hr⟩
      · cases hr
    · cases hr
  · cases hr
def aIntOK (X : aX) : Prop := ∀ h, aTyped X.1.1 h → (∀ k, k < 2750 → (h 126 k).1 = 0) ∧ ∀ o, o < 6 → ∀ k, k < 60 → (h (a_ord o + 1) k).1 = 0 ∧ (h (a_ord o + 2) k).1 = 0 ∧ (h (a_ord o + 3) k).1 = 0
theorem a_openC_ok (hI : aIntOK X) {L : aL} {loc : Nat} (hr : a_openC L loc q f = some r) (g : aDen X ρ q h) : aThen X ρ q h f r := by
  obtain ⟨o, ho, hr⟩ := a_ofR_ok hr
  rcases x_condT hr with ⟨-, hr⟩ | ⟨-, hr⟩
  · have hi := (hI h g.2.1).2 o ho
    exact (a_readAK_ok (fun k hk => (hi k hk).1) hr g).bind fun q' ρ' hr g => (a_readAK_ok (fun k hk => (hi k hk).2.1) hr g).bind fun q' ρ' hr g => a_readAK_ok (fun k hk => (hi k hk).2.2) hr g
  · exact aThen.here hr g
theorem a_moveC_ok (hFl : aFlOK X) {L : aL} {l0 l1 : Nat} (hr : a_moveC L l0 l1 q f = some r) (g : aDen X ρ q h) : aThen X ρ q h f r := by
  obtain ⟨a, ha, hr⟩ := a_ofR_ok hr
  obtain ⟨b, hb, hr⟩ := a_ofR_ok hr
  exact (a_cov_ok hFl hr g).bind fun q' ρ' hr g => a_dropO_ok hr g
theorem a_derive_ok {L : aL} {M : zL} {l0 l1 : Nat} {c : Int} (hr : a_derive L l0 l1 c q f = some r) (g : aDen X ρ q h) (hL : aRL ρ q.1 L M) : aThen X ρ q h f r := by
  unfold a_derive at hr
  split at hr
  · rename_i t i o t' i' o' h1 h2
    rcases x_condT hr with ⟨hc, hr⟩ | ⟨-, hr⟩
    · rw [Bool.and_eq_true] at hc
      rw [x_kZ_eq] at hr
      obtain ⟨z1, -, r1⟩ := a_lget_ok hL h1
      obtain ⟨z2, -, r2⟩ := a_lget_ok hL h2
      refine aThen.same hr rfl (g.fact (fun p hp => ?_) (a_ent_ok g.1 3 hc.2))
      have i1 : i + 1 ≤ q.1 := r1.1
      have i2 : i' + 1 ≤ q.1 := r2.1
      rcases List.mem_cons.mp hp with e | e
      · rw [e]; exact i1
      · rcases List.mem_cons.mp e with e | e
        · rw [e]; exact i2
        · exact absurd e List.not_mem_nil
    · exact aThen.here hr g
  · exact aThen.here hr g
  · cases hr
theorem a_rebase_ok {r0 : Nat} {o0 : Int} {js : List Int} (hr : a_rebase r0 o0 q f js = some r) (g : aDen X ρ q h) : aThen X ρ q h f r := by
  unfold a_rebase at hr
  split at hr
  · rename_i t i c hv
    have hi : i + 1 ≤ q.1 := (a_oget_ok g.2.2.1 hv).2.1
    clear hv
    induction js generalizing q ρ with
    | nil => exact aThen.here hr g
    | cons j js ih =>
      have hr : x_kN j.toNat (fun j => cond (Nat.beq j i || !Nat.blt j q.1) (List.rec (motive := fun _ => aQ → Option β) f (fun j _ ih q => x_kN j.toNat (fun j => cond (Nat.beq j i || !Nat.blt j q.1) (ih q) (cond (a_ent q.2.1 q.2.2.1 3 [(1, j), (-1, i)] (-1 + c)) (x_kZ (-1 + c) (fun b => ih (a_fact q ([(1, j), (-1, i)], b)))) (cond (a_ent q.2.1 q.2.2.1 3 [(1, j), (-1, i)] (0 + c)) (x_kZ (0 + c) (fun b => ih (a_fact q ([(1, j), (-1, i)], b)))) (ih q))))) js q) (cond (a_ent q.2.1 q.2.2.1 3 [(1, j), (-1, i)] (-1 + c)) (x_kZ (-1 + c) (fun b => List.rec (motive := fun _ => aQ → Option β) f (fun j _ ih q => x_kN j.toNat (fun j => cond (Nat.beq j i || !Nat.blt j q.1) (ih q) (cond (a_ent q.2.1 q.2.2.1 3 [(1, j), (-1, i)] (-1 + c)) (x_kZ (-1 + c) (fun b => ih (a_fact q ([(1, j), (-1, i)], b)))) (cond (a_ent q.2.1 q.2.2.1 3 [(1, j), (-1, i)] (0 + c)) (x_kZ (0 + c) (fun b => ih (a_fact q ([(1, j), (-1, i)], b)))) (ih q))))) js (a_fact q ([(1, j), (-1, i)], b)))) (cond (a_ent q.2.1 q.2.2.1 3 [(1, j), (-1, i)] (0 + c)) (x_kZ (0 + c) (fun b => List.rec (motive := fun _ => aQ → Option β) f (fun j _ ih q => x_kN j.toNat (fun j => cond (Nat.beq j i || !Nat.blt j q.1) (ih q) (cond (a_ent q.2.1 q.2.2.1 3 [(1, j), (-1, i)] (-1 + c)) (x_kZ (-1 + c) (fun b => ih (a_fact q ([(1, j), (-1, i)], b)))) (cond (a_ent q.2.1 q.2.2.1 3 [(1, j), (-1, i)] (0 + c)) (x_kZ (0 + c) (fun b => ih (a_fact q ([(1, j), (-1, i)], b)))) (ih q))))) js (a_fact q ([(1, j), (-1, i)], b)))) (List.rec (motive := fun _ => aQ → Option β) f (fun j _ ih q => x_kN j.toNat (fun j => cond (Nat.beq j i || !Nat.blt j q.1) (ih q) (cond (a_ent q.2.1 q.2.2.1 3 [(1, j), (-1, i)] (-1 + c)) (x_kZ (-1 + c) (fun b => ih (a_fact q ([(1, j), (-1, i)], b)))) (cond (a_ent q.2.1 q.2.2.1 3 [(1, j), (-1, i)] (0 + c)) (x_kZ (0 + c) (fun b => ih (a_fact q ([(1, j), (-1, i)], b)))) (ih q))))) js q)))) = some r := hr
      rw [x_kN_eq] at hr
      rcases x_condT hr with ⟨-, hr⟩ | ⟨hn, hr⟩
      · exact ih g hr hi
      · rw [Bool.or_eq_false_iff] at hn
        have hlt := Nat.le_of_ble_eq_true (a_notF hn.2)
        rcases x_condT hr with ⟨he, hr⟩ | ⟨-, hr⟩
        · rw [x_kZ_eq] at hr
          have g' := g.fact (x := ([(1, _), (-1, i)], -1 + c)) (fun p hp => by
            rcases List.mem_cons.mp hp with e | e
            · rw [e]; exact hlt
            · rcases List.mem_cons.mp e with e | e
              · rw [e]; exact hi
              · exact absurd e List.not_mem_nil) (a_ent_ok g.1 3 he)
          obtain ⟨q', ρ', e1, e2, e3, e4⟩ := ih g' hr hi
          exact ⟨q', ρ', e1, e2, e3, e4⟩
        rcases x_condT hr with ⟨he, hr⟩ | ⟨-, hr⟩
        · rw [x_kZ_eq] at hr
          have g' := g.fact (x := ([(1, _), (-1, i)], 0 + c)) (fun p hp => by
            rcases List.mem_cons.mp hp with e | e
            · rw [e]; exact hlt
            · rcases List.mem_cons.mp e with e | e
              · rw [e]; exact hi
              · exact absurd e List.not_mem_nil) (a_ent_ok g.1 3 he)
          obtain ⟨q', ρ', e1, e2, e3, e4⟩ := ih g' hr hi
          exact ⟨q', ρ', e1, e2, e3, e4⟩
        · exact ih g hr hi
  · exact aThen.here hr g
end TH2
