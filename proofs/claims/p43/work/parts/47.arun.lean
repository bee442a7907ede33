/-! THE WATCHER: runs, matching, contracts -/
theorem ai_ok {X : aX} (hX : aOK X) : ∀ i : zX, aStepOK X i
  | (0, nx, a, b, z, cs) => ap_push a z b cs
  | (1, nx, a, b, z, cs) => ap_goto a b z cs
  | (2, nx, a, b, z, cs) => ap_load a b z cs
  | (3, nx, a, b, z, cs) => ap_store1 a b z cs
  | (4, nx, a, b, z, cs) => ap_store2 a b z cs
  | (5, nx, a, b, z, cs) => ap_iinc a b z cs
  | (6, nx, a, b, z, cs) => ap_un32 a b z cs
  | (7, nx, a, b, z, cs) => ap_bin32 a b z cs
  | (8, nx, a, b, z, cs) => ap_div32 a b z cs
  | (9, nx, a, b, z, cs) => ap_neg64 a b z cs
  | (10, nx, a, b, z, cs) => ap_bin64 a b z cs
  | (11, nx, a, b, z, cs) => ap_div64 a b z cs
  | (12, nx, a, b, z, cs) => ap_sh64 a b z cs
  | (13, nx, a, b, z, cs) => ap_i2l a b z cs
  | (14, nx, a, b, z, cs) => ap_l2i a b z cs
  | (15, nx, a, b, z, cs) => ap_stk a b z cs
  | (16, nx, a, b, z, cs) => ap_if a b z cs
  | (17, nx, a, b, z, cs) => ap_icmp a b z cs
  | (18, nx, a, b, z, cs) => ap_lcmp a b z cs
  | (19, nx, a, b, z, cs) => ap_sw a b z cs
  | (20, nx, a, b, z, cs) => ap_getf a b z cs
  | (21, nx, a, b, z, cs) => ap_putf hX a b z cs
  | (22, nx, a, b, z, cs) => ap_ald hX a b z cs
  | (23, nx, a, b, z, cs) => ap_ast hX a b z cs
  | (24, nx, a, b, z, cs) => ap_alen a b z cs
  | (25, nx, a, b, z, cs) => ap_slen a b z cs
  | (26, nx, a, b, z, cs) => ap_char a b z cs
  | (27, nx, a, b, z, cs) => ap_math a b z cs
  | (28, nx, a, b, z, cs) => ap_copy hX a b z cs
  | (29, nx, a, b, z, cs) => ap_call a b z cs
  | (30, nx, a, b, z, cs) => ap_ret a b z cs
  | (n + 31, nx, a, b, z, cs) => fun ρ q L S outs h M Z hr _ _ _ => by
    have e : ∀ k, k < 31 → Nat.beq (n + 31) k = false := fun k hk => by
      cases hb : Nat.beq (n + 31) k with
      | false => rfl
      | true => have := Nat.eq_of_beq_eq_true hb; omega
    unfold ai ai1 ai2 ai3 at hr
    rw [e 2 (by omega), e 0 (by omega), e 20 (by omega), e 7 (by omega), e 30 (by omega), e 23 (by omega), e 1 (by omega), e 17 (by omega), e 22 (by omega), e 16 (by omega)] at hr
    have hr : (none : Option (List aOut)) = some outs := hr
    cases hr
-- hints: method, place, kind (0: split a local at bounds), which, numbers
abbrev aHt : Type := List (Nat × Nat × Nat × Nat × List Int)
abbrev aLm : Type := Nat → Nat → List Int → aS → Option (List aS)
abbrev aTh : Type := List (Nat × Nat × Int)
-- a contract: method, depth, at the entry, its arguments, what it may write, what it comes to
abbrev aK : Type := Nat × Nat × aQ × List aV × aM × List aRs
abbrev aRes : Type := (Nat × aS) ⊕ aRs
noncomputable def a_splitR (v : aV) (L : aL) (S : List aV) (bs : List Int) : aQ → Option (List aS) := List.rec (motive := fun _ => aQ → Option (List aS)) (fun q => some [(q, L, S)]) (fun b _ ih q => a_br 0 q v (0, 0, b) (fun q => some [(q, L, S)]) ih) bs
noncomputable def a_split (i : Nat) (bs : List Int) (st : aS) : Option (List aS) := match a_lget st.2.1 i with
  | some v => cond (Nat.beq v.1 0) (a_splitR v st.2.1 st.2.2 bs st.1) none
  | none => none
noncomputable def a_hint (lm : aLm) (k w : Nat) (bs : List Int) (st : aS) : Option (List aS) := match k with
  | 0 => a_split w bs st
  | k + 1 => lm k w bs st
-- each, then all together
noncomputable def a_gath {α β : Type} (f : α → Option (List β)) (l : List α) : Option (List β) := List.rec (motive := fun _ => Option (List β)) (some []) (fun a t ih => match t with
  | [] => f a
  | _ :: _ => a_app (f a) ih) l
noncomputable def a_hints {β : Type} (lm : aLm) (mi pc : Nat) (f : aS → Option (List β)) (hs : aHt) : aS → Option (List β) := List.rec (motive := fun _ => aS → Option (List β)) f (fun x _ ih st => cond (Nat.beq x.1 mi && Nat.beq x.2.1 pc) (match a_hint lm x.2.2.1 x.2.2.2.1 x.2.2.2.2 st with
  | some l => a_gath ih l
  | none => none) (ih st)) hs
/-! matching -/
noncomputable def a_th (θ : aTh) (j : Nat) : Option (Nat × Int) := List.rec (motive := fun _ => Option (Nat × Int)) none (fun e _ ih => cond (Nat.beq e.1 j) (some e.2) ih) θ
-- a pattern's value (of N unknowns) is this one
noncomputable def a_bindK {β : Type} (N : Nat) (E : aB) (θ : aTh) (p v : aV) (f : aTh → Option β) : Option β := cond (Nat.beq p.1 v.1 && Nat.ble p.2.1 N) (Nat.rec (motive := fun _ => Option β) (a_rngK E v (fun lo hi => cond (@decide (lo = p.2.2) (a_decEqZ _ _) && @decide (hi = p.2.2) (a_decEqZ _ _)) (f θ) none)) (fun j _ => match a_th θ j with
  | some e => cond (Nat.beq e.1 v.2.1 && @decide (e.2 + p.2.2 = v.2.2) (a_decEqZ _ _)) (f θ) (a_rngK E (0, e) (fun l h => a_rngK E v (fun l2 h2 => cond (@decide (l = h) (a_decEqZ _ _) && (@decide (l2 = h2) (a_decEqZ _ _) && @decide (l + p.2.2 = l2) (a_decEqZ _ _))) (f θ) none)))
  | none => x_kN v.2.1 (fun s => x_kZ (v.2.2 - p.2.2) (fun o => f ((j, s, o) :: θ)))) p.2.1) none
noncomputable def a_bindsK {β : Type} (N : Nat) (E : aB) (f : aTh → Option β) (ps : List aV) : List aV → aTh → Option β := List.rec (motive := fun _ => List aV → aTh → Option β) (fun vs θ => match vs with
  | [] => f θ
  | _ => none) (fun p _ ih vs θ => match vs with
  | v :: vs => a_bindK N E θ p v (ih vs)
  | [] => none) ps
noncomputable def a_bindLK {β : Type} (N : Nat) (E : aB) (L : aL) (f : aTh → Option β) (ps : aL) : aTh → Option β := List.rec (motive := fun _ => aTh → Option β) f (fun p _ ih θ => match a_lget L p.1 with
  | some v => a_bindK N E θ p.2 v ih
  | none => none) ps
-- a pattern's sum: here
noncomputable def a_thK {β : Type} (N : Nat) (θ : aTh) (s : Nat) (o : Int) (f : Nat → Int → Option β) : Option β := cond (Nat.ble s N) (Nat.rec (motive := fun _ => Option β) (f 0 o) (fun j _ => match a_th θ j with
  | some e => x_kZ (e.2 + o) (fun o => f e.1 o)
  | none => none) s) none
noncomputable def a_bindOK {β : Type} (N : Nat) (q : aQ) (f : aTh → Option β) (ps : aO) : aTh → Option β := List.rec (motive := fun _ => aTh → Option β) f (fun p _ ih θ => a_thK N θ p.1.2.1 p.1.2.2 (fun s o => match a_oget q.2.2.2.1 p.1.1 s o with
  | some v => a_bindK N q.2.1 θ p.2 v ih
  | none => none)) ps
noncomputable def a_all {α : Type} (f : α → Bool) (l : List α) : Bool := List.rec (motive := fun _ => Bool) true (fun a _ ih => f a && ih) l
noncomputable def a_any {α : Type} (f : α → Bool) (l : List α) : Bool := List.rec (motive := fun _ => Bool) false (fun a _ ih => f a || ih) l
noncomputable def a_inE (N : Nat) (q : aQ) (θ : aTh) (x : Nat × Int × Int) : Bool := Nat.blt x.1 N && (match a_th θ x.1 with
  | some e => (match a_rngK q.2.1 (0, e) (fun l h => some (@decide (x.2.1 ≤ l) (a_decLe _ _) && @decide (h ≤ x.2.2) (a_decLe _ _))) with
    | some b => b
    | none => false) || (a_leq q (0, 0, x.2.1) (0, e) 0 && a_leq q (0, e) (0, 0, x.2.2) 0)
  | none => false)
-- a sum by the matched unknowns: terms, and what is left of the number
noncomputable def a_subF (θ : aTh) (ts : List (Int × Nat)) : Option (List (Int × Nat) × Int) := List.rec (motive := fun _ => Option (List (Int × Nat) × Int)) (some ([], 0)) (fun p _ ih => match ih with
  | some r => match a_th θ p.2 with
    | some e => Nat.rec (motive := fun _ => Option (List (Int × Nat) × Int)) (some (r.1, p.1 * e.2 + r.2)) (fun i _ => some (a_ins p.1 i r.1, p.1 * e.2 + r.2)) e.1
    | none => none
  | none => none) ts
noncomputable def a_scp (N : Nat) (ts : List (Int × Nat)) : Bool := a_all (fun p => Nat.blt p.2 N) ts
noncomputable def a_inF (N : Nat) (q : aQ) (θ : aTh) (x : aF) : Bool := a_scp N x.1 && (match a_subF θ x.1 with
  | some r => a_ent q.2.1 q.2.2.1 3 r.1 (x.2 - r.2)
  | none => false)
noncomputable def a_memN (j : Nat) (l : List Nat) : Bool := List.rec (motive := fun _ => Bool) false (fun a _ ih => Nat.beq a j || ih) l
-- all but values: bounds, facts, flags, the script's length
noncomputable def a_rest (lenS : Bool) (p q : aQ) (θ : aTh) : Bool := a_all (a_inE p.1 q θ) p.2.1 && (a_all (a_inF p.1 q θ) p.2.2.1 && (a_all (fun j => a_memN j q.2.2.2.2) p.2.2.2.2 && (!lenS || (Nat.blt 0 p.1 && (match a_th θ 0 with
  | some e => Nat.beq e.1 1 && @decide (e.2 = 0) (a_decEqZ _ _)
  | none => false)))))
noncomputable def a_id (k : Nat) : aTh := Nat.rec (motive := fun _ => aTh) [] (fun j ih => (j, j + 1, 0) :: ih) k
-- measures fall: news by the matched unknowns, olds by ours
noncomputable def a_lexR (q : aQ) (θ : aTh) (ns : List aF) : List aF → Bool := List.rec (motive := fun _ => List aF → Bool) (fun _ => false) (fun n _ ih os => match os with
  | o :: os => (match a_subF θ n.1 with
    | some r => (a_ent q.2.1 q.2.2.1 3 (a_less r.1 o.1) (o.2 - n.2 - r.2 - 1) && a_ent q.2.1 q.2.2.1 3 (a_less [] r.1) (n.2 + r.2)) || (a_ent q.2.1 q.2.2.1 3 (a_less r.1 o.1) (o.2 - n.2 - r.2) && ih os)
    | none => false)
  | [] => false) ns

/-! contracts, used -/
noncomputable def a_ext (kn n0 c : Nat) (θ : aTh) : aTh := Nat.rec (motive := fun _ => aTh) θ (fun j ih => (kn + j, n0 + j + 1, 0) :: ih) c
noncomputable def a_newE {β : Type} (θ : aTh) (f : aB → Option (List β)) (Es : aB) : aB → Option (List β) := List.rec (motive := fun _ => aB → Option (List β)) f (fun x _ ih E => match a_th θ x.1 with
  | some e => Nat.rec (motive := fun _ => Option (List β)) (cond (@decide (x.2.1 ≤ e.2) (a_decLe _ _) && @decide (e.2 ≤ x.2.2) (a_decLe _ _)) (ih E) (some [])) (fun i _ => match a_get E i with
    | some u => x_kZ (a_max u.1 (x.2.1 - e.2)) (fun l => x_kZ (a_min u.2 (x.2.2 - e.2)) (fun h => cond (@decide (l ≤ h) (a_decLe _ _)) (x_kN i (fun i => ih ((i, l, h) :: E))) (some [])))
    | none => x_kZ (x.2.1 - e.2) (fun l => x_kZ (x.2.2 - e.2) (fun h => x_kN i (fun i => ih ((i, l, h) :: E))))) e.1
  | none => none) Es
noncomputable def a_newF {β : Type} (θ : aTh) (f : List aF → Option β) (Fs : List aF) : List aF → Option β := List.rec (motive := fun _ => List aF → Option β) f (fun x _ ih Gs => match a_subF θ x.1 with
  | some r => x_spine r.1 (fun ts => x_kZ (x.2 - r.2) (fun b => ih ((ts, b) :: Gs)))
  | none => none) Fs
noncomputable def a_newO {β : Type} (N : Nat) (θ : aTh) (f : aO → Option β) (Os : aO) : aO → Option β := List.rec (motive := fun _ => aO → Option β) f (fun x _ ih O => a_thK N θ x.1.2.1 x.1.2.2 (fun s o => a_thK N θ x.2.2.1 x.2.2.2 (fun s2 o2 => ih (((x.1.1, s, o), (x.2.1, s2, o2)) :: O)))) Os
noncomputable def a_okept (E : aB) (m : aM) (e : (Nat × Nat × Int) × aV) : Bool := a_all (fun x => a_okeepR E x.1 (Int.ofNat x.2.1) (Int.ofNat x.2.2) e) m
noncomputable def a_fkept (sup : List (List aM)) (m : aM) (j : Nat) : Bool := a_all (fun x => a_fkeep sup x.1 (Int.ofNat x.2.1) (Int.ofNat x.2.2) j) m
noncomputable def a_retK {β : Type} (N : Nat) (θ : aTh) (v : Option aV) (f : Option aV → Option β) : Option β := match v with
  | none => f none
  | some v => a_thK N θ v.2.1 v.2.2 (fun s o => f (some (v.1, s, o)))
noncomputable def a_postK (G : aG) (κ : aK) (q : aQ) (θ : aTh) (p : aRs) : Option (List aRs) := cond (Nat.ble κ.2.2.1.1 p.1.1) (x_spine (a_ext κ.2.2.1.1 q.1 (p.1.1 - κ.2.2.1.1) θ) (fun θ => a_newE θ (fun E => a_newF θ (fun Fs => x_spine (a_flt (a_okept q.2.1 κ.2.2.2.2.1) q.2.2.2.1) (fun O => a_newO p.1.1 θ (fun O => x_spine (p.1.2.2.2.2 ++ a_flt (a_fkept G.2.1 κ.2.2.2.2.1) q.2.2.2.2) (fun fl => a_retK p.1.1 θ p.2 (fun v => x_kN (q.1 + (p.1.1 - κ.2.2.1.1)) (fun n => some [((n, E, Fs, O, fl), v)])))) p.1.2.2.2.1 O)) p.1.2.2.1 q.2.2.1) p.1.2.1 q.2.1)) none
noncomputable def a_callK (G : aG) (m : aM) (κ : aK) (q : aQ) (as : List aV) : Option (List aRs) := a_bindsK κ.2.2.1.1 q.2.1 (a_bindOK κ.2.2.1.1 q (fun θ => cond (a_rest false κ.2.2.1 q θ && a_all (fun x => a_mod m x.1 (Int.ofNat x.2.1) (Int.ofNat x.2.2)) κ.2.2.2.2.1) (a_gath (a_postK G κ q θ) κ.2.2.2.2.2) none) κ.2.2.1.2.2.2.1) κ.2.2.2.1 as []
noncomputable def a_pick (G : aG) (m : aM) (d mj : Nat) (q : aQ) (as : List aV) (Ks : List aK) : Option (List aRs) := List.rec (motive := fun _ => Option (List aRs)) none (fun κ _ ih => cond (Nat.beq κ.1 mj && Nat.ble κ.2.1 d) (match a_callK G m κ q as with
  | some r => some r
  | none => ih) ih) Ks
/-! runs -/
noncomputable def a_args (as : List aV) : Nat → aL := List.rec (motive := fun _ => Nat → aL) (fun _ => []) (fun v _ ih i => (i, v) :: ih (cond (Nat.beq (a_cat v) 2) (i + 2) (i + 1))) as
def a_pushO (v : Option aV) (S : List aV) : List aV := match v with
  | none => S
  | some v => v :: S
abbrev aCut0 : Type := Nat × aS × List aF
abbrev aGo : Type := Nat → Nat → List (List (Option zX)) → Nat → Bool → Nat → aS → Option (List aRes)
-- cuts as bits
noncomputable def a_bit (k pc : Nat) : Bool := Nat.beq (Nat.land 1 (Nat.shiftRight k pc)) 1
noncomputable def a_mask (cuts : List aCut0) : Nat := List.rec (motive := fun _ => Nat) 0 (fun c _ ih => Nat.lor (Nat.shiftLeft 1 c.1) ih) cuts
noncomputable def a_cont (G : aG) (m : aM) (Ks : List aK) (ih : aGo) (d mi : Nat) (t : List (List (Option zX))) (cuts : Nat) (o : aOut) : Option (List aRes) := match o with
  | .inl r => some [.inr r]
  | .inr (.inl (pc, st)) => ih d mi t cuts false pc st
  | .inr (.inr (mj, as, nx, st)) => match d with
    | 0 => none
    | d' + 1 => match a_pick G m d' mj st.1 as Ks with
      | some rets => a_gath (fun r => ih (d' + 1) mi t cuts false nx (r.1, st.2.1, a_pushO r.2 st.2.2)) rets
      | none => match x_nth zMT mj with
        | some t' => match ih d' mj t' 0 true 0 (st.1, a_args as 0, []) with
          | some rs => a_gath (fun x => match x with
            | .inr r => ih (d' + 1) mi t cuts false nx (r.1, st.2.1, a_pushO r.2 st.2.2)
            | .inl _ => none) rs
          | none => none
        | none => none
noncomputable def a_run (G : aG) (m : aM) (lm : aLm) (hs : aHt) (Ks : List aK) (n : Nat) : aGo := Nat.rec (motive := fun _ => aGo) (fun _ _ _ _ _ _ _ => none) (fun _ ih d mi t cuts first pc st => cond (!first && a_bit cuts pc) (some [.inl (pc, st)]) (a_hints lm mi pc (fun st => match z_at t pc with
  | some i => match ai G m i st.1 st.2.1 st.2.2 with
    | some outs => a_gath (a_cont G m Ks ih d mi t cuts) outs
    | none => none
  | none => none) hs st)) n
/-! a method's check -/
abbrev aCut : Type := Nat × aS × List aF
noncomputable def a_retOK (G : aG) (k : Nat) (r p : aRs) : Bool := match (match p.2, r.2 with
    | none, none => a_bindOK p.1.1 r.1 (fun θ => some (a_rest G.2.2 p.1 r.1 θ)) p.1.2.2.2.1 (a_id k)
    | some pv, some v => a_bindK p.1.1 r.1.2.1 (a_id k) pv v (a_bindOK p.1.1 r.1 (fun θ => some (a_rest G.2.2 p.1 r.1 θ)) p.1.2.2.2.1)
    | _, _ => none) with
  | some b => b && Nat.ble k p.1.1
  | none => false
noncomputable def a_cutOK (G : aG) (k : Nat) (olds : Option (List aF)) (st : aS) (c : aCut) : Bool := match a_bindLK c.2.1.1.1 st.1.2.1 st.2.1 (a_bindsK c.2.1.1.1 st.1.2.1 (a_bindOK c.2.1.1.1 st.1 (fun θ => some (a_rest G.2.2 c.2.1.1 st.1 θ && (match olds with
    | some os => a_lexR st.1 θ c.2.2 os
    | none => true))) c.2.1.1.2.2.2.1) c.2.1.2.2 st.2.2) c.2.1.2.1 (a_id k) with
  | some b => b && Nat.ble k c.2.1.1.1
  | none => false
noncomputable def a_fine (G : aG) (κ : aK) (cuts : List aCut) (olds : Option (List aF)) (x : aRes) : Bool := match x with
  | .inl (pc, st) => a_any (fun c => Nat.beq c.1 pc && a_cutOK G κ.2.2.1.1 olds st c) cuts
  | .inr r => a_any (a_retOK G κ.2.2.1.1 r) κ.2.2.2.2.2
noncomputable def a_from (G : aG) (lm : aLm) (hs : aHt) (Ks : List aK) (n : Nat) (κ : aK) (cuts : List aCut) (t : List (List (Option zX))) (olds : Option (List aF)) (pc : Nat) (st : aS) : Bool := a_bN (a_mask cuts) (fun k => match a_run G κ.2.2.2.2.1 lm hs Ks n κ.2.1 κ.1 t k true pc st with
  | some rs => a_all (a_fine G κ cuts olds) rs
  | none => false)
noncomputable def a_check (G : aG) (lm : aLm) (hs : aHt) (Ks : List aK) (n : Nat) (κ : aK) (cuts : List aCut) : Bool := match x_nth zMT κ.1 with
  | some t => a_from G lm hs Ks n κ cuts t none 0 (κ.2.2.1, a_args κ.2.2.2.1 0, []) && a_all (fun c => a_all (fun x => a_scp c.2.1.1.1 x.1) c.2.2 && a_from G lm hs Ks n κ cuts t (some c.2.2) c.1 c.2.1) cuts
  | none => false
/-! the walk once more, without cond and Decidable (wip/z/genq.py); that it comes to the same -/
noncomputable def aq_splitR (v : aV) (L : aL) (S : List aV) (bs : List Int) : aQ → Option (List aS) := List.rec (motive := fun _ => aQ → Option (List aS)) (fun q => some [(q, L, S)]) (fun b _ ih q => aq_br 0 q v (0, 0, b) (fun q => some [(q, L, S)]) ih) bs
theorem aq_splitR_e : @aq_splitR = @a_splitR := by
  delta aq_splitR
  simp only [aq_br_e]
  rfl
noncomputable def aq_split (i : Nat) (bs : List Int) (st : aS) : Option (List aS) := match aq_lget st.2.1 i with
  | some v => (Bool.rec (motive := fun _ => _) none (aq_splitR v st.2.1 st.2.2 bs st.1) (Nat.beq v.1 0))
  | none => none
theorem aq_split_e : @aq_split = @a_split := by
  delta aq_split
  simp only [aq_lget_e, aq_splitR_e]
  try simp only [a_cqx]
  rfl
noncomputable def aq_hint (lm : aLm) (k w : Nat) (bs : List Int) (st : aS) : Option (List aS) := match k with
  | 0 => aq_split w bs st
  | k + 1 => lm k w bs st
theorem aq_hint_e : @aq_hint = @a_hint := by
  delta aq_hint
  simp only [aq_split_e]
  rfl
noncomputable def aq_hints {β : Type} (lm : aLm) (mi pc : Nat) (f : aS → Option (List β)) (hs : aHt) : aS → Option (List β) := List.rec (motive := fun _ => aS → Option (List β)) f (fun x _ ih st => (Bool.rec (motive := fun _ => _) (ih st) (match aq_hint lm x.2.2.1 x.2.2.2.1 x.2.2.2.2 st with
  | some l => a_gath ih l
  | none => none) ((Bool.rec (motive := fun _ => Bool) false (Nat.beq x.2.1 pc) (Nat.beq x.1 mi))))) hs
theorem aq_hints_e : @aq_hints = @a_hints := by
  delta aq_hints
  simp only [aq_hint_e, a_aq, a_oq, a_nq]
  try simp only [a_cqx]
  rfl
noncomputable def aq_th (θ : aTh) (j : Nat) : Option (Nat × Int) := List.rec (motive := fun _ => Option (Nat × Int)) none (fun e _ ih => (Bool.rec (motive := fun _ => _) ih (some e.2) (Nat.beq e.1 j))) θ
theorem aq_th_e : @aq_th = @a_th := by
  delta aq_th
  try simp only [a_cqx]
  rfl
noncomputable def aq_bindK {β : Type} (N : Nat) (E : aB) (θ : aTh) (p v : aV) (f : aTh → Option β) : Option β := (Bool.rec (motive := fun _ => _) none (Nat.rec (motive := fun _ => Option β) (aq_rngK E v (fun lo hi => (Bool.rec (motive := fun _ => _) none (f θ) ((Bool.rec (motive := fun _ => Bool) false ((a_eqZ (hi) (p.2.2))) ((a_eqZ (lo) (p.2.2)))))))) (fun j _ => match aq_th θ j with
  | some e => (Bool.rec (motive := fun _ => _) (aq_rngK E (0, e) (fun l h => aq_rngK E v (fun l2 h2 => (Bool.rec (motive := fun _ => _) none (f θ) ((Bool.rec (motive := fun _ => Bool) false (((Bool.rec (motive := fun _ => Bool) false ((a_eqZ (l + p.2.2) (l2))) ((a_eqZ (l2) (h2)))))) ((a_eqZ (l) (h))))))))) (f θ) ((Bool.rec (motive := fun _ => Bool) false ((a_eqZ (e.2 + p.2.2) (v.2.2))) (Nat.beq e.1 v.2.1))))
  | none => x_kN v.2.1 (fun s => x_kZ (v.2.2 - p.2.2) (fun o => f ((j, s, o) :: θ)))) p.2.1) ((Bool.rec (motive := fun _ => Bool) false (Nat.ble p.2.1 N) (Nat.beq p.1 v.1))))
theorem aq_bindK_e : @aq_bindK = @a_bindK := by
  delta aq_bindK
  simp only [aq_rngK_e, aq_th_e, a_eqZ_q, a_aq, a_oq, a_nq]
  try simp only [a_cqx]
  rfl
noncomputable def aq_bindsK {β : Type} (N : Nat) (E : aB) (f : aTh → Option β) (ps : List aV) : List aV → aTh → Option β := List.rec (motive := fun _ => List aV → aTh → Option β) (fun vs θ => match vs with
  | [] => f θ
  | _ => none) (fun p _ ih vs θ => match vs with
  | v :: vs => aq_bindK N E θ p v (ih vs)
  | [] => none) ps
theorem aq_bindsK_e : @aq_bindsK = @a_bindsK := by
  delta aq_bindsK
  simp only [aq_bindK_e]
  rfl
noncomputable def aq_bindLK {β : Type} (N : Nat) (E : aB) (L : aL) (f : aTh → Option β) (ps : aL) : aTh → Option β := List.rec (motive := fun _ => aTh → Option β) f (fun p _ ih θ => match aq_lget L p.1 with
  | some v => aq_bindK N E θ p.2 v ih
  | none => none) ps
theorem aq_bindLK_e : @aq_bindLK = @a_bindLK := by
  delta aq_bindLK
  simp only [aq_lget_e, aq_bindK_e]
  rfl
noncomputable def aq_thK {β : Type} (N : Nat) (θ : aTh) (s : Nat) (o : Int) (f : Nat → Int → Option β) : Option β := (Bool.rec (motive := fun _ => _) none (Nat.rec (motive := fun _ => Option β) (f 0 o) (fun j _ => match aq_th θ j with
  | some e => x_kZ (e.2 + o) (fun o => f e.1 o)
  | none => none) s) (Nat.ble s N))
theorem aq_thK_e : @aq_thK = @a_thK := by
  delta aq_thK
  simp only [aq_th_e]
  try simp only [a_cqx]
  rfl
noncomputable def aq_bindOK {β : Type} (N : Nat) (q : aQ) (f : aTh → Option β) (ps : aO) : aTh → Option β := List.rec (motive := fun _ => aTh → Option β) f (fun p _ ih θ => aq_thK N θ p.1.2.1 p.1.2.2 (fun s o => match aq_oget q.2.2.2.1 p.1.1 s o with
  | some v => aq_bindK N q.2.1 θ p.2 v ih
  | none => none)) ps
theorem aq_bindOK_e : @aq_bindOK = @a_bindOK := by
  delta aq_bindOK
  simp only [aq_oget_e, aq_bindK_e, aq_thK_e]
  rfl
noncomputable def aq_all {α : Type} (f : α → Bool) (l : List α) : Bool := List.rec (motive := fun _ => Bool) true (fun a _ ih => (Bool.rec (motive := fun _ => Bool) false (ih) (f a))) l
theorem aq_all_e : @aq_all = @a_all := by
  delta aq_all
  simp only [a_aq, a_oq, a_nq]
  rfl
noncomputable def aq_any {α : Type} (f : α → Bool) (l : List α) : Bool := List.rec (motive := fun _ => Bool) false (fun a _ ih => (Bool.rec (motive := fun _ => Bool) (ih) true (f a))) l
theorem aq_any_e : @aq_any = @a_any := by
  delta aq_any
  simp only [a_aq, a_oq, a_nq]
  rfl
noncomputable def aq_inE (N : Nat) (q : aQ) (θ : aTh) (x : Nat × Int × Int) : Bool := (Bool.rec (motive := fun _ => Bool) false ((match aq_th θ x.1 with
  | some e => (Bool.rec (motive := fun _ => Bool) (((Bool.rec (motive := fun _ => Bool) false (aq_leq q (0, e) (0, 0, x.2.2) 0) (aq_leq q (0, 0, x.2.1) (0, e) 0)))) true ((match aq_rngK q.2.1 (0, e) (fun l h => some ((Bool.rec (motive := fun _ => Bool) false ((a_leZ (h) (x.2.2))) ((a_leZ (x.2.1) (l)))))) with
    | some b => b
    | none => false)))
  | none => false)) (Nat.blt x.1 N))
theorem aq_inE_e : @aq_inE = @a_inE := by
  delta aq_inE
  simp only [aq_rngK_e, aq_leq_e, aq_th_e, a_leZ_q, a_aq, a_oq, a_nq]
  rfl
noncomputable def aq_subF (θ : aTh) (ts : List (Int × Nat)) : Option (List (Int × Nat) × Int) := List.rec (motive := fun _ => Option (List (Int × Nat) × Int)) (some ([], 0)) (fun p _ ih => match ih with
  | some r => match aq_th θ p.2 with
    | some e => Nat.rec (motive := fun _ => Option (List (Int × Nat) × Int)) (some (r.1, p.1 * e.2 + r.2)) (fun i _ => some (aq_ins p.1 i r.1, p.1 * e.2 + r.2)) e.1
    | none => none
  | none => none) ts
theorem aq_subF_e : @aq_subF = @a_subF := by
  delta aq_subF
  simp only [aq_ins_e, aq_th_e]
  rfl
noncomputable def aq_scp (N : Nat) (ts : List (Int × Nat)) : Bool := aq_all (fun p => Nat.blt p.2 N) ts
theorem aq_scp_e : @aq_scp = @a_scp := by
  delta aq_scp
  simp only [aq_all_e]
  rfl
noncomputable def aq_inF (N : Nat) (q : aQ) (θ : aTh) (x : aF) : Bool := (Bool.rec (motive := fun _ => Bool) false ((match aq_subF θ x.1 with
  | some r => aq_ent q.2.1 q.2.2.1 3 r.1 (x.2 - r.2)
  | none => false)) (aq_scp N x.1))
theorem aq_inF_e : @aq_inF = @a_inF := by
  delta aq_inF
  simp only [aq_ent_e, aq_subF_e, aq_scp_e, a_aq, a_oq, a_nq]
  rfl
noncomputable def aq_memN (j : Nat) (l : List Nat) : Bool := List.rec (motive := fun _ => Bool) false (fun a _ ih => (Bool.rec (motive := fun _ => Bool) (ih) true (Nat.beq a j))) l
theorem aq_memN_e : @aq_memN = @a_memN := by
  delta aq_memN
  simp only [a_aq, a_oq, a_nq]
  rfl
noncomputable def aq_rest (lenS : Bool) (p q : aQ) (θ : aTh) : Bool := (Bool.rec (motive := fun _ => Bool) false (((Bool.rec (motive := fun _ => Bool) false (((Bool.rec (motive := fun _ => Bool) false (((Bool.rec (motive := fun _ => Bool) (((Bool.rec (motive := fun _ => Bool) false ((match aq_th θ 0 with
  | some e => (Bool.rec (motive := fun _ => Bool) false ((a_eqZ (e.2) (0))) (Nat.beq e.1 1))
  | none => false)) (Nat.blt 0 p.1)))) true ((Bool.rec (motive := fun _ => Bool) true false (lenS)))))) (aq_all (fun j => aq_memN j q.2.2.2.2) p.2.2.2.2)))) (aq_all (aq_inF p.1 q θ) p.2.2.1)))) (aq_all (aq_inE p.1 q θ) p.2.1))
theorem aq_rest_e : @aq_rest = @a_rest := by
  delta aq_rest
  simp only [aq_th_e, aq_all_e, aq_inE_e, aq_inF_e, aq_memN_e, a_eqZ_q, a_aq, a_oq, a_nq]
  rfl
noncomputable def aq_lexR (q : aQ) (θ : aTh) (ns : List aF) : List aF → Bool := List.rec (motive := fun _ => List aF → Bool) (fun _ => false) (fun n _ ih os => match os with
  | o :: os => (match aq_subF θ n.1 with
    | some r => (Bool.rec (motive := fun _ => Bool) (((Bool.rec (motive := fun _ => Bool) false (ih os) (aq_ent q.2.1 q.2.2.1 3 (aq_less r.1 o.1) (o.2 - n.2 - r.2))))) true (((Bool.rec (motive := fun _ => Bool) false (aq_ent q.2.1 q.2.2.1 3 (aq_less [] r.1) (n.2 + r.2)) (aq_ent q.2.1 q.2.2.1 3 (aq_less r.1 o.1) (o.2 - n.2 - r.2 - 1))))))
    | none => false)
  | [] => false) ns
theorem aq_lexR_e : @aq_lexR = @a_lexR := by
  delta aq_lexR
  simp only [aq_less_e, aq_ent_e, aq_subF_e, a_aq, a_oq, a_nq]
  rfl
noncomputable def aq_newE {β : Type} (θ : aTh) (f : aB → Option (List β)) (Es : aB) : aB → Option (List β) := List.rec (motive := fun _ => aB → Option (List β)) f (fun x _ ih E => match aq_th θ x.1 with
  | some e => Nat.rec (motive := fun _ => Option (List β)) ((Bool.rec (motive := fun _ => _) (some []) (ih E) ((Bool.rec (motive := fun _ => Bool) false ((a_leZ (e.2) (x.2.2))) ((a_leZ (x.2.1) (e.2))))))) (fun i _ => match aq_get E i with
    | some u => x_kZ (aq_max u.1 (x.2.1 - e.2)) (fun l => x_kZ (aq_min u.2 (x.2.2 - e.2)) (fun h => (Bool.rec (motive := fun _ => _) (some []) (x_kN i (fun i => ih ((i, l, h) :: E))) ((a_leZ (l) (h))))))
    | none => x_kZ (x.2.1 - e.2) (fun l => x_kZ (x.2.2 - e.2) (fun h => x_kN i (fun i => ih ((i, l, h) :: E))))) e.1
  | none => none) Es
theorem aq_newE_e : @aq_newE = @a_newE := by
  delta aq_newE
  simp only [aq_min_e, aq_max_e, aq_get_e, aq_th_e, a_leZ_q, a_aq, a_oq, a_nq]
  try simp only [a_cqx]
  rfl
noncomputable def aq_newF {β : Type} (θ : aTh) (f : List aF → Option β) (Fs : List aF) : List aF → Option β := List.rec (motive := fun _ => List aF → Option β) f (fun x _ ih Gs => match aq_subF θ x.1 with
  | some r => x_spine r.1 (fun ts => x_kZ (x.2 - r.2) (fun b => ih ((ts, b) :: Gs)))
  | none => none) Fs
theorem aq_newF_e : @aq_newF = @a_newF := by
  delta aq_newF
  simp only [aq_subF_e]
  rfl
noncomputable def aq_newO {β : Type} (N : Nat) (θ : aTh) (f : aO → Option β) (Os : aO) : aO → Option β := List.rec (motive := fun _ => aO → Option β) f (fun x _ ih O => aq_thK N θ x.1.2.1 x.1.2.2 (fun s o => aq_thK N θ x.2.2.1 x.2.2.2 (fun s2 o2 => ih (((x.1.1, s, o), (x.2.1, s2, o2)) :: O)))) Os
theorem aq_newO_e : @aq_newO = @a_newO := by
  delta aq_newO
  simp only [aq_thK_e]
  rfl
noncomputable def aq_okept (E : aB) (m : aM) (e : (Nat × Nat × Int) × aV) : Bool := aq_all (fun x => aq_okeepR E x.1 (Int.ofNat x.2.1) (Int.ofNat x.2.2) e) m
theorem aq_okept_e : @aq_okept = @a_okept := by
  delta aq_okept
  simp only [aq_okeepR_e, aq_all_e]
  rfl
noncomputable def aq_fkept (sup : List (List aM)) (m : aM) (j : Nat) : Bool := aq_all (fun x => aq_fkeep sup x.1 (Int.ofNat x.2.1) (Int.ofNat x.2.2) j) m
theorem aq_fkept_e : @aq_fkept = @a_fkept := by
  delta aq_fkept
  simp only [aq_fkeep_e, aq_all_e]
  rfl
noncomputable def aq_retK {β : Type} (N : Nat) (θ : aTh) (v : Option aV) (f : Option aV → Option β) : Option β := match v with
  | none => f none
  | some v => aq_thK N θ v.2.1 v.2.2 (fun s o => f (some (v.1, s, o)))
theorem aq_retK_e : @aq_retK = @a_retK := by
  delta aq_retK
  simp only [aq_thK_e]
  rfl
noncomputable def aq_postK (G : aG) (κ : aK) (q : aQ) (θ : aTh) (p : aRs) : Option (List aRs) := (Bool.rec (motive := fun _ => _) none (x_spine (a_ext κ.2.2.1.1 q.1 (p.1.1 - κ.2.2.1.1) θ) (fun θ => aq_newE θ (fun E => aq_newF θ (fun Fs => x_spine (aq_flt (aq_okept q.2.1 κ.2.2.2.2.1) q.2.2.2.1) (fun O => aq_newO p.1.1 θ (fun O => x_spine (p.1.2.2.2.2 ++ aq_flt (aq_fkept G.2.1 κ.2.2.2.2.1) q.2.2.2.2) (fun fl => aq_retK p.1.1 θ p.2 (fun v => x_kN (q.1 + (p.1.1 - κ.2.2.1.1)) (fun n => some [((n, E, Fs, O, fl), v)])))) p.1.2.2.2.1 O)) p.1.2.2.1 q.2.2.1) p.1.2.1 q.2.1)) (Nat.ble κ.2.2.1.1 p.1.1))
theorem aq_postK_e : @aq_postK = @a_postK := by
  delta aq_postK
  simp only [aq_flt_e, aq_newE_e, aq_newF_e, aq_newO_e, aq_okept_e, aq_fkept_e, aq_retK_e]
  try simp only [a_cqx]
  rfl
noncomputable def aq_callK (G : aG) (m : aM) (κ : aK) (q : aQ) (as : List aV) : Option (List aRs) := aq_bindsK κ.2.2.1.1 q.2.1 (aq_bindOK κ.2.2.1.1 q (fun θ => (Bool.rec (motive := fun _ => _) none (a_gath (aq_postK G κ q θ) κ.2.2.2.2.2) ((Bool.rec (motive := fun _ => Bool) false (aq_all (fun x => aq_mod m x.1 (Int.ofNat x.2.1) (Int.ofNat x.2.2)) κ.2.2.2.2.1) (aq_rest false κ.2.2.1 q θ))))) κ.2.2.1.2.2.2.1) κ.2.2.2.1 as []
theorem aq_callK_e : @aq_callK = @a_callK := by
  delta aq_callK
  simp only [aq_mod_e, aq_bindsK_e, aq_bindOK_e, aq_all_e, aq_rest_e, aq_postK_e, a_aq, a_oq, a_nq]
  try simp only [a_cqx]
  rfl
noncomputable def aq_pick (G : aG) (m : aM) (d mj : Nat) (q : aQ) (as : List aV) (Ks : List aK) : Option (List aRs) := List.rec (motive := fun _ => Option (List aRs)) none (fun κ _ ih => (Bool.rec (motive := fun _ => _) ih (match aq_callK G m κ q as with
  | some r => some r
  | none => ih) ((Bool.rec (motive := fun _ => Bool) false (Nat.ble κ.2.1 d) (Nat.beq κ.1 mj))))) Ks
theorem aq_pick_e : @aq_pick = @a_pick := by
  delta aq_pick
  simp only [aq_callK_e, a_aq, a_oq, a_nq]
  try simp only [a_cqx]
  rfl
noncomputable def aq_args (as : List aV) : Nat → aL := List.rec (motive := fun _ => Nat → aL) (fun _ => []) (fun v _ ih i => (i, v) :: ih ((Bool.rec (motive := fun _ => _) (i + 1) (i + 2) (Nat.beq (aq_cat v) 2)))) as
theorem aq_args_e : @aq_args = @a_args := by
  delta aq_args
  simp only [aq_cat_e]
  try simp only [a_cqx]
  rfl
noncomputable def aq_cont (G : aG) (m : aM) (Ks : List aK) (ih : aGo) (d mi : Nat) (t : List (List (Option zX))) (cuts : Nat) (o : aOut) : Option (List aRes) := match o with
  | .inl r => some [.inr r]
  | .inr (.inl (pc, st)) => ih d mi t cuts false pc st
  | .inr (.inr (mj, as, nx, st)) => match d with
    | 0 => none
    | d' + 1 => match aq_pick G m d' mj st.1 as Ks with
      | some rets => a_gath (fun r => ih (d' + 1) mi t cuts false nx (r.1, st.2.1, a_pushO r.2 st.2.2)) rets
      | none => match x_nth zMT mj with
        | some t' => match ih d' mj t' 0 true 0 (st.1, aq_args as 0, []) with
          | some rs => a_gath (fun x => match x with
            | .inr r => ih (d' + 1) mi t cuts false nx (r.1, st.2.1, a_pushO r.2 st.2.2)
            | .inl _ => none) rs
          | none => none
        | none => none
theorem aq_cont_e : @aq_cont = @a_cont := by
  delta aq_cont
  simp only [aq_pick_e, aq_args_e]
  rfl
noncomputable def aq_run (G : aG) (m : aM) (lm : aLm) (hs : aHt) (Ks : List aK) (n : Nat) : aGo := Nat.rec (motive := fun _ => aGo) (fun _ _ _ _ _ _ _ => none) (fun _ ih d mi t cuts first pc st => (Bool.rec (motive := fun _ => _) (aq_hints lm mi pc (fun st => match z_at t pc with
  | some i => match aqi G m i st.1 st.2.1 st.2.2 with
    | some outs => a_gath (aq_cont G m Ks ih d mi t cuts) outs
    | none => none
  | none => none) hs st) (some [.inl (pc, st)]) ((Bool.rec (motive := fun _ => Bool) false (a_bit cuts pc) ((Bool.rec (motive := fun _ => Bool) true false (first))))))) n
theorem aq_run_e : @aq_run = @a_run := by
  delta aq_run
  simp only [aqi_e, aq_hints_e, aq_cont_e, a_aq, a_oq, a_nq]
  try simp only [a_cqx]
  rfl
noncomputable def aq_retOK (G : aG) (k : Nat) (r p : aRs) : Bool := match (match p.2, r.2 with
    | none, none => aq_bindOK p.1.1 r.1 (fun θ => some (aq_rest G.2.2 p.1 r.1 θ)) p.1.2.2.2.1 (a_id k)
    | some pv, some v => aq_bindK p.1.1 r.1.2.1 (a_id k) pv v (aq_bindOK p.1.1 r.1 (fun θ => some (aq_rest G.2.2 p.1 r.1 θ)) p.1.2.2.2.1)
    | _, _ => none) with
  | some b => (Bool.rec (motive := fun _ => Bool) false (Nat.ble k p.1.1) (b))
  | none => false
theorem aq_retOK_e : @aq_retOK = @a_retOK := by
  delta aq_retOK
  simp only [aq_bindK_e, aq_bindOK_e, aq_rest_e, a_aq, a_oq, a_nq]
  rfl
noncomputable def aq_cutOK (G : aG) (k : Nat) (olds : Option (List aF)) (st : aS) (c : aCut) : Bool := match aq_bindLK c.2.1.1.1 st.1.2.1 st.2.1 (aq_bindsK c.2.1.1.1 st.1.2.1 (aq_bindOK c.2.1.1.1 st.1 (fun θ => some ((Bool.rec (motive := fun _ => Bool) false ((match olds with
    | some os => aq_lexR st.1 θ c.2.2 os
    | none => true)) (aq_rest G.2.2 c.2.1.1 st.1 θ)))) c.2.1.1.2.2.2.1) c.2.1.2.2 st.2.2) c.2.1.2.1 (a_id k) with
  | some b => (Bool.rec (motive := fun _ => Bool) false (Nat.ble k c.2.1.1.1) (b))
  | none => false
theorem aq_cutOK_e : @aq_cutOK = @a_cutOK := by
  delta aq_cutOK
  simp only [aq_bindsK_e, aq_bindLK_e, aq_bindOK_e, aq_rest_e, aq_lexR_e, a_aq, a_oq, a_nq]
  rfl
noncomputable def aq_fine (G : aG) (κ : aK) (cuts : List aCut) (olds : Option (List aF)) (x : aRes) : Bool := match x with
  | .inl (pc, st) => aq_any (fun c => (Bool.rec (motive := fun _ => Bool) false (aq_cutOK G κ.2.2.1.1 olds st c) (Nat.beq c.1 pc))) cuts
  | .inr r => aq_any (aq_retOK G κ.2.2.1.1 r) κ.2.2.2.2.2
theorem aq_fine_e : @aq_fine = @a_fine := by
  delta aq_fine
  simp only [aq_any_e, aq_retOK_e, aq_cutOK_e, a_aq, a_oq, a_nq]
  rfl
noncomputable def aq_from (G : aG) (lm : aLm) (hs : aHt) (Ks : List aK) (n : Nat) (κ : aK) (cuts : List aCut) (t : List (List (Option zX))) (olds : Option (List aF)) (pc : Nat) (st : aS) : Bool := a_bN (a_mask cuts) (fun k => match aq_run G κ.2.2.2.2.1 lm hs Ks n κ.2.1 κ.1 t k true pc st with
  | some rs => aq_all (aq_fine G κ cuts olds) rs
  | none => false)
theorem aq_from_e : @aq_from = @a_from := by
  delta aq_from
  simp only [aq_all_e, aq_run_e, aq_fine_e]
  rfl
noncomputable def aq_check (G : aG) (lm : aLm) (hs : aHt) (Ks : List aK) (n : Nat) (κ : aK) (cuts : List aCut) : Bool := match x_nth zMT κ.1 with
  | some t => (Bool.rec (motive := fun _ => Bool) false (aq_all (fun c => (Bool.rec (motive := fun _ => Bool) false (aq_from G lm hs Ks n κ cuts t (some c.2.2) c.1 c.2.1) (aq_all (fun x => aq_scp c.2.1.1.1 x.1) c.2.2))) cuts) (aq_from G lm hs Ks n κ cuts t none 0 (κ.2.2.1, aq_args κ.2.2.2.1 0, [])))
  | none => false
theorem aq_check_e : @aq_check = @a_check := by
  delta aq_check
  simp only [aq_all_e, aq_scp_e, aq_args_e, aq_from_e, a_aq, a_oq, a_nq]
  rfl
