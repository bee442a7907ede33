/-! LOCALS AS LISTS -/
def vL (l : List (Option zV)) : zL := fun k => match l[k]? with
  | some v => v
  | none => none
def vkill (v : Option zV) : Option zV := match v with
  | some w => if zcat w = 2 then none else some w
  | none => none
def vk1 (i : Nat) (a : Option zV) : Option zV := match i with
  | 0 => vkill a
  | _ + 1 => a
theorem vk1_eq {i : Nat} {a : Option zV} : (match a with
  | some w => if 0 + 1 = i + 1 ∧ zcat w = 2 then none else some w
  | none => none) = vk1 i a := by
  cases i with
  | zero =>
    cases a with
    | none => rfl
    | some w =>
      show (if 0 + 1 = 0 + 1 ∧ zcat w = 2 then none else some w) = if zcat w = 2 then none else some w
      by_cases h : zcat w = 2
      · rw [if_pos ⟨rfl, h⟩, if_pos h]
      · rw [if_neg (fun c => h c.2), if_neg h]
  | succ i =>
    cases a with
    | none => rfl
    | some w => exact if_neg (fun c => absurd c.1 (by omega))
def vput1 : List (Option zV) → Nat → zV → List (Option zV)
  | [], _, _ => []
  | _ :: t, 0, v => some v :: t
  | a :: t, i + 1, v => vk1 i a :: vput1 t i v
def vput2 : List (Option zV) → Nat → zV → List (Option zV)
  | [], _, _ => []
  | _ :: t, 0, v => some v :: (match t with
    | [] => []
    | _ :: t' => none :: t')
  | a :: t, i + 1, v => vk1 i a :: vput2 t i v
def vargs : Nat → List zV → List (Option zV)
  | w, [] => List.replicate w none
  | w, v :: vs => some v :: (if zcat v = 2 then none :: vargs (w - 2) vs else vargs (w - 1) vs)
theorem vL_cons {a : Option zV} {t : List (Option zV)} {k : Nat} : vL (a :: t) (k + 1) = vL t k := rfl
theorem vput1_eq {v : zV} : ∀ {l : List (Option zV)} {i : Nat}, i < l.length → zput1 (vL l) i v = vL (vput1 l i v)
  | [], i, h => absurd h (Nat.not_lt_zero _)
  | a :: t, 0, _ => by
    funext k
    unfold zput1
    cases k with
    | zero => rfl
    | succ k =>
      rw [if_neg (by omega), vL_cons]
      show _ = vL t k
      cases vL t k with
      | none => rfl
      | some w => exact if_neg (fun c => by omega)
  | a :: t, i + 1, h => by
    have ih := vput1_eq (v := v) (l := t) (i := i) (Nat.lt_of_succ_lt_succ h)
    funext k
    cases k with
    | zero =>
      unfold zput1
      rw [if_neg (by omega)]
      exact vk1_eq
    | succ k =>
      show zput1 (vL (a :: t)) (i + 1) v (k + 1) = vL (vput1 t i v) k
      rw [← ih]
      unfold zput1
      rw [vL_cons]
      by_cases e : k = i
      · rw [if_pos e, if_pos (by omega)]
      · rw [if_neg e, if_neg (by omega)]
        cases vL t k with
        | none => rfl
        | some w =>
          show (if k + 1 + 1 = i + 1 ∧ zcat w = 2 then none else some w) = if k + 1 = i ∧ zcat w = 2 then none else some w
          by_cases e2 : k + 1 = i ∧ zcat w = 2
          · rw [if_pos e2, if_pos ⟨by omega, e2.2⟩]
          · rw [if_neg e2, if_neg (fun c => e2 ⟨by omega, c.2⟩)]
theorem vput2_eq {v : zV} : ∀ {l : List (Option zV)} {i : Nat}, i < l.length → zput2 (vL l) i v = vL (vput2 l i v)
  | [], i, h => absurd h (Nat.not_lt_zero _)
  | a :: t, 0, _ => by
    funext k
    unfold zput2
    cases k with
    | zero => rfl
    | succ k =>
      rw [if_neg (by omega), vL_cons]
      cases k with
      | zero =>
        rw [if_pos rfl]
        cases t <;> rfl
      | succ k =>
        rw [if_neg (by omega)]
        cases t with
        | nil => rfl
        | cons b t =>
          show _ = vL t k
          rw [vL_cons]
          cases vL t k with
          | none => rfl
          | some w => exact if_neg (fun c => by omega)
  | a :: t, i + 1, h => by
    have ih := vput2_eq (v := v) (l := t) (i := i) (Nat.lt_of_succ_lt_succ h)
    funext k
    cases k with
    | zero =>
      unfold zput2
      rw [if_neg (by omega), if_neg (by omega)]
      exact vk1_eq
    | succ k =>
      show zput2 (vL (a :: t)) (i + 1) v (k + 1) = vL (vput2 t i v) k
      rw [← ih]
      unfold zput2
      rw [vL_cons]
      by_cases e : k = i
      · rw [if_pos e, if_pos (by omega)]
      · rw [if_neg e, if_neg (by omega)]
        by_cases e1 : k = i + 1
        · rw [if_pos e1, if_pos (by omega)]
        · rw [if_neg e1, if_neg (by omega)]
          cases vL t k with
          | none => rfl
          | some w =>
            show (if k + 1 + 1 = i + 1 ∧ zcat w = 2 then none else some w) = if k + 1 = i ∧ zcat w = 2 then none else some w
            by_cases e2 : k + 1 = i ∧ zcat w = 2
            · rw [if_pos e2, if_pos ⟨by omega, e2.2⟩]
            · rw [if_neg e2, if_neg (fun c => e2 ⟨by omega, c.2⟩)]
theorem vL_rep {w k : Nat} : vL (List.replicate w none) k = none := by
  unfold vL
  rw [List.getElem?_replicate]
  by_cases h : k < w
  · rw [if_pos h]
  · rw [if_neg h]
theorem zargs_lt : ∀ {as : List zV} {i k : Nat}, k < i → zargs i as k = none
  | [], i, k, _ => rfl
  | v :: vs, i, k, h => by
    show (if k = i then some v else zargs (if zcat v = 2 then i + 2 else i + 1) vs k) = none
    rw [if_neg (by omega)]
    exact zargs_lt (by split <;> omega)
theorem zargs_sh : ∀ {as : List zV} {w i k : Nat}, zargs i as (i + k) = vL (vargs w as) k
  | [], w, i, k => vL_rep.symm
  | v :: vs, w, i, k => by
    show (if i + k = i then some v else zargs (if zcat v = 2 then i + 2 else i + 1) vs (i + k)) = _
    cases k with
    | zero => rw [if_pos (Nat.add_zero i)]; rfl
    | succ k =>
      rw [if_neg (by omega)]
      show _ = vL (if zcat v = 2 then none :: vargs (w - 2) vs else vargs (w - 1) vs) k
      by_cases h : zcat v = 2
      · rw [if_pos h, if_pos h]
        cases k with
        | zero => exact zargs_lt (by omega)
        | succ k =>
          show _ = vL (vargs (w - 2) vs) k
          rw [show i + (k + 1 + 1) = i + 2 + k by omega]
          exact zargs_sh
      · rw [if_neg h, if_neg h, show i + (k + 1) = i + 1 + k by omega]
        exact zargs_sh
theorem zargs_vL {as : List zV} (w : Nat) : zargs 0 as = vL (vargs w as) := by
  funext k
  rw [← zargs_sh (i := 0), Nat.zero_add]
/-! WHAT ANY RUN COMES TO -/
def vP (D : zD) (T : zT) (N mi pc : Nat) (h : zH) (l : List (Option zV)) (S : List zV) (Q : zR → Prop) : Prop := zHv h → ∀ n r, n < N → zEv D T n mi pc (h, vL l, S) = some r → Q r
theorem vP_dn {D : zD} {T : zT} {N mi pc : Nat} {h : zH} {l : List (Option zV)} {S : List zV} {Q : zR → Prop} (k : vP D T (N + 1) mi pc h l S Q) : vP D T N mi pc h l S Q := fun hv n r hn => k hv n r (by omega)
theorem vP_le {D : zD} {T : zT} {M N mi pc : Nat} {h : zH} {l : List (Option zV)} {S : List zV} {Q : zR → Prop} (hM : N ≤ M) (k : vP D T M mi pc h l S Q) : vP D T N mi pc h l S Q := fun hv n r hn => k hv n r (by omega)
theorem vP_stepS {D : zD} {T : zT} {N mi pc : Nat} {h : zH} {l : List (Option zV)} {S : List zV} {Q : zR → Prop} {i : zX} (hi : T mi pc = some i) (hz : ∀ o, zHv h → zi D i (h, vL l, S) = some o → ∃ nx h' l' S', o = .inr (.inl (nx, (h', vL l', S'))) ∧ zHv h' ∧ vP D T N mi nx h' l' S' Q) : vP D T (N + 1) mi pc h l S Q := by
  intro hv n r hn he
  cases n with
  | zero => cases he
  | succ n =>
    rw [zEv_s hi] at he
    cases hzz : zi D i (h, vL l, S) with
    | none => rw [hzz] at he; cases he
    | some o =>
      rw [hzz] at he
      obtain ⟨nx, h', l', S', e, hv', k⟩ := hz o hv hzz
      rw [e] at he
      exact k hv' n r (by omega) he
theorem vP_mono {D : zD} {T : zT} {N mi pc : Nat} {h : zH} {l : List (Option zV)} {S : List zV} {Q Q' : zR → Prop} (hO : vOK T) (hQ : ∀ r, zHv r.1 → Q r → Q' r) (k : vP D T N mi pc h l S Q) : vP D T N mi pc h l S Q' := fun hv n r hn he => hQ r (zEv_hv hO he hv) (k hv n r hn he)
/-- a run that is there -/
theorem vP_run {D : zD} {T : zT} {d mi pc : Nat} {h : zH} {l : List (Option zV)} {S : List zV} {Q : zR → Prop} {r : zR} (hr : zRun D T d mi pc (h, vL l, S) r) (hv : zHv h) (k : ∀ N, vP D T N mi pc h l S Q) : Q r := by
  obtain ⟨n, hn⟩ := zRun_ev hr
  exact k (n + 1) hv n r (Nat.lt_succ_self _) hn
theorem vP_loop {D : zD} {T : zT} {mi pc : Nat} {Q : zR → Prop} (I : zH → List (Option zV) → Prop) (st : ∀ N h l, I h l → (∀ h' l', I h' l' → vP D T N mi pc h' l' [] Q) → vP D T (N + 1) mi pc h l [] Q) : ∀ N h l, I h l → vP D T N mi pc h l [] Q := by
  intro N
  induction N with
  | zero => exact fun h l _ _ n r hn => absurd hn (Nat.not_lt_zero _)
  | succ N ih => exact fun h l hI => st N h l hI ih
section VR
variable {D : zD} {T : zT} {N mi pc nx a b : Nat} {z : Int} {cs : List (Int × Nat)} {h : zH} {l : List (Option zV)} {S : List zV} {Q : zR → Prop}
theorem vP_E {i : zX} {h' : zH} {l' : List (Option zV)} {S' : List zV} (hi : T mi pc = some i) (hz : zi D i (h, vL l, S) = some (.inr (.inl (nx, (h', vL l', S'))))) (hh : zHv h → zHv h') (k : vP D T N mi nx h' l' S' Q) : vP D T (N + 1) mi pc h l S Q := vP_stepS hi (fun o hv ho => by
  rw [hz] at ho
  cases ho
  exact ⟨nx, h', l', S', rfl, hh hv, k⟩)
theorem vP_N {i : zX} (hi : T mi pc = some i) (hz : zi D i (h, vL l, S) = none) : vP D T N mi pc h l S Q := vP_dn (vP_stepS hi (fun o _ ho => by
  rw [hz] at ho
  cases ho))
theorem v_push {t : Nat} (w : Int) (hi : T mi pc = some (0, nx, t, b, z, cs)) (hw : z = w) (k : vP D T N mi nx h l ((t, w) :: S) Q) : vP D T N mi pc h l S Q := by
  subst hw
  exact vP_dn (vP_E hi rfl id k)
theorem v_goto (hi : T mi pc = some (1, nx, a, b, z, cs)) (k : vP D T N mi nx h l S Q) : vP D T N mi pc h l S Q := vP_dn (vP_E hi rfl id k)
theorem v_loadS {v : zV} (hi : T mi pc = some (2, nx, a, b, z, cs)) (hl : vL l a = some v) (hk : zkind v = b) (k : vP D T N mi nx h l (v :: S) Q) : vP D T (N + 1) mi pc h l S Q := by
  refine vP_E hi ?_ id k
  show z_load nx a b (h, vL l, S) = _
  unfold z_load
  dsimp only
  rw [hl]
  exact if_pos hk
theorem v_load {v : zV} (hi : T mi pc = some (2, nx, a, b, z, cs)) (hl : vL l a = some v) (hk : zkind v = b) (k : vP D T N mi nx h l (v :: S) Q) : vP D T N mi pc h l S Q := vP_dn (v_loadS hi hl hk k)
theorem v_store1 {v : zV} (l' : List (Option zV)) (hi : T mi pc = some (3, nx, a, b, z, cs)) (hk : zkind v = b ∧ b ≠ 1) (hn : a < l.length) (hl : vput1 l a v = l') (k : vP D T N mi nx h l' S Q) : vP D T N mi pc h l (v :: S) Q := by
  subst hl
  refine vP_dn (vP_E hi ?_ id k)
  show z_store1 nx a b (h, vL l, v :: S) = _
  rw [← vput1_eq hn]
  exact if_pos hk
theorem v_store2 {x : Int} (l' : List (Option zV)) (hi : T mi pc = some (4, nx, a, b, z, cs)) (hn : a < l.length) (hl : vput2 l a (1, x) = l') (k : vP D T N mi nx h l' S Q) : vP D T N mi pc h l ((1, x) :: S) Q := by
  subst hl
  refine vP_dn (vP_E hi ?_ id k)
  show z_store2 nx a (h, vL l, (1, x) :: S) = _
  rw [← vput2_eq hn]
  rfl
theorem v_iinc {x u w : Int} (l' : List (Option zV)) (hi : T mi pc = some (5, nx, a, b, z, cs)) (hu : z = u) (hv : vL l a = some (0, x)) (hn : a < l.length) (he : (Int32.ofInt x + Int32.ofInt u).toInt = w) (hl : vput1 l a (0, w) = l') (k : vP D T N mi nx h l' S Q) : vP D T N mi pc h l S Q := by
  subst hl he hu
  refine vP_dn (vP_E hi ?_ id k)
  show z_iinc nx a z (h, vL l, S) = _
  rw [← vput1_eq hn]
  unfold z_iinc
  dsimp only
  rw [hv]
  rfl
theorem v_un {x w : Int} (hi : T mi pc = some (6, nx, a, b, z, cs)) (he : (zu32 b (Int32.ofInt x)).toInt = w) (k : vP D T N mi nx h l ((0, w) :: S) Q) : vP D T N mi pc h l ((0, x) :: S) Q := by
  subst he
  exact vP_dn (vP_E hi rfl id k)
theorem v_bin {x y w : Int} (hi : T mi pc = some (7, nx, a, b, z, cs)) (he : (zf32 b (Int32.ofInt x) (Int32.ofInt y)).toInt = w) (k : vP D T N mi nx h l ((0, w) :: S) Q) : vP D T N mi pc h l ((0, y) :: (0, x) :: S) Q := by
  subst he
  exact vP_dn (vP_E hi rfl id k)
theorem v_div {x y w : Int} (hi : T mi pc = some (8, nx, a, b, z, cs)) (he : y ≠ 0 → (zd32 b (Int32.ofInt x) (Int32.ofInt y)).toInt = w) (k : y ≠ 0 → vP D T N mi nx h l ((0, w) :: S) Q) : vP D T N mi pc h l ((0, y) :: (0, x) :: S) Q := by
  by_cases hy : y = 0
  · refine vP_N hi ?_
    show z_div32 nx b (h, vL l, (0, y) :: (0, x) :: S) = _
    exact if_pos hy
  · have he := he hy
    subst he
    refine vP_dn (vP_E hi ?_ id (k hy))
    show z_div32 nx b (h, vL l, (0, y) :: (0, x) :: S) = _
    exact if_neg hy
theorem v_bin64 {x y w : Int} (hi : T mi pc = some (10, nx, a, b, z, cs)) (he : (zf64 b (Int64.ofInt x) (Int64.ofInt y)).toInt = w) (k : vP D T N mi nx h l ((1, w) :: S) Q) : vP D T N mi pc h l ((1, y) :: (1, x) :: S) Q := by
  subst he
  exact vP_dn (vP_E hi rfl id k)
theorem v_div64 {x y w : Int} (hi : T mi pc = some (11, nx, a, b, z, cs)) (he : y ≠ 0 → (zd64 b (Int64.ofInt x) (Int64.ofInt y)).toInt = w) (k : y ≠ 0 → vP D T N mi nx h l ((1, w) :: S) Q) : vP D T N mi pc h l ((1, y) :: (1, x) :: S) Q := by
  by_cases hy : y = 0
  · refine vP_N hi ?_
    show z_div64 nx b (h, vL l, (1, y) :: (1, x) :: S) = _
    exact if_pos hy
  · have he := he hy
    subst he
    refine vP_dn (vP_E hi ?_ id (k hy))
    show z_div64 nx b (h, vL l, (1, y) :: (1, x) :: S) = _
    exact if_neg hy
theorem v_sh64 {x y w : Int} (hi : T mi pc = some (12, nx, a, b, z, cs)) (he : (zs64 b (Int64.ofInt x) (Int32.ofInt y)).toInt = w) (k : vP D T N mi nx h l ((1, w) :: S) Q) : vP D T N mi pc h l ((0, y) :: (1, x) :: S) Q := by
  subst he
  exact vP_dn (vP_E hi rfl id k)
theorem v_i2l {x : Int} (hi : T mi pc = some (13, nx, a, b, z, cs)) (k : vP D T N mi nx h l ((1, x) :: S) Q) : vP D T N mi pc h l ((0, x) :: S) Q := vP_dn (vP_E hi rfl id k)
theorem v_pop {t : Nat} {x : Int} (hi : T mi pc = some (15, nx, a, 0, z, cs)) (ht : t ≠ 1) (k : vP D T N mi nx h l S Q) : vP D T N mi pc h l ((t, x) :: S) Q := by
  refine vP_dn (vP_E hi ?_ id k)
  show z_stk nx 0 (h, vL l, (t, x) :: S) = _
  refine if_pos ?_
  show (if t = 1 then 2 else 1) = 1
  rw [if_neg ht]
theorem v_dup {t : Nat} {x : Int} (hi : T mi pc = some (15, nx, a, 2, z, cs)) (ht : t ≠ 1) (k : vP D T N mi nx h l ((t, x) :: (t, x) :: S) Q) : vP D T N mi pc h l ((t, x) :: S) Q := by
  refine vP_dn (vP_E hi ?_ id k)
  show z_stk nx 2 (h, vL l, (t, x) :: S) = _
  refine if_pos ?_
  show (if t = 1 then 2 else 1) = 1
  rw [if_neg ht]
theorem v_dupd {t u : Nat} {x y : Int} (hi : T mi pc = some (15, nx, a, 3, z, cs)) (ht : t ≠ 1) (hu : u ≠ 1) (k : vP D T N mi nx h l ((t, x) :: (u, y) :: (t, x) :: (u, y) :: S) Q) : vP D T N mi pc h l ((t, x) :: (u, y) :: S) Q := by
  refine vP_dn (vP_E hi ?_ id k)
  show z_stk nx 3 (h, vL l, (t, x) :: (u, y) :: S) = _
  refine if_pos ⟨?_, ?_⟩
  · show (if t = 1 then 2 else 1) = 1
    rw [if_neg ht]
  · show (if u = 1 then 2 else 1) = 1
    rw [if_neg hu]
def vRl (b : Nat) (x y : Int) : Prop := match b with
  | 0 => x < y
  | 1 => y < x
  | _ => x = y
theorem vRl_T : ∀ {b : Nat} {x y : Int}, vRl b x y → zrel b x y = true
  | 0, _, _, h => decide_eq_true h
  | 1, _, _, h => decide_eq_true h
  | _ + 2, _, _, h => decide_eq_true h
theorem vRl_F : ∀ {b : Nat} {x y : Int}, ¬ vRl b x y → zrel b x y = false
  | 0, _, _, h => decide_eq_false h
  | 1, _, _, h => decide_eq_false h
  | _ + 2, _, _, h => decide_eq_false h
theorem v_if {x : Int} (hi : T mi pc = some (16, nx, a, b, z, cs)) (k1 : vRl b x 0 → vP D T N mi a h l S Q) (k2 : ¬ vRl b x 0 → vP D T N mi nx h l S Q) : vP D T N mi pc h l ((0, x) :: S) Q := by
  have e : zi D (16, nx, a, b, z, cs) (h, vL l, (0, x) :: S) = znx (if zrel b x 0 then a else nx) (h, vL l, S) := rfl
  by_cases c : vRl b x 0
  · refine vP_dn (vP_E hi ?_ id (k1 c))
    rw [e, vRl_T c]
    rfl
  · refine vP_dn (vP_E hi ?_ id (k2 c))
    rw [e, vRl_F c]
    rfl
theorem v_ic {x y : Int} (hi : T mi pc = some (17, nx, a, b, z, cs)) (k1 : vRl b x y → vP D T N mi a h l S Q) (k2 : ¬ vRl b x y → vP D T N mi nx h l S Q) : vP D T N mi pc h l ((0, y) :: (0, x) :: S) Q := by
  have e : zi D (17, nx, a, b, z, cs) (h, vL l, (0, y) :: (0, x) :: S) = znx (if zrel b x y then a else nx) (h, vL l, S) := rfl
  by_cases c : vRl b x y
  · refine vP_dn (vP_E hi ?_ id (k1 c))
    rw [e, vRl_T c]
    rfl
  · refine vP_dn (vP_E hi ?_ id (k2 c))
    rw [e, vRl_F c]
    rfl
theorem v_lcmp {x y : Int} (hi : T mi pc = some (18, nx, a, b, z, cs)) (k : vP D T N mi nx h l ((0, if y < x then 1 else if x = y then 0 else -1) :: S) Q) : vP D T N mi pc h l ((1, y) :: (1, x) :: S) Q := vP_dn (vP_E hi rfl id k)
/-- a comparison of longs, then a branch on it -/
theorem v_lif {x y : Int} {nx2 a2 b2 : Nat} {z2 : Int} {cs2 : List (Int × Nat)} (hi : T mi pc = some (18, nx, a, b, z, cs)) (hi2 : T mi nx = some (16, nx2, a2, b2, z2, cs2)) (k1 : vRl b2 x y → vP D T N mi a2 h l S Q) (k2 : ¬ vRl b2 x y → vP D T N mi nx2 h l S Q) : vP D T N mi pc h l ((1, y) :: (1, x) :: S) Q := by
  refine v_lcmp hi (v_if hi2 (fun c => k1 ?_) (fun c => k2 (fun d => c ?_)))
  · revert c
    unfold vRl
    split <;> (repeat' split) <;> intros <;> omega
  · revert d
    unfold vRl
    split <;> (repeat' split) <;> intros <;> omega
def vSw (D : zD) (T : zT) (N mi nx : Nat) (x : Int) (h : zH) (l : List (Option zV)) (S : List zV) (Q : zR → Prop) : List (Int × Nat) → Prop
  | [] => vP D T N mi nx h l S Q
  | q :: cs => (x = q.1 → vP D T N mi q.2 h l S Q) ∧ (x ≠ q.1 → vSw D T N mi nx x h l S Q cs)
theorem v_sw {x : Int} (hi : T mi pc = some (19, nx, a, b, z, cs)) (k : vSw D T N mi nx x h l S Q cs) : vP D T N mi pc h l ((0, x) :: S) Q := by
  have key : vP D T N mi (zfind nx x cs) h l S Q := by
    clear hi
    induction cs with
    | nil => exact k
    | cons q cs ih =>
      by_cases c : x = q.1
      · rw [show zfind nx x (q :: cs) = q.2 from if_pos c]
        exact k.1 c
      · rw [show zfind nx x (q :: cs) = zfind nx x cs from if_neg c]
        exact ih (k.2 c)
  exact vP_dn (vP_E hi rfl id key)
theorem v_getf {v : zV} {r : Nat} {x : Int} (hi : T mi pc = some (20, nx, a, b, z, cs)) (hx : x.toNat = r) (hr : zisO a x = true) (hv : zHv h → h r b = v) (k : vP D T N mi nx h l (v :: S) Q) : vP D T N mi pc h l ((2, x) :: S) Q := by
  subst hx
  refine vP_dn (vP_stepS hi (fun o hv' ho => ?_))
  have ho : (if zisO a x then znx nx (h, vL l, h x.toNat b :: S) else none) = some o := ho
  rw [if_pos hr, hv hv'] at ho
  cases ho
  exact ⟨_, _, _, _, rfl, hv', k⟩
theorem zHv.at {h : zH} (hv : zHv h) {r k t : Nat} (hc : (match vCode r k with
  | some c => c != 4 && vTag c == t
  | none => false) = true) : h r k = (t, (h r k).2) := by
  cases e : vCode r k with
  | none => rw [e] at hc; cases hc
  | some c =>
    rw [e] at hc
    have hc : (c != 4 && vTag c == t) = true := hc
    rw [Bool.and_eq_true] at hc
    have h1 : c ≠ 4 := fun e => by rw [e] at hc; exact absurd hc.1 Bool.false_ne_true
    exact Prod.ext ((hv.1 _ _ _ e h1).trans (eq_of_beq hc.2)) rfl
def vRef (r k : Nat) : List (Nat × Nat × Int) → Option Int
  | [] => none
  | x :: t => if x.1 = r ∧ x.2.1 = k then some x.2.2 else vRef r k t
theorem vRef_mem {r k : Nat} {c : Int} : ∀ {t : List (Nat × Nat × Int)}, vRef r k t = some c → (r, k, c) ∈ t
  | [], h => by cases h
  | x :: t, h => by
    have h : (if x.1 = r ∧ x.2.1 = k then some x.2.2 else vRef r k t) = some c := h
    by_cases e : x.1 = r ∧ x.2.1 = k
    · rw [if_pos e] at h
      have h := Option.some.inj h
      have hx : x = (r, k, c) := Prod.ext e.1 (Prod.ext e.2 h)
      rw [hx]
      exact List.mem_cons_self
    · rw [if_neg e] at h
      exact List.mem_cons_of_mem _ (vRef_mem h)
theorem zHv.ref {h : zH} (hv : zHv h) {r k : Nat} {c : Int} (hc : vRef r k vRefs = some c) : h r k = (2, c) := hv.2 _ (vRef_mem hc)
/-- a number's field -/
theorem v_getI {t r : Nat} {x : Int} (hi : T mi pc = some (20, nx, a, b, z, cs)) (hx : x.toNat = r) (hr : zisO a x = true) (hc : (match vCode r b with
  | some c => c != 4 && vTag c == t
  | none => false) = true) (k : vP D T N mi nx h l ((t, (h r b).2) :: S) Q) : vP D T N mi pc h l ((2, x) :: S) Q := v_getf hi hx hr (fun hv => hv.at hc) k
/-- a reference that no method writes -/
theorem v_getR {c : Int} {r : Nat} {x : Int} (hi : T mi pc = some (20, nx, a, b, z, cs)) (hx : x.toNat = r) (hr : zisO a x = true) (hc : vRef r b vRefs = some c) (k : vP D T N mi nx h l ((2, c) :: S) Q) : vP D T N mi pc h l ((2, x) :: S) Q := v_getf hi hx hr (fun hv => hv.ref hc) k
theorem v_putf {v : zV} {r : Nat} {x : Int} (hO : vOK T) (hi : T mi pc = some (21, nx, a, b, z, cs)) (hx : x = (r : Int)) (k : zfit z.toNat v = true → vP D T N mi nx (zset h r b v) l S Q) : vP D T N mi pc h l (v :: (2, x) :: S) Q := by
  subst hx
  refine vP_dn (vP_stepS hi (fun o hv' ho => ?_))
  have ho : (if zisO a (r : Int) ∧ zfit z.toNat v then znx nx (zset h (r : Int).toNat b v, vL l, S) else none) = some o := ho
  by_cases c : zisO a (r : Int) ∧ zfit z.toNat v
  · rw [if_pos c, Int.toNat_natCast] at ho
    cases ho
    exact ⟨_, _, _, _, rfl, hv'.putf (hO _ _ _ hi) c.1 c.2, k c.2⟩
  · rw [if_neg c] at ho
    cases ho
theorem zarr_b {c : Nat} {r i : Int} {q : FieldType × Nat} (hs : zShape[r.toNat]? = some (.inl q)) (h : zarr c r i = true) : 0 ≤ i ∧ i < (q.2 : Int) := by
  unfold zarr at h
  rw [hs] at h
  have h : (zcode q.1 == c && (decide (0 ≤ i) && decide (i < (q.2 : Int)))) = true := h
  rw [Bool.and_eq_true, Bool.and_eq_true] at h
  exact ⟨of_decide_eq_true h.2.1, of_decide_eq_true h.2.2⟩
theorem v_aldV {v : zV} {r n : Nat} {x i : Int} {ty : FieldType} (hi : T mi pc = some (22, nx, a, b, z, cs)) (hx : x.toNat = r) (hs : zShape[r]? = some (.inl (ty, n))) (hv : zHv h → 0 ≤ i → i < (n : Int) → h r i.toNat = v) (k : 0 ≤ i → i < (n : Int) → vP D T N mi nx h l (v :: S) Q) : vP D T N mi pc h l ((0, i) :: (2, x) :: S) Q := by
  subst hx
  refine vP_dn (vP_stepS hi (fun o hv' ho => ?_))
  have ho : (if zarr a x i then znx nx (h, vL l, h x.toNat i.toNat :: S) else none) = some o := ho
  by_cases c : zarr a x i = true
  · have bb := zarr_b hs c
    rw [if_pos c, hv hv' bb.1 bb.2] at ho
    cases ho
    exact ⟨_, _, _, _, rfl, hv', k bb.1 bb.2⟩
  · rw [if_neg c] at ho
    cases ho
/-- a number out of an array -/
theorem v_ald {t r n : Nat} {x i : Int} {ty : FieldType} (hi : T mi pc = some (22, nx, a, b, z, cs)) (hx : x.toNat = r) (hs : zShape[r]? = some (.inl (ty, n))) (hc : (zcode ty != 4 && vTag (zcode ty) == t) = true) (k : 0 ≤ i → i < (n : Int) → vP D T N mi nx h l ((t, (h r i.toNat).2) :: S) Q) : vP D T N mi pc h l ((0, i) :: (2, x) :: S) Q := v_aldV hi hx hs (fun hv h1 h2 => hv.at (by
  unfold vCode
  rw [hs]
  show (match (if i.toNat < n then some (zcode ty) else none) with
    | some c => c != 4 && vTag c == t
    | none => false) = true
  rw [if_pos (by omega)]
  exact hc)) k
theorem v_aldE {t r n : Nat} {x i w : Int} {ty : FieldType} (hi : T mi pc = some (22, nx, a, b, z, cs)) (hx : x.toNat = r) (hs : zShape[r]? = some (.inl (ty, n))) (hc : (zcode ty != 4 && vTag (zcode ty) == t) = true) (he : (h r i.toNat).2 = w) (k : 0 ≤ i → i < (n : Int) → vP D T N mi nx h l ((t, w) :: S) Q) : vP D T N mi pc h l ((0, i) :: (2, x) :: S) Q := by
  subst he
  exact v_ald hi hx hs hc k
theorem v_aldS {j : Nat} {x i : Int} (hi : T mi pc = some (22, nx, 0, b, z, cs)) (hx : x = (j : Int)) (k : 0 ≤ i → i < (zlen D j : Int) → vP D T N mi nx h l ((0, zat D j i.toNat) :: S) Q) : vP D T N mi pc h l ((0, i) :: (3, x) :: S) Q := by
  subst hx
  refine vP_dn (vP_stepS hi (fun o hv' ho => ?_))
  have ho : (if 0 = 0 ∧ 0 ≤ (j : Int) ∧ (j : Int) < 3 ∧ 0 ≤ i ∧ i < (zlen D (j : Int).toNat : Int) then znx nx (h, vL l, (0, zat D (j : Int).toNat i.toNat) :: S) else none) = some o := ho
  by_cases c : 0 = 0 ∧ 0 ≤ (j : Int) ∧ (j : Int) < 3 ∧ 0 ≤ i ∧ i < (zlen D (j : Int).toNat : Int)
  · rw [if_pos c] at ho
    cases ho
    rw [Int.toNat_natCast] at c ⊢
    exact ⟨_, _, _, _, rfl, hv', k c.2.2.2.1 c.2.2.2.2⟩
  · rw [if_neg c] at ho
    cases ho
theorem v_ast {v : zV} {r n : Nat} {x i : Int} {ty : FieldType} (hi : T mi pc = some (23, nx, a, b, z, cs)) (hx : x.toNat = r) (hs : zShape[r]? = some (.inl (ty, n))) (k : 0 ≤ i → i < (n : Int) → zfit a v = true → vP D T N mi nx (zset h r i.toNat v) l S Q) : vP D T N mi pc h l (v :: (0, i) :: (2, x) :: S) Q := by
  subst hx
  refine vP_dn (vP_stepS hi (fun o hv' ho => ?_))
  have ho : (if zarr a x i ∧ zfit a v ∧ a < 4 then znx nx (zset h x.toNat i.toNat v, vL l, S) else none) = some o := ho
  by_cases c : zarr a x i ∧ zfit a v ∧ a < 4
  · rw [if_pos c] at ho
    cases ho
    have bb := zarr_b hs c.1
    exact ⟨_, _, _, _, rfl, hv'.ast c.1 c.2.1 c.2.2, k bb.1 bb.2 c.2.1⟩
  · rw [if_neg c] at ho
    cases ho
theorem v_alen {r n : Nat} {x : Int} {ty : FieldType} (hi : T mi pc = some (24, nx, a, b, z, cs)) (hx : x.toNat = r) (hs : zShape[r]? = some (.inl (ty, n))) (k : vP D T N mi nx h l ((0, (n : Int)) :: S) Q) : vP D T N mi pc h l ((2, x) :: S) Q := by
  subst hx
  refine vP_dn (vP_E hi ?_ id k)
  show (match zShape[x.toNat]? with
    | some (.inl q) => znx nx (h, vL l, (0, (q.2 : Int)) :: S)
    | _ => none) = _
  rw [hs]
  rfl
theorem v_slen {j : Nat} {x : Int} (hi : T mi pc = some (25, nx, a, b, z, cs)) (hx : x = (j : Int)) (k : vP D T N mi nx h l ((0, (zlen D j : Int)) :: S) Q) : vP D T N mi pc h l ((3, x) :: S) Q := by
  subst hx
  refine vP_dn (vP_stepS hi (fun o hv' ho => ?_))
  have ho : (if ((j : Int) = 3 ∨ (j : Int) = 4) ∧ zsum S ≤ 8 then znx nx (h, vL l, (0, (zlen D (j : Int).toNat : Int)) :: S) else none) = some o := ho
  by_cases c : ((j : Int) = 3 ∨ (j : Int) = 4) ∧ zsum S ≤ 8
  · rw [if_pos c] at ho
    cases ho
    rw [Int.toNat_natCast]
    exact ⟨_, _, _, _, rfl, hv', k⟩
  · rw [if_neg c] at ho
    cases ho
theorem v_char {j : Nat} {x i : Int} (hi : T mi pc = some (26, nx, a, b, z, cs)) (hx : x = (j : Int)) (k : 0 ≤ i → i < (zlen D j : Int) → vP D T N mi nx h l ((0, zat D j i.toNat) :: S) Q) : vP D T N mi pc h l ((0, i) :: (3, x) :: S) Q := by
  subst hx
  refine vP_dn (vP_stepS hi (fun o hv' ho => ?_))
  have ho : (if ((j : Int) = 3 ∨ (j : Int) = 4) ∧ 0 ≤ i ∧ i < (zlen D (j : Int).toNat : Int) ∧ zsum S ≤ 8 then znx nx (h, vL l, (0, zat D (j : Int).toNat i.toNat) :: S) else none) = some o := ho
  by_cases c : ((j : Int) = 3 ∨ (j : Int) = 4) ∧ 0 ≤ i ∧ i < (zlen D (j : Int).toNat : Int) ∧ zsum S ≤ 8
  · rw [if_pos c] at ho
    cases ho
    rw [Int.toNat_natCast] at c ⊢
    exact ⟨_, _, _, _, rfl, hv', k c.2.1 c.2.2.1⟩
  · rw [if_neg c] at ho
    cases ho
theorem v_max {x y : Int} (hi : T mi pc = some (27, nx, a, 0, z, cs)) (k : vP D T N mi nx h l ((0, if x < y then y else x) :: S) Q) : vP D T N mi pc h l ((0, y) :: (0, x) :: S) Q := by
  refine vP_dn (vP_stepS hi (fun o hv' ho => ?_))
  have ho : (if zsum S ≤ 8 then znx nx (h, vL l, (0, zm32 0 x y) :: S) else none) = some o := ho
  by_cases c : zsum S ≤ 8
  · rw [if_pos c] at ho
    cases ho
    exact ⟨_, _, _, _, rfl, hv', k⟩
  · rw [if_neg c] at ho
    cases ho
theorem v_min {x y : Int} (hi : T mi pc = some (27, nx, a, 1, z, cs)) (k : vP D T N mi nx h l ((0, if y < x then y else x) :: S) Q) : vP D T N mi pc h l ((0, y) :: (0, x) :: S) Q := by
  refine vP_dn (vP_stepS hi (fun o hv' ho => ?_))
  have ho : (if zsum S ≤ 8 then znx nx (h, vL l, (0, zm32 1 x y) :: S) else none) = some o := ho
  by_cases c : zsum S ≤ 8
  · rw [if_pos c] at ho
    cases ho
    exact ⟨_, _, _, _, rfl, hv', k⟩
  · rw [if_neg c] at ho
    cases ho
theorem v_abs {x : Int} (hi : T mi pc = some (27, nx, a, 3, z, cs)) (k : vP D T N mi nx h l ((1, if 0 < x then x else (-Int64.ofInt x).toInt) :: S) Q) : vP D T N mi pc h l ((1, x) :: S) Q := by
  refine vP_dn (vP_stepS hi (fun o hv' ho => ?_))
  have ho : (if zsum S ≤ 8 then znx nx (h, vL l, (1, if 0 < x then x else (-Int64.ofInt x).toInt) :: S) else none) = some o := ho
  by_cases c : zsum S ≤ 8
  · rw [if_pos c] at ho
    cases ho
    exact ⟨_, _, _, _, rfl, hv', k⟩
  · rw [if_neg c] at ho
    cases ho
theorem v_copy {r0 r1 n0 n1 : Nat} {x0 x1 sp dp n : Int} {ty0 ty1 : FieldType} (hi : T mi pc = some (28, nx, a, b, z, cs)) (h0 : x0.toNat = r0) (h1 : x1.toNat = r1) (hs0 : zShape[r0]? = some (.inl (ty0, n0))) (hs1 : zShape[r1]? = some (.inl (ty1, n1))) (k : 0 ≤ n → 0 ≤ sp → 0 ≤ dp → sp + n ≤ (n0 : Int) → dp + n ≤ (n1 : Int) → vP D T N mi nx (zcopy h r0 sp.toNat r1 dp.toNat n.toNat) l S Q) : vP D T N mi pc h l ((0, n) :: (0, dp) :: (2, x1) :: (0, sp) :: (2, x0) :: S) Q := by
  subst h0 h1
  refine vP_dn (vP_stepS hi (fun o hv' ho => ?_))
  have ho : (if zroom a x0 sp n ∧ zroom a x1 dp n ∧ zsum S ≤ 8 ∧ a < 2 then znx nx (zcopy h x0.toNat sp.toNat x1.toNat dp.toNat n.toNat, vL l, S) else none) = some o := ho
  by_cases c : zroom a x0 sp n ∧ zroom a x1 dp n ∧ zsum S ≤ 8 ∧ a < 2
  · rw [if_pos c] at ho
    cases ho
    have b0 := c.1
    have b1 := c.2.1
    unfold zroom at b0 b1
    rw [hs0] at b0
    rw [hs1] at b1
    have b0 : (zcode ty0 == a && (decide (0 ≤ sp) && (decide (0 ≤ n) && decide (sp + n ≤ (n0 : Int))))) = true := b0
    have b1 : (zcode ty1 == a && (decide (0 ≤ dp) && (decide (0 ≤ n) && decide (dp + n ≤ (n1 : Int))))) = true := b1
    rw [Bool.and_eq_true, Bool.and_eq_true, Bool.and_eq_true] at b0 b1
    exact ⟨_, _, _, _, rfl, hv'.copy c.1 c.2.1 c.2.2.2, k (of_decide_eq_true b0.2.2.1) (of_decide_eq_true b0.2.1) (of_decide_eq_true b1.2.1) (of_decide_eq_true b0.2.2.2) (of_decide_eq_true b1.2.2.2)⟩
  · rw [if_neg c] at ho
    cases ho
theorem v_call {as S' : List zV} {w : Nat} (la : List (Option zV)) (hO : vOK T) (hi : T mi pc = some (29, nx, a, b, z, cs)) (ht : ztake b S [] = some (as, S')) (hl : vargs w as = la) (k : vP D T N a 0 h la [] (fun r1 => vP D T N mi nx r1.1 l (zpush r1.2 S') Q)) : vP D T N mi pc h l S Q := by
  subst hl
  intro hv n r hn he
  cases n with
  | zero => cases he
  | succ n =>
    rw [zEv_s hi] at he
    have e : zi D (29, nx, a, b, z, cs) (h, vL l, S) = z_call nx a b z (cs.head?.elim 0 (fun q => q.2)) (h, vL l, S) := rfl
    rw [e] at he
    unfold z_call at he
    dsimp only at he
    rw [ht] at he
    dsimp only at he
    split at he
    · have he : (match zEv D T n a 0 (h, zargs 0 as, []) with
        | none => none
        | some r1 => zEv D T n mi nx (r1.1, vL l, zpush r1.2 S')) = some r := he
      cases hc : zEv D T n a 0 (h, zargs 0 as, []) with
      | none => rw [hc] at he; cases he
      | some r1 =>
        rw [hc] at he
        have hv1 := zEv_hv hO hc hv
        rw [zargs_vL w] at hc
        exact k hv n r1 (by omega) hc hv1 n r (by omega) he
    · cases he
theorem v_ret {v : zV} (hi : T mi pc = some (30, nx, a, b, z, cs)) (hb : b = 1 ∨ b = 2) (k : Q (h, some v)) : vP D T N mi pc h l [v] Q := by
  refine vP_dn (N := N) ?_
  intro hv n r hn he
  cases n with
  | zero => cases he
  | succ n =>
    rw [zEv_s hi] at he
    have e : zi D (30, nx, a, b, z, cs) (h, vL l, [v]) = z_ret b a (h, vL l, [v]) := rfl
    rw [e] at he
    rcases hb with rfl | rfl
    · have he : zEvB (zEv D T n) mi (if zfit a v ∧ v.1 = 0 then some (.inl (h, some v)) else none) = some r := he
      by_cases c : zfit a v ∧ v.1 = 0
      · rw [if_pos c] at he
        cases he
        exact k
      · rw [if_neg c] at he
        cases he
    · have he : zEvB (zEv D T n) mi (if v.1 = 1 then some (.inl (h, some v)) else none) = some r := he
      by_cases c : v.1 = 1
      · rw [if_pos c] at he
        cases he
        exact k
      · rw [if_neg c] at he
        cases he
theorem v_ret0 (hi : T mi pc = some (30, nx, a, 0, z, cs)) (k : Q (h, none)) : vP D T N mi pc h l [] Q := by
  refine vP_dn (N := N) ?_
  intro hv n r hn he
  cases n with
  | zero => cases he
  | succ n =>
    rw [zEv_s hi] at he
    cases he
    exact k
end VR
