/-! THE HANDS: families -/
theorem zRun_d {D : zD} {T : zT} {d d' mi pc : Nat} {z : zS} {r : zR} (h : zRun D T d mi pc z r) (e : d = d') : zRun D T d' mi pc z r := by subst e; exact h
-- heapFrom: as many cells yet unseen
def hun (h : zH) : Nat → Nat
  | 0 => 0
  | n + 1 => hun h n + if (h 129 n).2 = 0 then 1 else 0
theorem hun_set {h : zH} {k : Nat} : ∀ n, hun (zset h 129 k (0, 1)) n + (if k < n ∧ (h 129 k).2 = 0 then 1 else 0) = hun h n
  | 0 => by rw [if_neg (by omega)]; rfl
  | n + 1 => by
    have ih := hun_set (h := h) (k := k) n
    show hun (zset h 129 k (0, 1)) n + (if (if (129 : Nat) = 129 ∧ n = k then ((0, 1) : zV) else h 129 n).2 = 0 then 1 else 0) + _ = hun h n + (if (h 129 n).2 = 0 then 1 else 0)
    by_cases e : n = k
    · subst e
      rw [if_pos (show (129 : Nat) = 129 ∧ n = n from ⟨rfl, rfl⟩), if_neg (show ¬ ((1 : Int) = 0) by omega)]
      rw [if_neg (by omega)] at ih
      by_cases c : (h 129 n).2 = 0
      · rw [if_pos ⟨by omega, c⟩, if_pos c]; omega
      · rw [if_neg (fun x => c x.2), if_neg c]; omega
    · rw [if_neg (show ¬ ((129 : Nat) = 129 ∧ n = k) from fun x => e x.2)]
      by_cases c : k < n ∧ (h 129 k).2 = 0
      · rw [if_pos c] at ih
        rw [if_pos (show k < n + 1 ∧ (h 129 k).2 = 0 from ⟨by omega, c.2⟩)]; omega
      · rw [if_neg c] at ih
        rw [if_neg (show ¬ (k < n + 1 ∧ (h 129 k).2 = 0) from fun x => c ⟨by omega, x.2⟩)]; omega
theorem hun_mark {h : zH} {k : Nat} (hk : k < 48) : hun (zset h 129 k (0, 1)) 48 ≤ 47 := by
  have h1 := hun_set (h := h) (k := k) 48
  have key : ∀ n, n ≤ 48 → hun (zset h 129 k (0, 1)) n + (if k < n then 1 else 0) ≤ n := by
    intro n
    induction n with
    | zero => intro _; rw [if_neg (by omega)]; exact Nat.le_refl 0
    | succ n ih =>
      intro hn
      have ih := ih (by omega)
      show hun (zset h 129 k (0, 1)) n + (if (if (129 : Nat) = 129 ∧ n = k then ((0, 1) : zV) else h 129 n).2 = 0 then 1 else 0) + _ ≤ n + 1
      by_cases e : n = k
      · subst e
        rw [if_pos (show (129 : Nat) = 129 ∧ n = n from ⟨rfl, rfl⟩), if_neg (show ¬ ((1 : Int) = 0) by omega), if_pos (show n < n + 1 by omega)]
        rw [if_neg (by omega)] at ih
        omega
      · by_cases c : k < n
        · rw [if_pos c] at ih
          rw [if_pos (show k < n + 1 by omega)]
          split <;> (try split) <;> omega
        · rw [if_neg c] at ih
          rw [if_neg (show ¬ k < n + 1 by omega)]
          split <;> (try split) <;> omega
  have := key 48 (Nat.le_refl 48)
  rw [if_pos hk] at this
  omega
def FlN (Fl : Nat → zH → Prop) (N : Nat) : Nat → zH → Prop := FlW Fl 353 (fun h => hun h 48 ≤ N)
theorem FlN_eq {Fl : Nat → zH → Prop} {N : Nat} {h : zH} : FlN Fl N 353 h ↔ hun h 48 ≤ N := FlW_eq
theorem FlN_ne {Fl : Nat → zH → Prop} {N j : Nat} {h : zH} (hj : j ≠ 353) : FlN Fl N j h ↔ Fl j h := FlW_ne hj
noncomputable def κh : aK := kdp 2 (kfl 353 (kov ((129, 2, 0), (0, 0, 0)) k_377))
noncomputable def κ7 : aK := kdp 3 (kfl 353 k_377)
noncomputable def q7 : aQ := (2, k_377.2.2.1.2.1, [], [((129, 2, 0), (0, 0, 1)), ((121, 0, 26), (2, 0, 129))], [353])
noncomputable def st7 : aS := (q7, a_args k_377.2.2.2.1 0, [])
theorem kh_0 : a_from (aG0 aG1) aLm1 h_377 [k_279, κh] 100000 κ7 [cfl 353 c_377_1] zt_X12_heapFrom none 7 st7 = true := by decide +kernel
theorem kh_1 : (a_all (fun x => a_scp (cfl 353 c_377_1).2.1.1.1 x.1) (cfl 353 c_377_1).2.2 && a_from (aG0 aG1) aLm1 h_377 [k_279, κh] 100000 κ7 [cfl 353 c_377_1] zt_X12_heapFrom (some (cfl 353 c_377_1).2.2) 12 (cfl 353 c_377_1).2.1) = true := by decide +kernel
section FA
variable {o : Nat} {D : zD} {Fl : Nat → zH → Prop} {T : zT}
theorem bH_N (B : bH o D Fl T) (o' N : Nat) : bH o' D (FlN Fl N) T := by
  refine ⟨fun h m => aOK_W (B.1 h m) (Nat.le_refl 353) (s := [(129, 0, 47)]) rfl (fun h1 h2 he hp => ?_), fun h m => aFlOK_W (B.2.1 h m) (Nat.le_refl 353), fun h m => B.2.2.1 h m, B.2.2.2⟩
  have : ∀ n, n ≤ 48 → hun h2 n = hun h1 n := by
    intro n
    induction n with
    | zero => intro _; rfl
    | succ n ih =>
      intro hn
      show hun h2 n + (if (h2 129 n).2 = 0 then 1 else 0) = hun h1 n + _
      rw [ih (by omega), he 129 n ⟨(129, 0, 47), List.mem_cons_self, rfl, Nat.zero_le _, by show n ≤ 47; omega⟩]
  rw [this 48 (Nat.le_refl 48)]
  exact hp
theorem h_body (B : bH o D Fl T) (N : Nat) (ih : aSpecO (o + N) aG1 D (FlN Fl N) T κh) {h0 : zH} {ρ : Nat → Int} {z : zS} (g : aStD (aG0 aG1, D, FlN Fl N, h0, k_377.2.2.2.2.1) ρ st7 z) : aGood (o + N) (aG0 aG1, D, FlN Fl N, h0, k_377.2.2.2.2.1) T κ7 3 237 7 z ρ := by
  have BN := bH_N B (o + N) N
  have hK : ∀ κ ∈ [k_279, κh], aSpecO (o + N) aG1 D (FlN Fl N) T κ := List.forall_mem_cons.mpr ⟨hk_beside BN, List.forall_mem_cons.mpr ⟨ih, fun _ h => absurd h List.not_mem_nil⟩⟩
  have hlm := aLmR_ok (BN.1 h0 k_377.2.2.2.2.1) (BN.2.1 h0 k_377.2.2.2.2.1) (BN.2.2.1 h0 k_377.2.2.2.2.1)
  have k1 := kh_1
  rw [Bool.and_eq_true] at k1
  have all := a_cutsH_ok (X := (aG0 aG1, D, FlN Fl N, h0, k_377.2.2.2.2.1)) (o := o + N) (κ := κ7) (cuts := [cfl 353 c_377_1]) (BN.1 _ _) hK B.2.2.2 hlm (hm_heapFrom B.2.2.2) rfl (fun _ => false) (fun c hc => by rw [List.mem_singleton.mp hc]; exact k1.1) (fun c hc _ => by rw [List.mem_singleton.mp hc]; exact k1.2) (fun c _ h => absurd h Bool.false_ne_true)
  rcases a_from_ok (X := (aG0 aG1, D, FlN Fl N, h0, k_377.2.2.2.2.1)) (o := o + N) (κ := κ7) (BN.1 _ _) hK B.2.2.2 hlm (hm_heapFrom B.2.2.2) rfl kh_0 (Nat.le_refl 2) g with h | ⟨c, hc, σ, z', b1, b2, b3, b4, -⟩
  · exact h
  · exact (all c hc b2 σ z' b3).back b1 b4
theorem h_enter (B : bH o D Fl T) (N : Nat) {h : zH} {ρ : Nat → Int} {bs : List zV} {d : Nat} (he : aEnv ρ 2 k_377.2.2.1.2.1 []) (ht : aTyped aTy1 h) (has : aRl ρ 2 k_377.2.2.2.1 bs) (hn : hun (zset h 129 (ρ 1).toNat (0, 1)) 48 ≤ N) : ∃ z, aStD (aG0 aG1, D, FlN Fl N, h, k_377.2.2.2.2.1) ρ st7 z ∧ ∀ zr, zRun D T d 237 7 z zr → zRun D T d 237 0 (h, zargs 0 bs, []) zr := by
  have hargs := (a_args_ok 0 has).2
  match bs, has with
  | [a, b, c], ⟨⟨_, ha⟩, ⟨_, hb⟩, ⟨_, hc⟩, _⟩ =>
    have e1 : 0 ≤ ρ 1 ∧ ρ 1 ≤ 47 := (he.1 (1, 0, 47) (by decide)).2
    have hc' : c = (0, ρ 1) := by rw [hc]; show (0, ρ 1 + 0) = _; rw [Int.add_zero]
    have hm := hm_heapFrom (T := T) B.2.2.2
    have s26 : h 121 26 = (2, 129) := tyR_ok (tt_121 ht) (by decide +kernel)
    refine ⟨(zset h 129 (ρ 1).toNat (0, 1), zargs 0 [a, b, c], []), ⟨⟨he, ?_, ?_, ?_, ?_, fun e => by cases e⟩, hargs, trivial⟩, fun zr k => ?_⟩
    · refine aTyped_set ht (r := 129) (l := ty_129) rfl ?_ (fun a ha => zset_other h 129 (ρ 1).toNat (0, 1) a ha)
      show atyC (zset h 129 (ρ 1).toNat (0, 1) 129) ty_129 0
      rw [zset_self]
      exact a_accsF_ok (lo := 0) (hi := 47) (v := (0, 0, 0)) (vl := 1) (vh := 1) (k := (ρ 1).toNat) rfl (Int.le_refl 1) (Int.le_refl 1) (by omega) (by omega) (by decide +kernel) (tt_129 ht)
    · intro e hq
      rcases List.mem_cons.mp hq with e' | e'
      · rw [e']
        refine ⟨Nat.le_refl 2, by show 0 ≤ ρ 1 + 0; omega, Nat.zero_le _, ?_⟩
        show (if (129 : Nat) = 129 ∧ (ρ 1 + 0).toNat = (ρ 1).toNat then ((0, 1) : zV) else _) = (0, 1)
        rw [Int.add_zero, if_pos ⟨rfl, rfl⟩]
      · rw [List.mem_singleton.mp e']
        refine ⟨Nat.zero_le _, Int.natCast_nonneg 26, Nat.zero_le _, ?_⟩
        show (if (121 : Nat) = 129 ∧ 26 = (ρ 1).toNat then ((0, 1) : zV) else h 121 26) = (2, 129)
        rw [if_neg (fun x => absurd x.1 (by decide))]
        exact s26
    · intro j hj
      rw [List.mem_singleton.mp hj]
      exact (FlN_eq (Fl := Fl)).mpr hn
    · intro r k hn
      exact if_neg (fun x => hn ⟨(129, 0, 47), List.mem_cons_self, x.1.symm, Nat.zero_le _, by show k ≤ 47; omega⟩)
    · rw [ha, hb, hc'] at k ⊢
      refine hq_load (hm _ _ rfl) rfl rfl ?_
      refine hq_getf (hm _ _ rfl) rfl s26 ?_
      refine hq_load (hm _ _ rfl) rfl rfl ?_
      refine hq_pushZ (w := 1) (hm _ _ rfl) rfl ?_
      refine hq_ast (hm _ _ rfl) ⟨za129 (by omega) (by omega), rfl, by decide⟩ ?_
      exact k
theorem h_in {N : Nat} {h : zH} {ρ : Nat → Int} (g0 : aDen (aG0 aG1, D, FlN Fl N, h, k_377.2.2.2.2.1) ρ κh.2.2.1 h) : ∃ N', N = N' + 1 ∧ hun (zset h 129 (ρ 1).toNat (0, 1)) 48 ≤ N' := by
  have e1 : 0 ≤ ρ 1 ∧ ρ 1 ≤ 47 := (g0.1.1 (1, 0, 47) (by decide)).2
  have hN : hun h 48 ≤ N := (FlN_eq (Fl := Fl)).mp (g0.2.2.2.1 353 List.mem_cons_self)
  have h0 : h 129 (ρ 1).toNat = (0, 0) := by
    have := (g0.2.2.1 _ List.mem_cons_self).2.2.2
    have this : h 129 (ρ 1 + 0).toNat = (0, 0) := this
    rw [Int.add_zero] at this
    exact this
  have hs := hun_set (h := h) (k := (ρ 1).toNat) 48
  rw [if_pos ⟨by omega, by rw [h0]⟩] at hs
  exact ⟨N - 1, by omega, by omega⟩
theorem h_fam (B : bH o D Fl T) : ∀ N, aSpecO (o + N) aG1 D (FlN Fl N) T κh := by
  intro N
  induction N with
  | zero =>
    intro ρ h bs g has
    obtain ⟨N', e, -⟩ := h_in (Fl := Fl) (N := 0) g
    omega
  | succ N' ih =>
    intro ρ h bs g has
    obtain ⟨N'', e, hu⟩ := h_in (Fl := Fl) (N := N' + 1) g
    have e : N'' = N' := by omega
    subst e
    obtain ⟨z, z1, z2⟩ := h_enter (d := o + N'' + 3) B N'' (show aEnv ρ 2 k_377.2.2.1.2.1 [] from g.1) g.2.1 has hu
    obtain ⟨zr, r1, p, r2, ρ', r3, r4, r5, r6⟩ := h_body B N'' ih z1
    refine ⟨zr, zRun_d (z2 zr r1) (by show o + N'' + 3 = o + (N'' + 1) + 2; omega), p, r2, ρ', r3, r4, r5.fl (fun j _ hj => ?_), r6⟩
    by_cases e : j = 353
    · subst e
      exact FlN_eq.mpr (Nat.le_succ_of_le ((FlN_eq (Fl := Fl)).mp hj))
    · exact (FlN_ne e).mpr ((FlN_ne e).mp hj)
theorem hk_heapFrom (B : bH o D Fl T) : aSpecO o aG1 D Fl T k_377 := by
  intro ρ h bs g has
  have e1 : 0 ≤ ρ 1 ∧ ρ 1 ≤ 47 := (g.1.1 (1, 0, 47) (by decide)).2
  obtain ⟨z, z1, z2⟩ := h_enter (d := o + 47 + 3) B 47 (show aEnv ρ 2 k_377.2.2.1.2.1 [] from g.1) g.2.1 has (hun_mark (by omega))
  obtain ⟨zr, r1, p, r2, ρ', r3, r4, r5, r6⟩ := h_body B 47 (h_fam B 47) z1
  obtain ⟨p0, p1, p2⟩ := List.mem_map.mp (show p ∈ k_377.2.2.2.2.2.map (fun p => (qfl 353 p.1, p.2)) from r2)
  subst p2
  refine ⟨zr, zRun_d (z2 zr r1) (by show o + 47 + 3 = o + 50; omega), p0, p1, ρ', r3, r4, ⟨r5.1, r5.2.1, r5.2.2.1, fun j hj => ?_, r5.2.2.2.2.1, r5.2.2.2.2.2⟩, r6⟩
  have hj' := r5.2.2.2.1 j (List.mem_cons_of_mem _ hj)
  have : j ≠ 353 := by
    have : p0.1.2.2.2.2 = [] := by
      have : ∀ p ∈ k_377.2.2.2.2.2, p.1.2.2.2.2 = [] := by decide
      exact this p0 p1
    rw [this] at hj
    exact absurd hj List.not_mem_nil
  exact (FlN_ne this).mp hj'
end FA
