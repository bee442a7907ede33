/-! THE HANDS: doOne and doAll, by how much of done is left -/
def FlM (Fl : Nat → zH → Prop) (M : Nat) : Nat → zH → Prop := FlW Fl 354 (fun h => 300 - (M : Int) ≤ (h 121 43).2)
theorem FlM_eq {Fl : Nat → zH → Prop} {M : Nat} {h : zH} : FlM Fl M 354 h ↔ 300 - (M : Int) ≤ (h 121 43).2 := FlW_eq
theorem FlM_ne {Fl : Nat → zH → Prop} {M j : Nat} {h : zH} (hj : j ≠ 354) : FlM Fl M j h ↔ Fl j h := FlW_ne hj
noncomputable def κO : aK := kdp 11 (kfl 354 k_343)
noncomputable def κW : aK := kdp 13 (kfl 354 k_343)
noncomputable def κA : aK := kdp 12 (kfl 354 k_344)
noncomputable def sO : List aK := [κA, k_283, k_284, k_285, k_286, k_287, k_288, k_289, k_290, k_291, k_292, k_293, k_294, k_295, k_296, k_297, k_298, k_299, k_300, k_301, k_302, k_303, k_304, k_305, k_306, k_307, k_308, k_309, k_310, k_311, k_312, k_313, k_314, k_315, k_316, k_317, k_318, k_319, k_320, k_321, k_322, k_323, k_324, k_325, k_326, k_327, k_328, k_329, k_330, k_331, k_332, k_333, k_334, k_335, k_336, k_337, k_338, k_339, k_340, k_341, k_342]
noncomputable def cO : List aCut := c_343.map (cfl 354)
noncomputable def cA : List aCut := c_344.map (cfl 354)
theorem kO_in : a_from (aG0 aG1) aLm1 h_343 [] 100000 κO [c_343_0] zt_X12_doOne none 0 (κO.2.2.1, a_args κO.2.2.2.1 0, []) = true := by decide +kernel
theorem kA_ck : a_check (aG0 aG1) aLm1 h_344 [κO] 100000 κA cA = true := by decide +kernel
theorem kO_0 : a_ck1 (aG0 aG1) aLm1 h_343 sO 100000 κW cO (cfl 354 c_343_0) = true := by decide +kernel
theorem kO_1 : a_ck1 (aG0 aG1) aLm1 h_343 sO 100000 κW cO (cfl 354 c_343_1) = true := by decide +kernel
theorem kO_2 : a_ck1 (aG0 aG1) aLm1 h_343 sO 100000 κW cO (cfl 354 c_343_2) = true := by decide +kernel
theorem kO_3 : a_ck1 (aG0 aG1) aLm1 h_343 sO 100000 κW cO (cfl 354 c_343_3) = true := by decide +kernel
theorem kO_4 : a_ck1 (aG0 aG1) aLm1 h_343 sO 100000 κW cO (cfl 354 c_343_4) = true := by decide +kernel
theorem kO_5 : a_ck1 (aG0 aG1) aLm1 h_343 sO 100000 κW cO (cfl 354 c_343_5) = true := by decide +kernel
theorem kO_6 : a_ck1 (aG0 aG1) aLm1 h_343 sO 100000 κW cO (cfl 354 c_343_6) = true := by decide +kernel
theorem kO_7 : a_ck1 (aG0 aG1) aLm1 h_343 sO 100000 κW cO (cfl 354 c_343_7) = true := by decide +kernel
theorem kO_8 : a_ck1 (aG0 aG1) aLm1 h_343 sO 100000 κW cO (cfl 354 c_343_8) = true := by decide +kernel
theorem kO_9 : a_ck1 (aG0 aG1) aLm1 h_343 sO 100000 κW cO (cfl 354 c_343_9) = true := by decide +kernel
theorem kO_10 : a_ck1 (aG0 aG1) aLm1 h_343 sO 100000 κW cO (cfl 354 c_343_10) = true := by decide +kernel
theorem kO_11 : a_ck1 (aG0 aG1) aLm1 h_343 sO 100000 κW cO (cfl 354 c_343_11) = true := by decide +kernel
theorem kO_12 : a_ck1 (aG0 aG1) aLm1 h_343 sO 100000 κW cO (cfl 354 c_343_12) = true := by decide +kernel
theorem kO_13 : a_ck1 (aG0 aG1) aLm1 h_343 sO 100000 κW cO (cfl 354 c_343_13) = true := by decide +kernel
theorem kO_14 : a_ck1 (aG0 aG1) aLm1 h_343 sO 100000 κW cO (cfl 354 c_343_14) = true := by decide +kernel
theorem kO_15 : a_ck1 (aG0 aG1) aLm1 h_343 sO 100000 κW cO (cfl 354 c_343_15) = true := by decide +kernel
theorem kO_16 : a_ck1 (aG0 aG1) aLm1 h_343 sO 100000 κW cO (cfl 354 c_343_16) = true := by decide +kernel
theorem kO_17 : a_ck1 (aG0 aG1) aLm1 h_343 sO 100000 κW cO (cfl 354 c_343_17) = true := by decide +kernel
theorem kO_18 : a_ck1 (aG0 aG1) aLm1 h_343 sO 100000 κW cO (cfl 354 c_343_18) = true := by decide +kernel
theorem kO_19 : a_ck1 (aG0 aG1) aLm1 h_343 sO 100000 κW cO (cfl 354 c_343_19) = true := by decide +kernel
theorem kO_20 : a_ck1 (aG0 aG1) aLm1 h_343 sO 100000 κW cO (cfl 354 c_343_20) = true := by decide +kernel
theorem kO_21 : a_ck1 (aG0 aG1) aLm1 h_343 sO 100000 κW cO (cfl 354 c_343_21) = true := by decide +kernel
theorem kO_22 : a_ck1 (aG0 aG1) aLm1 h_343 sO 100000 κW cO (cfl 354 c_343_22) = true := by decide +kernel
theorem kO_23 : a_ck1 (aG0 aG1) aLm1 h_343 sO 100000 κW cO (cfl 354 c_343_23) = true := by decide +kernel
theorem kO_24 : a_ck1 (aG0 aG1) aLm1 h_343 sO 100000 κW cO (cfl 354 c_343_24) = true := by decide +kernel
theorem kO_25 : a_ck1 (aG0 aG1) aLm1 h_343 sO 100000 κW cO (cfl 354 c_343_25) = true := by decide +kernel
theorem kO_26 : a_ck1 (aG0 aG1) aLm1 h_343 sO 100000 κW cO (cfl 354 c_343_26) = true := by decide +kernel
theorem kO_27 : a_ck1 (aG0 aG1) aLm1 h_343 sO 100000 κW cO (cfl 354 c_343_27) = true := by decide +kernel
theorem kO_28 : a_ck1 (aG0 aG1) aLm1 h_343 sO 100000 κW cO (cfl 354 c_343_28) = true := by decide +kernel
theorem kO_29 : a_ck1 (aG0 aG1) aLm1 h_343 sO 100000 κW cO (cfl 354 c_343_29) = true := by decide +kernel
theorem kO_30 : a_ck1 (aG0 aG1) aLm1 h_343 sO 100000 κW cO (cfl 354 c_343_30) = true := by decide +kernel
theorem kO_31 : a_ck1 (aG0 aG1) aLm1 h_343 sO 100000 κW cO (cfl 354 c_343_31) = true := by decide +kernel
theorem kO_32 : a_ck1 (aG0 aG1) aLm1 h_343 sO 100000 κW cO (cfl 354 c_343_32) = true := by decide +kernel
theorem kO_33 : a_ck1 (aG0 aG1) aLm1 h_343 sO 100000 κW cO (cfl 354 c_343_33) = true := by decide +kernel
theorem kO_34 : a_ck1 (aG0 aG1) aLm1 h_343 sO 100000 κW cO (cfl 354 c_343_34) = true := by decide +kernel
theorem kO_35 : a_ck1 (aG0 aG1) aLm1 h_343 sO 100000 κW cO (cfl 354 c_343_35) = true := by decide +kernel
theorem kO_36 : a_ck1 (aG0 aG1) aLm1 h_343 sO 100000 κW cO (cfl 354 c_343_36) = true := by decide +kernel
theorem kO_37 : a_ck1 (aG0 aG1) aLm1 h_343 sO 100000 κW cO (cfl 354 c_343_37) = true := by decide +kernel
theorem kO_38 : a_ck1 (aG0 aG1) aLm1 h_343 sO 100000 κW cO (cfl 354 c_343_38) = true := by decide +kernel
theorem kO_39 : a_ck1 (aG0 aG1) aLm1 h_343 sO 100000 κW cO (cfl 354 c_343_39) = true := by decide +kernel
theorem kO_40 : a_ck1 (aG0 aG1) aLm1 h_343 sO 100000 κW cO (cfl 354 c_343_40) = true := by decide +kernel
theorem kO_41 : a_ck1 (aG0 aG1) aLm1 h_343 sO 100000 κW cO (cfl 354 c_343_41) = true := by decide +kernel
theorem kO_42 : a_ck1 (aG0 aG1) aLm1 h_343 sO 100000 κW cO (cfl 354 c_343_42) = true := by decide +kernel
theorem kO_43 : a_ck1 (aG0 aG1) aLm1 h_343 sO 100000 κW cO (cfl 354 c_343_43) = true := by decide +kernel
theorem kO_44 : a_ck1 (aG0 aG1) aLm1 h_343 sO 100000 κW cO (cfl 354 c_343_44) = true := by decide +kernel
theorem kO_45 : a_ck1 (aG0 aG1) aLm1 h_343 sO 100000 κW cO (cfl 354 c_343_45) = true := by decide +kernel
theorem kO_46 : a_ck1 (aG0 aG1) aLm1 h_343 sO 100000 κW cO (cfl 354 c_343_46) = true := by decide +kernel
theorem kO_47 : a_ck1 (aG0 aG1) aLm1 h_343 sO 100000 κW cO (cfl 354 c_343_47) = true := by decide +kernel
theorem kO_48 : a_ck1 (aG0 aG1) aLm1 h_343 sO 100000 κW cO (cfl 354 c_343_48) = true := by decide +kernel
theorem kO_49 : a_ck1 (aG0 aG1) aLm1 h_343 sO 100000 κW cO (cfl 354 c_343_49) = true := by decide +kernel
theorem kO_50 : a_ck1 (aG0 aG1) aLm1 h_343 sO 100000 κW cO (cfl 354 c_343_50) = true := by decide +kernel
theorem kO_51 : a_ck1 (aG0 aG1) aLm1 h_343 sO 100000 κW cO (cfl 354 c_343_51) = true := by decide +kernel
theorem kO_52 : a_ck1 (aG0 aG1) aLm1 h_343 sO 100000 κW cO (cfl 354 c_343_52) = true := by decide +kernel
theorem kO_53 : a_ck1 (aG0 aG1) aLm1 h_343 sO 100000 κW cO (cfl 354 c_343_53) = true := by decide +kernel
theorem kO_54 : a_ck1 (aG0 aG1) aLm1 h_343 sO 100000 κW cO (cfl 354 c_343_54) = true := by decide +kernel
theorem kO_55 : a_ck1 (aG0 aG1) aLm1 h_343 sO 100000 κW cO (cfl 354 c_343_55) = true := by decide +kernel
theorem kO_56 : a_ck1 (aG0 aG1) aLm1 h_343 sO 100000 κW cO (cfl 354 c_343_56) = true := by decide +kernel
theorem kO_57 : a_ck1 (aG0 aG1) aLm1 h_343 sO 100000 κW cO (cfl 354 c_343_57) = true := by decide +kernel
theorem kO_58 : a_ck1 (aG0 aG1) aLm1 h_343 sO 100000 κW cO (cfl 354 c_343_58) = true := by decide +kernel
theorem kO_59 : a_ck1 (aG0 aG1) aLm1 h_343 sO 100000 κW cO (cfl 354 c_343_59) = true := by decide +kernel
theorem kO_60 : a_ck1 (aG0 aG1) aLm1 h_343 sO 100000 κW cO (cfl 354 c_343_60) = true := by decide +kernel
set_option maxRecDepth 100000 in
theorem kO_all : ∀ c ∈ cO, a_ck1 (aG0 aG1) aLm1 h_343 sO 100000 κW cO c = true := (List.forall_mem_cons.mpr ⟨kO_0, (List.forall_mem_cons.mpr ⟨kO_1, (List.forall_mem_cons.mpr ⟨kO_2, (List.forall_mem_cons.mpr ⟨kO_3, (List.forall_mem_cons.mpr ⟨kO_4, (List.forall_mem_cons.mpr ⟨kO_5, (List.forall_mem_cons.mpr ⟨kO_6, (List.forall_mem_cons.mpr ⟨kO_7, (List.forall_mem_cons.mpr ⟨kO_8, (List.forall_mem_cons.mpr ⟨kO_9, (List.forall_mem_cons.mpr ⟨kO_10, (List.forall_mem_cons.mpr ⟨kO_11, (List.forall_mem_cons.mpr ⟨kO_12, (List.forall_mem_cons.mpr ⟨kO_13, (List.forall_mem_cons.mpr ⟨kO_14, (List.forall_mem_cons.mpr ⟨kO_15, (List.forall_mem_cons.mpr ⟨kO_16, (List.forall_mem_cons.mpr ⟨kO_17, (List.forall_mem_cons.mpr ⟨kO_18, (List.forall_mem_cons.mpr ⟨kO_19, (List.forall_mem_cons.mpr ⟨kO_20, (List.forall_mem_cons.mpr ⟨kO_21, (List.forall_mem_cons.mpr ⟨kO_22, (List.forall_mem_cons.mpr ⟨kO_23, (List.forall_mem_cons.mpr ⟨kO_24, (List.forall_mem_cons.mpr ⟨kO_25, (List.forall_mem_cons.mpr ⟨kO_26, (List.forall_mem_cons.mpr ⟨kO_27, (List.forall_mem_cons.mpr ⟨kO_28, (List.forall_mem_cons.mpr ⟨kO_29, (List.forall_mem_cons.mpr ⟨kO_30, (List.forall_mem_cons.mpr ⟨kO_31, (List.forall_mem_cons.mpr ⟨kO_32, (List.forall_mem_cons.mpr ⟨kO_33, (List.forall_mem_cons.mpr ⟨kO_34, (List.forall_mem_cons.mpr ⟨kO_35, (List.forall_mem_cons.mpr ⟨kO_36, (List.forall_mem_cons.mpr ⟨kO_37, (List.forall_mem_cons.mpr ⟨kO_38, (List.forall_mem_cons.mpr ⟨kO_39, (List.forall_mem_cons.mpr ⟨kO_40, (List.forall_mem_cons.mpr ⟨kO_41, (List.forall_mem_cons.mpr ⟨kO_42, (List.forall_mem_cons.mpr ⟨kO_43, (List.forall_mem_cons.mpr ⟨kO_44, (List.forall_mem_cons.mpr ⟨kO_45, (List.forall_mem_cons.mpr ⟨kO_46, (List.forall_mem_cons.mpr ⟨kO_47, (List.forall_mem_cons.mpr ⟨kO_48, (List.forall_mem_cons.mpr ⟨kO_49, (List.forall_mem_cons.mpr ⟨kO_50, (List.forall_mem_cons.mpr ⟨kO_51, (List.forall_mem_cons.mpr ⟨kO_52, (List.forall_mem_cons.mpr ⟨kO_53, (List.forall_mem_cons.mpr ⟨kO_54, (List.forall_mem_cons.mpr ⟨kO_55, (List.forall_mem_cons.mpr ⟨kO_56, (List.forall_mem_cons.mpr ⟨kO_57, (List.forall_mem_cons.mpr ⟨kO_58, (List.forall_mem_cons.mpr ⟨kO_59, (List.forall_mem_cons.mpr ⟨kO_60, fun _ h => absurd h List.not_mem_nil⟩)⟩)⟩)⟩)⟩)⟩)⟩)⟩)⟩)⟩)⟩)⟩)⟩)⟩)⟩)⟩)⟩)⟩)⟩)⟩)⟩)⟩)⟩)⟩)⟩)⟩)⟩)⟩)⟩)⟩)⟩)⟩)⟩)⟩)⟩)⟩)⟩)⟩)⟩)⟩)⟩)⟩)⟩)⟩)⟩)⟩)⟩)⟩)⟩)⟩)⟩)⟩)⟩)⟩)⟩)⟩)⟩)⟩)⟩)⟩)⟩)
section FB
variable {o : Nat} {D : zD} {Fl : Nat → zH → Prop} {T : zT}
theorem bH_M (B : bH o D Fl T) (o' M : Nat) : bH o' D (FlM Fl M) T := by
  refine ⟨fun h m => aOK_W (B.1 h m) (by omega) (s := [(121, 43, 43)]) rfl (fun h1 h2 he hp => ?_), fun h m => aFlOK_W (B.2.1 h m) (by omega), fun h m => B.2.2.1 h m, B.2.2.2⟩
  rw [he 121 43 ⟨(121, 43, 43), List.mem_cons_self, rfl, Nat.le_refl _, Nat.le_refl _⟩]
  exact hp
-- what doOne calls, but for doAll
def bD (o : Nat) (D : zD) (T : zT) (Fl : Nat → zH → Prop) : Prop := ∀ κ ∈ ([k_283, k_284, k_285, k_286, k_287, k_288, k_289, k_290, k_291, k_292, k_293, k_294, k_295, k_296, k_297, k_298, k_299, k_300, k_301, k_302, k_303, k_304, k_305, k_306, k_307, k_308, k_309, k_310, k_311, k_312, k_313, k_314, k_315, k_316, k_317, k_318, k_319, k_320, k_321, k_322, k_323, k_324, k_325, k_326, k_327, k_328, k_329, k_330, k_331, k_332, k_333, k_334, k_335, k_336, k_337, k_338, k_339, k_340, k_341, k_342] : List aK), ∀ M o', aSpecO o' aG1 D (FlM Fl M) T κ
theorem o_step (B : bH o D Fl T) (hD : bD o D T Fl) (M : Nat) (ih : ∀ M', M = M' + 1 → aSpecO (o + 2 * M') aG1 D (FlM Fl M') T κA) : aSpecO (o + 2 * M) aG1 D (FlM Fl M) T κO := by
  intro ρ h bs g has
  have g0 : aDen (aG0 aG1, D, FlM Fl M, h, k_343.2.2.2.2.1) ρ κO.2.2.1 h := g
  have BM := bH_M B (o + 2 * M) M
  have hlm := aLmR_ok (BM.1 h k_343.2.2.2.2.1) (BM.2.1 h k_343.2.2.2.2.1) (BM.2.2.1 h k_343.2.2.2.2.1)
  rcases a_from_ok (X := (aG0 aG1, D, FlM Fl M, h, k_343.2.2.2.2.1)) (o := o + 2 * M) (κ := κO) (BM.1 _ _) (fun κ hκ => absurd hκ List.not_mem_nil) B.2.2.2 hlm (hm_doOne B.2.2.2) rfl kO_in (Nat.le_refl 2) (z := (h, zargs 0 bs, [])) ⟨g0, (a_args_ok 0 has).2, trivial⟩ with hg | ⟨c, hc, σ, z', b1, b2, b3, b4, -⟩
  · exact hg
  · rw [List.mem_singleton.mp hc] at b3 b4 b2
    have e1 : σ 1 = ρ 1 := b1 1 (by show 1 < 2; omega)
    have hd : h 121 43 = (0, ρ 1) := by
      have := (g0.2.2.1 ((121, 0, 43), (0, 2, 0)) (List.mem_cons_of_mem _ List.mem_cons_self)).2.2.2
      have this : h 121 43 = (0, ρ 1 + 0) := this
      rw [Int.add_zero] at this
      exact this
    have hM : 300 - (M : Int) ≤ ρ 1 := by
      have := (FlM_eq (Fl := Fl)).mp (g0.2.2.2.1 354 List.mem_cons_self)
      rw [hd] at this
      exact this
    have hb : σ 1 ≤ 299 := (b3.1.1.1 (1, 0, 299) List.mem_cons_self).2.2
    have hd' : z'.1 121 43 = (0, σ 1 + 1) := (b3.1.2.2.1 ((121, 0, 43), (0, 2, 1)) (by decide)).2.2.2
    obtain ⟨M', rfl⟩ : ∃ M', M = M' + 1 := ⟨M - 1, by omega⟩
    have BM' := bH_M B (o + 2 * M') M'
    have hlm' := aLmR_ok (BM'.1 h k_343.2.2.2.2.1) (BM'.2.1 h k_343.2.2.2.2.1) (BM'.2.2.1 h k_343.2.2.2.2.1)
    have hK : ∀ κ ∈ sO, aSpecO (o + 2 * M') aG1 D (FlM Fl M') T κ := List.forall_mem_cons.mpr ⟨ih M' rfl, fun κ hκ => hD κ hκ M' _⟩
    have hc1 : ∀ c ∈ cO, a_all (fun x => a_scp c.2.1.1.1 x.1) c.2.2 = true ∧ a_from (aG0 aG1) aLm1 h_343 sO 100000 κW cO zt_X12_doOne (some c.2.2) c.1 c.2.1 = true := fun c hc => by
      have := kO_all c hc
      unfold a_ck1 at this
      rw [show x_nth zMT κW.1 = some zt_X12_doOne from rfl] at this
      exact (Bool.and_eq_true _ _ ▸ this : _ ∧ _)
    have all := a_cutsH_ok (X := (aG0 aG1, D, FlM Fl M', h, k_343.2.2.2.2.1)) (o := o + 2 * M') (κ := κW) (cuts := cO) (BM'.1 _ _) hK B.2.2.2 hlm' (hm_doOne B.2.2.2) rfl (fun _ => false) (fun c hc => (hc1 c hc).1) (fun c hc _ => (hc1 c hc).2) (fun c _ h => absurd h Bool.false_ne_true)
    have g1 : aStD (aG0 aG1, D, FlM Fl M', h, k_343.2.2.2.2.1) σ (cfl 354 c_343_0).2.1 z' := by
      refine ⟨aDen.qfl (aDen.fl b3.1 (fun j hj hf => ?_)) (FlM_eq.mpr ?_), b3.2⟩
      · have : j ≠ 354 := by
          have : ∀ j ∈ c_343_0.2.1.1.2.2.2.2, j ≠ 354 := by decide
          exact this j hj
        exact (FlM_ne this).mpr ((FlM_ne this).mp hf)
      · rw [hd']
        show _ ≤ σ 1 + 1
        omega
    obtain ⟨zr, r1, p, r2, ρ', r3, r4, r5, r6⟩ := all (cfl 354 c_343_0) List.mem_cons_self (Nat.le_refl 2) σ z' g1
    refine ⟨zr, b4 zr (zRun_d r1 (by show o + 2 * M' + 13 = o + 2 * (M' + 1) + 11; omega)), p, r2, ρ', fun i hi => (r3 i hi).trans (b1 i hi), r4, r5.fl (fun j _ hj => ?_), r6⟩
    by_cases e : j = 354
    · subst e
      have := (FlM_eq (Fl := Fl)).mp hj
      exact FlM_eq.mpr (by omega)
    · exact (FlM_ne e).mpr ((FlM_ne e).mp hj)
theorem a_step (B : bH o D Fl T) (M : Nat) (hO : aSpecO (o + 2 * M) aG1 D (FlM Fl M) T κO) : aSpecO (o + 2 * M) aG1 D (FlM Fl M) T κA := by
  have BM := bH_M B (o + 2 * M) M
  exact a_check_sound BM.1 B.2.2.2 (fun h m => aLmR_ok (BM.1 h m) (BM.2.1 h m) (BM.2.2.1 h m)) kA_ck (List.forall_mem_cons.mpr ⟨hO, fun _ h => absurd h List.not_mem_nil⟩)
theorem oa_fam (B : bH o D Fl T) (hD : bD o D T Fl) : ∀ M, aSpecO (o + 2 * M) aG1 D (FlM Fl M) T κA := by
  intro M
  induction M with
  | zero => exact a_step B 0 (o_step B hD 0 (fun M' e => by omega))
  | succ M ih => exact a_step B (M + 1) (o_step B hD (M + 1) (fun M' e => by
      have : M' = M := by omega
      rw [this]
      exact ih))
theorem hk_doAll (B : bH o D Fl T) (hD : bD o D T Fl) : aSpecO o aG1 D Fl T k_344 := by
  intro ρ h bs g has
  have ht : aTyped aTy1 h := g.2.1
  have t43 : 0 ≤ (h 121 43).2 := (tyI_ok (lo := 43) (hi := 43) (k := 0) (a := 0) (b := 300) (tt_121 ht) (by decide +kernel) 43 (Nat.le_refl _) (Nat.le_refl _)).2.1
  have gq : aDen (aG0 aG1, D, FlM Fl 300, h, k_344.2.2.2.2.1) ρ κA.2.2.1 h := aDen.qfl (aDen.fl g (fun j hj hf => by
    have : j ≠ 354 := by
      have : ∀ j ∈ k_344.2.2.1.2.2.2.2, j ≠ 354 := by decide
      exact this j hj
    exact (FlM_ne this).mpr hf)) (FlM_eq.mpr (by show 300 - (300 : Int) ≤ _; omega))
  obtain ⟨zr, r1, p, r2, ρ', r3, r4, r5, r6⟩ := oa_fam B hD 300 ρ h bs gq has
  obtain ⟨p0, p1, p2⟩ := List.mem_map.mp (show p ∈ k_344.2.2.2.2.2.map (fun p => (qfl 354 p.1, p.2)) from r2)
  subst p2
  refine ⟨zr, zRun_d r1 (by show o + 2 * 300 + 12 = o + (600 + 12); omega), p0, p1, ρ', r3, r4, ⟨r5.1, r5.2.1, r5.2.2.1, fun j hj => ?_, r5.2.2.2.2.1, r5.2.2.2.2.2⟩, r6⟩
  have hj' := r5.2.2.2.1 j (List.mem_cons_of_mem _ hj)
  have : j ≠ 354 := by
    have : ∀ p ∈ k_344.2.2.2.2.2, ∀ j ∈ p.1.2.2.2.2, j ≠ 354 := by decide
    exact this p0 p1 j hj
  exact (FlM_ne this).mp hj'
end FB
/-! avoids: its cut at 98 is run by hand -/
noncomputable def stV : aS := ((c_541_7.2.1.1.1 + 1, (c_541_7.2.1.1.1, 0, 47) :: c_541_7.2.1.1.2.1, c_541_7.2.1.1.2.2), (7, (0, c_541_7.2.1.1.1 + 1, 0)) :: c_541_7.2.1.2.1, [])
theorem kv_m : a_cutOK (aG0 aG1) k_541.2.2.1.1 (some c_541_7.2.2) stV c_541_8 = true := by decide +kernel
theorem kv_s : a_all (fun c : aCut => a_all (fun x => a_scp c.2.1.1.1 x.1) c.2.2) c_541 = true := by decide +kernel
section FV
variable {o : Nat} {D : zD} {Fl : Nat → zH → Prop} {T : zT}
theorem v_98 (B : bH o D Fl T) {h0 : zH} {ρ : Nat → Int} {z : zS} (g : aStD (aG0 aG1, D, Fl, h0, k_541.2.2.2.2.1) ρ c_541_7.2.1 z) : ∃ z' ρ', aAg ρ ρ' c_541_7.2.1.1.1 ∧ aStD (aG0 aG1, D, Fl, h0, k_541.2.2.2.2.1) ρ' stV z' ∧ ∀ zr, zRun D T (o + 2 + 1) 198 124 z' zr → zRun D T (o + 2 + 1) 198 98 z zr := by
  obtain ⟨h, L, S⟩ := z
  have hp := hHp_of (B.2.2.1 h0 [] h g.1.2.1).1 g.1.2.1
  have hm := hm_avoids (T := T) B.2.2.2
  have hS : S = [] := by
    match S, g.2.2 with
    | [], _ => rfl
  subst hS
  have e3 : 0 ≤ ρ 3 ∧ ρ 3 ≤ 3 := (g.1.1.1 (3, 0, 3) (by decide)).2
  have e4 : 0 ≤ ρ 4 ∧ ρ 4 ≤ 47 := (g.1.1.1 (4, 0, 47) (by decide)).2
  obtain ⟨z0, l0, r0⟩ := g.2.1 (0, (2, 0, 121)) (by decide)
  obtain ⟨z5, l5, r5⟩ := g.2.1 (5, (0, 5, 0)) (by decide)
  obtain ⟨z6, l6, r6⟩ := g.2.1 (6, (0, 4, 0)) (by decide)
  have l0 : L 0 = some (2, 121) := by rw [show L 0 = some z0 from l0, r0.2]; rfl
  have l5 : L 5 = some (0, ρ 4) := by rw [show L 5 = some z5 from l5, r5.2]; show some (0, ρ 4 + 0) = _; rw [Int.add_zero]
  have l6 : L 6 = some (0, ρ 3) := by rw [show L 6 = some z6 from l6, r6.2]; show some (0, ρ 3 + 0) = _; rw [Int.add_zero]
  have bb := bE_b hp (ρ 4) (ρ 3)
  have fin : ∀ to : Int, 0 ≤ to → to ≤ 47 → (∀ zr, zRun D T (o + 2 + 1) 198 124 (h, zput1 L 7 (0, to), []) zr → zRun D T (o + 2 + 1) 198 98 (h, L, []) zr) → ∃ z' ρ', aAg ρ ρ' c_541_7.2.1.1.1 ∧ aStD (aG0 aG1, D, Fl, h0, k_541.2.2.2.2.1) ρ' stV z' ∧ ∀ zr, zRun D T (o + 2 + 1) 198 124 z' zr → zRun D T (o + 2 + 1) 198 98 (h, L, []) zr := by
    intro to t1 t2 hz
    refine ⟨(h, zput1 L 7 (0, to), []), aup ρ c_541_7.2.1.1.1 to, aup_ag ρ _ to, ⟨g.1.push t1 t2, fun q hq => ?_, trivial⟩, hz⟩
    rcases List.mem_cons.mp hq with e | e
    · rw [e]
      refine ⟨(0, to), (by show zput1 L 7 (0, to) 7 = some (0, to); unfold zput1; rw [if_pos rfl]), Nat.le_refl _, ?_⟩
      show (0, to) = (0, aup ρ c_541_7.2.1.1.1 to c_541_7.2.1.1.1 + 0)
      rw [aup_at, Int.add_zero]
    · obtain ⟨w, w1, w2⟩ := g.2.1 q e
      have hq7 : ∀ q ∈ c_541_7.2.1.2.1, q.1 ≠ 7 ∧ q.2.1 ≠ 1 := by decide
      obtain ⟨n1, n2⟩ := hq7 q e
      refine ⟨w, ?_, w2.mono (Nat.le_succ _) (aup_ag ρ _ to)⟩
      show (if q.1 = 7 then _ else match L q.1 with
        | some w => if q.1 + 1 = 7 ∧ zcat w = 2 then none else some w
        | none => none) = some w
      have w1' : L q.1 = some w := w1
      rw [if_neg n1, w1']
      refine if_neg (fun c => ?_)
      have c2 : (if w.1 = 1 then 2 else 1) = 2 := c.2
      rw [if_neg (by rw [w2.2]; exact n2)] at c2
      omega
  by_cases e : bE h (ρ 4) (ρ 3) < 0
  · refine fin (ρ 4) e4.1 e4.2 (fun zr k => ?_)
    refine hq_load (hm _ _ rfl) l0 rfl ?_
    refine hq_load (hm _ _ rfl) l5 rfl ?_
    refine hq_load (hm _ _ rfl) l6 rfl ?_
    refine hq_call (hm _ _ rfl) rfl ⟨Nat.le_of_ble_eq_true rfl, Nat.le_of_ble_eq_true rfl, fun _ => rfl⟩ (r_beside (d := o) B.2.2.2 hp e4.1 (by omega)) ?_
    refine hq_ifT (hm _ _ rfl) (zr0T e) ?_
    refine hq_load (hm _ _ rfl) l5 rfl ?_
    refine hq_goto (hm _ _ rfl) ?_
    refine hq_store (hm _ _ rfl) ⟨rfl, Nat.ne_of_beq_eq_false rfl⟩ ?_
    exact k
  · refine fin (bE h (ρ 4) (ρ 3)) (by omega) (by omega) (fun zr k => ?_)
    refine hq_load (hm _ _ rfl) l0 rfl ?_
    refine hq_load (hm _ _ rfl) l5 rfl ?_
    refine hq_load (hm _ _ rfl) l6 rfl ?_
    refine hq_call (hm _ _ rfl) rfl ⟨Nat.le_of_ble_eq_true rfl, Nat.le_of_ble_eq_true rfl, fun _ => rfl⟩ (r_beside (d := o) B.2.2.2 hp e4.1 (by omega)) ?_
    refine hq_ifF (hm _ _ rfl) (zr0F (by omega)) ?_
    refine hq_load (hm _ _ rfl) l0 rfl ?_
    refine hq_load (hm _ _ rfl) l5 rfl ?_
    refine hq_load (hm _ _ rfl) l6 rfl ?_
    refine hq_call (hm _ _ rfl) rfl ⟨Nat.le_of_ble_eq_true rfl, Nat.le_of_ble_eq_true rfl, fun _ => rfl⟩ (r_beside (d := o) B.2.2.2 hp e4.1 (by omega)) ?_
    refine hq_store (hm _ _ rfl) ⟨rfl, Nat.ne_of_beq_eq_false rfl⟩ ?_
    exact k
theorem kv_c : ∀ c ∈ c_541, Nat.beq c.1 98 = false → a_from (aG0 aG1) aLm1 h_541 [] 100000 k_541 c_541 zt_X12_avoids (some c.2.2) c.1 c.2.1 = true := by
  have two : ∀ c, a_ck1 (aG0 aG1) aLm1 h_541 [] 100000 k_541 c_541 c = true → a_from (aG0 aG1) aLm1 h_541 [] 100000 k_541 c_541 zt_X12_avoids (some c.2.2) c.1 c.2.1 = true := fun c h => by
    unfold a_ck1 at h
    rw [show x_nth zMT k_541.1 = some zt_X12_avoids from rfl] at h
    exact (Bool.and_eq_true _ _ ▸ h : _ ∧ _).2
  exact List.forall_mem_cons.mpr ⟨(fun _ => two _ kd_541_0), List.forall_mem_cons.mpr ⟨(fun _ => two _ kd_541_1), List.forall_mem_cons.mpr ⟨(fun _ => two _ kd_541_2), List.forall_mem_cons.mpr ⟨(fun _ => two _ kd_541_3), List.forall_mem_cons.mpr ⟨(fun _ => two _ kd_541_4), List.forall_mem_cons.mpr ⟨(fun _ => two _ kd_541_5), List.forall_mem_cons.mpr ⟨(fun _ => two _ kd_541_6), List.forall_mem_cons.mpr ⟨(fun h => Bool.noConfusion (show true = false from h)), List.forall_mem_cons.mpr ⟨(fun _ => two _ kd_541_8), (fun _ h => absurd h List.not_mem_nil)⟩⟩⟩⟩⟩⟩⟩⟩⟩
theorem hk_avoids (B : bH o D Fl T) : aSpecO o aG1 D Fl T k_541 := by
  intro ρ h bs g has
  have hlm := aLmR_ok (B.1 h k_541.2.2.2.2.1) (B.2.1 h k_541.2.2.2.2.1) (B.2.2.1 h k_541.2.2.2.2.1)
  have hK : ∀ κ ∈ ([] : List aK), aSpecO o aG1 D Fl T κ := fun κ hκ => absurd hκ List.not_mem_nil
  have k0 := kd_541
  unfold a_ck0 at k0
  rw [show x_nth zMT k_541.1 = some zt_X12_avoids from rfl] at k0
  have all := a_cutsH_ok (X := (aG0 aG1, D, Fl, h, k_541.2.2.2.2.1)) (o := o) (κ := k_541) (cuts := c_541) (B.1 _ _) hK B.2.2.2 hlm (hm_avoids B.2.2.2) rfl (fun pc => Nat.beq pc 98) (fun c hc => a_all_ok kv_s c hc) kv_c (fun c hc h98 hk ρ z g => by
    have only : ∀ c ∈ c_541, Nat.beq c.1 98 = true → c = c_541_7 := List.forall_mem_cons.mpr ⟨(fun h => absurd h Bool.false_ne_true), List.forall_mem_cons.mpr ⟨(fun h => absurd h Bool.false_ne_true), List.forall_mem_cons.mpr ⟨(fun h => absurd h Bool.false_ne_true), List.forall_mem_cons.mpr ⟨(fun h => absurd h Bool.false_ne_true), List.forall_mem_cons.mpr ⟨(fun h => absurd h Bool.false_ne_true), List.forall_mem_cons.mpr ⟨(fun h => absurd h Bool.false_ne_true), List.forall_mem_cons.mpr ⟨(fun h => absurd h Bool.false_ne_true), List.forall_mem_cons.mpr ⟨(fun _ => rfl), List.forall_mem_cons.mpr ⟨(fun h => absurd h Bool.false_ne_true), (fun _ h => absurd h List.not_mem_nil)⟩⟩⟩⟩⟩⟩⟩⟩⟩
    rw [only c hc h98] at g hk ⊢
    obtain ⟨z', ρ', a1, a2, a3⟩ := v_98 B g
    exact Or.inr (aNext.of (c := c_541_8) (List.mem_cons_of_mem _ (List.mem_cons_of_mem _ (List.mem_cons_of_mem _ (List.mem_cons_of_mem _ (List.mem_cons_of_mem _ (List.mem_cons_of_mem _ (List.mem_cons_of_mem _ (List.mem_cons_of_mem _ List.mem_cons_self)))))))) kv_m (by show 3 ≤ c_541_7.2.1.1.1 + 1; decide) a1 hk a2 a3))
  rcases a_from_ok (X := (aG0 aG1, D, Fl, h, k_541.2.2.2.2.1)) (o := o) (κ := k_541) (B.1 _ _) hK B.2.2.2 hlm (hm_avoids B.2.2.2) rfl k0 (Nat.le_refl 3) (z := (h, zargs 0 bs, [])) ⟨g, (a_args_ok 0 has).2, trivial⟩ with hg | ⟨c, hc, σ, z', b1, b2, b3, b4, -⟩
  · exact hg
  · exact (all c hc b2 σ z' b3).back b1 b4
end FV
