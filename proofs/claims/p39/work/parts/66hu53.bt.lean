/-! TRAYS OF BOTH SIDES: what tray() does -/
def ucSm (t : Nat) (h h' : zH) : Prop := h' (2 + 2 * t) 1 = h (2 + 2 * t) 1 ∧ h' (2 + 2 * t) 2 = h (2 + 2 * t) 2 ∧ ∀ k, k < 60 → h' (3 + 2 * t) k = h (3 + 2 * t) k
def ucK (h h' : zH) : Prop := ∀ t, t < 4 → ucSm t h h'
def urSm (t : Nat) (h h' : zH) : Prop := h' 122 t = h 122 t ∧ h' 123 t = h 123 t ∧ ∀ k, k < 60 → h' 124 (60 * t + k) = h 124 (60 * t + k)
def urK (h h' : zH) : Prop := ∀ t, t < 4 → urSm t h h'
theorem ucSm.trans {t : Nat} {h h1 h2 : zH} (a : ucSm t h h1) (b : ucSm t h1 h2) : ucSm t h h2 := ⟨b.1.trans a.1, b.2.1.trans a.2.1, fun k hk => (b.2.2 k hk).trans (a.2.2 k hk)⟩
theorem urSm.trans {t : Nat} {h h1 h2 : zH} (a : urSm t h h1) (b : urSm t h1 h2) : urSm t h h2 := ⟨b.1.trans a.1, b.2.1.trans a.2.1, fun k hk => (b.2.2 k hk).trans (a.2.2 k hk)⟩
abbrev ucSup : aM := [(2, 1, 2), (4, 1, 2), (6, 1, 2), (8, 1, 2), (3, 0, 59), (5, 0, 59), (7, 0, 59), (9, 0, 59)]
abbrev urSup : aM := [(122, 0, 3), (123, 0, 3), (124, 0, 239)]
theorem ucSup_in {t r k : Nat} (ht : t < 4) (hr : (r = 2 + 2 * t ∧ 1 ≤ k ∧ k ≤ 2) ∨ (r = 3 + 2 * t ∧ k < 60)) : aIn ucSup r k := by
  have : t = 0 ∨ t = 1 ∨ t = 2 ∨ t = 3 := by omega
  rcases this with e | e | e | e <;> subst e <;> rcases hr with ⟨e, k1, k2⟩ | ⟨e, k1⟩ <;> subst e
  · exact ⟨(2, 1, 2), by decide, rfl, k1, k2⟩
  · exact ⟨(3, 0, 59), by decide, rfl, Nat.zero_le _, Nat.le_of_lt_succ k1⟩
  · exact ⟨(4, 1, 2), by decide, rfl, k1, k2⟩
  · exact ⟨(5, 0, 59), by decide, rfl, Nat.zero_le _, Nat.le_of_lt_succ k1⟩
  · exact ⟨(6, 1, 2), by decide, rfl, k1, k2⟩
  · exact ⟨(7, 0, 59), by decide, rfl, Nat.zero_le _, Nat.le_of_lt_succ k1⟩
  · exact ⟨(8, 1, 2), by decide, rfl, k1, k2⟩
  · exact ⟨(9, 0, 59), by decide, rfl, Nat.zero_le _, Nat.le_of_lt_succ k1⟩
theorem urSup_in {t r k : Nat} (ht : t < 4) (hr : (r = 122 ∧ k = t) ∨ (r = 123 ∧ k = t) ∨ (r = 124 ∧ k < 240)) : aIn urSup r k := by
  rcases hr with ⟨e, k1⟩ | ⟨e, k1⟩ | ⟨e, k1⟩ <;> subst e
  · exact ⟨(122, 0, 3), by decide, rfl, Nat.zero_le _, by show k ≤ 3; omega⟩
  · exact ⟨(123, 0, 3), by decide, rfl, Nat.zero_le _, by show k ≤ 3; omega⟩
  · exact ⟨(124, 0, 239), by decide, rfl, Nat.zero_le _, by show k ≤ 239; omega⟩
theorem ucK_fr {M : aM} {h h1 : zH} (g : aFr M h h1) (hf : lFree ucSup M = true) : ucK h h1 := fun t ht => ⟨g.keep hf (ucSup_in ht (Or.inl ⟨rfl, by omega, by omega⟩)), g.keep hf (ucSup_in ht (Or.inl ⟨rfl, by omega, by omega⟩)), fun k hk => g.keep hf (ucSup_in ht (Or.inr ⟨rfl, hk⟩))⟩
theorem urK_fr {M : aM} {h h1 : zH} (g : aFr M h h1) (hf : lFree urSup M = true) : urK h h1 := fun t ht => ⟨g.keep hf (urSup_in ht (Or.inl ⟨rfl, rfl⟩)), g.keep hf (urSup_in ht (Or.inr (Or.inl ⟨rfl, rfl⟩))), fun k hk => g.keep hf (urSup_in ht (Or.inr (Or.inr ⟨rfl, by omega⟩)))⟩
theorem ucK_z {h : zH} {v : zV} {k : Nat} : ucK h (zset h 0 k v) := fun t _ => ⟨zset_ne (by omega), zset_ne (by omega), fun k _ => zset_ne (by omega)⟩
theorem urK_z {h : zH} {v : zV} {k : Nat} : urK h (zset h 121 k v) := fun t _ => ⟨zset_ne (by omega), zset_ne (by omega), fun k _ => zset_ne (by omega)⟩
theorem urK.trans {h h1 h2 : zH} (a : urK h h1) (b : urK h1 h2) : urK h h2 := fun t ht => (a t ht).trans (b t ht)
theorem ucK.trans {h h1 h2 : zH} (a : ucK h h1) (b : ucK h1 h2) : ucK h h2 := fun t ht => (a t ht).trans (b t ht)
def utArg (a b c : Int) : Prop := (0 ≤ a ∧ a < 4) ∧ (0 ≤ b ∧ b ≤ 3) ∧ 0 ≤ c ∧ c ≤ 60
def ucTr (a b c : Int) (h : zH) (r : zR) : Prop := (¬ utArg a b c ∧ r.2 = some (0, 0) ∧ ucK h r.1) ∨ (utArg a b c ∧ r.2 = some (0, 1) ∧ ∀ t : Nat, t < 4 → (a = (t : Int) → r.1 (2 + 2 * t) 1 = (0, b) ∧ r.1 (2 + 2 * t) 2 = (0, c) ∧ ∀ k, k < 60 → r.1 (3 + 2 * t) k = (1, 0)) ∧ (a ≠ (t : Int) → ucSm t h r.1))
def urTr2 (a b c : Int) (h : zH) (r : zR) : Prop := (¬ utArg a b c ∧ r.2 = some (0, 0) ∧ urK h r.1) ∨ (utArg a b c ∧ r.2 = some (0, 1) ∧ ∀ t : Nat, t < 4 → (a = (t : Int) → r.1 122 t = (0, b) ∧ r.1 123 t = (0, c) ∧ ∀ k : Nat, k < 60 → (k : Int) < c → r.1 124 (60 * t + k) = (1, 0)) ∧ (a ≠ (t : Int) → urSm t h r.1))
theorem ucTr_no {a b c : Int} {h : zH} {v : zV} (hn : ¬ utArg a b c) : ucTr a b c h (zset h 0 0 v, some (0, 0)) := Or.inl ⟨hn, rfl, ucK_z⟩
theorem ucTr_fin {a b c : Int} {h h' : zH} (s : Nat) (ha : a = (s : Int)) (hA : utArg a b c) (he : ∀ x y, h' x y = if x = 3 + 2 * s ∧ y < 60 then (1, 0) else zset (zset h (2 + 2 * s) 1 (0, b)) (2 + 2 * s) 2 (0, c) x y) : ucTr a b c h (zset h' 0 0 (0, 0), some (0, 1)) := by
  refine Or.inr ⟨hA, rfl, fun t ht => ⟨fun e => ?_, fun e => ?_⟩⟩
  · have hts : t = s := by omega
    subst hts
    refine ⟨?_, ?_, fun k hk => ?_⟩
    · show zset h' 0 0 (0, 0) (2 + 2 * t) 1 = (0, b)
      rw [zset_ne (by omega), he, if_neg (by omega), zset_ne (by omega), zset_same]
    · show zset h' 0 0 (0, 0) (2 + 2 * t) 2 = (0, c)
      rw [zset_ne (by omega), he, if_neg (by omega), zset_same]
    · show zset h' 0 0 (0, 0) (3 + 2 * t) k = (1, 0)
      rw [zset_ne (by omega), he, if_pos ⟨rfl, hk⟩]
  · have hts : t ≠ s := fun c => e (by omega)
    refine ⟨?_, ?_, fun k hk => ?_⟩
    · show zset h' 0 0 (0, 0) (2 + 2 * t) 1 = _
      rw [zset_ne (by omega), he, if_neg (by omega), zset_ne (by omega), zset_ne (by omega)]
    · show zset h' 0 0 (0, 0) (2 + 2 * t) 2 = _
      rw [zset_ne (by omega), he, if_neg (by omega), zset_ne (by omega), zset_ne (by omega)]
    · show zset h' 0 0 (0, 0) (3 + 2 * t) k = _
      rw [zset_ne (by omega), he, if_neg (by omega), zset_ne (by omega), zset_ne (by omega)]
theorem ucTr_ok {D : zD} {T : zT} (hT : hTab T) (hO : vOK T) {N : Nat} {h : zH} (a b c : Int) : vP D T N 188 0 h [some (2, 0), some (0, a), some (0, b), some (0, c)] [] (ucTr a b c h) := by
  refine vP_hv (fun hv => y_X11_tray hT hO a b c hv ?_ ?_ ?_ ?_ ?_ ?_ ?_ ?_ ?_ ?_)
  · exact fun c1 => ucTr_no (fun g => by have := g.1; omega)
  · exact fun _ _ c1 => ucTr_no (fun g => by have := g.2.1; omega)
  · exact fun _ _ _ c1 => ucTr_no (fun g => by have := g.2.1; omega)
  · exact fun _ _ _ _ c1 => ucTr_no (fun g => by have := g.2.2; omega)
  · exact fun _ _ _ _ _ c1 => ucTr_no (fun g => by have := g.2.2; omega)
  · exact fun c1 c2 c3 c4 c5 c6 e => q_fill_3 hT hO 0 (fun h' he => v_ret0 (hT _ zt_X9_becomeZeros rfl _ _ rfl) (y_X11_trayE hT hO a b c (ucTr_fin 0 e ⟨⟨c1, c2⟩, ⟨c3, c4⟩, c6, c5⟩ he)))
  · exact fun c1 c2 c3 c4 c5 c6 e => q_fill_5 hT hO 0 (fun h' he => v_ret0 (hT _ zt_X9_becomeZeros rfl _ _ rfl) (y_X11_trayE hT hO a b c (ucTr_fin 1 e ⟨⟨c1, c2⟩, ⟨c3, c4⟩, c6, c5⟩ he)))
  · exact fun c1 c2 c3 c4 c5 c6 e => q_fill_7 hT hO 0 (fun h' he => v_ret0 (hT _ zt_X9_becomeZeros rfl _ _ rfl) (y_X11_trayE hT hO a b c (ucTr_fin 2 e ⟨⟨c1, c2⟩, ⟨c3, c4⟩, c6, c5⟩ he)))
  · exact fun c1 c2 c3 c4 c5 c6 e => q_fill_9 hT hO 0 (fun h' he => v_ret0 (hT _ zt_X9_becomeZeros rfl _ _ rfl) (y_X11_trayE hT hO a b c (ucTr_fin 3 e ⟨⟨c1, c2⟩, ⟨c3, c4⟩, c6, c5⟩ he)))
  · exact fun _ c1 => ucTr_no (fun g => by have := g.1; omega)
theorem urTr2_no {a b c : Int} {h : zH} {v : zV} (hn : ¬ utArg a b c) : urTr2 a b c h (zset (zset (zset h 121 1 (0, 0)) 121 0 (0, 0)) 121 0 v, some (0, 0)) := Or.inl ⟨hn, rfl, (urK_z.trans urK_z).trans urK_z⟩
theorem urTr2_fin {a b c k : Int} {h h' : zH} (hA : utArg a b c) (hk : c ≤ k) (he : ∀ x y, h' x y = if x = 124 ∧ 60 * a ≤ (y : Int) ∧ (y : Int) < 60 * a + k then (1, 0) else zset (zset (zset (zset h 121 1 (0, 0)) 121 0 (0, 0)) 122 a.toNat (0, b)) 123 a.toNat (0, c) x y) (hk6 : k ≤ 60) : urTr2 a b c h (h', some (0, 1)) := by
  have hA1 := hA.1
  refine Or.inr ⟨hA, rfl, fun t ht => ⟨fun e => ?_, fun e => ?_⟩⟩
  · have hts : a.toNat = t := by omega
    rw [hts] at he
    refine ⟨?_, ?_, fun j hj hjc => ?_⟩
    · show h' 122 t = (0, b)
      rw [he, if_neg (by omega), zset_ne (by omega), zset_same]
    · show h' 123 t = (0, c)
      rw [he, if_neg (by omega), zset_same]
    · show h' 124 (60 * t + j) = (1, 0)
      rw [he, if_pos ⟨rfl, by omega, by omega⟩]
  · have hts : a.toNat ≠ t := fun c => e (by omega)
    refine ⟨?_, ?_, fun j hj => ?_⟩
    · show h' 122 t = _
      rw [he, if_neg (by omega), zset_ne (by omega), zset_ne (by omega), zset_ne (by omega), zset_ne (by omega)]
    · show h' 123 t = _
      rw [he, if_neg (by omega), zset_ne (by omega), zset_ne (by omega), zset_ne (by omega), zset_ne (by omega)]
    · show h' 124 (60 * t + j) = _
      rw [he, if_neg (by omega), zset_ne (by omega), zset_ne (by omega), zset_ne (by omega), zset_ne (by omega)]
theorem urTr2_ok {D : zD} {T : zT} (hT : hTab T) (hO : vOK T) {N : Nat} {h : zH} (a b c : Int) : vP D T N 329 0 h [some (2, 121), some (0, a), some (0, b), some (0, c), none] [] (urTr2 a b c h) := by
  refine vP_hv (fun hv => y_X12_tray hT hO a b c hv ?_ ?_ ?_ ?_ ?_ ?_ ?_)
  · exact fun c1 => urTr2_no (fun g => by have := g.1; omega)
  · exact fun _ _ c1 => urTr2_no (fun g => by have := g.2.1; omega)
  · exact fun _ _ _ c1 => urTr2_no (fun g => by have := g.2.1; omega)
  · exact fun _ _ _ _ c1 => urTr2_no (fun g => by have := g.2.2; omega)
  · exact fun _ _ _ _ _ c1 => urTr2_no (fun g => by have := g.2.2; omega)
  · intro c1 c2 c3 c4 c5 c6
    refine vP_loop (D := D) (T := T) (mi := 329) (pc := 74) (fun h' l => ∃ k : Int, 0 ≤ k ∧ k ≤ c ∧ l = [some (2, 121), some (0, a), some (0, b), some (0, c), some (0, k)] ∧ ∀ x y, h' x y = if x = 124 ∧ 60 * a ≤ (y : Int) ∧ (y : Int) < 60 * a + k then (1, 0) else zset (zset (zset (zset h 121 1 (0, 0)) 121 0 (0, 0)) 122 a.toNat (0, b)) 123 a.toNat (0, c) x y) ?_ N _ _ ⟨0, Int.le_refl _, c6, rfl, fun x y => ?_⟩
    · rintro N h' l ⟨k, k0, k1, rfl, he⟩ ih
      refine vP_hv (fun hv' => y_X12_tray1 hT hO a b c k hv' ⟨k0, by omega⟩ ⟨c1, c2⟩ c5 ?_ ?_)
      · intro d1 d2 d3
        refine ih _ _ ⟨k + 1, by omega, by omega, rfl, fun x y => ?_⟩
        by_cases e : x = 124 ∧ y = (60 * a + k).toNat
        · rw [show zset h' 124 (60 * a + k).toNat (1, 0) x y = (1, 0) from if_pos e, if_pos ⟨e.1, by omega, by omega⟩]
        · rw [zset_ne e, he]
          by_cases e2 : x = 124 ∧ 60 * a ≤ (y : Int) ∧ (y : Int) < 60 * a + k
          · rw [if_pos e2, if_pos ⟨e2.1, e2.2.1, by omega⟩]
          · rw [if_neg e2, if_neg (fun f => e2 ⟨f.1, f.2.1, by have := e; omega⟩)]
      · exact fun d1 => urTr2_fin ⟨⟨c1, c2⟩, ⟨c3, c4⟩, c6, c5⟩ d1 he (by omega)
    · rw [if_neg (fun f => by omega)]
  · exact fun _ c1 => urTr2_no (fun g => by have := g.1; omega)
/-! TRAYS ALIKE ON BOTH SIDES: sort, length, numbers -/
def utOk (t : Nat) (h : zH) : Prop := ((h (2 + 2 * t) 1).2 = -1 ∧ (h 123 t).2 = -1) ∨ ((0 ≤ (h (2 + 2 * t) 1).2 ∧ (h 122 t).2 = (h (2 + 2 * t) 1).2) ∧ (0 ≤ (h (2 + 2 * t) 2).2 ∧ (h (2 + 2 * t) 2).2 ≤ 60 ∧ (h 123 t).2 = (h (2 + 2 * t) 2).2) ∧ ∀ k : Nat, k < 60 → (k : Int) < (h (2 + 2 * t) 2).2 → (h 124 (60 * t + k)).2 = (h (3 + 2 * t) k).2)
def ulR (h : zH) : Prop := ∀ t, t < 4 → utOk t h
theorem utOk_cg {t : Nat} {h h' : zH} (c : ucSm t h h') (r : urSm t h h') (g : utOk t h) : utOk t h' := by
  unfold utOk at g ⊢
  rw [c.1, c.2.1, r.1, r.2.1]
  rcases g with g | ⟨g1, g2, g3⟩
  · exact Or.inl g
  · exact Or.inr ⟨g1, g2, fun k hk hk2 => by rw [r.2.2 k hk, c.2.2 k hk]; exact g3 k hk hk2⟩
abbrev utSup : aM := ucSup ++ urSup
theorem utSupC {r k : Nat} (h : aIn ucSup r k) : aIn utSup r k := by
  obtain ⟨x, hx, e⟩ := h
  exact ⟨x, List.mem_append_left _ hx, e⟩
theorem utSupR {r k : Nat} (h : aIn urSup r k) : aIn utSup r k := by
  obtain ⟨x, hx, e⟩ := h
  exact ⟨x, List.mem_append_right _ hx, e⟩
theorem ulR_S : lRs utSup ulR := fun h h' he hR t ht => utOk_cg ⟨he _ _ (utSupC (ucSup_in ht (Or.inl ⟨rfl, by omega, by omega⟩))), he _ _ (utSupC (ucSup_in ht (Or.inl ⟨rfl, by omega, by omega⟩))), fun k hk => he _ _ (utSupC (ucSup_in ht (Or.inr ⟨rfl, hk⟩)))⟩ ⟨he _ _ (utSupR (urSup_in ht (Or.inl ⟨rfl, rfl⟩))), he _ _ (utSupR (urSup_in ht (Or.inr (Or.inl ⟨rfl, rfl⟩)))), fun k hk => he _ _ (utSupR (urSup_in ht (Or.inr (Or.inr ⟨rfl, by omega⟩))))⟩ (hR t ht)
theorem ulR_iniB : a_allN (fun t => @decide ((hIni (2 + 2 * t) 1).2 = -1) (a_decEqZ _ _) && @decide ((hIni 123 t).2 = -1) (a_decEqZ _ _)) 0 4 = true := by decide +kernel
theorem ulR_ini : ulR hIni := fun t ht => by
  have hb := a_allN_ok ulR_iniB t ht
  rw [Nat.zero_add, Bool.and_eq_true, a_dec_eq, a_dec_eq] at hb
  exact Or.inl hb
theorem utLe {D : zD} {h : zH} (hZ : lZ D h) {t : Nat} (ht : t < 4) : 0 ≤ (h (2 + 2 * t) 2).2 ∧ (h (2 + 2 * t) 2).2 ≤ 60 := by
  have : t = 0 ∨ t = 1 ∨ t = 2 ∨ t = 3 := by omega
  rcases this with e | e | e | e <;> subst e
  · exact (hZ.bd (lo := 2) (hi := 2) (k := 0) (a := 0) (b := 60) ty_2 rfl (by decide +kernel) 2 (Nat.le_refl _) (Nat.le_refl _)).2
  · exact (hZ.bd (lo := 2) (hi := 2) (k := 0) (a := 0) (b := 60) ty_4 rfl (by decide +kernel) 2 (Nat.le_refl _) (Nat.le_refl _)).2
  · exact (hZ.bd (lo := 2) (hi := 2) (k := 0) (a := 0) (b := 60) ty_6 rfl (by decide +kernel) 2 (Nat.le_refl _) (Nat.le_refl _)).2
  · exact (hZ.bd (lo := 2) (hi := 2) (k := 0) (a := 0) (b := 60) ty_8 rfl (by decide +kernel) 2 (Nat.le_refl _) (Nat.le_refl _)).2
theorem umLe {D : zD} {h : zH} (hZ : lZ D h) {t : Nat} (ht : t < 4) : (h 123 t).2 ≤ 60 := (hZ.bd (lo := 0) (hi := 3) (k := 0) (a := -1) (b := 60) ty_123 rfl (by decide +kernel) t (Nat.zero_le _) (by omega)).2.2
/-- tray() -/
theorem ulRk_tray {D : zD} (_ : ∀ i, -2147483648 ≤ D.2 i ∧ D.2 i ≤ 2147483647) {h h1 h2 : zH} {a b c v1 v2 : Int} (hZ : lZ D h) (hZ1 : lZ D h1) (hR : ulR h) (z1 : zRun D TLw 614 188 0 (h, zargs 0 [(2, 0), (0, a), (0, b), (0, c)], []) (h1, some (0, v1))) (f1 : aFr lM_188 h h1) (z2 : zRun D TLw 614 329 0 (h1, zargs 0 [(2, 121), (0, a), (0, b), (0, c)], []) (h2, some (0, v2))) (f2 : aFr lM_329 h1 h2) : ulR h2 ∧ v1 = v2 := by
  have c1 := hZ.run 4 z1 (Q := ucTr a b c h) (fun N => ucTr_ok TLw_T vOK_T a b c)
  have c2 := hZ1.run 5 z2 (Q := urTr2 a b c h1) (fun N => urTr2_ok TLw_T vOK_T a b c)
  have k1 : urK h h1 := urK_fr f1 (by decide +kernel)
  have k2 : ucK h1 h2 := ucK_fr f2 (by decide +kernel)
  rcases c1 with ⟨n1, e1, g1⟩ | ⟨n1, e1, g1⟩
  · have e1 : some ((0, v1) : zV) = some (0, 0) := e1
    rcases c2 with ⟨n2, e2, g2⟩ | ⟨n2, e2, g2⟩
    · have e2 : some ((0, v2) : zV) = some (0, 0) := e2
      cases e1; cases e2
      have g1 : ucK h h1 := g1
      have g2 : urK h1 h2 := g2
      exact ⟨fun t ht => utOk_cg ((g1 t ht).trans (k2 t ht)) ((k1 t ht).trans (g2 t ht)) (hR t ht), rfl⟩
    · exact absurd n2 n1
  · have e1 : some ((0, v1) : zV) = some (0, 1) := e1
    rcases c2 with ⟨n2, e2, g2⟩ | ⟨n2, e2, g2⟩
    · exact absurd n1 n2
    · have e2 : some ((0, v2) : zV) = some (0, 1) := e2
      cases e1; cases e2
      refine ⟨fun t ht => ?_, rfl⟩
      obtain ⟨p1, p2⟩ := g1 t ht
      obtain ⟨q1, q2⟩ := g2 t ht
      by_cases e : a = (t : Int)
      · obtain ⟨x1, x2, x3⟩ := p1 e
        obtain ⟨y1, y2, y3⟩ := q1 e
        obtain ⟨m1, m2, m3⟩ := k2 t ht
        obtain ⟨-, n3, n4⟩ := n1
        have x1 : h1 (2 + 2 * t) 1 = (0, b) := x1
        have x2 : h1 (2 + 2 * t) 2 = (0, c) := x2
        have y1 : h2 122 t = (0, b) := y1
        have y2 : h2 123 t = (0, c) := y2
        unfold utOk
        rw [m1, m2, x1, x2, y1, y2]
        refine Or.inr ⟨⟨n3.1, rfl⟩, ⟨n4.1, n4.2, rfl⟩, fun k hk hk2 => ?_⟩
        have y3 : h2 124 (60 * t + k) = (1, 0) := y3 k hk hk2
        have x3 : h1 (3 + 2 * t) k = (1, 0) := x3 k hk
        rw [m3 k hk, x3, y3]
      · exact utOk_cg ((p2 e).trans (k2 t ht)) ((k1 t ht).trans (q2 e)) (hR t ht)
/-! write() -/
def uvCut (s v : Int) : Int := if s = 0 then vB (vI v) else if s = 1 then vC (vI v) else if s = 2 then vI v else v
def uwC (a b : Int) (h : zH) (t : Nat) : Prop := a = (t : Int) ∧ (h (2 + 2 * t) 1).2 ≠ -1 ∧ 0 ≤ b ∧ b < (h (2 + 2 * t) 2).2
def uwD (a b : Int) (h : zH) (t : Nat) : Prop := a = (t : Int) ∧ 0 ≤ b ∧ b < (h 123 t).2
def ucWr (a b v : Int) (h : zH) (r : zR) : Prop := ((∀ t : Nat, t < 4 → ¬ uwC a b h t) ∧ r.2 = some (0, 0) ∧ ucK h r.1) ∨ (∃ t : Nat, t < 4 ∧ uwC a b h t ∧ r.2 = some (0, 1) ∧ r.1 = zset (zset h (3 + 2 * t) b.toNat (1, uvCut (h (2 + 2 * t) 1).2 v)) 0 0 (0, 0))
def urWr (a b v : Int) (h : zH) (r : zR) : Prop := ((∀ t : Nat, t < 4 → ¬ uwD a b h t) ∧ r.2 = some (0, 0) ∧ urK h r.1) ∨ (∃ t : Nat, t < 4 ∧ uwD a b h t ∧ r.2 = some (0, 1) ∧ r.1 = zset (zset (zset h 121 1 (0, 0)) 121 0 (0, 0)) 124 (60 * t + b.toNat) (1, uvCut (h 122 t).2 v))
theorem ucWr_no {a b v : Int} {h : zH} {w : zV} (hn : ∀ t : Nat, t < 4 → ¬ uwC a b h t) : ucWr a b v h (zset h 0 0 w, some (0, 0)) := Or.inl ⟨hn, rfl, ucK_z⟩
theorem ucWr_ok {D : zD} {T : zT} (hT : hTab T) (hO : vOK T) {N : Nat} {h : zH} (a b v : Int) (hL : ∀ t : Nat, t < 4 → 0 ≤ (h (2 + 2 * t) 2).2 ∧ (h (2 + 2 * t) 2).2 ≤ 60) : vP D T N 195 0 h [some (2, 0), some (0, a), some (0, b), some (1, v), none, none, none] [] (ucWr a b v h) := by
  refine vP_hv (fun hv => ?_)
  by_cases a0 : a < 0
  · exact y_X11_write_lo hT hO a b v hv a0 (ucWr_no (fun t ht g => by have := g.1; omega))
  by_cases a4 : 4 ≤ a
  · exact y_X11_write_hi hT hO a b v hv (by omega) a4 (ucWr_no (fun t ht g => by have := g.1; omega))
  have uniq : ∀ (s t : Nat), a = (s : Int) → uwC a b h t → s = t := fun s t hs g => by have := g.1; omega
  have fail : ∀ (s : Nat) (w : zV), a = (s : Int) → ¬ ((h (2 + 2 * s) 1).2 ≠ -1 ∧ 0 ≤ b ∧ b < (h (2 + 2 * s) 2).2) → ucWr a b v h (zset h 0 0 w, some (0, 0)) := fun s w hs hn => ucWr_no (fun t ht g => by
    have e := uniq s t hs g
    subst e
    exact hn g.2)
  have good : ∀ (s : Nat) (w : Int), s < 4 → a = (s : Int) → ((h (2 + 2 * s) 1).2 ≠ -1 ∧ 0 ≤ b ∧ b < (h (2 + 2 * s) 2).2) → w = uvCut (h (2 + 2 * s) 1).2 v → ucWr a b v h (zset (zset h (3 + 2 * s) b.toNat (1, w)) 0 0 (0, 0), some (0, 1)) := fun s w hs ha hg hw => Or.inr ⟨s, hs, ⟨ha, hg⟩, rfl, by rw [hw]⟩
  have cs : a = 0 ∨ a = 1 ∨ a = 2 ∨ a = 3 := by omega
  rcases cs with e | e | e | e
  · subst e
    refine y_X11_write_0 hT hO b v hv (hL 0 (by decide)) ?_ ?_ ?_ ?_ ?_ ?_ ?_
    · exact fun c => fail 0 _ rfl (fun g => g.1 c)
    · exact fun _ c => fail 0 _ rfl (fun g => by have := g.2.1; omega)
    · exact fun _ _ c => fail 0 _ rfl (fun g => by have c : (h 2 2).2 - 1 < b := c; have : b < (h 2 2).2 := g.2.2; omega)
    · intro c1 c2 c3 c4 _
      exact good 0 _ (by decide) rfl ⟨c1, c2, by show b < (h 2 2).2; omega⟩ (by unfold uvCut; exact (if_pos c4).symm)
    · intro c1 c2 c3 c4 c5 _
      exact good 0 _ (by decide) rfl ⟨c1, c2, by show b < (h 2 2).2; omega⟩ (by unfold uvCut; exact ((if_neg c4).trans (if_pos c5)).symm)
    · intro c1 c2 c3 c4 c5 c6 _
      exact good 0 _ (by decide) rfl ⟨c1, c2, by show b < (h 2 2).2; omega⟩ (by unfold uvCut; exact ((if_neg c4).trans ((if_neg c5).trans (if_pos c6))).symm)
    · intro c1 c2 c3 c4 c5 c6 _
      exact good 0 _ (by decide) rfl ⟨c1, c2, by show b < (h 2 2).2; omega⟩ (by unfold uvCut; exact ((if_neg c4).trans ((if_neg c5).trans (if_neg c6))).symm)
  · subst e
    refine y_X11_write_1 hT hO b v hv (hL 1 (by decide)) ?_ ?_ ?_ ?_ ?_ ?_ ?_
    · exact fun c => fail 1 _ rfl (fun g => g.1 c)
    · exact fun _ c => fail 1 _ rfl (fun g => by have := g.2.1; omega)
    · exact fun _ _ c => fail 1 _ rfl (fun g => by have c : (h 4 2).2 - 1 < b := c; have : b < (h 4 2).2 := g.2.2; omega)
    · intro c1 c2 c3 c4 _
      exact good 1 _ (by decide) rfl ⟨c1, c2, by show b < (h 4 2).2; omega⟩ (by unfold uvCut; exact (if_pos c4).symm)
    · intro c1 c2 c3 c4 c5 _
      exact good 1 _ (by decide) rfl ⟨c1, c2, by show b < (h 4 2).2; omega⟩ (by unfold uvCut; exact ((if_neg c4).trans (if_pos c5)).symm)
    · intro c1 c2 c3 c4 c5 c6 _
      exact good 1 _ (by decide) rfl ⟨c1, c2, by show b < (h 4 2).2; omega⟩ (by unfold uvCut; exact ((if_neg c4).trans ((if_neg c5).trans (if_pos c6))).symm)
    · intro c1 c2 c3 c4 c5 c6 _
      exact good 1 _ (by decide) rfl ⟨c1, c2, by show b < (h 4 2).2; omega⟩ (by unfold uvCut; exact ((if_neg c4).trans ((if_neg c5).trans (if_neg c6))).symm)
  · subst e
    refine y_X11_write_2 hT hO b v hv (hL 2 (by decide)) ?_ ?_ ?_ ?_ ?_ ?_ ?_
    · exact fun c => fail 2 _ rfl (fun g => g.1 c)
    · exact fun _ c => fail 2 _ rfl (fun g => by have := g.2.1; omega)
    · exact fun _ _ c => fail 2 _ rfl (fun g => by have c : (h 6 2).2 - 1 < b := c; have : b < (h 6 2).2 := g.2.2; omega)
    · intro c1 c2 c3 c4 _
      exact good 2 _ (by decide) rfl ⟨c1, c2, by show b < (h 6 2).2; omega⟩ (by unfold uvCut; exact (if_pos c4).symm)
    · intro c1 c2 c3 c4 c5 _
      exact good 2 _ (by decide) rfl ⟨c1, c2, by show b < (h 6 2).2; omega⟩ (by unfold uvCut; exact ((if_neg c4).trans (if_pos c5)).symm)
    · intro c1 c2 c3 c4 c5 c6 _
      exact good 2 _ (by decide) rfl ⟨c1, c2, by show b < (h 6 2).2; omega⟩ (by unfold uvCut; exact ((if_neg c4).trans ((if_neg c5).trans (if_pos c6))).symm)
    · intro c1 c2 c3 c4 c5 c6 _
      exact good 2 _ (by decide) rfl ⟨c1, c2, by show b < (h 6 2).2; omega⟩ (by unfold uvCut; exact ((if_neg c4).trans ((if_neg c5).trans (if_neg c6))).symm)
  · subst e
    refine y_X11_write_3 hT hO b v hv (hL 3 (by decide)) ?_ ?_ ?_ ?_ ?_ ?_ ?_
    · exact fun c => fail 3 _ rfl (fun g => g.1 c)
    · exact fun _ c => fail 3 _ rfl (fun g => by have := g.2.1; omega)
    · exact fun _ _ c => fail 3 _ rfl (fun g => by have c : (h 8 2).2 - 1 < b := c; have : b < (h 8 2).2 := g.2.2; omega)
    · intro c1 c2 c3 c4 _
      exact good 3 _ (by decide) rfl ⟨c1, c2, by show b < (h 8 2).2; omega⟩ (by unfold uvCut; exact (if_pos c4).symm)
    · intro c1 c2 c3 c4 c5 _
      exact good 3 _ (by decide) rfl ⟨c1, c2, by show b < (h 8 2).2; omega⟩ (by unfold uvCut; exact ((if_neg c4).trans (if_pos c5)).symm)
    · intro c1 c2 c3 c4 c5 c6 _
      exact good 3 _ (by decide) rfl ⟨c1, c2, by show b < (h 8 2).2; omega⟩ (by unfold uvCut; exact ((if_neg c4).trans ((if_neg c5).trans (if_pos c6))).symm)
    · intro c1 c2 c3 c4 c5 c6 _
      exact good 3 _ (by decide) rfl ⟨c1, c2, by show b < (h 8 2).2; omega⟩ (by unfold uvCut; exact ((if_neg c4).trans ((if_neg c5).trans (if_neg c6))).symm)
theorem urWr_ok {D : zD} {T : zT} (hT : hTab T) (hO : vOK T) {N : Nat} {h : zH} (a b v : Int) (hL : ∀ t : Nat, t < 4 → (h 123 t).2 ≤ 60) : vP D T N 339 0 h [some (2, 121), some (0, a), some (0, b), some (1, v), none] [] (urWr a b v h) := by
  refine vP_hv (fun hv => ?_)
  have no : ∀ w : zV, (∀ t : Nat, t < 4 → ¬ uwD a b h t) → urWr a b v h (zset (zset h 121 1 (0, 0)) 121 0 w, some (0, 0)) := fun w hn => Or.inl ⟨hn, rfl, urK_z.trans urK_z⟩
  by_cases ar : 0 ≤ a ∧ a < 4
  rotate_left
  · by_cases a0 : a < 0
    · exact y_X12_write_lo hT hO a b v hv a0 (no _ (fun t ht g => by have := g.1; omega))
    · exact y_X12_write_hi hT hO a b v hv (by omega) (by omega) (no _ (fun t ht g => by have := g.1; omega))
  obtain ⟨s, hs⟩ : ∃ s : Nat, a.toNat = s := ⟨_, rfl⟩
  have hsa : a = (s : Int) := by omega
  have hs4 : s < 4 := by omega
  have fail : ∀ w : zV, ¬ (0 ≤ b ∧ b < (h 123 s).2) → urWr a b v h (zset (zset h 121 1 (0, 0)) 121 0 w, some (0, 0)) := fun w hn => no w (fun t ht g => by
    have e : s = t := by have := g.1; omega
    subst e
    exact hn g.2)
  have good : ∀ w : Int, (0 ≤ b ∧ b < (h 123 s).2) → w = uvCut (h 122 s).2 v → urWr a b v h (zset (zset (zset h 121 1 (0, 0)) 121 0 (0, 0)) 124 (60 * a + b).toNat (1, w), some (0, 1)) := fun w hg hw => Or.inr ⟨s, hs4, ⟨hsa, hg⟩, rfl, by
    have e : (60 * a + b).toNat = 60 * s + b.toNat := by omega
    rw [e, hw]⟩
  refine y_X12_write hT hO a b v hv (by rw [hs]; exact hL s hs4) ?_ ?_ ?_ ?_ ?_ ?_ ?_ ?_ ?_
  · intro c; omega
  · rw [hs]; exact fun _ _ c => fail _ (fun g => by omega)
  · rw [hs]; exact fun _ _ _ c => fail _ (fun g => by omega)
  · rw [hs]; exact fun _ _ _ c1 c2 c3 _ _ => good _ ⟨c1, c2⟩ (by unfold uvCut; exact (if_pos c3).symm)
  · rw [hs]; exact fun _ _ _ c1 c2 c3 c4 _ _ => good _ ⟨c1, c2⟩ (by unfold uvCut; exact ((if_neg c3).trans (if_pos c4)).symm)
  · rw [hs]; exact fun _ _ _ c1 c2 c3 c4 c5 _ _ => good _ ⟨c1, c2⟩ (by unfold uvCut; exact ((if_neg c3).trans ((if_neg c4).trans (if_pos c5))).symm)
  · rw [hs]; exact fun _ _ _ c1 c2 c3 c4 c5 _ _ => good _ ⟨c1, c2⟩ (by unfold uvCut; exact ((if_neg c3).trans ((if_neg c4).trans (if_neg c5))).symm)
  · rw [hs]; exact fun _ _ _ c1 c2 => fail _ (fun g => by omega)
  · intro c; omega
theorem ulRk_write {D : zD} (_ : ∀ i, -2147483648 ≤ D.2 i ∧ D.2 i ≤ 2147483647) {h h1 h2 : zH} {a b v v1 v2 : Int} (hZ : lZ D h) (hZ1 : lZ D h1) (hR : ulR h) (z1 : zRun D TLw 614 195 0 (h, zargs 0 [(2, 0), (0, a), (0, b), (1, v)], []) (h1, some (0, v1))) (f1 : aFr lM_195 h h1) (z2 : zRun D TLw 614 339 0 (h1, zargs 0 [(2, 121), (0, a), (0, b), (1, v)], []) (h2, some (0, v2))) (f2 : aFr lM_339 h1 h2) : ulR h2 ∧ v1 = v2 := by
  have c1 := hZ.run 7 z1 (Q := ucWr a b v h) (fun N => ucWr_ok TLw_T vOK_T a b v (fun t ht => utLe hZ ht))
  have c2 := hZ1.run 5 z2 (Q := urWr a b v h1) (fun N => urWr_ok TLw_T vOK_T a b v (fun t ht => umLe hZ1 ht))
  have k1 : urK h h1 := urK_fr f1 (by decide +kernel)
  have k2 : ucK h1 h2 := ucK_fr f2 (by decide +kernel)
  have same : ∀ t, t < 4 → (uwC a b h t ↔ uwD a b h1 t) := fun t ht => by
    unfold uwC uwD
    rw [(k1 t ht).2.1]
    rcases hR t ht with ⟨x1, x2⟩ | ⟨⟨x1, x2⟩, ⟨x3, x4, x5⟩, -⟩
    · exact ⟨fun g => absurd x1 g.2.1, fun g => by have := g.2; omega⟩
    · exact ⟨fun g => ⟨g.1, g.2.2.1, by have := g.2.2.2; omega⟩, fun g => ⟨g.1, by omega, g.2.1, by have := g.2.2; omega⟩⟩
  rcases c1 with ⟨n1, e1, g1⟩ | ⟨t, ht, w1, e1, g1⟩
  · have e1 : some ((0, v1) : zV) = some (0, 0) := e1
    rcases c2 with ⟨n2, e2, g2⟩ | ⟨t, ht, w2, -, -⟩
    · have e2 : some ((0, v2) : zV) = some (0, 0) := e2
      cases e1; cases e2
      have g1 : ucK h h1 := g1
      have g2 : urK h1 h2 := g2
      exact ⟨fun t ht => utOk_cg ((g1 t ht).trans (k2 t ht)) ((k1 t ht).trans (g2 t ht)) (hR t ht), rfl⟩
    · exact absurd ((same t ht).mpr w2) (n1 t ht)
  · have e1 : some ((0, v1) : zV) = some (0, 1) := e1
    rcases c2 with ⟨n2, -, -⟩ | ⟨t', ht', w2, e2, g2⟩
    · exact absurd ((same t ht).mp w1) (n2 t ht)
    · have e2 : some ((0, v2) : zV) = some (0, 1) := e2
      cases e1; cases e2
      refine ⟨fun u hu => ?_, rfl⟩
      have htt : t' = t := by have := w1.1; have := w2.1; omega
      subst htt
      have g1 : h1 = zset (zset h (3 + 2 * t') b.toNat (1, uvCut (h (2 + 2 * t') 1).2 v)) 0 0 (0, 0) := g1
      have g2 : h2 = zset (zset (zset h1 121 1 (0, 0)) 121 0 (0, 0)) 124 (60 * t' + b.toNat) (1, uvCut (h1 122 t').2 v) := g2
      obtain ⟨-, b1, b2, b3⟩ := w1
      have hb60 := utLe hZ ht
      by_cases e : u = t'
      · subst e
        have hu := hR u ht
        obtain ⟨m1, m2, m3⟩ := k2 u ht
        have s1 : h1 (2 + 2 * u) 1 = h (2 + 2 * u) 1 := by rw [g1, zset_ne (by omega), zset_ne (by omega)]
        have s2 : h1 (2 + 2 * u) 2 = h (2 + 2 * u) 2 := by rw [g1, zset_ne (by omega), zset_ne (by omega)]
        have r1 : h2 122 u = h 122 u := by rw [g2, zset_ne (by omega), zset_ne (by omega), zset_ne (by omega)]; exact (k1 u ht).1
        have r2 : h2 123 u = h 123 u := by rw [g2, zset_ne (by omega), zset_ne (by omega), zset_ne (by omega)]; exact (k1 u ht).2.1
        unfold utOk at hu ⊢
        rw [m1, m2, s1, s2, r1, r2]
        rcases hu with x | ⟨x1, x2, x3⟩
        · exact absurd x.1 b1
        · refine Or.inr ⟨x1, x2, fun k hk hk2 => ?_⟩
          rw [m3 k hk]
          by_cases ek : k = b.toNat
          · have L : h2 124 (60 * u + b.toNat) = (1, uvCut (h 122 u).2 v) := by rw [g2, zset_same, (k1 u ht).1]
            have Rr : h1 (3 + 2 * u) b.toNat = (1, uvCut (h (2 + 2 * u) 1).2 v) := by rw [g1, zset_ne (by omega), zset_same]
            rw [ek, L, Rr, x1.2]
          · rw [g2, zset_ne (by omega), zset_ne (by omega), zset_ne (by omega), (k1 u ht).2.2 k hk, g1, zset_ne (by omega), zset_ne (by omega)]
            exact x3 k hk hk2
      · refine utOk_cg (h := h) ?_ ?_ (hR u hu)
        · refine ucSm.trans ?_ (k2 u hu)
          refine ⟨?_, ?_, fun k hk => ?_⟩
          · rw [g1, zset_ne (by omega), zset_ne (by omega)]
          · rw [g1, zset_ne (by omega), zset_ne (by omega)]
          · rw [g1, zset_ne (by omega), zset_ne (by omega)]
        · refine (k1 u hu).trans ?_
          refine ⟨?_, ?_, fun k hk => ?_⟩
          · rw [g2, zset_ne (by omega), zset_ne (by omega), zset_ne (by omega)]
          · rw [g2, zset_ne (by omega), zset_ne (by omega), zset_ne (by omega)]
          · rw [g2, zset_ne (by omega), zset_ne (by omega), zset_ne (by omega)]
/-! read() -/
def ucRd (a b : Int) (h : zH) (r : zR) : Prop := ((∀ t : Nat, t < 4 → ¬ uwC a b h t) ∧ r.2 = some (1, -1)) ∨ (∃ t : Nat, t < 4 ∧ uwC a b h t ∧ r.2 = some (1, (h (3 + 2 * t) b.toNat).2))
def urRd (a b : Int) (h : zH) (r : zR) : Prop := ((∀ t : Nat, t < 4 → ¬ uwD a b h t) ∧ r.2 = some (1, -1)) ∨ (∃ t : Nat, t < 4 ∧ uwD a b h t ∧ r.2 = some (1, (h 124 (60 * t + b.toNat)).2))
theorem ucRd_ok {D : zD} {T : zT} (hT : hTab T) (hO : vOK T) {N : Nat} {h : zH} (a b : Int) (hL : ∀ t : Nat, t < 4 → 0 ≤ (h (2 + 2 * t) 2).2 ∧ (h (2 + 2 * t) 2).2 ≤ 60) : vP D T N 175 0 h [some (2, 0), some (0, a), some (0, b), none] [] (ucRd a b h) := by
  refine vP_hv (fun hv => ?_)
  have fail : ∀ (s : Nat) (g : zH), a = (s : Int) → ¬ ((h (2 + 2 * s) 1).2 ≠ -1 ∧ 0 ≤ b ∧ b < (h (2 + 2 * s) 2).2) → ucRd a b h (g, some (1, -1)) := fun s g hs hn => Or.inl ⟨fun t ht g => by
    have e : s = t := by have := g.1; omega
    subst e
    exact hn g.2, rfl⟩
  by_cases a0 : a < 0
  · exact y_X11_read_lo hT hO a b hv a0 (Or.inl ⟨fun t ht g => by have := g.1; omega, rfl⟩)
  by_cases a4 : 4 ≤ a
  · exact y_X11_read_hi hT hO a b hv (by omega) a4 (Or.inl ⟨fun t ht g => by have := g.1; omega, rfl⟩)
  have cs : a = 0 ∨ a = 1 ∨ a = 2 ∨ a = 3 := by omega
  rcases cs with e | e | e | e
  · subst e
    exact y_X11_read_0 hT hO b hv (hL 0 (by decide)) (fun c => fail 0 _ rfl (fun g => g.1 c)) (fun _ c => fail 0 _ rfl (fun g => by have := g.2.1; omega)) (fun _ _ c => fail 0 _ rfl (fun g => by have g2 : b < (h 2 2).2 := g.2.2; omega)) (fun c1 c2 c3 _ => Or.inr ⟨0, by decide, ⟨rfl, c1, c2, by show b < (h 2 2).2; omega⟩, rfl⟩)
  · subst e
    exact y_X11_read_1 hT hO b hv (hL 1 (by decide)) (fun c => fail 1 _ rfl (fun g => g.1 c)) (fun _ c => fail 1 _ rfl (fun g => by have := g.2.1; omega)) (fun _ _ c => fail 1 _ rfl (fun g => by have g2 : b < (h 4 2).2 := g.2.2; omega)) (fun c1 c2 c3 _ => Or.inr ⟨1, by decide, ⟨rfl, c1, c2, by show b < (h 4 2).2; omega⟩, rfl⟩)
  · subst e
    exact y_X11_read_2 hT hO b hv (hL 2 (by decide)) (fun c => fail 2 _ rfl (fun g => g.1 c)) (fun _ c => fail 2 _ rfl (fun g => by have := g.2.1; omega)) (fun _ _ c => fail 2 _ rfl (fun g => by have g2 : b < (h 6 2).2 := g.2.2; omega)) (fun c1 c2 c3 _ => Or.inr ⟨2, by decide, ⟨rfl, c1, c2, by show b < (h 6 2).2; omega⟩, rfl⟩)
  · subst e
    exact y_X11_read_3 hT hO b hv (hL 3 (by decide)) (fun c => fail 3 _ rfl (fun g => g.1 c)) (fun _ c => fail 3 _ rfl (fun g => by have := g.2.1; omega)) (fun _ _ c => fail 3 _ rfl (fun g => by have g2 : b < (h 8 2).2 := g.2.2; omega)) (fun c1 c2 c3 _ => Or.inr ⟨3, by decide, ⟨rfl, c1, c2, by show b < (h 8 2).2; omega⟩, rfl⟩)
theorem urRd_ok {D : zD} {T : zT} (hT : hTab T) (hO : vOK T) {N : Nat} {h : zH} (a b : Int) (hL : ∀ t : Nat, t < 4 → (h 123 t).2 ≤ 60) : vP D T N 294 0 h [some (2, 121), some (0, a), some (0, b)] [] (urRd a b h) := by
  refine vP_hv (fun hv => ?_)
  by_cases ar : 0 ≤ a ∧ a < 4
  rotate_left
  · by_cases a0 : a < 0
    · exact y_X12_read_lo hT hO a b hv a0 (Or.inl ⟨fun t ht g => by have := g.1; omega, rfl⟩)
    · exact y_X12_read_hi hT hO a b hv (by omega) (by omega) (Or.inl ⟨fun t ht g => by have := g.1; omega, rfl⟩)
  obtain ⟨s, hs⟩ : ∃ s : Nat, a.toNat = s := ⟨_, rfl⟩
  have hsa : a = (s : Int) := by omega
  have hs4 : s < 4 := by omega
  have fail : ∀ g : zH, ¬ (0 ≤ b ∧ b < (h 123 s).2) → urRd a b h (g, some (1, -1)) := fun g hn => Or.inl ⟨fun t ht g => by
    have e : s = t := by have := g.1; omega
    subst e
    exact hn g.2, rfl⟩
  refine y_X12_read hT hO a b hv (by rw [hs]; exact hL s hs4) ?_ ?_ ?_ ?_ ?_ ?_
  · intro c; omega
  · rw [hs]; exact fun _ _ c => fail _ (fun g => by omega)
  · rw [hs]; exact fun _ _ _ c => fail _ (fun g => by omega)
  · rw [hs]
    intro _ _ _ c1 c2 _ _
    have e : (60 * a + b).toNat = 60 * s + b.toNat := by omega
    exact Or.inr ⟨s, hs4, ⟨hsa, c1, c2⟩, by show some ((1, (h 124 (60 * a + b).toNat).2) : zV) = _; rw [e]⟩
  · rw [hs]; exact fun _ _ _ c1 c2 => fail _ (fun g => by omega)
  · intro c; omega
theorem uwCD {h h1 : zH} (hR : ulR h) (k1 : urK h h1) {a b : Int} {t : Nat} (ht : t < 4) : uwC a b h t ↔ uwD a b h1 t := by
  unfold uwC uwD
  rw [(k1 t ht).2.1]
  rcases hR t ht with ⟨x1, x2⟩ | ⟨⟨x1, x2⟩, ⟨x3, x4, x5⟩, -⟩
  · exact ⟨fun g => absurd x1 g.2.1, fun g => by have := g.2; omega⟩
  · exact ⟨fun g => ⟨g.1, g.2.2.1, by have := g.2.2.2; omega⟩, fun g => ⟨g.1, by omega, g.2.1, by have := g.2.2; omega⟩⟩
theorem ulRk_read {D : zD} (_ : ∀ i, -2147483648 ≤ D.2 i ∧ D.2 i ≤ 2147483647) {h h1 h2 : zH} {a b v1 v2 : Int} (hZ : lZ D h) (hZ1 : lZ D h1) (hR : ulR h) (z1 : zRun D TLw 614 175 0 (h, zargs 0 [(2, 0), (0, a), (0, b)], []) (h1, some (1, v1))) (f1 : aFr lM_175 h h1) (z2 : zRun D TLw 614 294 0 (h1, zargs 0 [(2, 121), (0, a), (0, b)], []) (h2, some (1, v2))) (f2 : aFr lM_294 h1 h2) : ulR h2 ∧ v1 = v2 := by
  have c1 := hZ.run 4 z1 (Q := ucRd a b h) (fun N => ucRd_ok TLw_T vOK_T a b (fun t ht => utLe hZ ht))
  have c2 := hZ1.run 3 z2 (Q := urRd a b h1) (fun N => urRd_ok TLw_T vOK_T a b (fun t ht => umLe hZ1 ht))
  have k1 : urK h h1 := urK_fr f1 (by decide +kernel)
  have k2 : ucK h1 h2 := ucK_fr f2 (by decide +kernel)
  have k3 : ucK h h1 := ucK_fr f1 (by decide +kernel)
  have k4 : urK h1 h2 := urK_fr f2 (by decide +kernel)
  refine ⟨fun t ht => utOk_cg ((k3 t ht).trans (k2 t ht)) ((k1 t ht).trans (k4 t ht)) (hR t ht), ?_⟩
  rcases c1 with ⟨n1, e1⟩ | ⟨t, ht, w1, e1⟩
  · have e1 : some ((1, v1) : zV) = some (1, -1) := e1
    rcases c2 with ⟨n2, e2⟩ | ⟨t, ht, w2, -⟩
    · have e2 : some ((1, v2) : zV) = some (1, -1) := e2
      cases e1; cases e2; rfl
    · exact absurd ((uwCD hR k1 ht).mpr w2) (n1 t ht)
  · have e1 : some ((1, v1) : zV) = some (1, (h (3 + 2 * t) b.toNat).2) := e1
    rcases c2 with ⟨n2, -⟩ | ⟨t', ht', w2, e2⟩
    · exact absurd ((uwCD hR k1 ht).mp w1) (n2 t ht)
    · have e2 : some ((1, v2) : zV) = some (1, (h1 124 (60 * t' + b.toNat)).2) := e2
      have htt : t' = t := by have := w1.1; have := w2.1; omega
      subst htt
      have x1 : v1 = (h (3 + 2 * t') b.toNat).2 := by cases e1; rfl
      have x2 : v2 = (h1 124 (60 * t' + b.toNat)).2 := by cases e2; rfl
      have hb := utLe hZ ht
      obtain ⟨-, b1, b2, b3⟩ := w1
      rcases hR t' ht with ⟨y1, y2⟩ | ⟨-, -, y3⟩
      · exact absurd y1 b1
      · rw [x1, x2, (k1 t' ht).2.2 b.toNat (by omega)]
        exact (y3 b.toNat (by omega) (by omega)).symm
/-! pour() -/
def upCc (i j n : Int) (h : zH) (t u : Nat) : Prop := (h (2 + 2 * t) 1).2 ≠ -1 ∧ (h (2 + 2 * u) 1).2 ≠ -1 ∧ (h (2 + 2 * t) 1).2 = (h (2 + 2 * u) 1).2 ∧ 0 ≤ n ∧ (0 ≤ i ∧ i + n ≤ (h (2 + 2 * t) 2).2) ∧ 0 ≤ j ∧ j + n ≤ (h (2 + 2 * u) 2).2
def upDd (i j n : Int) (h : zH) (t u : Nat) : Prop := 0 ≤ (h 123 t).2 ∧ 0 ≤ (h 123 u).2 ∧ (h 122 t).2 = (h 122 u).2 ∧ 0 ≤ n ∧ (0 ≤ i ∧ i + n ≤ (h 123 t).2) ∧ 0 ≤ j ∧ j + n ≤ (h 123 u).2
def upC (a i b j n : Int) (h : zH) (t u : Nat) : Prop := a = (t : Int) ∧ b = (u : Int) ∧ upCc i j n h t u
def upD (a i b j n : Int) (h : zH) (t u : Nat) : Prop := a = (t : Int) ∧ b = (u : Int) ∧ upDd i j n h t u
def ucPo (a i b j n : Int) (h : zH) (r : zR) : Prop := ((∀ t u : Nat, t < 4 → u < 4 → ¬ upC a i b j n h t u) ∧ r.2 = some (0, 0) ∧ ucK h r.1) ∨ (∃ t u : Nat, t < 4 ∧ u < 4 ∧ upC a i b j n h t u ∧ r.2 = some (0, 1) ∧ r.1 = zset (zcopy h (3 + 2 * t) i.toNat (3 + 2 * u) j.toNat n.toNat) 0 0 (0, 0))
def urPo (a i b j n : Int) (h : zH) (r : zR) : Prop := ((∀ t u : Nat, t < 4 → u < 4 → ¬ upD a i b j n h t u) ∧ r.2 = some (0, 0) ∧ urK h r.1) ∨ (∃ t u : Nat, t < 4 ∧ u < 4 ∧ upD a i b j n h t u ∧ r.2 = some (0, 1) ∧ ∀ x y : Nat, r.1 x y = if x = 124 ∧ 60 * b + j ≤ (y : Int) ∧ (y : Int) < 60 * b + j + n then (1, (h 124 (60 * a + i + ((y : Int) - (60 * b + j))).toNat).2) else zset (zset h 121 1 (0, 0)) 121 0 (0, 0) x y)
theorem ucPo_ok {D : zD} {T : zT} (hT : hTab T) (hO : vOK T) {N : Nat} {h : zH} (a i b j n : Int) (hn : n ≤ 2147483647) (hL : ∀ t : Nat, t < 4 → 0 ≤ (h (2 + 2 * t) 2).2 ∧ (h (2 + 2 * t) 2).2 ≤ 60) : vP D T N 172 0 h [some (2, 0), some (0, a), some (0, i), some (0, b), some (0, j), some (0, n), none, none] [] (ucPo a i b j n h) := by
  refine vP_hv (fun hv => ?_)
  by_cases a0 : a < 0
  · exact y_X11_pour_lo hT hO a i b j n hv a0 (Or.inl ⟨fun t u ht hu g => by have := g.1; omega, rfl, ucK_z⟩)
  by_cases a4 : 4 ≤ a
  · exact y_X11_pour_hi hT hO a i b j n hv (by omega) a4 (Or.inl ⟨fun t u ht hu g => by have := g.1; omega, rfl, ucK_z⟩)
  by_cases b0 : b < 0
  · exact y_X11_pour_blo hT hO a i b j n hv (by omega) (by omega) b0 (Or.inl ⟨fun t u ht hu g => by have := g.2.1; omega, rfl, ucK_z⟩)
  by_cases b4 : 4 ≤ b
  · exact y_X11_pour_bhi hT hO a i b j n hv (by omega) (by omega) (by omega) b4 (Or.inl ⟨fun t u ht hu g => by have := g.2.1; omega, rfl, ucK_z⟩)
  have fail : ∀ (s u : Nat) (w : zV), a = (s : Int) → b = (u : Int) → ¬ upCc i j n h s u → ucPo a i b j n h (zset h 0 0 w, some (0, 0)) := fun s u w hs hu hn => Or.inl ⟨fun t v ht hv g => by
    have e : s = t := by have := g.1; omega
    have f : u = v := by have := g.2.1; omega
    subst e; subst f
    exact hn g.2.2, rfl, ucK_z⟩
  have e0 : a = 0 ∨ a = 1 ∨ a = 2 ∨ a = 3 := by omega
  have f0 : b = 0 ∨ b = 1 ∨ b = 2 ∨ b = 3 := by omega
  rcases e0 with e | e | e | e
  · rcases f0 with f | f | f | f
    · subst e; subst f
      refine y_X11_pour_0_0 hT hO i j n hv (hL 0 (by decide)) (hL 0 (by decide)) hn ?_ ?_ ?_ ?_ ?_ ?_ ?_ ?_
      · intros
        exact fail 0 0 _ rfl rfl (fun g => by have g1 : (h 2 1).2 ≠ -1 := g.1; have g2 : (h 2 1).2 ≠ -1 := g.2.1; have g3 : (h 2 1).2 = (h 2 1).2 := g.2.2.1; have g4 : 0 ≤ n := g.2.2.2.1; have g5 : 0 ≤ i := g.2.2.2.2.1.1; have g6 : i + n ≤ (h 2 2).2 := g.2.2.2.2.1.2; have g7 : 0 ≤ j := g.2.2.2.2.2.1; have g8 : j + n ≤ (h 2 2).2 := g.2.2.2.2.2.2; omega)
      · intros
        exact fail 0 0 _ rfl rfl (fun g => by have g1 : (h 2 1).2 ≠ -1 := g.1; have g2 : (h 2 1).2 ≠ -1 := g.2.1; have g3 : (h 2 1).2 = (h 2 1).2 := g.2.2.1; have g4 : 0 ≤ n := g.2.2.2.1; have g5 : 0 ≤ i := g.2.2.2.2.1.1; have g6 : i + n ≤ (h 2 2).2 := g.2.2.2.2.1.2; have g7 : 0 ≤ j := g.2.2.2.2.2.1; have g8 : j + n ≤ (h 2 2).2 := g.2.2.2.2.2.2; omega)
      · intros
        exact fail 0 0 _ rfl rfl (fun g => by have g1 : (h 2 1).2 ≠ -1 := g.1; have g2 : (h 2 1).2 ≠ -1 := g.2.1; have g3 : (h 2 1).2 = (h 2 1).2 := g.2.2.1; have g4 : 0 ≤ n := g.2.2.2.1; have g5 : 0 ≤ i := g.2.2.2.2.1.1; have g6 : i + n ≤ (h 2 2).2 := g.2.2.2.2.1.2; have g7 : 0 ≤ j := g.2.2.2.2.2.1; have g8 : j + n ≤ (h 2 2).2 := g.2.2.2.2.2.2; omega)
      · intros
        exact fail 0 0 _ rfl rfl (fun g => by have g1 : (h 2 1).2 ≠ -1 := g.1; have g2 : (h 2 1).2 ≠ -1 := g.2.1; have g3 : (h 2 1).2 = (h 2 1).2 := g.2.2.1; have g4 : 0 ≤ n := g.2.2.2.1; have g5 : 0 ≤ i := g.2.2.2.2.1.1; have g6 : i + n ≤ (h 2 2).2 := g.2.2.2.2.1.2; have g7 : 0 ≤ j := g.2.2.2.2.2.1; have g8 : j + n ≤ (h 2 2).2 := g.2.2.2.2.2.2; omega)
      · intros
        exact fail 0 0 _ rfl rfl (fun g => by have g1 : (h 2 1).2 ≠ -1 := g.1; have g2 : (h 2 1).2 ≠ -1 := g.2.1; have g3 : (h 2 1).2 = (h 2 1).2 := g.2.2.1; have g4 : 0 ≤ n := g.2.2.2.1; have g5 : 0 ≤ i := g.2.2.2.2.1.1; have g6 : i + n ≤ (h 2 2).2 := g.2.2.2.2.1.2; have g7 : 0 ≤ j := g.2.2.2.2.2.1; have g8 : j + n ≤ (h 2 2).2 := g.2.2.2.2.2.2; omega)
      · intros
        exact fail 0 0 _ rfl rfl (fun g => by have g1 : (h 2 1).2 ≠ -1 := g.1; have g2 : (h 2 1).2 ≠ -1 := g.2.1; have g3 : (h 2 1).2 = (h 2 1).2 := g.2.2.1; have g4 : 0 ≤ n := g.2.2.2.1; have g5 : 0 ≤ i := g.2.2.2.2.1.1; have g6 : i + n ≤ (h 2 2).2 := g.2.2.2.2.1.2; have g7 : 0 ≤ j := g.2.2.2.2.2.1; have g8 : j + n ≤ (h 2 2).2 := g.2.2.2.2.2.2; omega)
      · intro c0 c1 c2 c3 c4 c5 c6 c7 c8 c9 c10 c11
        refine Or.inr ⟨0, 0, by decide, by decide, ⟨rfl, rfl, (?_ : (h 2 1).2 ≠ -1), (?_ : (h 2 1).2 ≠ -1), (?_ : (h 2 1).2 = (h 2 1).2), ?_, ⟨?_, (?_ : i + n ≤ (h 2 2).2)⟩, ?_, (?_ : j + n ≤ (h 2 2).2)⟩, rfl, rfl⟩ <;> first | assumption | omega
      · intros
        exact fail 0 0 _ rfl rfl (fun g => by have g1 : (h 2 1).2 ≠ -1 := g.1; have g2 : (h 2 1).2 ≠ -1 := g.2.1; have g3 : (h 2 1).2 = (h 2 1).2 := g.2.2.1; have g4 : 0 ≤ n := g.2.2.2.1; have g5 : 0 ≤ i := g.2.2.2.2.1.1; have g6 : i + n ≤ (h 2 2).2 := g.2.2.2.2.1.2; have g7 : 0 ≤ j := g.2.2.2.2.2.1; have g8 : j + n ≤ (h 2 2).2 := g.2.2.2.2.2.2; omega)
    · subst e; subst f
      refine y_X11_pour_0_1 hT hO i j n hv (hL 0 (by decide)) (hL 1 (by decide)) hn ?_ ?_ ?_ ?_ ?_ ?_ ?_ ?_ ?_
      · intros
        exact fail 0 1 _ rfl rfl (fun g => by have g1 : (h 2 1).2 ≠ -1 := g.1; have g2 : (h 4 1).2 ≠ -1 := g.2.1; have g3 : (h 2 1).2 = (h 4 1).2 := g.2.2.1; have g4 : 0 ≤ n := g.2.2.2.1; have g5 : 0 ≤ i := g.2.2.2.2.1.1; have g6 : i + n ≤ (h 2 2).2 := g.2.2.2.2.1.2; have g7 : 0 ≤ j := g.2.2.2.2.2.1; have g8 : j + n ≤ (h 4 2).2 := g.2.2.2.2.2.2; omega)
      · intros
        exact fail 0 1 _ rfl rfl (fun g => by have g1 : (h 2 1).2 ≠ -1 := g.1; have g2 : (h 4 1).2 ≠ -1 := g.2.1; have g3 : (h 2 1).2 = (h 4 1).2 := g.2.2.1; have g4 : 0 ≤ n := g.2.2.2.1; have g5 : 0 ≤ i := g.2.2.2.2.1.1; have g6 : i + n ≤ (h 2 2).2 := g.2.2.2.2.1.2; have g7 : 0 ≤ j := g.2.2.2.2.2.1; have g8 : j + n ≤ (h 4 2).2 := g.2.2.2.2.2.2; omega)
      · intros
        exact fail 0 1 _ rfl rfl (fun g => by have g1 : (h 2 1).2 ≠ -1 := g.1; have g2 : (h 4 1).2 ≠ -1 := g.2.1; have g3 : (h 2 1).2 = (h 4 1).2 := g.2.2.1; have g4 : 0 ≤ n := g.2.2.2.1; have g5 : 0 ≤ i := g.2.2.2.2.1.1; have g6 : i + n ≤ (h 2 2).2 := g.2.2.2.2.1.2; have g7 : 0 ≤ j := g.2.2.2.2.2.1; have g8 : j + n ≤ (h 4 2).2 := g.2.2.2.2.2.2; omega)
      · intros
        exact fail 0 1 _ rfl rfl (fun g => by have g1 : (h 2 1).2 ≠ -1 := g.1; have g2 : (h 4 1).2 ≠ -1 := g.2.1; have g3 : (h 2 1).2 = (h 4 1).2 := g.2.2.1; have g4 : 0 ≤ n := g.2.2.2.1; have g5 : 0 ≤ i := g.2.2.2.2.1.1; have g6 : i + n ≤ (h 2 2).2 := g.2.2.2.2.1.2; have g7 : 0 ≤ j := g.2.2.2.2.2.1; have g8 : j + n ≤ (h 4 2).2 := g.2.2.2.2.2.2; omega)
      · intros
        exact fail 0 1 _ rfl rfl (fun g => by have g1 : (h 2 1).2 ≠ -1 := g.1; have g2 : (h 4 1).2 ≠ -1 := g.2.1; have g3 : (h 2 1).2 = (h 4 1).2 := g.2.2.1; have g4 : 0 ≤ n := g.2.2.2.1; have g5 : 0 ≤ i := g.2.2.2.2.1.1; have g6 : i + n ≤ (h 2 2).2 := g.2.2.2.2.1.2; have g7 : 0 ≤ j := g.2.2.2.2.2.1; have g8 : j + n ≤ (h 4 2).2 := g.2.2.2.2.2.2; omega)
      · intros
        exact fail 0 1 _ rfl rfl (fun g => by have g1 : (h 2 1).2 ≠ -1 := g.1; have g2 : (h 4 1).2 ≠ -1 := g.2.1; have g3 : (h 2 1).2 = (h 4 1).2 := g.2.2.1; have g4 : 0 ≤ n := g.2.2.2.1; have g5 : 0 ≤ i := g.2.2.2.2.1.1; have g6 : i + n ≤ (h 2 2).2 := g.2.2.2.2.1.2; have g7 : 0 ≤ j := g.2.2.2.2.2.1; have g8 : j + n ≤ (h 4 2).2 := g.2.2.2.2.2.2; omega)
      · intros
        exact fail 0 1 _ rfl rfl (fun g => by have g1 : (h 2 1).2 ≠ -1 := g.1; have g2 : (h 4 1).2 ≠ -1 := g.2.1; have g3 : (h 2 1).2 = (h 4 1).2 := g.2.2.1; have g4 : 0 ≤ n := g.2.2.2.1; have g5 : 0 ≤ i := g.2.2.2.2.1.1; have g6 : i + n ≤ (h 2 2).2 := g.2.2.2.2.1.2; have g7 : 0 ≤ j := g.2.2.2.2.2.1; have g8 : j + n ≤ (h 4 2).2 := g.2.2.2.2.2.2; omega)
      · intro c0 c1 c2 c3 c4 c5 c6 c7 c8 c9 c10 c11 c12
        refine Or.inr ⟨0, 1, by decide, by decide, ⟨rfl, rfl, (?_ : (h 2 1).2 ≠ -1), (?_ : (h 4 1).2 ≠ -1), (?_ : (h 2 1).2 = (h 4 1).2), ?_, ⟨?_, (?_ : i + n ≤ (h 2 2).2)⟩, ?_, (?_ : j + n ≤ (h 4 2).2)⟩, rfl, rfl⟩ <;> first | assumption | omega
      · intros
        exact fail 0 1 _ rfl rfl (fun g => by have g1 : (h 2 1).2 ≠ -1 := g.1; have g2 : (h 4 1).2 ≠ -1 := g.2.1; have g3 : (h 2 1).2 = (h 4 1).2 := g.2.2.1; have g4 : 0 ≤ n := g.2.2.2.1; have g5 : 0 ≤ i := g.2.2.2.2.1.1; have g6 : i + n ≤ (h 2 2).2 := g.2.2.2.2.1.2; have g7 : 0 ≤ j := g.2.2.2.2.2.1; have g8 : j + n ≤ (h 4 2).2 := g.2.2.2.2.2.2; omega)
    · subst e; subst f
      refine y_X11_pour_0_2 hT hO i j n hv (hL 0 (by decide)) (hL 2 (by decide)) hn ?_ ?_ ?_ ?_ ?_ ?_ ?_ ?_ ?_
      · intros
        exact fail 0 2 _ rfl rfl (fun g => by have g1 : (h 2 1).2 ≠ -1 := g.1; have g2 : (h 6 1).2 ≠ -1 := g.2.1; have g3 : (h 2 1).2 = (h 6 1).2 := g.2.2.1; have g4 : 0 ≤ n := g.2.2.2.1; have g5 : 0 ≤ i := g.2.2.2.2.1.1; have g6 : i + n ≤ (h 2 2).2 := g.2.2.2.2.1.2; have g7 : 0 ≤ j := g.2.2.2.2.2.1; have g8 : j + n ≤ (h 6 2).2 := g.2.2.2.2.2.2; omega)
      · intros
        exact fail 0 2 _ rfl rfl (fun g => by have g1 : (h 2 1).2 ≠ -1 := g.1; have g2 : (h 6 1).2 ≠ -1 := g.2.1; have g3 : (h 2 1).2 = (h 6 1).2 := g.2.2.1; have g4 : 0 ≤ n := g.2.2.2.1; have g5 : 0 ≤ i := g.2.2.2.2.1.1; have g6 : i + n ≤ (h 2 2).2 := g.2.2.2.2.1.2; have g7 : 0 ≤ j := g.2.2.2.2.2.1; have g8 : j + n ≤ (h 6 2).2 := g.2.2.2.2.2.2; omega)
      · intros
        exact fail 0 2 _ rfl rfl (fun g => by have g1 : (h 2 1).2 ≠ -1 := g.1; have g2 : (h 6 1).2 ≠ -1 := g.2.1; have g3 : (h 2 1).2 = (h 6 1).2 := g.2.2.1; have g4 : 0 ≤ n := g.2.2.2.1; have g5 : 0 ≤ i := g.2.2.2.2.1.1; have g6 : i + n ≤ (h 2 2).2 := g.2.2.2.2.1.2; have g7 : 0 ≤ j := g.2.2.2.2.2.1; have g8 : j + n ≤ (h 6 2).2 := g.2.2.2.2.2.2; omega)
      · intros
        exact fail 0 2 _ rfl rfl (fun g => by have g1 : (h 2 1).2 ≠ -1 := g.1; have g2 : (h 6 1).2 ≠ -1 := g.2.1; have g3 : (h 2 1).2 = (h 6 1).2 := g.2.2.1; have g4 : 0 ≤ n := g.2.2.2.1; have g5 : 0 ≤ i := g.2.2.2.2.1.1; have g6 : i + n ≤ (h 2 2).2 := g.2.2.2.2.1.2; have g7 : 0 ≤ j := g.2.2.2.2.2.1; have g8 : j + n ≤ (h 6 2).2 := g.2.2.2.2.2.2; omega)
      · intros
        exact fail 0 2 _ rfl rfl (fun g => by have g1 : (h 2 1).2 ≠ -1 := g.1; have g2 : (h 6 1).2 ≠ -1 := g.2.1; have g3 : (h 2 1).2 = (h 6 1).2 := g.2.2.1; have g4 : 0 ≤ n := g.2.2.2.1; have g5 : 0 ≤ i := g.2.2.2.2.1.1; have g6 : i + n ≤ (h 2 2).2 := g.2.2.2.2.1.2; have g7 : 0 ≤ j := g.2.2.2.2.2.1; have g8 : j + n ≤ (h 6 2).2 := g.2.2.2.2.2.2; omega)
      · intros
        exact fail 0 2 _ rfl rfl (fun g => by have g1 : (h 2 1).2 ≠ -1 := g.1; have g2 : (h 6 1).2 ≠ -1 := g.2.1; have g3 : (h 2 1).2 = (h 6 1).2 := g.2.2.1; have g4 : 0 ≤ n := g.2.2.2.1; have g5 : 0 ≤ i := g.2.2.2.2.1.1; have g6 : i + n ≤ (h 2 2).2 := g.2.2.2.2.1.2; have g7 : 0 ≤ j := g.2.2.2.2.2.1; have g8 : j + n ≤ (h 6 2).2 := g.2.2.2.2.2.2; omega)
      · intros
        exact fail 0 2 _ rfl rfl (fun g => by have g1 : (h 2 1).2 ≠ -1 := g.1; have g2 : (h 6 1).2 ≠ -1 := g.2.1; have g3 : (h 2 1).2 = (h 6 1).2 := g.2.2.1; have g4 : 0 ≤ n := g.2.2.2.1; have g5 : 0 ≤ i := g.2.2.2.2.1.1; have g6 : i + n ≤ (h 2 2).2 := g.2.2.2.2.1.2; have g7 : 0 ≤ j := g.2.2.2.2.2.1; have g8 : j + n ≤ (h 6 2).2 := g.2.2.2.2.2.2; omega)
      · intro c0 c1 c2 c3 c4 c5 c6 c7 c8 c9 c10 c11 c12
        refine Or.inr ⟨0, 2, by decide, by decide, ⟨rfl, rfl, (?_ : (h 2 1).2 ≠ -1), (?_ : (h 6 1).2 ≠ -1), (?_ : (h 2 1).2 = (h 6 1).2), ?_, ⟨?_, (?_ : i + n ≤ (h 2 2).2)⟩, ?_, (?_ : j + n ≤ (h 6 2).2)⟩, rfl, rfl⟩ <;> first | assumption | omega
      · intros
        exact fail 0 2 _ rfl rfl (fun g => by have g1 : (h 2 1).2 ≠ -1 := g.1; have g2 : (h 6 1).2 ≠ -1 := g.2.1; have g3 : (h 2 1).2 = (h 6 1).2 := g.2.2.1; have g4 : 0 ≤ n := g.2.2.2.1; have g5 : 0 ≤ i := g.2.2.2.2.1.1; have g6 : i + n ≤ (h 2 2).2 := g.2.2.2.2.1.2; have g7 : 0 ≤ j := g.2.2.2.2.2.1; have g8 : j + n ≤ (h 6 2).2 := g.2.2.2.2.2.2; omega)
    · subst e; subst f
      refine y_X11_pour_0_3 hT hO i j n hv (hL 0 (by decide)) (hL 3 (by decide)) hn ?_ ?_ ?_ ?_ ?_ ?_ ?_ ?_ ?_
      · intros
        exact fail 0 3 _ rfl rfl (fun g => by have g1 : (h 2 1).2 ≠ -1 := g.1; have g2 : (h 8 1).2 ≠ -1 := g.2.1; have g3 : (h 2 1).2 = (h 8 1).2 := g.2.2.1; have g4 : 0 ≤ n := g.2.2.2.1; have g5 : 0 ≤ i := g.2.2.2.2.1.1; have g6 : i + n ≤ (h 2 2).2 := g.2.2.2.2.1.2; have g7 : 0 ≤ j := g.2.2.2.2.2.1; have g8 : j + n ≤ (h 8 2).2 := g.2.2.2.2.2.2; omega)
      · intros
        exact fail 0 3 _ rfl rfl (fun g => by have g1 : (h 2 1).2 ≠ -1 := g.1; have g2 : (h 8 1).2 ≠ -1 := g.2.1; have g3 : (h 2 1).2 = (h 8 1).2 := g.2.2.1; have g4 : 0 ≤ n := g.2.2.2.1; have g5 : 0 ≤ i := g.2.2.2.2.1.1; have g6 : i + n ≤ (h 2 2).2 := g.2.2.2.2.1.2; have g7 : 0 ≤ j := g.2.2.2.2.2.1; have g8 : j + n ≤ (h 8 2).2 := g.2.2.2.2.2.2; omega)
      · intros
        exact fail 0 3 _ rfl rfl (fun g => by have g1 : (h 2 1).2 ≠ -1 := g.1; have g2 : (h 8 1).2 ≠ -1 := g.2.1; have g3 : (h 2 1).2 = (h 8 1).2 := g.2.2.1; have g4 : 0 ≤ n := g.2.2.2.1; have g5 : 0 ≤ i := g.2.2.2.2.1.1; have g6 : i + n ≤ (h 2 2).2 := g.2.2.2.2.1.2; have g7 : 0 ≤ j := g.2.2.2.2.2.1; have g8 : j + n ≤ (h 8 2).2 := g.2.2.2.2.2.2; omega)
      · intros
        exact fail 0 3 _ rfl rfl (fun g => by have g1 : (h 2 1).2 ≠ -1 := g.1; have g2 : (h 8 1).2 ≠ -1 := g.2.1; have g3 : (h 2 1).2 = (h 8 1).2 := g.2.2.1; have g4 : 0 ≤ n := g.2.2.2.1; have g5 : 0 ≤ i := g.2.2.2.2.1.1; have g6 : i + n ≤ (h 2 2).2 := g.2.2.2.2.1.2; have g7 : 0 ≤ j := g.2.2.2.2.2.1; have g8 : j + n ≤ (h 8 2).2 := g.2.2.2.2.2.2; omega)
      · intros
        exact fail 0 3 _ rfl rfl (fun g => by have g1 : (h 2 1).2 ≠ -1 := g.1; have g2 : (h 8 1).2 ≠ -1 := g.2.1; have g3 : (h 2 1).2 = (h 8 1).2 := g.2.2.1; have g4 : 0 ≤ n := g.2.2.2.1; have g5 : 0 ≤ i := g.2.2.2.2.1.1; have g6 : i + n ≤ (h 2 2).2 := g.2.2.2.2.1.2; have g7 : 0 ≤ j := g.2.2.2.2.2.1; have g8 : j + n ≤ (h 8 2).2 := g.2.2.2.2.2.2; omega)
      · intros
        exact fail 0 3 _ rfl rfl (fun g => by have g1 : (h 2 1).2 ≠ -1 := g.1; have g2 : (h 8 1).2 ≠ -1 := g.2.1; have g3 : (h 2 1).2 = (h 8 1).2 := g.2.2.1; have g4 : 0 ≤ n := g.2.2.2.1; have g5 : 0 ≤ i := g.2.2.2.2.1.1; have g6 : i + n ≤ (h 2 2).2 := g.2.2.2.2.1.2; have g7 : 0 ≤ j := g.2.2.2.2.2.1; have g8 : j + n ≤ (h 8 2).2 := g.2.2.2.2.2.2; omega)
      · intros
        exact fail 0 3 _ rfl rfl (fun g => by have g1 : (h 2 1).2 ≠ -1 := g.1; have g2 : (h 8 1).2 ≠ -1 := g.2.1; have g3 : (h 2 1).2 = (h 8 1).2 := g.2.2.1; have g4 : 0 ≤ n := g.2.2.2.1; have g5 : 0 ≤ i := g.2.2.2.2.1.1; have g6 : i + n ≤ (h 2 2).2 := g.2.2.2.2.1.2; have g7 : 0 ≤ j := g.2.2.2.2.2.1; have g8 : j + n ≤ (h 8 2).2 := g.2.2.2.2.2.2; omega)
      · intro c0 c1 c2 c3 c4 c5 c6 c7 c8 c9 c10 c11 c12
        refine Or.inr ⟨0, 3, by decide, by decide, ⟨rfl, rfl, (?_ : (h 2 1).2 ≠ -1), (?_ : (h 8 1).2 ≠ -1), (?_ : (h 2 1).2 = (h 8 1).2), ?_, ⟨?_, (?_ : i + n ≤ (h 2 2).2)⟩, ?_, (?_ : j + n ≤ (h 8 2).2)⟩, rfl, rfl⟩ <;> first | assumption | omega
      · intros
        exact fail 0 3 _ rfl rfl (fun g => by have g1 : (h 2 1).2 ≠ -1 := g.1; have g2 : (h 8 1).2 ≠ -1 := g.2.1; have g3 : (h 2 1).2 = (h 8 1).2 := g.2.2.1; have g4 : 0 ≤ n := g.2.2.2.1; have g5 : 0 ≤ i := g.2.2.2.2.1.1; have g6 : i + n ≤ (h 2 2).2 := g.2.2.2.2.1.2; have g7 : 0 ≤ j := g.2.2.2.2.2.1; have g8 : j + n ≤ (h 8 2).2 := g.2.2.2.2.2.2; omega)
  · rcases f0 with f | f | f | f
    · subst e; subst f
      refine y_X11_pour_1_0 hT hO i j n hv (hL 1 (by decide)) (hL 0 (by decide)) hn ?_ ?_ ?_ ?_ ?_ ?_ ?_ ?_ ?_
      · intros
        exact fail 1 0 _ rfl rfl (fun g => by have g1 : (h 4 1).2 ≠ -1 := g.1; have g2 : (h 2 1).2 ≠ -1 := g.2.1; have g3 : (h 4 1).2 = (h 2 1).2 := g.2.2.1; have g4 : 0 ≤ n := g.2.2.2.1; have g5 : 0 ≤ i := g.2.2.2.2.1.1; have g6 : i + n ≤ (h 4 2).2 := g.2.2.2.2.1.2; have g7 : 0 ≤ j := g.2.2.2.2.2.1; have g8 : j + n ≤ (h 2 2).2 := g.2.2.2.2.2.2; omega)
      · intros
        exact fail 1 0 _ rfl rfl (fun g => by have g1 : (h 4 1).2 ≠ -1 := g.1; have g2 : (h 2 1).2 ≠ -1 := g.2.1; have g3 : (h 4 1).2 = (h 2 1).2 := g.2.2.1; have g4 : 0 ≤ n := g.2.2.2.1; have g5 : 0 ≤ i := g.2.2.2.2.1.1; have g6 : i + n ≤ (h 4 2).2 := g.2.2.2.2.1.2; have g7 : 0 ≤ j := g.2.2.2.2.2.1; have g8 : j + n ≤ (h 2 2).2 := g.2.2.2.2.2.2; omega)
      · intros
        exact fail 1 0 _ rfl rfl (fun g => by have g1 : (h 4 1).2 ≠ -1 := g.1; have g2 : (h 2 1).2 ≠ -1 := g.2.1; have g3 : (h 4 1).2 = (h 2 1).2 := g.2.2.1; have g4 : 0 ≤ n := g.2.2.2.1; have g5 : 0 ≤ i := g.2.2.2.2.1.1; have g6 : i + n ≤ (h 4 2).2 := g.2.2.2.2.1.2; have g7 : 0 ≤ j := g.2.2.2.2.2.1; have g8 : j + n ≤ (h 2 2).2 := g.2.2.2.2.2.2; omega)
      · intros
        exact fail 1 0 _ rfl rfl (fun g => by have g1 : (h 4 1).2 ≠ -1 := g.1; have g2 : (h 2 1).2 ≠ -1 := g.2.1; have g3 : (h 4 1).2 = (h 2 1).2 := g.2.2.1; have g4 : 0 ≤ n := g.2.2.2.1; have g5 : 0 ≤ i := g.2.2.2.2.1.1; have g6 : i + n ≤ (h 4 2).2 := g.2.2.2.2.1.2; have g7 : 0 ≤ j := g.2.2.2.2.2.1; have g8 : j + n ≤ (h 2 2).2 := g.2.2.2.2.2.2; omega)
      · intros
        exact fail 1 0 _ rfl rfl (fun g => by have g1 : (h 4 1).2 ≠ -1 := g.1; have g2 : (h 2 1).2 ≠ -1 := g.2.1; have g3 : (h 4 1).2 = (h 2 1).2 := g.2.2.1; have g4 : 0 ≤ n := g.2.2.2.1; have g5 : 0 ≤ i := g.2.2.2.2.1.1; have g6 : i + n ≤ (h 4 2).2 := g.2.2.2.2.1.2; have g7 : 0 ≤ j := g.2.2.2.2.2.1; have g8 : j + n ≤ (h 2 2).2 := g.2.2.2.2.2.2; omega)
      · intros
        exact fail 1 0 _ rfl rfl (fun g => by have g1 : (h 4 1).2 ≠ -1 := g.1; have g2 : (h 2 1).2 ≠ -1 := g.2.1; have g3 : (h 4 1).2 = (h 2 1).2 := g.2.2.1; have g4 : 0 ≤ n := g.2.2.2.1; have g5 : 0 ≤ i := g.2.2.2.2.1.1; have g6 : i + n ≤ (h 4 2).2 := g.2.2.2.2.1.2; have g7 : 0 ≤ j := g.2.2.2.2.2.1; have g8 : j + n ≤ (h 2 2).2 := g.2.2.2.2.2.2; omega)
      · intros
        exact fail 1 0 _ rfl rfl (fun g => by have g1 : (h 4 1).2 ≠ -1 := g.1; have g2 : (h 2 1).2 ≠ -1 := g.2.1; have g3 : (h 4 1).2 = (h 2 1).2 := g.2.2.1; have g4 : 0 ≤ n := g.2.2.2.1; have g5 : 0 ≤ i := g.2.2.2.2.1.1; have g6 : i + n ≤ (h 4 2).2 := g.2.2.2.2.1.2; have g7 : 0 ≤ j := g.2.2.2.2.2.1; have g8 : j + n ≤ (h 2 2).2 := g.2.2.2.2.2.2; omega)
      · intro c0 c1 c2 c3 c4 c5 c6 c7 c8 c9 c10 c11 c12
        refine Or.inr ⟨1, 0, by decide, by decide, ⟨rfl, rfl, (?_ : (h 4 1).2 ≠ -1), (?_ : (h 2 1).2 ≠ -1), (?_ : (h 4 1).2 = (h 2 1).2), ?_, ⟨?_, (?_ : i + n ≤ (h 4 2).2)⟩, ?_, (?_ : j + n ≤ (h 2 2).2)⟩, rfl, rfl⟩ <;> first | assumption | omega
      · intros
        exact fail 1 0 _ rfl rfl (fun g => by have g1 : (h 4 1).2 ≠ -1 := g.1; have g2 : (h 2 1).2 ≠ -1 := g.2.1; have g3 : (h 4 1).2 = (h 2 1).2 := g.2.2.1; have g4 : 0 ≤ n := g.2.2.2.1; have g5 : 0 ≤ i := g.2.2.2.2.1.1; have g6 : i + n ≤ (h 4 2).2 := g.2.2.2.2.1.2; have g7 : 0 ≤ j := g.2.2.2.2.2.1; have g8 : j + n ≤ (h 2 2).2 := g.2.2.2.2.2.2; omega)
    · subst e; subst f
      refine y_X11_pour_1_1 hT hO i j n hv (hL 1 (by decide)) (hL 1 (by decide)) hn ?_ ?_ ?_ ?_ ?_ ?_ ?_ ?_
      · intros
        exact fail 1 1 _ rfl rfl (fun g => by have g1 : (h 4 1).2 ≠ -1 := g.1; have g2 : (h 4 1).2 ≠ -1 := g.2.1; have g3 : (h 4 1).2 = (h 4 1).2 := g.2.2.1; have g4 : 0 ≤ n := g.2.2.2.1; have g5 : 0 ≤ i := g.2.2.2.2.1.1; have g6 : i + n ≤ (h 4 2).2 := g.2.2.2.2.1.2; have g7 : 0 ≤ j := g.2.2.2.2.2.1; have g8 : j + n ≤ (h 4 2).2 := g.2.2.2.2.2.2; omega)
      · intros
        exact fail 1 1 _ rfl rfl (fun g => by have g1 : (h 4 1).2 ≠ -1 := g.1; have g2 : (h 4 1).2 ≠ -1 := g.2.1; have g3 : (h 4 1).2 = (h 4 1).2 := g.2.2.1; have g4 : 0 ≤ n := g.2.2.2.1; have g5 : 0 ≤ i := g.2.2.2.2.1.1; have g6 : i + n ≤ (h 4 2).2 := g.2.2.2.2.1.2; have g7 : 0 ≤ j := g.2.2.2.2.2.1; have g8 : j + n ≤ (h 4 2).2 := g.2.2.2.2.2.2; omega)
      · intros
        exact fail 1 1 _ rfl rfl (fun g => by have g1 : (h 4 1).2 ≠ -1 := g.1; have g2 : (h 4 1).2 ≠ -1 := g.2.1; have g3 : (h 4 1).2 = (h 4 1).2 := g.2.2.1; have g4 : 0 ≤ n := g.2.2.2.1; have g5 : 0 ≤ i := g.2.2.2.2.1.1; have g6 : i + n ≤ (h 4 2).2 := g.2.2.2.2.1.2; have g7 : 0 ≤ j := g.2.2.2.2.2.1; have g8 : j + n ≤ (h 4 2).2 := g.2.2.2.2.2.2; omega)
      · intros
        exact fail 1 1 _ rfl rfl (fun g => by have g1 : (h 4 1).2 ≠ -1 := g.1; have g2 : (h 4 1).2 ≠ -1 := g.2.1; have g3 : (h 4 1).2 = (h 4 1).2 := g.2.2.1; have g4 : 0 ≤ n := g.2.2.2.1; have g5 : 0 ≤ i := g.2.2.2.2.1.1; have g6 : i + n ≤ (h 4 2).2 := g.2.2.2.2.1.2; have g7 : 0 ≤ j := g.2.2.2.2.2.1; have g8 : j + n ≤ (h 4 2).2 := g.2.2.2.2.2.2; omega)
      · intros
        exact fail 1 1 _ rfl rfl (fun g => by have g1 : (h 4 1).2 ≠ -1 := g.1; have g2 : (h 4 1).2 ≠ -1 := g.2.1; have g3 : (h 4 1).2 = (h 4 1).2 := g.2.2.1; have g4 : 0 ≤ n := g.2.2.2.1; have g5 : 0 ≤ i := g.2.2.2.2.1.1; have g6 : i + n ≤ (h 4 2).2 := g.2.2.2.2.1.2; have g7 : 0 ≤ j := g.2.2.2.2.2.1; have g8 : j + n ≤ (h 4 2).2 := g.2.2.2.2.2.2; omega)
      · intros
        exact fail 1 1 _ rfl rfl (fun g => by have g1 : (h 4 1).2 ≠ -1 := g.1; have g2 : (h 4 1).2 ≠ -1 := g.2.1; have g3 : (h 4 1).2 = (h 4 1).2 := g.2.2.1; have g4 : 0 ≤ n := g.2.2.2.1; have g5 : 0 ≤ i := g.2.2.2.2.1.1; have g6 : i + n ≤ (h 4 2).2 := g.2.2.2.2.1.2; have g7 : 0 ≤ j := g.2.2.2.2.2.1; have g8 : j + n ≤ (h 4 2).2 := g.2.2.2.2.2.2; omega)
      · intro c0 c1 c2 c3 c4 c5 c6 c7 c8 c9 c10 c11
        refine Or.inr ⟨1, 1, by decide, by decide, ⟨rfl, rfl, (?_ : (h 4 1).2 ≠ -1), (?_ : (h 4 1).2 ≠ -1), (?_ : (h 4 1).2 = (h 4 1).2), ?_, ⟨?_, (?_ : i + n ≤ (h 4 2).2)⟩, ?_, (?_ : j + n ≤ (h 4 2).2)⟩, rfl, rfl⟩ <;> first | assumption | omega
      · intros
        exact fail 1 1 _ rfl rfl (fun g => by have g1 : (h 4 1).2 ≠ -1 := g.1; have g2 : (h 4 1).2 ≠ -1 := g.2.1; have g3 : (h 4 1).2 = (h 4 1).2 := g.2.2.1; have g4 : 0 ≤ n := g.2.2.2.1; have g5 : 0 ≤ i := g.2.2.2.2.1.1; have g6 : i + n ≤ (h 4 2).2 := g.2.2.2.2.1.2; have g7 : 0 ≤ j := g.2.2.2.2.2.1; have g8 : j + n ≤ (h 4 2).2 := g.2.2.2.2.2.2; omega)
    · subst e; subst f
      refine y_X11_pour_1_2 hT hO i j n hv (hL 1 (by decide)) (hL 2 (by decide)) hn ?_ ?_ ?_ ?_ ?_ ?_ ?_ ?_ ?_
      · intros
        exact fail 1 2 _ rfl rfl (fun g => by have g1 : (h 4 1).2 ≠ -1 := g.1; have g2 : (h 6 1).2 ≠ -1 := g.2.1; have g3 : (h 4 1).2 = (h 6 1).2 := g.2.2.1; have g4 : 0 ≤ n := g.2.2.2.1; have g5 : 0 ≤ i := g.2.2.2.2.1.1; have g6 : i + n ≤ (h 4 2).2 := g.2.2.2.2.1.2; have g7 : 0 ≤ j := g.2.2.2.2.2.1; have g8 : j + n ≤ (h 6 2).2 := g.2.2.2.2.2.2; omega)
      · intros
        exact fail 1 2 _ rfl rfl (fun g => by have g1 : (h 4 1).2 ≠ -1 := g.1; have g2 : (h 6 1).2 ≠ -1 := g.2.1; have g3 : (h 4 1).2 = (h 6 1).2 := g.2.2.1; have g4 : 0 ≤ n := g.2.2.2.1; have g5 : 0 ≤ i := g.2.2.2.2.1.1; have g6 : i + n ≤ (h 4 2).2 := g.2.2.2.2.1.2; have g7 : 0 ≤ j := g.2.2.2.2.2.1; have g8 : j + n ≤ (h 6 2).2 := g.2.2.2.2.2.2; omega)
      · intros
        exact fail 1 2 _ rfl rfl (fun g => by have g1 : (h 4 1).2 ≠ -1 := g.1; have g2 : (h 6 1).2 ≠ -1 := g.2.1; have g3 : (h 4 1).2 = (h 6 1).2 := g.2.2.1; have g4 : 0 ≤ n := g.2.2.2.1; have g5 : 0 ≤ i := g.2.2.2.2.1.1; have g6 : i + n ≤ (h 4 2).2 := g.2.2.2.2.1.2; have g7 : 0 ≤ j := g.2.2.2.2.2.1; have g8 : j + n ≤ (h 6 2).2 := g.2.2.2.2.2.2; omega)
      · intros
        exact fail 1 2 _ rfl rfl (fun g => by have g1 : (h 4 1).2 ≠ -1 := g.1; have g2 : (h 6 1).2 ≠ -1 := g.2.1; have g3 : (h 4 1).2 = (h 6 1).2 := g.2.2.1; have g4 : 0 ≤ n := g.2.2.2.1; have g5 : 0 ≤ i := g.2.2.2.2.1.1; have g6 : i + n ≤ (h 4 2).2 := g.2.2.2.2.1.2; have g7 : 0 ≤ j := g.2.2.2.2.2.1; have g8 : j + n ≤ (h 6 2).2 := g.2.2.2.2.2.2; omega)
      · intros
        exact fail 1 2 _ rfl rfl (fun g => by have g1 : (h 4 1).2 ≠ -1 := g.1; have g2 : (h 6 1).2 ≠ -1 := g.2.1; have g3 : (h 4 1).2 = (h 6 1).2 := g.2.2.1; have g4 : 0 ≤ n := g.2.2.2.1; have g5 : 0 ≤ i := g.2.2.2.2.1.1; have g6 : i + n ≤ (h 4 2).2 := g.2.2.2.2.1.2; have g7 : 0 ≤ j := g.2.2.2.2.2.1; have g8 : j + n ≤ (h 6 2).2 := g.2.2.2.2.2.2; omega)
      · intros
        exact fail 1 2 _ rfl rfl (fun g => by have g1 : (h 4 1).2 ≠ -1 := g.1; have g2 : (h 6 1).2 ≠ -1 := g.2.1; have g3 : (h 4 1).2 = (h 6 1).2 := g.2.2.1; have g4 : 0 ≤ n := g.2.2.2.1; have g5 : 0 ≤ i := g.2.2.2.2.1.1; have g6 : i + n ≤ (h 4 2).2 := g.2.2.2.2.1.2; have g7 : 0 ≤ j := g.2.2.2.2.2.1; have g8 : j + n ≤ (h 6 2).2 := g.2.2.2.2.2.2; omega)
      · intros
        exact fail 1 2 _ rfl rfl (fun g => by have g1 : (h 4 1).2 ≠ -1 := g.1; have g2 : (h 6 1).2 ≠ -1 := g.2.1; have g3 : (h 4 1).2 = (h 6 1).2 := g.2.2.1; have g4 : 0 ≤ n := g.2.2.2.1; have g5 : 0 ≤ i := g.2.2.2.2.1.1; have g6 : i + n ≤ (h 4 2).2 := g.2.2.2.2.1.2; have g7 : 0 ≤ j := g.2.2.2.2.2.1; have g8 : j + n ≤ (h 6 2).2 := g.2.2.2.2.2.2; omega)
      · intro c0 c1 c2 c3 c4 c5 c6 c7 c8 c9 c10 c11 c12
        refine Or.inr ⟨1, 2, by decide, by decide, ⟨rfl, rfl, (?_ : (h 4 1).2 ≠ -1), (?_ : (h 6 1).2 ≠ -1), (?_ : (h 4 1).2 = (h 6 1).2), ?_, ⟨?_, (?_ : i + n ≤ (h 4 2).2)⟩, ?_, (?_ : j + n ≤ (h 6 2).2)⟩, rfl, rfl⟩ <;> first | assumption | omega
      · intros
        exact fail 1 2 _ rfl rfl (fun g => by have g1 : (h 4 1).2 ≠ -1 := g.1; have g2 : (h 6 1).2 ≠ -1 := g.2.1; have g3 : (h 4 1).2 = (h 6 1).2 := g.2.2.1; have g4 : 0 ≤ n := g.2.2.2.1; have g5 : 0 ≤ i := g.2.2.2.2.1.1; have g6 : i + n ≤ (h 4 2).2 := g.2.2.2.2.1.2; have g7 : 0 ≤ j := g.2.2.2.2.2.1; have g8 : j + n ≤ (h 6 2).2 := g.2.2.2.2.2.2; omega)
    · subst e; subst f
      refine y_X11_pour_1_3 hT hO i j n hv (hL 1 (by decide)) (hL 3 (by decide)) hn ?_ ?_ ?_ ?_ ?_ ?_ ?_ ?_ ?_
      · intros
        exact fail 1 3 _ rfl rfl (fun g => by have g1 : (h 4 1).2 ≠ -1 := g.1; have g2 : (h 8 1).2 ≠ -1 := g.2.1; have g3 : (h 4 1).2 = (h 8 1).2 := g.2.2.1; have g4 : 0 ≤ n := g.2.2.2.1; have g5 : 0 ≤ i := g.2.2.2.2.1.1; have g6 : i + n ≤ (h 4 2).2 := g.2.2.2.2.1.2; have g7 : 0 ≤ j := g.2.2.2.2.2.1; have g8 : j + n ≤ (h 8 2).2 := g.2.2.2.2.2.2; omega)
      · intros
        exact fail 1 3 _ rfl rfl (fun g => by have g1 : (h 4 1).2 ≠ -1 := g.1; have g2 : (h 8 1).2 ≠ -1 := g.2.1; have g3 : (h 4 1).2 = (h 8 1).2 := g.2.2.1; have g4 : 0 ≤ n := g.2.2.2.1; have g5 : 0 ≤ i := g.2.2.2.2.1.1; have g6 : i + n ≤ (h 4 2).2 := g.2.2.2.2.1.2; have g7 : 0 ≤ j := g.2.2.2.2.2.1; have g8 : j + n ≤ (h 8 2).2 := g.2.2.2.2.2.2; omega)
      · intros
        exact fail 1 3 _ rfl rfl (fun g => by have g1 : (h 4 1).2 ≠ -1 := g.1; have g2 : (h 8 1).2 ≠ -1 := g.2.1; have g3 : (h 4 1).2 = (h 8 1).2 := g.2.2.1; have g4 : 0 ≤ n := g.2.2.2.1; have g5 : 0 ≤ i := g.2.2.2.2.1.1; have g6 : i + n ≤ (h 4 2).2 := g.2.2.2.2.1.2; have g7 : 0 ≤ j := g.2.2.2.2.2.1; have g8 : j + n ≤ (h 8 2).2 := g.2.2.2.2.2.2; omega)
      · intros
        exact fail 1 3 _ rfl rfl (fun g => by have g1 : (h 4 1).2 ≠ -1 := g.1; have g2 : (h 8 1).2 ≠ -1 := g.2.1; have g3 : (h 4 1).2 = (h 8 1).2 := g.2.2.1; have g4 : 0 ≤ n := g.2.2.2.1; have g5 : 0 ≤ i := g.2.2.2.2.1.1; have g6 : i + n ≤ (h 4 2).2 := g.2.2.2.2.1.2; have g7 : 0 ≤ j := g.2.2.2.2.2.1; have g8 : j + n ≤ (h 8 2).2 := g.2.2.2.2.2.2; omega)
      · intros
        exact fail 1 3 _ rfl rfl (fun g => by have g1 : (h 4 1).2 ≠ -1 := g.1; have g2 : (h 8 1).2 ≠ -1 := g.2.1; have g3 : (h 4 1).2 = (h 8 1).2 := g.2.2.1; have g4 : 0 ≤ n := g.2.2.2.1; have g5 : 0 ≤ i := g.2.2.2.2.1.1; have g6 : i + n ≤ (h 4 2).2 := g.2.2.2.2.1.2; have g7 : 0 ≤ j := g.2.2.2.2.2.1; have g8 : j + n ≤ (h 8 2).2 := g.2.2.2.2.2.2; omega)
      · intros
        exact fail 1 3 _ rfl rfl (fun g => by have g1 : (h 4 1).2 ≠ -1 := g.1; have g2 : (h 8 1).2 ≠ -1 := g.2.1; have g3 : (h 4 1).2 = (h 8 1).2 := g.2.2.1; have g4 : 0 ≤ n := g.2.2.2.1; have g5 : 0 ≤ i := g.2.2.2.2.1.1; have g6 : i + n ≤ (h 4 2).2 := g.2.2.2.2.1.2; have g7 : 0 ≤ j := g.2.2.2.2.2.1; have g8 : j + n ≤ (h 8 2).2 := g.2.2.2.2.2.2; omega)
      · intros
        exact fail 1 3 _ rfl rfl (fun g => by have g1 : (h 4 1).2 ≠ -1 := g.1; have g2 : (h 8 1).2 ≠ -1 := g.2.1; have g3 : (h 4 1).2 = (h 8 1).2 := g.2.2.1; have g4 : 0 ≤ n := g.2.2.2.1; have g5 : 0 ≤ i := g.2.2.2.2.1.1; have g6 : i + n ≤ (h 4 2).2 := g.2.2.2.2.1.2; have g7 : 0 ≤ j := g.2.2.2.2.2.1; have g8 : j + n ≤ (h 8 2).2 := g.2.2.2.2.2.2; omega)
      · intro c0 c1 c2 c3 c4 c5 c6 c7 c8 c9 c10 c11 c12
        refine Or.inr ⟨1, 3, by decide, by decide, ⟨rfl, rfl, (?_ : (h 4 1).2 ≠ -1), (?_ : (h 8 1).2 ≠ -1), (?_ : (h 4 1).2 = (h 8 1).2), ?_, ⟨?_, (?_ : i + n ≤ (h 4 2).2)⟩, ?_, (?_ : j + n ≤ (h 8 2).2)⟩, rfl, rfl⟩ <;> first | assumption | omega
      · intros
        exact fail 1 3 _ rfl rfl (fun g => by have g1 : (h 4 1).2 ≠ -1 := g.1; have g2 : (h 8 1).2 ≠ -1 := g.2.1; have g3 : (h 4 1).2 = (h 8 1).2 := g.2.2.1; have g4 : 0 ≤ n := g.2.2.2.1; have g5 : 0 ≤ i := g.2.2.2.2.1.1; have g6 : i + n ≤ (h 4 2).2 := g.2.2.2.2.1.2; have g7 : 0 ≤ j := g.2.2.2.2.2.1; have g8 : j + n ≤ (h 8 2).2 := g.2.2.2.2.2.2; omega)
  · rcases f0 with f | f | f | f
    · subst e; subst f
      refine y_X11_pour_2_0 hT hO i j n hv (hL 2 (by decide)) (hL 0 (by decide)) hn ?_ ?_ ?_ ?_ ?_ ?_ ?_ ?_ ?_
      · intros
        exact fail 2 0 _ rfl rfl (fun g => by have g1 : (h 6 1).2 ≠ -1 := g.1; have g2 : (h 2 1).2 ≠ -1 := g.2.1; have g3 : (h 6 1).2 = (h 2 1).2 := g.2.2.1; have g4 : 0 ≤ n := g.2.2.2.1; have g5 : 0 ≤ i := g.2.2.2.2.1.1; have g6 : i + n ≤ (h 6 2).2 := g.2.2.2.2.1.2; have g7 : 0 ≤ j := g.2.2.2.2.2.1; have g8 : j + n ≤ (h 2 2).2 := g.2.2.2.2.2.2; omega)
      · intros
        exact fail 2 0 _ rfl rfl (fun g => by have g1 : (h 6 1).2 ≠ -1 := g.1; have g2 : (h 2 1).2 ≠ -1 := g.2.1; have g3 : (h 6 1).2 = (h 2 1).2 := g.2.2.1; have g4 : 0 ≤ n := g.2.2.2.1; have g5 : 0 ≤ i := g.2.2.2.2.1.1; have g6 : i + n ≤ (h 6 2).2 := g.2.2.2.2.1.2; have g7 : 0 ≤ j := g.2.2.2.2.2.1; have g8 : j + n ≤ (h 2 2).2 := g.2.2.2.2.2.2; omega)
      · intros
        exact fail 2 0 _ rfl rfl (fun g => by have g1 : (h 6 1).2 ≠ -1 := g.1; have g2 : (h 2 1).2 ≠ -1 := g.2.1; have g3 : (h 6 1).2 = (h 2 1).2 := g.2.2.1; have g4 : 0 ≤ n := g.2.2.2.1; have g5 : 0 ≤ i := g.2.2.2.2.1.1; have g6 : i + n ≤ (h 6 2).2 := g.2.2.2.2.1.2; have g7 : 0 ≤ j := g.2.2.2.2.2.1; have g8 : j + n ≤ (h 2 2).2 := g.2.2.2.2.2.2; omega)
      · intros
        exact fail 2 0 _ rfl rfl (fun g => by have g1 : (h 6 1).2 ≠ -1 := g.1; have g2 : (h 2 1).2 ≠ -1 := g.2.1; have g3 : (h 6 1).2 = (h 2 1).2 := g.2.2.1; have g4 : 0 ≤ n := g.2.2.2.1; have g5 : 0 ≤ i := g.2.2.2.2.1.1; have g6 : i + n ≤ (h 6 2).2 := g.2.2.2.2.1.2; have g7 : 0 ≤ j := g.2.2.2.2.2.1; have g8 : j + n ≤ (h 2 2).2 := g.2.2.2.2.2.2; omega)
      · intros
        exact fail 2 0 _ rfl rfl (fun g => by have g1 : (h 6 1).2 ≠ -1 := g.1; have g2 : (h 2 1).2 ≠ -1 := g.2.1; have g3 : (h 6 1).2 = (h 2 1).2 := g.2.2.1; have g4 : 0 ≤ n := g.2.2.2.1; have g5 : 0 ≤ i := g.2.2.2.2.1.1; have g6 : i + n ≤ (h 6 2).2 := g.2.2.2.2.1.2; have g7 : 0 ≤ j := g.2.2.2.2.2.1; have g8 : j + n ≤ (h 2 2).2 := g.2.2.2.2.2.2; omega)
      · intros
        exact fail 2 0 _ rfl rfl (fun g => by have g1 : (h 6 1).2 ≠ -1 := g.1; have g2 : (h 2 1).2 ≠ -1 := g.2.1; have g3 : (h 6 1).2 = (h 2 1).2 := g.2.2.1; have g4 : 0 ≤ n := g.2.2.2.1; have g5 : 0 ≤ i := g.2.2.2.2.1.1; have g6 : i + n ≤ (h 6 2).2 := g.2.2.2.2.1.2; have g7 : 0 ≤ j := g.2.2.2.2.2.1; have g8 : j + n ≤ (h 2 2).2 := g.2.2.2.2.2.2; omega)
      · intros
        exact fail 2 0 _ rfl rfl (fun g => by have g1 : (h 6 1).2 ≠ -1 := g.1; have g2 : (h 2 1).2 ≠ -1 := g.2.1; have g3 : (h 6 1).2 = (h 2 1).2 := g.2.2.1; have g4 : 0 ≤ n := g.2.2.2.1; have g5 : 0 ≤ i := g.2.2.2.2.1.1; have g6 : i + n ≤ (h 6 2).2 := g.2.2.2.2.1.2; have g7 : 0 ≤ j := g.2.2.2.2.2.1; have g8 : j + n ≤ (h 2 2).2 := g.2.2.2.2.2.2; omega)
      · intro c0 c1 c2 c3 c4 c5 c6 c7 c8 c9 c10 c11 c12
        refine Or.inr ⟨2, 0, by decide, by decide, ⟨rfl, rfl, (?_ : (h 6 1).2 ≠ -1), (?_ : (h 2 1).2 ≠ -1), (?_ : (h 6 1).2 = (h 2 1).2), ?_, ⟨?_, (?_ : i + n ≤ (h 6 2).2)⟩, ?_, (?_ : j + n ≤ (h 2 2).2)⟩, rfl, rfl⟩ <;> first | assumption | omega
      · intros
        exact fail 2 0 _ rfl rfl (fun g => by have g1 : (h 6 1).2 ≠ -1 := g.1; have g2 : (h 2 1).2 ≠ -1 := g.2.1; have g3 : (h 6 1).2 = (h 2 1).2 := g.2.2.1; have g4 : 0 ≤ n := g.2.2.2.1; have g5 : 0 ≤ i := g.2.2.2.2.1.1; have g6 : i + n ≤ (h 6 2).2 := g.2.2.2.2.1.2; have g7 : 0 ≤ j := g.2.2.2.2.2.1; have g8 : j + n ≤ (h 2 2).2 := g.2.2.2.2.2.2; omega)
    · subst e; subst f
      refine y_X11_pour_2_1 hT hO i j n hv (hL 2 (by decide)) (hL 1 (by decide)) hn ?_ ?_ ?_ ?_ ?_ ?_ ?_ ?_ ?_
      · intros
        exact fail 2 1 _ rfl rfl (fun g => by have g1 : (h 6 1).2 ≠ -1 := g.1; have g2 : (h 4 1).2 ≠ -1 := g.2.1; have g3 : (h 6 1).2 = (h 4 1).2 := g.2.2.1; have g4 : 0 ≤ n := g.2.2.2.1; have g5 : 0 ≤ i := g.2.2.2.2.1.1; have g6 : i + n ≤ (h 6 2).2 := g.2.2.2.2.1.2; have g7 : 0 ≤ j := g.2.2.2.2.2.1; have g8 : j + n ≤ (h 4 2).2 := g.2.2.2.2.2.2; omega)
      · intros
        exact fail 2 1 _ rfl rfl (fun g => by have g1 : (h 6 1).2 ≠ -1 := g.1; have g2 : (h 4 1).2 ≠ -1 := g.2.1; have g3 : (h 6 1).2 = (h 4 1).2 := g.2.2.1; have g4 : 0 ≤ n := g.2.2.2.1; have g5 : 0 ≤ i := g.2.2.2.2.1.1; have g6 : i + n ≤ (h 6 2).2 := g.2.2.2.2.1.2; have g7 : 0 ≤ j := g.2.2.2.2.2.1; have g8 : j + n ≤ (h 4 2).2 := g.2.2.2.2.2.2; omega)
      · intros
        exact fail 2 1 _ rfl rfl (fun g => by have g1 : (h 6 1).2 ≠ -1 := g.1; have g2 : (h 4 1).2 ≠ -1 := g.2.1; have g3 : (h 6 1).2 = (h 4 1).2 := g.2.2.1; have g4 : 0 ≤ n := g.2.2.2.1; have g5 : 0 ≤ i := g.2.2.2.2.1.1; have g6 : i + n ≤ (h 6 2).2 := g.2.2.2.2.1.2; have g7 : 0 ≤ j := g.2.2.2.2.2.1; have g8 : j + n ≤ (h 4 2).2 := g.2.2.2.2.2.2; omega)
      · intros
        exact fail 2 1 _ rfl rfl (fun g => by have g1 : (h 6 1).2 ≠ -1 := g.1; have g2 : (h 4 1).2 ≠ -1 := g.2.1; have g3 : (h 6 1).2 = (h 4 1).2 := g.2.2.1; have g4 : 0 ≤ n := g.2.2.2.1; have g5 : 0 ≤ i := g.2.2.2.2.1.1; have g6 : i + n ≤ (h 6 2).2 := g.2.2.2.2.1.2; have g7 : 0 ≤ j := g.2.2.2.2.2.1; have g8 : j + n ≤ (h 4 2).2 := g.2.2.2.2.2.2; omega)
      · intros
        exact fail 2 1 _ rfl rfl (fun g => by have g1 : (h 6 1).2 ≠ -1 := g.1; have g2 : (h 4 1).2 ≠ -1 := g.2.1; have g3 : (h 6 1).2 = (h 4 1).2 := g.2.2.1; have g4 : 0 ≤ n := g.2.2.2.1; have g5 : 0 ≤ i := g.2.2.2.2.1.1; have g6 : i + n ≤ (h 6 2).2 := g.2.2.2.2.1.2; have g7 : 0 ≤ j := g.2.2.2.2.2.1; have g8 : j + n ≤ (h 4 2).2 := g.2.2.2.2.2.2; omega)
      · intros
        exact fail 2 1 _ rfl rfl (fun g => by have g1 : (h 6 1).2 ≠ -1 := g.1; have g2 : (h 4 1).2 ≠ -1 := g.2.1; have g3 : (h 6 1).2 = (h 4 1).2 := g.2.2.1; have g4 : 0 ≤ n := g.2.2.2.1; have g5 : 0 ≤ i := g.2.2.2.2.1.1; have g6 : i + n ≤ (h 6 2).2 := g.2.2.2.2.1.2; have g7 : 0 ≤ j := g.2.2.2.2.2.1; have g8 : j + n ≤ (h 4 2).2 := g.2.2.2.2.2.2; omega)
      · intros
        exact fail 2 1 _ rfl rfl (fun g => by have g1 : (h 6 1).2 ≠ -1 := g.1; have g2 : (h 4 1).2 ≠ -1 := g.2.1; have g3 : (h 6 1).2 = (h 4 1).2 := g.2.2.1; have g4 : 0 ≤ n := g.2.2.2.1; have g5 : 0 ≤ i := g.2.2.2.2.1.1; have g6 : i + n ≤ (h 6 2).2 := g.2.2.2.2.1.2; have g7 : 0 ≤ j := g.2.2.2.2.2.1; have g8 : j + n ≤ (h 4 2).2 := g.2.2.2.2.2.2; omega)
      · intro c0 c1 c2 c3 c4 c5 c6 c7 c8 c9 c10 c11 c12
        refine Or.inr ⟨2, 1, by decide, by decide, ⟨rfl, rfl, (?_ : (h 6 1).2 ≠ -1), (?_ : (h 4 1).2 ≠ -1), (?_ : (h 6 1).2 = (h 4 1).2), ?_, ⟨?_, (?_ : i + n ≤ (h 6 2).2)⟩, ?_, (?_ : j + n ≤ (h 4 2).2)⟩, rfl, rfl⟩ <;> first | assumption | omega
      · intros
        exact fail 2 1 _ rfl rfl (fun g => by have g1 : (h 6 1).2 ≠ -1 := g.1; have g2 : (h 4 1).2 ≠ -1 := g.2.1; have g3 : (h 6 1).2 = (h 4 1).2 := g.2.2.1; have g4 : 0 ≤ n := g.2.2.2.1; have g5 : 0 ≤ i := g.2.2.2.2.1.1; have g6 : i + n ≤ (h 6 2).2 := g.2.2.2.2.1.2; have g7 : 0 ≤ j := g.2.2.2.2.2.1; have g8 : j + n ≤ (h 4 2).2 := g.2.2.2.2.2.2; omega)
    · subst e; subst f
      refine y_X11_pour_2_2 hT hO i j n hv (hL 2 (by decide)) (hL 2 (by decide)) hn ?_ ?_ ?_ ?_ ?_ ?_ ?_ ?_
      · intros
        exact fail 2 2 _ rfl rfl (fun g => by have g1 : (h 6 1).2 ≠ -1 := g.1; have g2 : (h 6 1).2 ≠ -1 := g.2.1; have g3 : (h 6 1).2 = (h 6 1).2 := g.2.2.1; have g4 : 0 ≤ n := g.2.2.2.1; have g5 : 0 ≤ i := g.2.2.2.2.1.1; have g6 : i + n ≤ (h 6 2).2 := g.2.2.2.2.1.2; have g7 : 0 ≤ j := g.2.2.2.2.2.1; have g8 : j + n ≤ (h 6 2).2 := g.2.2.2.2.2.2; omega)
      · intros
        exact fail 2 2 _ rfl rfl (fun g => by have g1 : (h 6 1).2 ≠ -1 := g.1; have g2 : (h 6 1).2 ≠ -1 := g.2.1; have g3 : (h 6 1).2 = (h 6 1).2 := g.2.2.1; have g4 : 0 ≤ n := g.2.2.2.1; have g5 : 0 ≤ i := g.2.2.2.2.1.1; have g6 : i + n ≤ (h 6 2).2 := g.2.2.2.2.1.2; have g7 : 0 ≤ j := g.2.2.2.2.2.1; have g8 : j + n ≤ (h 6 2).2 := g.2.2.2.2.2.2; omega)
      · intros
        exact fail 2 2 _ rfl rfl (fun g => by have g1 : (h 6 1).2 ≠ -1 := g.1; have g2 : (h 6 1).2 ≠ -1 := g.2.1; have g3 : (h 6 1).2 = (h 6 1).2 := g.2.2.1; have g4 : 0 ≤ n := g.2.2.2.1; have g5 : 0 ≤ i := g.2.2.2.2.1.1; have g6 : i + n ≤ (h 6 2).2 := g.2.2.2.2.1.2; have g7 : 0 ≤ j := g.2.2.2.2.2.1; have g8 : j + n ≤ (h 6 2).2 := g.2.2.2.2.2.2; omega)
      · intros
        exact fail 2 2 _ rfl rfl (fun g => by have g1 : (h 6 1).2 ≠ -1 := g.1; have g2 : (h 6 1).2 ≠ -1 := g.2.1; have g3 : (h 6 1).2 = (h 6 1).2 := g.2.2.1; have g4 : 0 ≤ n := g.2.2.2.1; have g5 : 0 ≤ i := g.2.2.2.2.1.1; have g6 : i + n ≤ (h 6 2).2 := g.2.2.2.2.1.2; have g7 : 0 ≤ j := g.2.2.2.2.2.1; have g8 : j + n ≤ (h 6 2).2 := g.2.2.2.2.2.2; omega)
      · intros
        exact fail 2 2 _ rfl rfl (fun g => by have g1 : (h 6 1).2 ≠ -1 := g.1; have g2 : (h 6 1).2 ≠ -1 := g.2.1; have g3 : (h 6 1).2 = (h 6 1).2 := g.2.2.1; have g4 : 0 ≤ n := g.2.2.2.1; have g5 : 0 ≤ i := g.2.2.2.2.1.1; have g6 : i + n ≤ (h 6 2).2 := g.2.2.2.2.1.2; have g7 : 0 ≤ j := g.2.2.2.2.2.1; have g8 : j + n ≤ (h 6 2).2 := g.2.2.2.2.2.2; omega)
      · intros
        exact fail 2 2 _ rfl rfl (fun g => by have g1 : (h 6 1).2 ≠ -1 := g.1; have g2 : (h 6 1).2 ≠ -1 := g.2.1; have g3 : (h 6 1).2 = (h 6 1).2 := g.2.2.1; have g4 : 0 ≤ n := g.2.2.2.1; have g5 : 0 ≤ i := g.2.2.2.2.1.1; have g6 : i + n ≤ (h 6 2).2 := g.2.2.2.2.1.2; have g7 : 0 ≤ j := g.2.2.2.2.2.1; have g8 : j + n ≤ (h 6 2).2 := g.2.2.2.2.2.2; omega)
      · intro c0 c1 c2 c3 c4 c5 c6 c7 c8 c9 c10 c11
        refine Or.inr ⟨2, 2, by decide, by decide, ⟨rfl, rfl, (?_ : (h 6 1).2 ≠ -1), (?_ : (h 6 1).2 ≠ -1), (?_ : (h 6 1).2 = (h 6 1).2), ?_, ⟨?_, (?_ : i + n ≤ (h 6 2).2)⟩, ?_, (?_ : j + n ≤ (h 6 2).2)⟩, rfl, rfl⟩ <;> first | assumption | omega
      · intros
        exact fail 2 2 _ rfl rfl (fun g => by have g1 : (h 6 1).2 ≠ -1 := g.1; have g2 : (h 6 1).2 ≠ -1 := g.2.1; have g3 : (h 6 1).2 = (h 6 1).2 := g.2.2.1; have g4 : 0 ≤ n := g.2.2.2.1; have g5 : 0 ≤ i := g.2.2.2.2.1.1; have g6 : i + n ≤ (h 6 2).2 := g.2.2.2.2.1.2; have g7 : 0 ≤ j := g.2.2.2.2.2.1; have g8 : j + n ≤ (h 6 2).2 := g.2.2.2.2.2.2; omega)
    · subst e; subst f
      refine y_X11_pour_2_3 hT hO i j n hv (hL 2 (by decide)) (hL 3 (by decide)) hn ?_ ?_ ?_ ?_ ?_ ?_ ?_ ?_ ?_
      · intros
        exact fail 2 3 _ rfl rfl (fun g => by have g1 : (h 6 1).2 ≠ -1 := g.1; have g2 : (h 8 1).2 ≠ -1 := g.2.1; have g3 : (h 6 1).2 = (h 8 1).2 := g.2.2.1; have g4 : 0 ≤ n := g.2.2.2.1; have g5 : 0 ≤ i := g.2.2.2.2.1.1; have g6 : i + n ≤ (h 6 2).2 := g.2.2.2.2.1.2; have g7 : 0 ≤ j := g.2.2.2.2.2.1; have g8 : j + n ≤ (h 8 2).2 := g.2.2.2.2.2.2; omega)
      · intros
        exact fail 2 3 _ rfl rfl (fun g => by have g1 : (h 6 1).2 ≠ -1 := g.1; have g2 : (h 8 1).2 ≠ -1 := g.2.1; have g3 : (h 6 1).2 = (h 8 1).2 := g.2.2.1; have g4 : 0 ≤ n := g.2.2.2.1; have g5 : 0 ≤ i := g.2.2.2.2.1.1; have g6 : i + n ≤ (h 6 2).2 := g.2.2.2.2.1.2; have g7 : 0 ≤ j := g.2.2.2.2.2.1; have g8 : j + n ≤ (h 8 2).2 := g.2.2.2.2.2.2; omega)
      · intros
        exact fail 2 3 _ rfl rfl (fun g => by have g1 : (h 6 1).2 ≠ -1 := g.1; have g2 : (h 8 1).2 ≠ -1 := g.2.1; have g3 : (h 6 1).2 = (h 8 1).2 := g.2.2.1; have g4 : 0 ≤ n := g.2.2.2.1; have g5 : 0 ≤ i := g.2.2.2.2.1.1; have g6 : i + n ≤ (h 6 2).2 := g.2.2.2.2.1.2; have g7 : 0 ≤ j := g.2.2.2.2.2.1; have g8 : j + n ≤ (h 8 2).2 := g.2.2.2.2.2.2; omega)
      · intros
        exact fail 2 3 _ rfl rfl (fun g => by have g1 : (h 6 1).2 ≠ -1 := g.1; have g2 : (h 8 1).2 ≠ -1 := g.2.1; have g3 : (h 6 1).2 = (h 8 1).2 := g.2.2.1; have g4 : 0 ≤ n := g.2.2.2.1; have g5 : 0 ≤ i := g.2.2.2.2.1.1; have g6 : i + n ≤ (h 6 2).2 := g.2.2.2.2.1.2; have g7 : 0 ≤ j := g.2.2.2.2.2.1; have g8 : j + n ≤ (h 8 2).2 := g.2.2.2.2.2.2; omega)
      · intros
        exact fail 2 3 _ rfl rfl (fun g => by have g1 : (h 6 1).2 ≠ -1 := g.1; have g2 : (h 8 1).2 ≠ -1 := g.2.1; have g3 : (h 6 1).2 = (h 8 1).2 := g.2.2.1; have g4 : 0 ≤ n := g.2.2.2.1; have g5 : 0 ≤ i := g.2.2.2.2.1.1; have g6 : i + n ≤ (h 6 2).2 := g.2.2.2.2.1.2; have g7 : 0 ≤ j := g.2.2.2.2.2.1; have g8 : j + n ≤ (h 8 2).2 := g.2.2.2.2.2.2; omega)
      · intros
        exact fail 2 3 _ rfl rfl (fun g => by have g1 : (h 6 1).2 ≠ -1 := g.1; have g2 : (h 8 1).2 ≠ -1 := g.2.1; have g3 : (h 6 1).2 = (h 8 1).2 := g.2.2.1; have g4 : 0 ≤ n := g.2.2.2.1; have g5 : 0 ≤ i := g.2.2.2.2.1.1; have g6 : i + n ≤ (h 6 2).2 := g.2.2.2.2.1.2; have g7 : 0 ≤ j := g.2.2.2.2.2.1; have g8 : j + n ≤ (h 8 2).2 := g.2.2.2.2.2.2; omega)
      · intros
        exact fail 2 3 _ rfl rfl (fun g => by have g1 : (h 6 1).2 ≠ -1 := g.1; have g2 : (h 8 1).2 ≠ -1 := g.2.1; have g3 : (h 6 1).2 = (h 8 1).2 := g.2.2.1; have g4 : 0 ≤ n := g.2.2.2.1; have g5 : 0 ≤ i := g.2.2.2.2.1.1; have g6 : i + n ≤ (h 6 2).2 := g.2.2.2.2.1.2; have g7 : 0 ≤ j := g.2.2.2.2.2.1; have g8 : j + n ≤ (h 8 2).2 := g.2.2.2.2.2.2; omega)
      · intro c0 c1 c2 c3 c4 c5 c6 c7 c8 c9 c10 c11 c12
        refine Or.inr ⟨2, 3, by decide, by decide, ⟨rfl, rfl, (?_ : (h 6 1).2 ≠ -1), (?_ : (h 8 1).2 ≠ -1), (?_ : (h 6 1).2 = (h 8 1).2), ?_, ⟨?_, (?_ : i + n ≤ (h 6 2).2)⟩, ?_, (?_ : j + n ≤ (h 8 2).2)⟩, rfl, rfl⟩ <;> first | assumption | omega
      · intros
        exact fail 2 3 _ rfl rfl (fun g => by have g1 : (h 6 1).2 ≠ -1 := g.1; have g2 : (h 8 1).2 ≠ -1 := g.2.1; have g3 : (h 6 1).2 = (h 8 1).2 := g.2.2.1; have g4 : 0 ≤ n := g.2.2.2.1; have g5 : 0 ≤ i := g.2.2.2.2.1.1; have g6 : i + n ≤ (h 6 2).2 := g.2.2.2.2.1.2; have g7 : 0 ≤ j := g.2.2.2.2.2.1; have g8 : j + n ≤ (h 8 2).2 := g.2.2.2.2.2.2; omega)
  · rcases f0 with f | f | f | f
    · subst e; subst f
      refine y_X11_pour_3_0 hT hO i j n hv (hL 3 (by decide)) (hL 0 (by decide)) hn ?_ ?_ ?_ ?_ ?_ ?_ ?_ ?_ ?_
      · intros
        exact fail 3 0 _ rfl rfl (fun g => by have g1 : (h 8 1).2 ≠ -1 := g.1; have g2 : (h 2 1).2 ≠ -1 := g.2.1; have g3 : (h 8 1).2 = (h 2 1).2 := g.2.2.1; have g4 : 0 ≤ n := g.2.2.2.1; have g5 : 0 ≤ i := g.2.2.2.2.1.1; have g6 : i + n ≤ (h 8 2).2 := g.2.2.2.2.1.2; have g7 : 0 ≤ j := g.2.2.2.2.2.1; have g8 : j + n ≤ (h 2 2).2 := g.2.2.2.2.2.2; omega)
      · intros
        exact fail 3 0 _ rfl rfl (fun g => by have g1 : (h 8 1).2 ≠ -1 := g.1; have g2 : (h 2 1).2 ≠ -1 := g.2.1; have g3 : (h 8 1).2 = (h 2 1).2 := g.2.2.1; have g4 : 0 ≤ n := g.2.2.2.1; have g5 : 0 ≤ i := g.2.2.2.2.1.1; have g6 : i + n ≤ (h 8 2).2 := g.2.2.2.2.1.2; have g7 : 0 ≤ j := g.2.2.2.2.2.1; have g8 : j + n ≤ (h 2 2).2 := g.2.2.2.2.2.2; omega)
      · intros
        exact fail 3 0 _ rfl rfl (fun g => by have g1 : (h 8 1).2 ≠ -1 := g.1; have g2 : (h 2 1).2 ≠ -1 := g.2.1; have g3 : (h 8 1).2 = (h 2 1).2 := g.2.2.1; have g4 : 0 ≤ n := g.2.2.2.1; have g5 : 0 ≤ i := g.2.2.2.2.1.1; have g6 : i + n ≤ (h 8 2).2 := g.2.2.2.2.1.2; have g7 : 0 ≤ j := g.2.2.2.2.2.1; have g8 : j + n ≤ (h 2 2).2 := g.2.2.2.2.2.2; omega)
      · intros
        exact fail 3 0 _ rfl rfl (fun g => by have g1 : (h 8 1).2 ≠ -1 := g.1; have g2 : (h 2 1).2 ≠ -1 := g.2.1; have g3 : (h 8 1).2 = (h 2 1).2 := g.2.2.1; have g4 : 0 ≤ n := g.2.2.2.1; have g5 : 0 ≤ i := g.2.2.2.2.1.1; have g6 : i + n ≤ (h 8 2).2 := g.2.2.2.2.1.2; have g7 : 0 ≤ j := g.2.2.2.2.2.1; have g8 : j + n ≤ (h 2 2).2 := g.2.2.2.2.2.2; omega)
      · intros
        exact fail 3 0 _ rfl rfl (fun g => by have g1 : (h 8 1).2 ≠ -1 := g.1; have g2 : (h 2 1).2 ≠ -1 := g.2.1; have g3 : (h 8 1).2 = (h 2 1).2 := g.2.2.1; have g4 : 0 ≤ n := g.2.2.2.1; have g5 : 0 ≤ i := g.2.2.2.2.1.1; have g6 : i + n ≤ (h 8 2).2 := g.2.2.2.2.1.2; have g7 : 0 ≤ j := g.2.2.2.2.2.1; have g8 : j + n ≤ (h 2 2).2 := g.2.2.2.2.2.2; omega)
      · intros
        exact fail 3 0 _ rfl rfl (fun g => by have g1 : (h 8 1).2 ≠ -1 := g.1; have g2 : (h 2 1).2 ≠ -1 := g.2.1; have g3 : (h 8 1).2 = (h 2 1).2 := g.2.2.1; have g4 : 0 ≤ n := g.2.2.2.1; have g5 : 0 ≤ i := g.2.2.2.2.1.1; have g6 : i + n ≤ (h 8 2).2 := g.2.2.2.2.1.2; have g7 : 0 ≤ j := g.2.2.2.2.2.1; have g8 : j + n ≤ (h 2 2).2 := g.2.2.2.2.2.2; omega)
      · intros
        exact fail 3 0 _ rfl rfl (fun g => by have g1 : (h 8 1).2 ≠ -1 := g.1; have g2 : (h 2 1).2 ≠ -1 := g.2.1; have g3 : (h 8 1).2 = (h 2 1).2 := g.2.2.1; have g4 : 0 ≤ n := g.2.2.2.1; have g5 : 0 ≤ i := g.2.2.2.2.1.1; have g6 : i + n ≤ (h 8 2).2 := g.2.2.2.2.1.2; have g7 : 0 ≤ j := g.2.2.2.2.2.1; have g8 : j + n ≤ (h 2 2).2 := g.2.2.2.2.2.2; omega)
      · intro c0 c1 c2 c3 c4 c5 c6 c7 c8 c9 c10 c11 c12
        refine Or.inr ⟨3, 0, by decide, by decide, ⟨rfl, rfl, (?_ : (h 8 1).2 ≠ -1), (?_ : (h 2 1).2 ≠ -1), (?_ : (h 8 1).2 = (h 2 1).2), ?_, ⟨?_, (?_ : i + n ≤ (h 8 2).2)⟩, ?_, (?_ : j + n ≤ (h 2 2).2)⟩, rfl, rfl⟩ <;> first | assumption | omega
      · intros
        exact fail 3 0 _ rfl rfl (fun g => by have g1 : (h 8 1).2 ≠ -1 := g.1; have g2 : (h 2 1).2 ≠ -1 := g.2.1; have g3 : (h 8 1).2 = (h 2 1).2 := g.2.2.1; have g4 : 0 ≤ n := g.2.2.2.1; have g5 : 0 ≤ i := g.2.2.2.2.1.1; have g6 : i + n ≤ (h 8 2).2 := g.2.2.2.2.1.2; have g7 : 0 ≤ j := g.2.2.2.2.2.1; have g8 : j + n ≤ (h 2 2).2 := g.2.2.2.2.2.2; omega)
    · subst e; subst f
      refine y_X11_pour_3_1 hT hO i j n hv (hL 3 (by decide)) (hL 1 (by decide)) hn ?_ ?_ ?_ ?_ ?_ ?_ ?_ ?_ ?_
      · intros
        exact fail 3 1 _ rfl rfl (fun g => by have g1 : (h 8 1).2 ≠ -1 := g.1; have g2 : (h 4 1).2 ≠ -1 := g.2.1; have g3 : (h 8 1).2 = (h 4 1).2 := g.2.2.1; have g4 : 0 ≤ n := g.2.2.2.1; have g5 : 0 ≤ i := g.2.2.2.2.1.1; have g6 : i + n ≤ (h 8 2).2 := g.2.2.2.2.1.2; have g7 : 0 ≤ j := g.2.2.2.2.2.1; have g8 : j + n ≤ (h 4 2).2 := g.2.2.2.2.2.2; omega)
      · intros
        exact fail 3 1 _ rfl rfl (fun g => by have g1 : (h 8 1).2 ≠ -1 := g.1; have g2 : (h 4 1).2 ≠ -1 := g.2.1; have g3 : (h 8 1).2 = (h 4 1).2 := g.2.2.1; have g4 : 0 ≤ n := g.2.2.2.1; have g5 : 0 ≤ i := g.2.2.2.2.1.1; have g6 : i + n ≤ (h 8 2).2 := g.2.2.2.2.1.2; have g7 : 0 ≤ j := g.2.2.2.2.2.1; have g8 : j + n ≤ (h 4 2).2 := g.2.2.2.2.2.2; omega)
      · intros
        exact fail 3 1 _ rfl rfl (fun g => by have g1 : (h 8 1).2 ≠ -1 := g.1; have g2 : (h 4 1).2 ≠ -1 := g.2.1; have g3 : (h 8 1).2 = (h 4 1).2 := g.2.2.1; have g4 : 0 ≤ n := g.2.2.2.1; have g5 : 0 ≤ i := g.2.2.2.2.1.1; have g6 : i + n ≤ (h 8 2).2 := g.2.2.2.2.1.2; have g7 : 0 ≤ j := g.2.2.2.2.2.1; have g8 : j + n ≤ (h 4 2).2 := g.2.2.2.2.2.2; omega)
      · intros
        exact fail 3 1 _ rfl rfl (fun g => by have g1 : (h 8 1).2 ≠ -1 := g.1; have g2 : (h 4 1).2 ≠ -1 := g.2.1; have g3 : (h 8 1).2 = (h 4 1).2 := g.2.2.1; have g4 : 0 ≤ n := g.2.2.2.1; have g5 : 0 ≤ i := g.2.2.2.2.1.1; have g6 : i + n ≤ (h 8 2).2 := g.2.2.2.2.1.2; have g7 : 0 ≤ j := g.2.2.2.2.2.1; have g8 : j + n ≤ (h 4 2).2 := g.2.2.2.2.2.2; omega)
      · intros
        exact fail 3 1 _ rfl rfl (fun g => by have g1 : (h 8 1).2 ≠ -1 := g.1; have g2 : (h 4 1).2 ≠ -1 := g.2.1; have g3 : (h 8 1).2 = (h 4 1).2 := g.2.2.1; have g4 : 0 ≤ n := g.2.2.2.1; have g5 : 0 ≤ i := g.2.2.2.2.1.1; have g6 : i + n ≤ (h 8 2).2 := g.2.2.2.2.1.2; have g7 : 0 ≤ j := g.2.2.2.2.2.1; have g8 : j + n ≤ (h 4 2).2 := g.2.2.2.2.2.2; omega)
      · intros
        exact fail 3 1 _ rfl rfl (fun g => by have g1 : (h 8 1).2 ≠ -1 := g.1; have g2 : (h 4 1).2 ≠ -1 := g.2.1; have g3 : (h 8 1).2 = (h 4 1).2 := g.2.2.1; have g4 : 0 ≤ n := g.2.2.2.1; have g5 : 0 ≤ i := g.2.2.2.2.1.1; have g6 : i + n ≤ (h 8 2).2 := g.2.2.2.2.1.2; have g7 : 0 ≤ j := g.2.2.2.2.2.1; have g8 : j + n ≤ (h 4 2).2 := g.2.2.2.2.2.2; omega)
      · intros
        exact fail 3 1 _ rfl rfl (fun g => by have g1 : (h 8 1).2 ≠ -1 := g.1; have g2 : (h 4 1).2 ≠ -1 := g.2.1; have g3 : (h 8 1).2 = (h 4 1).2 := g.2.2.1; have g4 : 0 ≤ n := g.2.2.2.1; have g5 : 0 ≤ i := g.2.2.2.2.1.1; have g6 : i + n ≤ (h 8 2).2 := g.2.2.2.2.1.2; have g7 : 0 ≤ j := g.2.2.2.2.2.1; have g8 : j + n ≤ (h 4 2).2 := g.2.2.2.2.2.2; omega)
      · intro c0 c1 c2 c3 c4 c5 c6 c7 c8 c9 c10 c11 c12
        refine Or.inr ⟨3, 1, by decide, by decide, ⟨rfl, rfl, (?_ : (h 8 1).2 ≠ -1), (?_ : (h 4 1).2 ≠ -1), (?_ : (h 8 1).2 = (h 4 1).2), ?_, ⟨?_, (?_ : i + n ≤ (h 8 2).2)⟩, ?_, (?_ : j + n ≤ (h 4 2).2)⟩, rfl, rfl⟩ <;> first | assumption | omega
      · intros
        exact fail 3 1 _ rfl rfl (fun g => by have g1 : (h 8 1).2 ≠ -1 := g.1; have g2 : (h 4 1).2 ≠ -1 := g.2.1; have g3 : (h 8 1).2 = (h 4 1).2 := g.2.2.1; have g4 : 0 ≤ n := g.2.2.2.1; have g5 : 0 ≤ i := g.2.2.2.2.1.1; have g6 : i + n ≤ (h 8 2).2 := g.2.2.2.2.1.2; have g7 : 0 ≤ j := g.2.2.2.2.2.1; have g8 : j + n ≤ (h 4 2).2 := g.2.2.2.2.2.2; omega)
    · subst e; subst f
      refine y_X11_pour_3_2 hT hO i j n hv (hL 3 (by decide)) (hL 2 (by decide)) hn ?_ ?_ ?_ ?_ ?_ ?_ ?_ ?_ ?_
      · intros
        exact fail 3 2 _ rfl rfl (fun g => by have g1 : (h 8 1).2 ≠ -1 := g.1; have g2 : (h 6 1).2 ≠ -1 := g.2.1; have g3 : (h 8 1).2 = (h 6 1).2 := g.2.2.1; have g4 : 0 ≤ n := g.2.2.2.1; have g5 : 0 ≤ i := g.2.2.2.2.1.1; have g6 : i + n ≤ (h 8 2).2 := g.2.2.2.2.1.2; have g7 : 0 ≤ j := g.2.2.2.2.2.1; have g8 : j + n ≤ (h 6 2).2 := g.2.2.2.2.2.2; omega)
      · intros
        exact fail 3 2 _ rfl rfl (fun g => by have g1 : (h 8 1).2 ≠ -1 := g.1; have g2 : (h 6 1).2 ≠ -1 := g.2.1; have g3 : (h 8 1).2 = (h 6 1).2 := g.2.2.1; have g4 : 0 ≤ n := g.2.2.2.1; have g5 : 0 ≤ i := g.2.2.2.2.1.1; have g6 : i + n ≤ (h 8 2).2 := g.2.2.2.2.1.2; have g7 : 0 ≤ j := g.2.2.2.2.2.1; have g8 : j + n ≤ (h 6 2).2 := g.2.2.2.2.2.2; omega)
      · intros
        exact fail 3 2 _ rfl rfl (fun g => by have g1 : (h 8 1).2 ≠ -1 := g.1; have g2 : (h 6 1).2 ≠ -1 := g.2.1; have g3 : (h 8 1).2 = (h 6 1).2 := g.2.2.1; have g4 : 0 ≤ n := g.2.2.2.1; have g5 : 0 ≤ i := g.2.2.2.2.1.1; have g6 : i + n ≤ (h 8 2).2 := g.2.2.2.2.1.2; have g7 : 0 ≤ j := g.2.2.2.2.2.1; have g8 : j + n ≤ (h 6 2).2 := g.2.2.2.2.2.2; omega)
      · intros
        exact fail 3 2 _ rfl rfl (fun g => by have g1 : (h 8 1).2 ≠ -1 := g.1; have g2 : (h 6 1).2 ≠ -1 := g.2.1; have g3 : (h 8 1).2 = (h 6 1).2 := g.2.2.1; have g4 : 0 ≤ n := g.2.2.2.1; have g5 : 0 ≤ i := g.2.2.2.2.1.1; have g6 : i + n ≤ (h 8 2).2 := g.2.2.2.2.1.2; have g7 : 0 ≤ j := g.2.2.2.2.2.1; have g8 : j + n ≤ (h 6 2).2 := g.2.2.2.2.2.2; omega)
      · intros
        exact fail 3 2 _ rfl rfl (fun g => by have g1 : (h 8 1).2 ≠ -1 := g.1; have g2 : (h 6 1).2 ≠ -1 := g.2.1; have g3 : (h 8 1).2 = (h 6 1).2 := g.2.2.1; have g4 : 0 ≤ n := g.2.2.2.1; have g5 : 0 ≤ i := g.2.2.2.2.1.1; have g6 : i + n ≤ (h 8 2).2 := g.2.2.2.2.1.2; have g7 : 0 ≤ j := g.2.2.2.2.2.1; have g8 : j + n ≤ (h 6 2).2 := g.2.2.2.2.2.2; omega)
      · intros
        exact fail 3 2 _ rfl rfl (fun g => by have g1 : (h 8 1).2 ≠ -1 := g.1; have g2 : (h 6 1).2 ≠ -1 := g.2.1; have g3 : (h 8 1).2 = (h 6 1).2 := g.2.2.1; have g4 : 0 ≤ n := g.2.2.2.1; have g5 : 0 ≤ i := g.2.2.2.2.1.1; have g6 : i + n ≤ (h 8 2).2 := g.2.2.2.2.1.2; have g7 : 0 ≤ j := g.2.2.2.2.2.1; have g8 : j + n ≤ (h 6 2).2 := g.2.2.2.2.2.2; omega)
      · intros
        exact fail 3 2 _ rfl rfl (fun g => by have g1 : (h 8 1).2 ≠ -1 := g.1; have g2 : (h 6 1).2 ≠ -1 := g.2.1; have g3 : (h 8 1).2 = (h 6 1).2 := g.2.2.1; have g4 : 0 ≤ n := g.2.2.2.1; have g5 : 0 ≤ i := g.2.2.2.2.1.1; have g6 : i + n ≤ (h 8 2).2 := g.2.2.2.2.1.2; have g7 : 0 ≤ j := g.2.2.2.2.2.1; have g8 : j + n ≤ (h 6 2).2 := g.2.2.2.2.2.2; omega)
      · intro c0 c1 c2 c3 c4 c5 c6 c7 c8 c9 c10 c11 c12
        refine Or.inr ⟨3, 2, by decide, by decide, ⟨rfl, rfl, (?_ : (h 8 1).2 ≠ -1), (?_ : (h 6 1).2 ≠ -1), (?_ : (h 8 1).2 = (h 6 1).2), ?_, ⟨?_, (?_ : i + n ≤ (h 8 2).2)⟩, ?_, (?_ : j + n ≤ (h 6 2).2)⟩, rfl, rfl⟩ <;> first | assumption | omega
      · intros
        exact fail 3 2 _ rfl rfl (fun g => by have g1 : (h 8 1).2 ≠ -1 := g.1; have g2 : (h 6 1).2 ≠ -1 := g.2.1; have g3 : (h 8 1).2 = (h 6 1).2 := g.2.2.1; have g4 : 0 ≤ n := g.2.2.2.1; have g5 : 0 ≤ i := g.2.2.2.2.1.1; have g6 : i + n ≤ (h 8 2).2 := g.2.2.2.2.1.2; have g7 : 0 ≤ j := g.2.2.2.2.2.1; have g8 : j + n ≤ (h 6 2).2 := g.2.2.2.2.2.2; omega)
    · subst e; subst f
      refine y_X11_pour_3_3 hT hO i j n hv (hL 3 (by decide)) (hL 3 (by decide)) hn ?_ ?_ ?_ ?_ ?_ ?_ ?_ ?_
      · intros
        exact fail 3 3 _ rfl rfl (fun g => by have g1 : (h 8 1).2 ≠ -1 := g.1; have g2 : (h 8 1).2 ≠ -1 := g.2.1; have g3 : (h 8 1).2 = (h 8 1).2 := g.2.2.1; have g4 : 0 ≤ n := g.2.2.2.1; have g5 : 0 ≤ i := g.2.2.2.2.1.1; have g6 : i + n ≤ (h 8 2).2 := g.2.2.2.2.1.2; have g7 : 0 ≤ j := g.2.2.2.2.2.1; have g8 : j + n ≤ (h 8 2).2 := g.2.2.2.2.2.2; omega)
      · intros
        exact fail 3 3 _ rfl rfl (fun g => by have g1 : (h 8 1).2 ≠ -1 := g.1; have g2 : (h 8 1).2 ≠ -1 := g.2.1; have g3 : (h 8 1).2 = (h 8 1).2 := g.2.2.1; have g4 : 0 ≤ n := g.2.2.2.1; have g5 : 0 ≤ i := g.2.2.2.2.1.1; have g6 : i + n ≤ (h 8 2).2 := g.2.2.2.2.1.2; have g7 : 0 ≤ j := g.2.2.2.2.2.1; have g8 : j + n ≤ (h 8 2).2 := g.2.2.2.2.2.2; omega)
      · intros
        exact fail 3 3 _ rfl rfl (fun g => by have g1 : (h 8 1).2 ≠ -1 := g.1; have g2 : (h 8 1).2 ≠ -1 := g.2.1; have g3 : (h 8 1).2 = (h 8 1).2 := g.2.2.1; have g4 : 0 ≤ n := g.2.2.2.1; have g5 : 0 ≤ i := g.2.2.2.2.1.1; have g6 : i + n ≤ (h 8 2).2 := g.2.2.2.2.1.2; have g7 : 0 ≤ j := g.2.2.2.2.2.1; have g8 : j + n ≤ (h 8 2).2 := g.2.2.2.2.2.2; omega)
      · intros
        exact fail 3 3 _ rfl rfl (fun g => by have g1 : (h 8 1).2 ≠ -1 := g.1; have g2 : (h 8 1).2 ≠ -1 := g.2.1; have g3 : (h 8 1).2 = (h 8 1).2 := g.2.2.1; have g4 : 0 ≤ n := g.2.2.2.1; have g5 : 0 ≤ i := g.2.2.2.2.1.1; have g6 : i + n ≤ (h 8 2).2 := g.2.2.2.2.1.2; have g7 : 0 ≤ j := g.2.2.2.2.2.1; have g8 : j + n ≤ (h 8 2).2 := g.2.2.2.2.2.2; omega)
      · intros
        exact fail 3 3 _ rfl rfl (fun g => by have g1 : (h 8 1).2 ≠ -1 := g.1; have g2 : (h 8 1).2 ≠ -1 := g.2.1; have g3 : (h 8 1).2 = (h 8 1).2 := g.2.2.1; have g4 : 0 ≤ n := g.2.2.2.1; have g5 : 0 ≤ i := g.2.2.2.2.1.1; have g6 : i + n ≤ (h 8 2).2 := g.2.2.2.2.1.2; have g7 : 0 ≤ j := g.2.2.2.2.2.1; have g8 : j + n ≤ (h 8 2).2 := g.2.2.2.2.2.2; omega)
      · intros
        exact fail 3 3 _ rfl rfl (fun g => by have g1 : (h 8 1).2 ≠ -1 := g.1; have g2 : (h 8 1).2 ≠ -1 := g.2.1; have g3 : (h 8 1).2 = (h 8 1).2 := g.2.2.1; have g4 : 0 ≤ n := g.2.2.2.1; have g5 : 0 ≤ i := g.2.2.2.2.1.1; have g6 : i + n ≤ (h 8 2).2 := g.2.2.2.2.1.2; have g7 : 0 ≤ j := g.2.2.2.2.2.1; have g8 : j + n ≤ (h 8 2).2 := g.2.2.2.2.2.2; omega)
      · intro c0 c1 c2 c3 c4 c5 c6 c7 c8 c9 c10 c11
        refine Or.inr ⟨3, 3, by decide, by decide, ⟨rfl, rfl, (?_ : (h 8 1).2 ≠ -1), (?_ : (h 8 1).2 ≠ -1), (?_ : (h 8 1).2 = (h 8 1).2), ?_, ⟨?_, (?_ : i + n ≤ (h 8 2).2)⟩, ?_, (?_ : j + n ≤ (h 8 2).2)⟩, rfl, rfl⟩ <;> first | assumption | omega
      · intros
        exact fail 3 3 _ rfl rfl (fun g => by have g1 : (h 8 1).2 ≠ -1 := g.1; have g2 : (h 8 1).2 ≠ -1 := g.2.1; have g3 : (h 8 1).2 = (h 8 1).2 := g.2.2.1; have g4 : 0 ≤ n := g.2.2.2.1; have g5 : 0 ≤ i := g.2.2.2.2.1.1; have g6 : i + n ≤ (h 8 2).2 := g.2.2.2.2.1.2; have g7 : 0 ≤ j := g.2.2.2.2.2.1; have g8 : j + n ≤ (h 8 2).2 := g.2.2.2.2.2.2; omega)
theorem urPo_lp {D : zD} {T : zT} (hT : hTab T) (hO : vOK T) {N : Nat} {h h0 : zH} {a i b j n : Int} {Q : zR → Prop} (rr : Int) (ha : 0 ≤ a ∧ a < 4) (hb : 0 ≤ b ∧ b < 4) (hi : 0 ≤ i ∧ i + n ≤ 60) (hj : 0 ≤ j ∧ j + n ≤ 60) (hn : 0 ≤ n) (hr : (rr = 1 ∧ i < j) ∨ (rr = 0 ∧ j ≤ i)) (h0e : ∀ y, h 124 y = h0 124 y) (l8 : Option zV) (k : ∀ h' : zH, (∀ x y : Nat, h' x y = if x = 124 ∧ 60 * b + j ≤ (y : Int) ∧ (y : Int) < 60 * b + j + n then (1, (h0 124 (60 * a + i + ((y : Int) - (60 * b + j))).toNat).2) else h x y) → Q (h', some (0, 1))) : vP D T N 291 158 h [some (2, 121), some (0, a), some (0, i), some (0, b), some (0, j), some (0, n), some (0, rr), some (0, 0), l8] [] Q := by
  refine vP_loop (D := D) (T := T) (mi := 291) (pc := 158) (Q := Q) (fun h' l => ∃ (m : Int) (o : Option zV), 0 ≤ m ∧ m ≤ n ∧ l = [some (2, 121), some (0, a), some (0, i), some (0, b), some (0, j), some (0, n), some (0, rr), some (0, m), o] ∧ ∀ x y : Nat, h' x y = if x = 124 ∧ (if rr = 0 then 60 * b + j ≤ (y : Int) ∧ (y : Int) < 60 * b + j + m else 60 * b + j + n - m ≤ (y : Int) ∧ (y : Int) < 60 * b + j + n) then (1, (h0 124 (60 * a + i + ((y : Int) - (60 * b + j))).toNat).2) else h x y) ?_ N h _ ⟨0, l8, Int.le_refl _, hn, rfl, fun x y => ?_⟩
  · rintro N h' l ⟨m, o, m0, m1, rfl, he⟩ ih
    refine vP_hv (fun hv' => y_X12_pour1o hT hO a i b j n rr m o hv' ha hb hi hj m0 ?_ ?_ ?_)
    · intro c1 c2 c3 c4 c5 c6
      have hji : j ≤ i := by omega
      refine ih _ _ ⟨m + 1, _, by omega, by omega, rfl, fun x y => ?_⟩
      have src : h' 124 (60 * a + i + m).toNat = h0 124 (60 * a + i + m).toNat := by
        rw [he, if_neg, h0e]
        rintro ⟨-, f⟩
        rw [if_pos c2] at f
        omega
      rw [src]
      by_cases e : x = 124 ∧ y = (60 * b + j + m).toNat
      · rw [show zset h' 124 (60 * b + j + m).toNat (1, (h0 124 (60 * a + i + m).toNat).2) x y = (1, (h0 124 (60 * a + i + m).toNat).2) from if_pos e, if_pos ⟨e.1, by rw [if_pos c2]; omega⟩]
        have : 60 * a + i + ((y : Int) - (60 * b + j)) = 60 * a + i + m := by omega
        rw [this]
      · rw [zset_ne e, he]
        by_cases e2 : x = 124 ∧ (if rr = 0 then 60 * b + j ≤ (y : Int) ∧ (y : Int) < 60 * b + j + m else 60 * b + j + n - m ≤ (y : Int) ∧ (y : Int) < 60 * b + j + n)
        · rw [if_pos e2, if_pos ⟨e2.1, by have f := e2.2; rw [if_pos c2] at f ⊢; omega⟩]
        · rw [if_neg e2, if_neg]
          rintro ⟨f1, f2⟩
          refine e2 ⟨f1, ?_⟩
          rw [if_pos c2] at f2 ⊢
          have : y ≠ (60 * b + j + m).toNat := fun g => e ⟨f1, g⟩
          omega
    · intro c1 c2 c3 c4 c5 c6
      have hij : i < j := by omega
      refine ih _ _ ⟨m + 1, _, by omega, by omega, rfl, fun x y => ?_⟩
      have src : h' 124 (60 * a + i + (n - 1 - m)).toNat = h0 124 (60 * a + i + (n - 1 - m)).toNat := by
        rw [he, if_neg, h0e]
        rintro ⟨-, f⟩
        rw [if_neg c2] at f
        omega
      rw [src]
      by_cases e : x = 124 ∧ y = (60 * b + j + (n - 1 - m)).toNat
      · rw [show zset h' 124 (60 * b + j + (n - 1 - m)).toNat (1, (h0 124 (60 * a + i + (n - 1 - m)).toNat).2) x y = (1, (h0 124 (60 * a + i + (n - 1 - m)).toNat).2) from if_pos e, if_pos ⟨e.1, by rw [if_neg c2]; omega⟩]
        have : 60 * a + i + ((y : Int) - (60 * b + j)) = 60 * a + i + (n - 1 - m) := by omega
        rw [this]
      · rw [zset_ne e, he]
        by_cases e2 : x = 124 ∧ (if rr = 0 then 60 * b + j ≤ (y : Int) ∧ (y : Int) < 60 * b + j + m else 60 * b + j + n - m ≤ (y : Int) ∧ (y : Int) < 60 * b + j + n)
        · rw [if_pos e2, if_pos ⟨e2.1, by have f := e2.2; rw [if_neg c2] at f ⊢; omega⟩]
        · rw [if_neg e2, if_neg]
          rintro ⟨f1, f2⟩
          refine e2 ⟨f1, ?_⟩
          rw [if_neg c2] at f2 ⊢
          have : y ≠ (60 * b + j + (n - 1 - m)).toNat := fun g => e ⟨f1, g⟩
          omega
    · intro c1
      have hm : m = n := by omega
      subst hm
      refine k h' (fun x y => ?_)
      rw [he]
      by_cases e2 : x = 124 ∧ 60 * b + j ≤ (y : Int) ∧ (y : Int) < 60 * b + j + m
      · rw [if_pos e2, if_pos]
        refine ⟨e2.1, ?_⟩
        split
        · exact e2.2
        · exact ⟨by omega, e2.2.2⟩
      · rw [if_neg e2, if_neg]
        rintro ⟨f1, f2⟩
        refine e2 ⟨f1, ?_⟩
        split at f2
        · exact f2
        · exact ⟨by omega, f2.2⟩
  · rw [if_neg]
    rintro ⟨-, f⟩
    split at f <;> omega
theorem urPo_ok {D : zD} {T : zT} (hT : hTab T) (hO : vOK T) {N : Nat} {h : zH} (a i b j n : Int) (hi : -2147483648 ≤ i ∧ i ≤ 2147483647) (hj : -2147483648 ≤ j ∧ j ≤ 2147483647) (hn : -2147483648 ≤ n ∧ n ≤ 2147483647) (hL : ∀ t : Nat, t < 4 → (h 123 t).2 ≤ 60) : vP D T N 291 0 h [some (2, 121), some (0, a), some (0, i), some (0, b), some (0, j), some (0, n), none, none, none] [] (urPo a i b j n h) := by
  refine vP_hv (fun hv => ?_)
  have z3 : ∀ w : zV, urK h (zset (zset (zset h 121 1 (0, 0)) 121 0 (0, 0)) 121 0 w) := fun w => (urK_z.trans urK_z).trans urK_z
  have e124 : ∀ y, zset (zset h 121 1 (0, 0)) 121 0 (0, 0) 124 y = h 124 y := fun y => by rw [zset_ne (by omega), zset_ne (by omega)]
  have fail : ∀ w : zV, (0 ≤ a → a < 4 → 0 ≤ b → b < 4 → ¬ upDd i j n h a.toNat b.toNat) → urPo a i b j n h (zset (zset (zset h 121 1 (0, 0)) 121 0 (0, 0)) 121 0 w, some (0, 0)) := fun w hf => Or.inl ⟨fun t u ht hu g => by
    obtain ⟨g1, g2, g3⟩ := g
    refine hf (by omega) (by omega) (by omega) (by omega) ?_
    rw [show a.toNat = t by omega, show b.toNat = u by omega]
    exact g3, rfl, z3 w⟩
  have good : ∀ h' : zH, 0 ≤ a → a < 4 → 0 ≤ b → b < 4 → upDd i j n h a.toNat b.toNat → (∀ x y : Nat, h' x y = if x = 124 ∧ 60 * b + j ≤ (y : Int) ∧ (y : Int) < 60 * b + j + n then (1, (h 124 (60 * a + i + ((y : Int) - (60 * b + j))).toNat).2) else zset (zset h 121 1 (0, 0)) 121 0 (0, 0) x y) → urPo a i b j n h (h', some (0, 1)) := fun h' a0 a1 b0 b1 g he => Or.inr ⟨a.toNat, b.toNat, by omega, by omega, ⟨by omega, by omega, g⟩, rfl, he⟩
  have hA : 0 ≤ a → a < 4 → (h 123 a.toNat).2 ≤ 60 := fun a0 a1 => hL a.toNat (by omega)
  have hB : 0 ≤ b → b < 4 → (h 123 b.toNat).2 ≤ 60 := fun a0 a1 => hL b.toNat (by omega)
  unfold upDd at fail good
  refine y_X12_pour hT hO a i b j n hv hi hj hn ?_ ?_ ?_ ?_ ?_ ?_ ?_ ?_ ?_ ?_ ?_ ?_ ?_ ?_
  · exact fun c => fail _ (fun _ _ _ _ => by omega)
  · exact fun _ _ c => fail _ (fun _ _ _ _ => by omega)
  · exact fun _ _ _ _ c => fail _ (fun _ _ _ _ => by omega)
  · exact fun _ _ _ _ _ c => fail _ (fun _ _ _ _ => by omega)
  · exact fun _ _ _ _ _ _ _ c => fail _ (fun _ _ _ _ => by omega)
  · exact fun _ _ _ _ _ _ _ _ c => fail _ (fun _ _ _ _ => by omega)
  · exact fun _ _ _ _ _ _ _ _ _ c => fail _ (fun _ _ _ _ => by omega)
  · exact fun _ _ _ _ _ _ _ _ _ _ c => fail _ (fun _ _ _ _ => by omega)
  · exact fun _ _ _ _ _ _ _ _ _ _ _ c => fail _ (fun _ _ _ _ => by omega)
  · intro a0 a1 b0 b1 m0 m1 s n0 i0 j0 i1 j1 ij
    have := hA a0 a1
    have := hB b0 b1
    exact urPo_lp hT hO 1 ⟨a0, a1⟩ ⟨b0, b1⟩ ⟨i0, by omega⟩ ⟨j0, by omega⟩ n0 (Or.inl ⟨rfl, ij⟩) e124 none (fun h' he => good h' a0 a1 b0 b1 ⟨m0, m1, s, n0, ⟨i0, i1⟩, j0, j1⟩ he)
  · intro a0 a1 b0 b1 m0 m1 s n0 i0 j0 i1 j1 ij
    have := hA a0 a1
    have := hB b0 b1
    exact urPo_lp hT hO 0 ⟨a0, a1⟩ ⟨b0, b1⟩ ⟨i0, by omega⟩ ⟨j0, by omega⟩ n0 (Or.inr ⟨rfl, ij⟩) e124 none (fun h' he => good h' a0 a1 b0 b1 ⟨m0, m1, s, n0, ⟨i0, i1⟩, j0, j1⟩ he)
  · exact fun _ _ _ _ _ _ c => fail _ (fun _ _ _ _ => by omega)
  · exact fun _ _ _ c => fail _ (fun _ _ _ _ => by omega)
  · exact fun _ c => fail _ (fun _ _ _ _ => by omega)
theorem ulRk_pour {D : zD} (hD : ∀ i, -2147483648 ≤ D.2 i ∧ D.2 i ≤ 2147483647) {h h1 h2 : zH} {k1 k2 k3 k4 k5 : Nat} {v1 v2 : Int} (hZ : lZ D h) (hZ1 : lZ D h1) (hR : ulR h) (z1 : zRun D TLw 614 172 0 (h, zargs 0 [(2, 0), (0, D.2 k1), (0, D.2 k2), (0, D.2 k3), (0, D.2 k4), (0, D.2 k5)], []) (h1, some (0, v1))) (f1 : aFr lM_172 h h1) (z2 : zRun D TLw 614 291 0 (h1, zargs 0 [(2, 121), (0, D.2 k1), (0, D.2 k2), (0, D.2 k3), (0, D.2 k4), (0, D.2 k5)], []) (h2, some (0, v2))) (f2 : aFr lM_291 h1 h2) : ulR h2 ∧ v1 = v2 := by
  have hi := hD k2
  have hj := hD k4
  have hn := hD k5
  generalize D.2 k1 = a at z1 z2
  generalize D.2 k2 = i at z1 z2 hi
  generalize D.2 k3 = b at z1 z2
  generalize D.2 k4 = j at z1 z2 hj
  generalize D.2 k5 = n at z1 z2 hn
  have c1 := hZ.run 8 z1 (Q := ucPo a i b j n h) (fun N => ucPo_ok TLw_T vOK_T a i b j n hn.2 (fun t ht => utLe hZ ht))
  have c2 := hZ1.run 9 z2 (Q := urPo a i b j n h1) (fun N => urPo_ok TLw_T vOK_T a i b j n hi hj hn (fun t ht => umLe hZ1 ht))
  have k1 : urK h h1 := urK_fr f1 (by decide +kernel)
  have k2 : ucK h1 h2 := ucK_fr f2 (by decide +kernel)
  have same : ∀ t u, t < 4 → u < 4 → (upC a i b j n h t u ↔ upD a i b j n h1 t u) := fun t u ht hu => by
    unfold upC upD upCc upDd
    rw [(k1 t ht).2.1, (k1 u hu).2.1, (k1 t ht).1, (k1 u hu).1]
    have bt := utLe hZ ht
    have bu := utLe hZ hu
    rcases hR t ht with ⟨x1, x2⟩ | ⟨⟨x1, x2⟩, ⟨x3, x4, x5⟩, -⟩
    · constructor
      · rintro ⟨-, -, g, -⟩; exact absurd x1 g
      · rintro ⟨-, -, g, -⟩; omega
    · rcases hR u hu with ⟨y1, y2⟩ | ⟨⟨y1, y2⟩, ⟨y3, y4, y5⟩, -⟩
      · constructor
        · rintro ⟨-, -, -, g, -⟩; exact absurd y1 g
        · rintro ⟨-, -, -, g, -⟩; omega
      · constructor
        · rintro ⟨e1, e2, g1, g2, g3, g4, ⟨g5, g6⟩, g7, g8⟩
          exact ⟨e1, e2, by omega, by omega, by omega, g4, ⟨g5, by omega⟩, g7, by omega⟩
        · rintro ⟨e1, e2, g1, g2, g3, g4, ⟨g5, g6⟩, g7, g8⟩
          exact ⟨e1, e2, by omega, by omega, by omega, g4, ⟨g5, by omega⟩, g7, by omega⟩
  rcases c1 with ⟨n1, e1, g1⟩ | ⟨t, u, ht, hu, w1, e1, g1⟩
  · have e1 : some ((0, v1) : zV) = some (0, 0) := e1
    rcases c2 with ⟨n2, e2, g2⟩ | ⟨t, u, ht, hu, w2, -, -⟩
    · have e2 : some ((0, v2) : zV) = some (0, 0) := e2
      cases e1; cases e2
      have g1 : ucK h h1 := g1
      have g2 : urK h1 h2 := g2
      exact ⟨fun t ht => utOk_cg ((g1 t ht).trans (k2 t ht)) ((k1 t ht).trans (g2 t ht)) (hR t ht), rfl⟩
    · exact absurd ((same t u ht hu).mpr w2) (n1 t u ht hu)
  · have e1 : some ((0, v1) : zV) = some (0, 1) := e1
    rcases c2 with ⟨n2, -, -⟩ | ⟨t', u', ht', hu', w2, e2, g2⟩
    · exact absurd ((same t u ht hu).mp w1) (n2 t u ht hu)
    · have e2 : some ((0, v2) : zV) = some (0, 1) := e2
      cases e1; cases e2
      have htt : t' = t := by have := w1.1; have := w2.1; omega
      have huu : u' = u := by have := w1.2.1; have := w2.2.1; omega
      subst htt; subst huu
      have g1 : h1 = zset (zcopy h (3 + 2 * t') i.toNat (3 + 2 * u') j.toNat n.toNat) 0 0 (0, 0) := g1
      have g2 : ∀ x y : Nat, h2 x y = if x = 124 ∧ 60 * b + j ≤ (y : Int) ∧ (y : Int) < 60 * b + j + n then (1, (h1 124 (60 * a + i + ((y : Int) - (60 * b + j))).toNat).2) else zset (zset h1 121 1 (0, 0)) 121 0 (0, 0) x y := g2
      have bt := utLe hZ ht
      have bu := utLe hZ hu
      obtain ⟨ea, eb, q1, q2, q3, q4, ⟨q5, q6⟩, q7, q8⟩ := w1
      have cSame : ∀ r k, r ≠ 3 + 2 * u' → r ≠ 0 → h1 r k = h r k := fun r k hr hr0 => by
        rw [g1, zset_ne (by omega)]
        exact vcopy_ne (fun c => hr c.1)
      have rSame : ∀ r k, r ≠ 124 → r ≠ 121 → h2 r k = h1 r k := fun r k hr hr0 => by
        rw [g2, if_neg (fun c => hr c.1), zset_ne (by omega), zset_ne (by omega)]
      refine ⟨fun v hv => ?_, rfl⟩
      obtain ⟨m1, m2, m3⟩ := k2 v hv
      obtain ⟨l1, l2, l3⟩ := k1 v hv
      have s1 : h2 (2 + 2 * v) 1 = h (2 + 2 * v) 1 := by rw [m1]; exact cSame _ _ (by omega) (by omega)
      have s2 : h2 (2 + 2 * v) 2 = h (2 + 2 * v) 2 := by rw [m2]; exact cSame _ _ (by omega) (by omega)
      have s3 : h2 122 v = h 122 v := by rw [rSame _ _ (by decide) (by decide)]; exact l1
      have s4 : h2 123 v = h 123 v := by rw [rSame _ _ (by decide) (by decide)]; exact l2
      have hv0 := hR v hv
      unfold utOk at hv0 ⊢
      rw [s1, s2, s3, s4]
      rcases hv0 with x | ⟨x1, x2, x3⟩
      · exact Or.inl x
      · refine Or.inr ⟨x1, x2, fun k hk hk2 => ?_⟩
        rw [m3 k hk]
        by_cases e : v = u' ∧ j ≤ (k : Int) ∧ (k : Int) < j + n
        · obtain ⟨e, ej, ek⟩ := e
          subst e
          have C : h1 (3 + 2 * v) k = h (3 + 2 * t') (i.toNat + (k - j.toNat)) := by
            rw [g1, zset_ne (by omega)]
            exact if_pos ⟨rfl, by omega, by omega⟩
          have R : h2 124 (60 * v + k) = (1, (h1 124 (60 * t' + (i.toNat + (k - j.toNat)))).2) := by
            rw [g2, if_pos ⟨rfl, by omega, by omega⟩]
            have : (60 * a + i + (((60 * v + k : Nat) : Int) - (60 * b + j))).toNat = 60 * t' + (i.toNat + (k - j.toNat)) := by omega
            rw [this]
          rw [C, R]
          show (h1 124 (60 * t' + (i.toNat + (k - j.toNat)))).2 = _
          rw [(k1 t' ht).2.2 _ (by omega)]
          rcases hR t' ht with y | ⟨-, -, y3⟩
          · exact absurd y.1 q1
          · exact y3 _ (by omega) (by omega)
        · have C : h1 (3 + 2 * v) k = h (3 + 2 * v) k := by
            rw [g1, zset_ne (by omega)]
            exact vcopy_ne (fun c => e ⟨by omega, by omega, by omega⟩)
          have R : h2 124 (60 * v + k) = h 124 (60 * v + k) := by
            rw [g2, if_neg, zset_ne (by omega), zset_ne (by omega)]
            · exact l3 k hk
            · rintro ⟨-, c1, c2⟩
              refine e ⟨?_, ?_, ?_⟩ <;> omega
          rw [C, R]
          exact x3 k hk hk2
section TF_24
variable {D : zD} {T : zT} {N : Nat} {h : zH} {P : PT}
theorem ct_no_24 (hT : hTab T) (hO : vOK T) (hP : cP 24 P h) (hb : fB P) (e7 : h 0 7 = (2, 24)) (x y : Int) (n : ¬ (0 ≤ y ∧ y < 4 ∧ 0 ≤ x ∧ x < P 0 2)) : vP D T N 186 0 h [some (2, 0), some (0, x), some (0, y), none, none, none, none] [] (fun r => r.2 = some (1, -1)) := by
  refine vP_hv (fun hv => qt_td0_24 (P := P) hT hO x y hv e7 hP.1.1 hP.1.2.1 hP.1.2.2.1 hP.1.2.2.2.1 hb.1 ?k0 ?k1 ?k2 ?k3 ?k4)
  case k2 => exact fun c1 c2 c3 c4 => absurd ⟨c1, c2, c3, c4⟩ n
  all_goals
    intros
    rfl
theorem ct_told_0_24 {j : Nat} {nu : Nat → Int} (hT : hTab T) (hO : vOK T) (hP : cP 24 P h) (hb : fB P) (e7 : h 0 7 = (2, 24)) (hj : (j : Int) < P 0 2) (hn : ∀ k, k < 5 → h 3 k = (1, nu k)) {so ln : Int} (z1 : h 2 1 = (0, so)) (z2 : h 2 2 = (0, ln)) : vP D T N 186 0 h [some (2, 0), some (0, (j : Int)), some (0, 0), none, none, none, none] [] (fun r => r.2 = some (1, if so = -1 ∨ ln < 5 then -1 else tdA P j nu)) := by
  have l3 := hb.1.2.2.1.2
  refine vP_hv (fun hv => qt_td0_24 (P := P) hT hO (j : Int) 0 hv e7 hP.1.1 hP.1.2.1 hP.1.2.2.1 hP.1.2.2.2.1 hb.1 (fun c => ?_) (fun _ _ c => ?_) (fun _ _ _ _ => ?_) (fun _ _ _ c => ?_) (fun _ c => ?_))
  · omega
  · omega
  · exact ct_32_0_24 hT hO hP hb (by omega) e7 hn z1 z2
  · omega
  · omega
theorem ct_told_1_24 {j : Nat} {nu : Nat → Int} (hT : hTab T) (hO : vOK T) (hP : cP 24 P h) (hb : fB P) (e7 : h 0 7 = (2, 24)) (hj : (j : Int) < P 0 2) (hn : ∀ k, k < 5 → h 5 k = (1, nu k)) {so ln : Int} (z1 : h 4 1 = (0, so)) (z2 : h 4 2 = (0, ln)) : vP D T N 186 0 h [some (2, 0), some (0, (j : Int)), some (0, 1), none, none, none, none] [] (fun r => r.2 = some (1, if so = -1 ∨ ln < 5 then -1 else tdA P j nu)) := by
  have l3 := hb.1.2.2.1.2
  refine vP_hv (fun hv => qt_td0_24 (P := P) hT hO (j : Int) 1 hv e7 hP.1.1 hP.1.2.1 hP.1.2.2.1 hP.1.2.2.2.1 hb.1 (fun c => ?_) (fun _ _ c => ?_) (fun _ _ _ _ => ?_) (fun _ _ _ c => ?_) (fun _ c => ?_))
  · omega
  · omega
  · exact ct_32_1_24 hT hO hP hb (by omega) e7 hn z1 z2
  · omega
  · omega
theorem ct_told_2_24 {j : Nat} {nu : Nat → Int} (hT : hTab T) (hO : vOK T) (hP : cP 24 P h) (hb : fB P) (e7 : h 0 7 = (2, 24)) (hj : (j : Int) < P 0 2) (hn : ∀ k, k < 5 → h 7 k = (1, nu k)) {so ln : Int} (z1 : h 6 1 = (0, so)) (z2 : h 6 2 = (0, ln)) : vP D T N 186 0 h [some (2, 0), some (0, (j : Int)), some (0, 2), none, none, none, none] [] (fun r => r.2 = some (1, if so = -1 ∨ ln < 5 then -1 else tdA P j nu)) := by
  have l3 := hb.1.2.2.1.2
  refine vP_hv (fun hv => qt_td0_24 (P := P) hT hO (j : Int) 2 hv e7 hP.1.1 hP.1.2.1 hP.1.2.2.1 hP.1.2.2.2.1 hb.1 (fun c => ?_) (fun _ _ c => ?_) (fun _ _ _ _ => ?_) (fun _ _ _ c => ?_) (fun _ c => ?_))
  · omega
  · omega
  · exact ct_32_2_24 hT hO hP hb (by omega) e7 hn z1 z2
  · omega
  · omega
theorem ct_told_3_24 {j : Nat} {nu : Nat → Int} (hT : hTab T) (hO : vOK T) (hP : cP 24 P h) (hb : fB P) (e7 : h 0 7 = (2, 24)) (hj : (j : Int) < P 0 2) (hn : ∀ k, k < 5 → h 9 k = (1, nu k)) {so ln : Int} (z1 : h 8 1 = (0, so)) (z2 : h 8 2 = (0, ln)) : vP D T N 186 0 h [some (2, 0), some (0, (j : Int)), some (0, 3), none, none, none, none] [] (fun r => r.2 = some (1, if so = -1 ∨ ln < 5 then -1 else tdA P j nu)) := by
  have l3 := hb.1.2.2.1.2
  refine vP_hv (fun hv => qt_td0_24 (P := P) hT hO (j : Int) 3 hv e7 hP.1.1 hP.1.2.1 hP.1.2.2.1 hP.1.2.2.2.1 hb.1 (fun c => ?_) (fun _ _ c => ?_) (fun _ _ _ _ => ?_) (fun _ _ _ c => ?_) (fun _ c => ?_))
  · omega
  · omega
  · exact ct_32_3_24 hT hO hP hb (by omega) e7 hn z1 z2
  · omega
  · omega
end TF_24
section TF_39
variable {D : zD} {T : zT} {N : Nat} {h : zH} {P : PT}
theorem ct_no_39 (hT : hTab T) (hO : vOK T) (hP : cP 39 P h) (hb : fB P) (e7 : h 0 7 = (2, 39)) (x y : Int) (n : ¬ (0 ≤ y ∧ y < 4 ∧ 0 ≤ x ∧ x < P 0 2)) : vP D T N 186 0 h [some (2, 0), some (0, x), some (0, y), none, none, none, none] [] (fun r => r.2 = some (1, -1)) := by
  refine vP_hv (fun hv => qt_td0_39 (P := P) hT hO x y hv e7 hP.1.1 hP.1.2.1 hP.1.2.2.1 hP.1.2.2.2.1 hb.1 ?k0 ?k1 ?k2 ?k3 ?k4)
  case k2 => exact fun c1 c2 c3 c4 => absurd ⟨c1, c2, c3, c4⟩ n
  all_goals
    intros
    rfl
theorem ct_told_0_39 {j : Nat} {nu : Nat → Int} (hT : hTab T) (hO : vOK T) (hP : cP 39 P h) (hb : fB P) (e7 : h 0 7 = (2, 39)) (hj : (j : Int) < P 0 2) (hn : ∀ k, k < 5 → h 3 k = (1, nu k)) {so ln : Int} (z1 : h 2 1 = (0, so)) (z2 : h 2 2 = (0, ln)) : vP D T N 186 0 h [some (2, 0), some (0, (j : Int)), some (0, 0), none, none, none, none] [] (fun r => r.2 = some (1, if so = -1 ∨ ln < 5 then -1 else tdA P j nu)) := by
  have l3 := hb.1.2.2.1.2
  refine vP_hv (fun hv => qt_td0_39 (P := P) hT hO (j : Int) 0 hv e7 hP.1.1 hP.1.2.1 hP.1.2.2.1 hP.1.2.2.2.1 hb.1 (fun c => ?_) (fun _ _ c => ?_) (fun _ _ _ _ => ?_) (fun _ _ _ c => ?_) (fun _ c => ?_))
  · omega
  · omega
  · exact ct_32_0_39 hT hO hP hb (by omega) e7 hn z1 z2
  · omega
  · omega
theorem ct_told_1_39 {j : Nat} {nu : Nat → Int} (hT : hTab T) (hO : vOK T) (hP : cP 39 P h) (hb : fB P) (e7 : h 0 7 = (2, 39)) (hj : (j : Int) < P 0 2) (hn : ∀ k, k < 5 → h 5 k = (1, nu k)) {so ln : Int} (z1 : h 4 1 = (0, so)) (z2 : h 4 2 = (0, ln)) : vP D T N 186 0 h [some (2, 0), some (0, (j : Int)), some (0, 1), none, none, none, none] [] (fun r => r.2 = some (1, if so = -1 ∨ ln < 5 then -1 else tdA P j nu)) := by
  have l3 := hb.1.2.2.1.2
  refine vP_hv (fun hv => qt_td0_39 (P := P) hT hO (j : Int) 1 hv e7 hP.1.1 hP.1.2.1 hP.1.2.2.1 hP.1.2.2.2.1 hb.1 (fun c => ?_) (fun _ _ c => ?_) (fun _ _ _ _ => ?_) (fun _ _ _ c => ?_) (fun _ c => ?_))
  · omega
  · omega
  · exact ct_32_1_39 hT hO hP hb (by omega) e7 hn z1 z2
  · omega
  · omega
theorem ct_told_2_39 {j : Nat} {nu : Nat → Int} (hT : hTab T) (hO : vOK T) (hP : cP 39 P h) (hb : fB P) (e7 : h 0 7 = (2, 39)) (hj : (j : Int) < P 0 2) (hn : ∀ k, k < 5 → h 7 k = (1, nu k)) {so ln : Int} (z1 : h 6 1 = (0, so)) (z2 : h 6 2 = (0, ln)) : vP D T N 186 0 h [some (2, 0), some (0, (j : Int)), some (0, 2), none, none, none, none] [] (fun r => r.2 = some (1, if so = -1 ∨ ln < 5 then -1 else tdA P j nu)) := by
  have l3 := hb.1.2.2.1.2
  refine vP_hv (fun hv => qt_td0_39 (P := P) hT hO (j : Int) 2 hv e7 hP.1.1 hP.1.2.1 hP.1.2.2.1 hP.1.2.2.2.1 hb.1 (fun c => ?_) (fun _ _ c => ?_) (fun _ _ _ _ => ?_) (fun _ _ _ c => ?_) (fun _ c => ?_))
  · omega
  · omega
  · exact ct_32_2_39 hT hO hP hb (by omega) e7 hn z1 z2
  · omega
  · omega
theorem ct_told_3_39 {j : Nat} {nu : Nat → Int} (hT : hTab T) (hO : vOK T) (hP : cP 39 P h) (hb : fB P) (e7 : h 0 7 = (2, 39)) (hj : (j : Int) < P 0 2) (hn : ∀ k, k < 5 → h 9 k = (1, nu k)) {so ln : Int} (z1 : h 8 1 = (0, so)) (z2 : h 8 2 = (0, ln)) : vP D T N 186 0 h [some (2, 0), some (0, (j : Int)), some (0, 3), none, none, none, none] [] (fun r => r.2 = some (1, if so = -1 ∨ ln < 5 then -1 else tdA P j nu)) := by
  have l3 := hb.1.2.2.1.2
  refine vP_hv (fun hv => qt_td0_39 (P := P) hT hO (j : Int) 3 hv e7 hP.1.1 hP.1.2.1 hP.1.2.2.1 hP.1.2.2.2.1 hb.1 (fun c => ?_) (fun _ _ c => ?_) (fun _ _ _ _ => ?_) (fun _ _ _ c => ?_) (fun _ c => ?_))
  · omega
  · omega
  · exact ct_32_3_39 hT hO hP hb (by omega) e7 hn z1 z2
  · omega
  · omega
end TF_39
theorem hv_arr {h : zH} {r n i t : Nat} {ty : FieldType} (hv : zHv h) (hs : zShape[r]? = some (.inl (ty, n))) (hc : (zcode ty != 4 && vTag (zcode ty) == t) = true) (hi : i < n) : h r i = (t, (h r i).2) := hv.at (by
  unfold vCode
  rw [hs]
  show (match (if i < n then some (zcode ty) else none) with
    | some c => c != 4 && vTag c == t
    | none => false) = true
  rw [if_pos hi]
  exact hc)
theorem rt_no {D : zD} {T : zT} {N : Nat} {h : zH} {P : PT} (hT : hTab T) (hO : vOK T) (hR : rBk 0 P h) (hb : fB P) (x y : Int) (n : ¬ (0 ≤ y ∧ y < 4 ∧ 0 ≤ x ∧ x < P 0 2)) : vP D T N 327 0 h [some (2, 121), some (0, x), some (0, y), none, none, none, none, none] [] (fun r => r.2 = some (1, -1)) := by
  refine vP_hv (fun hv => qs_td0 (P := P) hT hO x y hv hR.w hR.r hR.c hR.m hb.1 ?k0 ?k1 ?k2 ?k3 ?k4)
  case k4 => exact fun c1 c2 c3 c4 => absurd ⟨c1, by omega, c3, by omega⟩ n
  all_goals
    intros
    rfl
theorem rt_told {D : zD} {T : zT} {N : Nat} {h : zH} {P : PT} {t j : Nat} {nu : Nat → Int} {m : Int} (hT : hTab T) (hO : vOK T) (hR : rBk 0 P h) (hb : fB P) (ht : t < 4) (hj : (j : Int) < P 0 2) (zm : h 123 t = (0, m)) (hn : 5 ≤ m → ∀ k : Nat, k < 5 → h 124 ((60 * (t : Int)) + (k : Int)).toNat = (1, nu k)) : vP D T N 327 0 h [some (2, 121), some (0, (j : Int)), some (0, (t : Int)), none, none, none, none, none] [] (fun r => r.2 = some (1, if m < 5 then -1 else tdA P j nu)) := by
  have lb := hb.1
  have l3 := lb.2.2.1.2
  have hR2 : rBk 0 P (zset (zset h 121 1 (0, 0)) 121 0 (0, 0)) := (hR.z1 lb).z1 lb
  refine vP_hv (fun hv => qs_td0 (P := P) hT hO (j : Int) (t : Int) hv hR.w hR.r hR.c hR.m lb (fun c => ?_) (fun _ c => ?_) (fun _ _ c => ?_) (fun _ _ _ c => ?_) (fun _ _ _ _ => ?_))
  · omega
  · omega
  · omega
  · omega
  · refine vP_hv (fun hv => qs_td40 hT hO m hv ht ((zset_ne (by omega)).trans ((zset_ne (by omega)).trans zm)) (fun _ _ c => ?_) (fun _ _ c1 c => ?_) (fun _ _ c1 c => ?_))
    · show some ((1, -1) : zV) = some (1, if m < 5 then -1 else tdA P j nu)
      rw [if_pos (by omega)]
    · show some ((1, -1) : zV) = some (1, if m < 5 then -1 else tdA P j nu)
      rw [if_pos c]
    · rw [if_neg (by omega)]
      exact rt_L hT hO hR2 hb (by omega) ht (fun k hk => (zset_ne (by omega)).trans ((zset_ne (by omega)).trans (hn c k hk))) 5 0 N rfl (fun k hk => absurd hk (Nat.not_lt_zero _))
/-- the trays beside -/
def fT (h : zH) : Prop := fR h ∧ ulR h
abbrev fTS : aM := fpS ++ utSup
theorem fT_S : lRs fTS fT := fun h h' he hR => ⟨fR_S h h' (fun a k hi => he a k (aIn_l hi)) hR.1, ulR_S h h' (fun a k hi => he a k (aIn_r hi)) hR.2⟩
theorem fT_ini : fT hIni := ⟨fR_ini, ulR_ini⟩
theorem fT_K {M1 M2 : aM} {h h1 h2 : zH} (q1 : lFree utSup M1 = true) (q2 : lFree utSup M2 = true) (f1 : aFr M1 h h1) (f2 : aFr M2 h1 h2) (g : ulR h) : ulR h2 := ulR_S h h2 (fun a k hi => (f2.keep q2 hi).trans (f1.keep q1 hi)) g
theorem fT_feed {D : zD} (hD : ∀ i, -2147483648 ≤ D.2 i ∧ D.2 i ≤ 2147483647) {h h1 h2 : zH} {a b c d e v1 v2 : Int} (hZ : lZ D h) (hZ1 : lZ D h1) (hR : fT h) (z1 : zRun D TLw 614 155 0 (h, zargs 0 [(2, 0), (0, a), (0, b), (0, c), (0, d), (0, e)], []) (h1, some (0, v1))) (f1 : aFr lM_155 h h1) (z2 : zRun D TLw 614 227 0 (h1, zargs 0 [(2, 121), (0, a), (0, b), (0, c), (0, d), (0, e)], []) (h2, some (0, v2))) (f2 : aFr lM_227 h1 h2) : fT h2 ∧ v1 = v2 := by
  have R0 := fRk_feed hD hZ hZ1 hR.1 z1 f1 z2 f2
  exact ⟨⟨R0.1, fT_K (by decide +kernel) (by decide +kernel) f1 f2 hR.2⟩, R0.2⟩
theorem fT_land {D : zD} (hD : ∀ i, -2147483648 ≤ D.2 i ∧ D.2 i ≤ 2147483647) {h h1 h2 : zH} {n v1 v2 : Int} (hZ : lZ D h) (hZ1 : lZ D h1) (hR : fT h) (z1 : zRun D TLw 614 162 0 (h, zargs 0 [(2, 0), (0, n)], []) (h1, some (0, v1))) (f1 : aFr lM_162 h h1) (z2 : zRun D TLw 614 268 0 (h1, zargs 0 [(2, 121), (0, n)], []) (h2, some (0, v2))) (f2 : aFr lM_268 h1 h2) : fT h2 ∧ v1 = v2 := by
  have R0 := fRk_land hD hZ hZ1 hR.1 z1 f1 z2 f2
  exact ⟨⟨R0.1, fT_K (by decide +kernel) (by decide +kernel) f1 f2 hR.2⟩, R0.2⟩
theorem fT_orders {D : zD} (hD : ∀ i, -2147483648 ≤ D.2 i ∧ D.2 i ≤ 2147483647) {h h1 h2 : zH} {n v1 v2 : Int} (hZ : lZ D h) (hZ1 : lZ D h1) (hR : fT h) (z1 : zRun D TLw 614 170 0 (h, zargs 0 [(2, 0), (0, n)], []) (h1, some (0, v1))) (f1 : aFr lM_170 h h1) (z2 : zRun D TLw 614 289 0 (h1, zargs 0 [(2, 121), (0, n)], []) (h2, some (0, v2))) (f2 : aFr lM_289 h1 h2) : fT h2 ∧ v1 = v2 := by
  have R0 := fRk_orders hD hZ hZ1 hR.1 z1 f1 z2 f2
  exact ⟨⟨R0.1, fT_K (by decide +kernel) (by decide +kernel) f1 f2 hR.2⟩, R0.2⟩
theorem fT_bite {D : zD} (hD : ∀ i, -2147483648 ≤ D.2 i ∧ D.2 i ≤ 2147483647) {h h1 h2 : zH} {x y z v1 v2 : Int} (hZ : lZ D h) (hZ1 : lZ D h1) (hR : fT h) (z1 : zRun D TLw 614 146 0 (h, zargs 0 [(2, 0), (0, x), (0, y), (0, z)], []) (h1, some (0, v1))) (f1 : aFr lM_146 h h1) (z2 : zRun D TLw 614 202 0 (h1, zargs 0 [(2, 121), (0, x), (0, y), (0, z)], []) (h2, some (0, v2))) (f2 : aFr lM_202 h1 h2) : fT h2 ∧ v1 = v2 := by
  have R0 := fRk_bite hD hZ hZ1 hR.1 z1 f1 z2 f2
  exact ⟨⟨R0.1, fT_K (by decide +kernel) (by decide +kernel) f1 f2 hR.2⟩, R0.2⟩
theorem fT_mould {D : zD} (hD : ∀ i, -2147483648 ≤ D.2 i ∧ D.2 i ≤ 2147483647) {h h1 h2 : zH} {x y z v1 v2 : Int} (hZ : lZ D h) (hZ1 : lZ D h1) (hR : fT h) (z1 : zRun D TLw 614 168 0 (h, zargs 0 [(2, 0), (0, x), (0, y), (0, z)], []) (h1, some (0, v1))) (f1 : aFr lM_168 h h1) (z2 : zRun D TLw 614 279 0 (h1, zargs 0 [(2, 121), (0, x), (0, y), (0, z)], []) (h2, some (0, v2))) (f2 : aFr lM_279 h1 h2) : fT h2 ∧ v1 = v2 := by
  have R0 := fRk_mould hD hZ hZ1 hR.1 z1 f1 z2 f2
  exact ⟨⟨R0.1, fT_K (by decide +kernel) (by decide +kernel) f1 f2 hR.2⟩, R0.2⟩
theorem fT_honey {D : zD} (hD : ∀ i, -2147483648 ≤ D.2 i ∧ D.2 i ≤ 2147483647) {h h1 h2 : zH} {x y z v1 v2 : Int} (hZ : lZ D h) (hZ1 : lZ D h1) (hR : fT h) (z1 : zRun D TLw 614 160 0 (h, zargs 0 [(2, 0), (0, x), (0, y), (0, z)], []) (h1, some (0, v1))) (f1 : aFr lM_160 h h1) (z2 : zRun D TLw 614 239 0 (h1, zargs 0 [(2, 121), (0, x), (0, y), (0, z)], []) (h2, some (0, v2))) (f2 : aFr lM_239 h1 h2) : fT h2 ∧ v1 = v2 := by
  have R0 := fRk_honey hD hZ hZ1 hR.1 z1 f1 z2 f2
  exact ⟨⟨R0.1, fT_K (by decide +kernel) (by decide +kernel) f1 f2 hR.2⟩, R0.2⟩
theorem fT_clean {D : zD} (hD : ∀ i, -2147483648 ≤ D.2 i ∧ D.2 i ≤ 2147483647) {h h1 h2 : zH} {x y z v1 v2 : Int} (hZ : lZ D h) (hZ1 : lZ D h1) (hR : fT h) (z1 : zRun D TLw 614 149 0 (h, zargs 0 [(2, 0), (0, x), (0, y), (0, z)], []) (h1, some (0, v1))) (f1 : aFr lM_149 h h1) (z2 : zRun D TLw 614 208 0 (h1, zargs 0 [(2, 121), (0, x), (0, y), (0, z)], []) (h2, some (0, v2))) (f2 : aFr lM_208 h1 h2) : fT h2 ∧ v1 = v2 := by
  have R0 := fRk_clean hD hZ hZ1 hR.1 z1 f1 z2 f2
  exact ⟨⟨R0.1, fT_K (by decide +kernel) (by decide +kernel) f1 f2 hR.2⟩, R0.2⟩
theorem fT_steam {D : zD} (hD : ∀ i, -2147483648 ≤ D.2 i ∧ D.2 i ≤ 2147483647) {h h1 h2 : zH} {x y v1 v2 : Int} (hZ : lZ D h) (hZ1 : lZ D h1) (hR : fT h) (z1 : zRun D TLw 614 182 0 (h, zargs 0 [(2, 0), (0, x), (0, y)], []) (h1, some (0, v1))) (f1 : aFr lM_182 h h1) (z2 : zRun D TLw 614 316 0 (h1, zargs 0 [(2, 121), (0, x), (0, y)], []) (h2, some (0, v2))) (f2 : aFr lM_316 h1 h2) : fT h2 ∧ v1 = v2 := by
  have R0 := fRk_steam hD hZ hZ1 hR.1 z1 f1 z2 f2
  exact ⟨⟨R0.1, fT_K (by decide +kernel) (by decide +kernel) f1 f2 hR.2⟩, R0.2⟩
theorem fT_march {D : zD} (hD : ∀ i, -2147483648 ≤ D.2 i ∧ D.2 i ≤ 2147483647) {h h1 h2 : zH} {x v1 v2 : Int} (hZ : lZ D h) (hZ1 : lZ D h1) (hR : fT h) (z1 : zRun D TLw 614 164 0 (h, zargs 0 [(2, 0), (0, x)], []) (h1, some (0, v1))) (f1 : aFr lM_164 h h1) (z2 : zRun D TLw 614 274 0 (h1, zargs 0 [(2, 121), (0, x)], []) (h2, some (0, v2))) (f2 : aFr lM_274 h1 h2) : fT h2 ∧ v1 = v2 := by
  have R0 := fRk_march hD hZ hZ1 hR.1 z1 f1 z2 f2
  exact ⟨⟨R0.1, fT_K (by decide +kernel) (by decide +kernel) f1 f2 hR.2⟩, R0.2⟩
theorem fT_hand {D : zD} (hD : ∀ i, -2147483648 ≤ D.2 i ∧ D.2 i ≤ 2147483647) {h h1 h2 : zH} {x y v1 v2 : Int} (hZ : lZ D h) (hZ1 : lZ D h1) (hR : fT h) (z1 : zRun D TLw 614 158 0 (h, zargs 0 [(2, 0), (0, x), (0, y)], []) (h1, some (0, v1))) (f1 : aFr lM_158 h h1) (z2 : zRun D TLw 614 236 0 (h1, zargs 0 [(2, 121), (0, x), (0, y)], []) (h2, some (0, v2))) (f2 : aFr lM_236 h1 h2) : fT h2 ∧ v1 = v2 := by
  have R0 := fRk_hand hD hZ hZ1 hR.1 z1 f1 z2 f2
  exact ⟨⟨R0.1, fT_K (by decide +kernel) (by decide +kernel) f1 f2 hR.2⟩, R0.2⟩
theorem fT_supper {D : zD} (hD : ∀ i, -2147483648 ≤ D.2 i ∧ D.2 i ≤ 2147483647) {h h1 h2 : zH} {x y z v1 v2 : Int} (hZ : lZ D h) (hZ1 : lZ D h1) (hR : fT h) (z1 : zRun D TLw 614 184 0 (h, zargs 0 [(2, 0), (0, x), (0, y), (0, z)], []) (h1, some (0, v1))) (f1 : aFr lM_184 h h1) (z2 : zRun D TLw 614 321 0 (h1, zargs 0 [(2, 121), (0, x), (0, y), (0, z)], []) (h2, some (0, v2))) (f2 : aFr lM_321 h1 h2) : fT h2 ∧ True := by
  have R0 := fRw_supper hD hZ hZ1 hR.1 z1 f1 z2 f2
  exact ⟨⟨R0.1, fT_K (by decide +kernel) (by decide +kernel) f1 f2 hR.2⟩, R0.2⟩
theorem fT_cut {D : zD} (hD : ∀ i, -2147483648 ≤ D.2 i ∧ D.2 i ≤ 2147483647) {h h1 h2 : zH} {x v1 v2 : Int} (hZ : lZ D h) (hZ1 : lZ D h1) (hR : fT h) (z1 : zRun D TLw 614 153 0 (h, zargs 0 [(2, 0), (0, x)], []) (h1, some (0, v1))) (f1 : aFr lM_153 h h1) (z2 : zRun D TLw 614 217 0 (h1, zargs 0 [(2, 121), (0, x)], []) (h2, some (0, v2))) (f2 : aFr lM_217 h1 h2) : fT h2 ∧ True := by
  have R0 := fRw_cut hD hZ hZ1 hR.1 z1 f1 z2 f2
  exact ⟨⟨R0.1, fT_K (by decide +kernel) (by decide +kernel) f1 f2 hR.2⟩, R0.2⟩
theorem fT_worth {D : zD} (hD : ∀ i, -2147483648 ≤ D.2 i ∧ D.2 i ≤ 2147483647) {h h1 h2 : zH} {x y z v1 v2 : Int} (hZ : lZ D h) (hZ1 : lZ D h1) (hR : fT h) (z1 : zRun D TLw 614 194 0 (h, zargs 0 [(2, 0), (0, x), (0, y), (0, z)], []) (h1, some (0, v1))) (f1 : aFr lM_194 h h1) (z2 : zRun D TLw 614 337 0 (h1, zargs 0 [(2, 121), (0, x), (0, y), (0, z)], []) (h2, some (0, v2))) (f2 : aFr lM_337 h1 h2) : fT h2 ∧ True := by
  have R0 := fRw_worth hD hZ hZ1 hR.1 z1 f1 z2 f2
  exact ⟨⟨R0.1, fT_K (by decide +kernel) (by decide +kernel) f1 f2 hR.2⟩, R0.2⟩
theorem fT_mostWorth {D : zD} (hD : ∀ i, -2147483648 ≤ D.2 i ∧ D.2 i ≤ 2147483647) {h h1 h2 : zH} {x y v1 v2 : Int} (hZ : lZ D h) (hZ1 : lZ D h1) (hR : fT h) (z1 : zRun D TLw 614 167 0 (h, zargs 0 [(2, 0), (0, x), (0, y)], []) (h1, some (0, v1))) (f1 : aFr lM_167 h h1) (z2 : zRun D TLw 614 278 0 (h1, zargs 0 [(2, 121), (0, x), (0, y)], []) (h2, some (0, v2))) (f2 : aFr lM_278 h1 h2) : fT h2 ∧ True := by
  have R0 := fRw_mostWorth hD hZ hZ1 hR.1 z1 f1 z2 f2
  exact ⟨⟨R0.1, fT_K (by decide +kernel) (by decide +kernel) f1 f2 hR.2⟩, R0.2⟩
theorem fT_run {D : zD} (hD : ∀ i, -2147483648 ≤ D.2 i ∧ D.2 i ≤ 2147483647) {h h1 h2 : zH} {x v1 v2 : Int} (hZ : lZ D h) (hZ1 : lZ D h1) (hR : fT h) (z1 : zRun D TLw 614 178 0 (h, zargs 0 [(2, 0), (0, x)], []) (h1, some (0, v1))) (f1 : aFr lM_178 h h1) (z2 : zRun D TLw 614 307 0 (h1, zargs 0 [(2, 121), (0, x)], []) (h2, some (0, v2))) (f2 : aFr lM_307 h1 h2) : fT h2 ∧ v1 = v2 := by
  have R0 := fRk_run hD hZ hZ1 hR.1 z1 f1 z2 f2
  exact ⟨⟨R0.1, fT_K (by decide +kernel) (by decide +kernel) f1 f2 hR.2⟩, R0.2⟩
theorem fT_arrivals {D : zD} (hD : ∀ i, -2147483648 ≤ D.2 i ∧ D.2 i ≤ 2147483647) {h h1 h2 : zH} {x y z : Nat} {v1 v2 : Int} (hZ : lZ D h) (hZ1 : lZ D h1) (hR : fT h) (z1 : zRun D TLw 614 143 0 (h, zargs 0 [(2, 0), (0, D.2 x), (0, D.2 y), (0, D.2 z)], []) (h1, some (0, v1))) (f1 : aFr lM_143 h h1) (z2 : zRun D TLw 614 196 0 (h1, zargs 0 [(2, 121), (0, D.2 x), (0, D.2 y), (0, D.2 z)], []) (h2, some (0, v2))) (f2 : aFr lM_196 h1 h2) : fT h2 ∧ True := by
  have R0 := fRk_arrivals hD hZ hZ1 hR.1 z1 f1 z2 f2
  exact ⟨⟨R0.1, fT_K (by decide +kernel) (by decide +kernel) f1 f2 hR.2⟩, R0.2⟩
theorem fT_mark {D : zD} (hD : ∀ i, -2147483648 ≤ D.2 i ∧ D.2 i ≤ 2147483647) {h h1 h2 : zH} {v1 v2 : Int} (hZ : lZ D h) (hZ1 : lI aG1 D Fl0 lQk h1) (hR : fT h) (z1 : zRun D TLw 614 165 0 (h, zargs 0 [(2, 0)], []) (h1, some (0, v1))) (f1 : aFr lM_165 h h1) (z2 : zRun D TLw 614 276 0 (h1, zargs 0 [(2, 121)], []) (h2, some (0, v2))) (f2 : aFr lM_276 h1 h2) : fT h2 ∧ True := by
  have R0 := fRk_mark hD hZ hZ1 hR.1 z1 f1 z2 f2
  exact ⟨⟨R0.1, fT_K (by decide +kernel) (by decide +kernel) f1 f2 hR.2⟩, R0.2⟩
theorem fT_back {D : zD} (hD : ∀ i, -2147483648 ≤ D.2 i ∧ D.2 i ≤ 2147483647) {h h1 h2 : zH} {v1 v2 : Int} (hZ : lZ D h) (hZ1 : lI aG1 D Fl0 lQb h1) (hR : fT h) (z1 : zRun D TLw 614 144 0 (h, zargs 0 [(2, 0)], []) (h1, some (0, v1))) (f1 : aFr lM_144 h h1) (z2 : zRun D TLw 614 199 0 (h1, zargs 0 [(2, 121)], []) (h2, some (0, v2))) (f2 : aFr lM_199 h1 h2) : fT h2 ∧ True := by
  have R0 := fRk_back hD hZ hZ1 hR.1 z1 f1 z2 f2
  exact ⟨⟨R0.1, fT_K (by decide +kernel) (by decide +kernel) f1 f2 hR.2⟩, R0.2⟩
theorem fT_tray {D : zD} (hD : ∀ i, -2147483648 ≤ D.2 i ∧ D.2 i ≤ 2147483647) {h h1 h2 : zH} {a b c v1 v2 : Int} (hZ : lZ D h) (hZ1 : lZ D h1) (hR : fT h) (z1 : zRun D TLw 614 188 0 (h, zargs 0 [(2, 0), (0, a), (0, b), (0, c)], []) (h1, some (0, v1))) (f1 : aFr lM_188 h h1) (z2 : zRun D TLw 614 329 0 (h1, zargs 0 [(2, 121), (0, a), (0, b), (0, c)], []) (h2, some (0, v2))) (f2 : aFr lM_329 h1 h2) : fT h2 ∧ v1 = v2 := by
  have R0 := ulRk_tray hD hZ hZ1 hR.2 z1 f1 z2 f2
  exact ⟨⟨fR_S.fr (M := lM_329) (by decide +kernel) f2 (fR_S.fr (M := lM_188) (by decide +kernel) f1 hR.1), R0.1⟩, R0.2⟩
theorem fT_write {D : zD} (hD : ∀ i, -2147483648 ≤ D.2 i ∧ D.2 i ≤ 2147483647) {h h1 h2 : zH} {a b v v1 v2 : Int} (hZ : lZ D h) (hZ1 : lZ D h1) (hR : fT h) (z1 : zRun D TLw 614 195 0 (h, zargs 0 [(2, 0), (0, a), (0, b), (1, v)], []) (h1, some (0, v1))) (f1 : aFr lM_195 h h1) (z2 : zRun D TLw 614 339 0 (h1, zargs 0 [(2, 121), (0, a), (0, b), (1, v)], []) (h2, some (0, v2))) (f2 : aFr lM_339 h1 h2) : fT h2 ∧ v1 = v2 := by
  have R0 := ulRk_write hD hZ hZ1 hR.2 z1 f1 z2 f2
  exact ⟨⟨fR_S.fr (M := lM_339) (by decide +kernel) f2 (fR_S.fr (M := lM_195) (by decide +kernel) f1 hR.1), R0.1⟩, R0.2⟩
theorem fT_read {D : zD} (hD : ∀ i, -2147483648 ≤ D.2 i ∧ D.2 i ≤ 2147483647) {h h1 h2 : zH} {a b v1 v2 : Int} (hZ : lZ D h) (hZ1 : lZ D h1) (hR : fT h) (z1 : zRun D TLw 614 175 0 (h, zargs 0 [(2, 0), (0, a), (0, b)], []) (h1, some (1, v1))) (f1 : aFr lM_175 h h1) (z2 : zRun D TLw 614 294 0 (h1, zargs 0 [(2, 121), (0, a), (0, b)], []) (h2, some (1, v2))) (f2 : aFr lM_294 h1 h2) : fT h2 ∧ v1 = v2 := by
  have R0 := ulRk_read hD hZ hZ1 hR.2 z1 f1 z2 f2
  exact ⟨⟨fR_S.fr (M := lM_294) (by decide +kernel) f2 (fR_S.fr (M := lM_175) (by decide +kernel) f1 hR.1), R0.1⟩, R0.2⟩
theorem fT_pour {D : zD} (hD : ∀ i, -2147483648 ≤ D.2 i ∧ D.2 i ≤ 2147483647) {h h1 h2 : zH} {k1 k2 k3 k4 k5 : Nat} {v1 v2 : Int} (hZ : lZ D h) (hZ1 : lZ D h1) (hR : fT h) (z1 : zRun D TLw 614 172 0 (h, zargs 0 [(2, 0), (0, D.2 k1), (0, D.2 k2), (0, D.2 k3), (0, D.2 k4), (0, D.2 k5)], []) (h1, some (0, v1))) (f1 : aFr lM_172 h h1) (z2 : zRun D TLw 614 291 0 (h1, zargs 0 [(2, 121), (0, D.2 k1), (0, D.2 k2), (0, D.2 k3), (0, D.2 k4), (0, D.2 k5)], []) (h2, some (0, v2))) (f2 : aFr lM_291 h1 h2) : fT h2 ∧ v1 = v2 := by
  have R0 := ulRk_pour hD hZ hZ1 hR.2 z1 f1 z2 f2
  exact ⟨⟨fR_S.fr (M := lM_291) (by decide +kernel) f2 (fR_S.fr (M := lM_172) (by decide +kernel) f1 hR.1), R0.1⟩, R0.2⟩
theorem fT_told {D : zD} (hD : ∀ i, -2147483648 ≤ D.2 i ∧ D.2 i ≤ 2147483647) {h h1 h2 : zH} {x y v1 v2 : Int} (hZ : lZ D h) (hZ1 : lZ D h1) (hR : fT h) (z1 : zRun D TLw 614 186 0 (h, zargs 0 [(2, 0), (0, x), (0, y)], []) (h1, some (1, v1))) (f1 : aFr lM_186 h h1) (z2 : zRun D TLw 614 327 0 (h1, zargs 0 [(2, 121), (0, x), (0, y)], []) (h2, some (1, v2))) (f2 : aFr lM_327 h1 h2) : fT h2 ∧ v1 = v2 := by
  refine ⟨fT_S.fr (M := lM_327) (by decide +kernel) f2 (fT_S.fr (M := lM_186) (by decide +kernel) f1 hR), ?_⟩
  obtain ⟨⟨hL, hM, r, c, s1, s2, s3, P, p1, p2, p3, p4, o⟩, hU⟩ := hR
  have hR1 : rBk 0 P h1 := p2.eq p3.1 (fun b _ hb => f1.keep (S := [(126, 0, 274)]) (by decide +kernel) ⟨(126, 0, 274), List.mem_cons_self, rfl, Nat.zero_le _, show b ≤ 274 by omega⟩)
  have k3 : ∀ k, k < 4 → h1 123 k = h 123 k := fun k hk => f1.keep (S := [(123, 0, 3)]) (by decide +kernel) ⟨(123, 0, 3), List.mem_cons_self, rfl, Nat.zero_le _, show k ≤ 3 by omega⟩
  have k4 : ∀ k, k < 240 → h1 124 k = h 124 k := fun k hk => f1.keep (S := [(124, 0, 239)]) (by decide +kernel) ⟨(124, 0, 239), List.mem_cons_self, rfl, Nat.zero_le _, show k ≤ 239 by omega⟩
  by_cases ok : 0 ≤ y ∧ y < 4 ∧ 0 ≤ x ∧ x < P 0 2
  · obtain ⟨j, rfl⟩ : ∃ j : Nat, x = (j : Int) := ⟨x.toNat, by omega⟩
    obtain ⟨t, rfl⟩ : ∃ t : Nat, y = (t : Int) := ⟨y.toNat, by omega⟩
    have hj := ok.2.2.2
    have t4 : t < 4 := by omega
    have ht := hU t t4
    have e123 : h1 123 t = (0, (h 123 t).2) := (k3 t t4).trans (hv_arr hZ.hv (n := 4) (ty := .int) rfl rfl t4)
    have e124 : ∀ k : Nat, k < 5 → h1 124 ((60 * (t : Int)) + (k : Int)).toNat = (1, (h 124 (60 * t + k)).2) := fun k hk => by
      rw [show ((60 * (t : Int)) + (k : Int)).toNat = 60 * t + k from by omega]
      exact (k4 _ (by omega)).trans (hv_arr hZ.hv (n := 240) (ty := .long) rfl rfl (by omega))
    have key : ∀ (so ln : Int) (nu : Nat → Int), so = (h (2 + 2 * t) 1).2 → ln = (h (2 + 2 * t) 2).2 → (∀ k, k < 5 → nu k = (h (3 + 2 * t) k).2) → some ((1, v1) : zV) = some (1, if so = -1 ∨ ln < 5 then -1 else tdA P j nu) → v1 = v2 := fun so ln nu es el en a1 => by
      unfold utOk at ht
      rw [← es, ← el] at ht
      have a2 := hZ1.run 8 z2 (Q := fun r => r.2 = some (1, if (h 123 t).2 < 5 then -1 else tdA P j nu)) (fun N => rt_told TLw_T vOK_T hR1 p3 t4 hj e123 (fun m5 k hk => by
        rw [e124 k hk]
        refine congrArg (Prod.mk (1 : Nat)) ?_
        rcases ht with ⟨_, g2⟩ | ⟨_, ⟨_, _, g3⟩, g4⟩
        · omega
        · rw [g4 k (by omega) (by omega), en k hk]))
      have a2 : some ((1, v2) : zV) = some (1, if (h 123 t).2 < 5 then -1 else tdA P j nu) := a2
      have e : (if so = -1 ∨ ln < 5 then -1 else tdA P j nu) = (if (h 123 t).2 < 5 then -1 else tdA P j nu) := by
        rcases ht with ⟨g1, g2⟩ | ⟨⟨g0, _⟩, ⟨_, _, g3⟩, _⟩
        · rw [if_pos (Or.inl g1), if_pos (by omega)]
        · by_cases c : ln < 5
          · rw [if_pos (Or.inr c), if_pos (by omega)]
          · rw [if_neg (by omega), if_neg (by omega)]
      cases a1
      cases a2
      exact e
    have tt : t = 0 ∨ t = 1 ∨ t = 2 ∨ t = 3 := by omega
    rcases tt with rfl | rfl | rfl | rfl
    · have n5 : ∀ k, k < 5 → h 3 k = (1, (h 3 k).2) := fun k hk => hv_arr hZ.hv (n := 60) (ty := .long) rfl rfl (by omega)
      have z1' : h 2 1 = (0, (h 2 1).2) := hZ.hv.at rfl
      have z2' : h 2 2 = (0, (h 2 2).2) := hZ.hv.at rfl
      refine key (h 2 1).2 (h 2 2).2 (fun k => (h 3 k).2) rfl rfl (fun _ _ => rfl) ?_
      rcases s1 with ⟨rfl, rfl⟩ | ⟨rfl, rfl⟩
      · exact hZ.run 7 z1 (Q := fun r => r.2 = some (1, if (h 2 1).2 = -1 ∨ (h 2 2).2 < 5 then -1 else tdA P j (fun k => (h 3 k).2))) (fun N => ct_told_0_39 TLw_T vOK_T p1 p3 s2 hj n5 z1' z2')
      · exact hZ.run 7 z1 (Q := fun r => r.2 = some (1, if (h 2 1).2 = -1 ∨ (h 2 2).2 < 5 then -1 else tdA P j (fun k => (h 3 k).2))) (fun N => ct_told_0_24 TLw_T vOK_T p1 p3 s2 hj n5 z1' z2')
    · have n5 : ∀ k, k < 5 → h 5 k = (1, (h 5 k).2) := fun k hk => hv_arr hZ.hv (n := 60) (ty := .long) rfl rfl (by omega)
      have z1' : h 4 1 = (0, (h 4 1).2) := hZ.hv.at rfl
      have z2' : h 4 2 = (0, (h 4 2).2) := hZ.hv.at rfl
      refine key (h 4 1).2 (h 4 2).2 (fun k => (h 5 k).2) rfl rfl (fun _ _ => rfl) ?_
      rcases s1 with ⟨rfl, rfl⟩ | ⟨rfl, rfl⟩
      · exact hZ.run 7 z1 (Q := fun r => r.2 = some (1, if (h 4 1).2 = -1 ∨ (h 4 2).2 < 5 then -1 else tdA P j (fun k => (h 5 k).2))) (fun N => ct_told_1_39 TLw_T vOK_T p1 p3 s2 hj n5 z1' z2')
      · exact hZ.run 7 z1 (Q := fun r => r.2 = some (1, if (h 4 1).2 = -1 ∨ (h 4 2).2 < 5 then -1 else tdA P j (fun k => (h 5 k).2))) (fun N => ct_told_1_24 TLw_T vOK_T p1 p3 s2 hj n5 z1' z2')
    · have n5 : ∀ k, k < 5 → h 7 k = (1, (h 7 k).2) := fun k hk => hv_arr hZ.hv (n := 60) (ty := .long) rfl rfl (by omega)
      have z1' : h 6 1 = (0, (h 6 1).2) := hZ.hv.at rfl
      have z2' : h 6 2 = (0, (h 6 2).2) := hZ.hv.at rfl
      refine key (h 6 1).2 (h 6 2).2 (fun k => (h 7 k).2) rfl rfl (fun _ _ => rfl) ?_
      rcases s1 with ⟨rfl, rfl⟩ | ⟨rfl, rfl⟩
      · exact hZ.run 7 z1 (Q := fun r => r.2 = some (1, if (h 6 1).2 = -1 ∨ (h 6 2).2 < 5 then -1 else tdA P j (fun k => (h 7 k).2))) (fun N => ct_told_2_39 TLw_T vOK_T p1 p3 s2 hj n5 z1' z2')
      · exact hZ.run 7 z1 (Q := fun r => r.2 = some (1, if (h 6 1).2 = -1 ∨ (h 6 2).2 < 5 then -1 else tdA P j (fun k => (h 7 k).2))) (fun N => ct_told_2_24 TLw_T vOK_T p1 p3 s2 hj n5 z1' z2')
    · have n5 : ∀ k, k < 5 → h 9 k = (1, (h 9 k).2) := fun k hk => hv_arr hZ.hv (n := 60) (ty := .long) rfl rfl (by omega)
      have z1' : h 8 1 = (0, (h 8 1).2) := hZ.hv.at rfl
      have z2' : h 8 2 = (0, (h 8 2).2) := hZ.hv.at rfl
      refine key (h 8 1).2 (h 8 2).2 (fun k => (h 9 k).2) rfl rfl (fun _ _ => rfl) ?_
      rcases s1 with ⟨rfl, rfl⟩ | ⟨rfl, rfl⟩
      · exact hZ.run 7 z1 (Q := fun r => r.2 = some (1, if (h 8 1).2 = -1 ∨ (h 8 2).2 < 5 then -1 else tdA P j (fun k => (h 9 k).2))) (fun N => ct_told_3_39 TLw_T vOK_T p1 p3 s2 hj n5 z1' z2')
      · exact hZ.run 7 z1 (Q := fun r => r.2 = some (1, if (h 8 1).2 = -1 ∨ (h 8 2).2 < 5 then -1 else tdA P j (fun k => (h 9 k).2))) (fun N => ct_told_3_24 TLw_T vOK_T p1 p3 s2 hj n5 z1' z2')
  · have a1 : some ((1, v1) : zV) = some (1, -1) := by
      rcases s1 with ⟨rfl, rfl⟩ | ⟨rfl, rfl⟩
      · exact hZ.run 7 z1 (Q := fun r => r.2 = some (1, -1)) (fun N => ct_no_39 TLw_T vOK_T p1 p3 s2 x y ok)
      · exact hZ.run 7 z1 (Q := fun r => r.2 = some (1, -1)) (fun N => ct_no_24 TLw_T vOK_T p1 p3 s2 x y ok)
    have a2 : some ((1, v2) : zV) = some (1, -1) := hZ1.run 8 z2 (Q := fun r => r.2 = some (1, -1)) (fun N => rt_no TLw_T vOK_T hR1 p3 x y ok)
    cases a1
    cases a2
    rfl
