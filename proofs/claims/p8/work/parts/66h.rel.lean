/-! TRAYS OF BOTH SIDES: what tray() does -/
def cSm (t : Nat) (h h' : zH) : Prop := h' (2 + 2 * t) 1 = h (2 + 2 * t) 1 ∧ h' (2 + 2 * t) 2 = h (2 + 2 * t) 2 ∧ ∀ k, k < 60 → h' (3 + 2 * t) k = h (3 + 2 * t) k
def cK (h h' : zH) : Prop := ∀ t, t < 4 → cSm t h h'
def rSm (t : Nat) (h h' : zH) : Prop := h' 122 t = h 122 t ∧ h' 123 t = h 123 t ∧ ∀ k, k < 60 → h' 124 (60 * t + k) = h 124 (60 * t + k)
def rK (h h' : zH) : Prop := ∀ t, t < 4 → rSm t h h'
theorem cSm.trans {t : Nat} {h h1 h2 : zH} (a : cSm t h h1) (b : cSm t h1 h2) : cSm t h h2 := ⟨b.1.trans a.1, b.2.1.trans a.2.1, fun k hk => (b.2.2 k hk).trans (a.2.2 k hk)⟩
theorem rSm.trans {t : Nat} {h h1 h2 : zH} (a : rSm t h h1) (b : rSm t h1 h2) : rSm t h h2 := ⟨b.1.trans a.1, b.2.1.trans a.2.1, fun k hk => (b.2.2 k hk).trans (a.2.2 k hk)⟩
abbrev cSup : aM := [(2, 1, 2), (4, 1, 2), (6, 1, 2), (8, 1, 2), (3, 0, 59), (5, 0, 59), (7, 0, 59), (9, 0, 59)]
abbrev rSup : aM := [(122, 0, 3), (123, 0, 3), (124, 0, 239)]
theorem cSup_in {t r k : Nat} (ht : t < 4) (hr : (r = 2 + 2 * t ∧ 1 ≤ k ∧ k ≤ 2) ∨ (r = 3 + 2 * t ∧ k < 60)) : aIn cSup r k := by
  have : t = 0 ∨ t = 1 ∨ t = 2 ∨ t = 3 := by omega
  rcases this with e | e | e | e <;> subst e <;> rcases hr with ⟨e, k1, k2⟩ | ⟨e, k1⟩ <;> subst e
  · exact ⟨(2, 1, 2), by decide, rfl, k1, k2⟩
  · exact ⟨(3, 0, 59), by decide, rfl, Nat.zero_le _, Nat.le_of_lt_succ k1⟩
  · exact ⟨(4, 1, 2), by decide, rfl, k1, k2⟩
  · exact ⟨(5, 0, 59), by decide, rfl, Nat.zero_le _, Nat.le_of_lt_succ k1⟩
  · exact ⟨(6, 1, 2), by decide, rfl, k1, k2⟩
  · exact ⟨(7, 0, 59), by decide, rfl, Nat.zero_le _, Nat.le_of_lt_succ k1⟩
  · exact ⟨(8, 1, 2), by decide, rfl, k1, k2⟩
  · exact ⟨(9, 0, 59), by decide, rfl, Nat.zero_le _, Nat.le_of_lt_succ k1⟩
theorem rSup_in {t r k : Nat} (ht : t < 4) (hr : (r = 122 ∧ k = t) ∨ (r = 123 ∧ k = t) ∨ (r = 124 ∧ k < 240)) : aIn rSup r k := by
  rcases hr with ⟨e, k1⟩ | ⟨e, k1⟩ | ⟨e, k1⟩ <;> subst e
  · exact ⟨(122, 0, 3), by decide, rfl, Nat.zero_le _, by show k ≤ 3; omega⟩
  · exact ⟨(123, 0, 3), by decide, rfl, Nat.zero_le _, by show k ≤ 3; omega⟩
  · exact ⟨(124, 0, 239), by decide, rfl, Nat.zero_le _, by show k ≤ 239; omega⟩
theorem cK_fr {M : aM} {h h1 : zH} (g : aFr M h h1) (hf : lFree cSup M = true) : cK h h1 := fun t ht => ⟨g.keep hf (cSup_in ht (Or.inl ⟨rfl, by omega, by omega⟩)), g.keep hf (cSup_in ht (Or.inl ⟨rfl, by omega, by omega⟩)), fun k hk => g.keep hf (cSup_in ht (Or.inr ⟨rfl, hk⟩))⟩
theorem rK_fr {M : aM} {h h1 : zH} (g : aFr M h h1) (hf : lFree rSup M = true) : rK h h1 := fun t ht => ⟨g.keep hf (rSup_in ht (Or.inl ⟨rfl, rfl⟩)), g.keep hf (rSup_in ht (Or.inr (Or.inl ⟨rfl, rfl⟩))), fun k hk => g.keep hf (rSup_in ht (Or.inr (Or.inr ⟨rfl, by omega⟩)))⟩
theorem cK_z {h : zH} {v : zV} {k : Nat} : cK h (zset h 0 k v) := fun t _ => ⟨zset_ne (by omega), zset_ne (by omega), fun k _ => zset_ne (by omega)⟩
theorem rK_z {h : zH} {v : zV} {k : Nat} : rK h (zset h 121 k v) := fun t _ => ⟨zset_ne (by omega), zset_ne (by omega), fun k _ => zset_ne (by omega)⟩
theorem rK.trans {h h1 h2 : zH} (a : rK h h1) (b : rK h1 h2) : rK h h2 := fun t ht => (a t ht).trans (b t ht)
theorem cK.trans {h h1 h2 : zH} (a : cK h h1) (b : cK h1 h2) : cK h h2 := fun t ht => (a t ht).trans (b t ht)
def tArg (a b c : Int) : Prop := (0 ≤ a ∧ a < 4) ∧ (0 ≤ b ∧ b ≤ 3) ∧ 0 ≤ c ∧ c ≤ 60
def cTr (a b c : Int) (h : zH) (r : zR) : Prop := (¬ tArg a b c ∧ r.2 = some (0, 0) ∧ cK h r.1) ∨ (tArg a b c ∧ r.2 = some (0, 1) ∧ ∀ t : Nat, t < 4 → (a = (t : Int) → r.1 (2 + 2 * t) 1 = (0, b) ∧ r.1 (2 + 2 * t) 2 = (0, c) ∧ ∀ k, k < 60 → r.1 (3 + 2 * t) k = (1, 0)) ∧ (a ≠ (t : Int) → cSm t h r.1))
def rTr2 (a b c : Int) (h : zH) (r : zR) : Prop := (¬ tArg a b c ∧ r.2 = some (0, 0) ∧ rK h r.1) ∨ (tArg a b c ∧ r.2 = some (0, 1) ∧ ∀ t : Nat, t < 4 → (a = (t : Int) → r.1 122 t = (0, b) ∧ r.1 123 t = (0, c) ∧ ∀ k : Nat, k < 60 → (k : Int) < c → r.1 124 (60 * t + k) = (1, 0)) ∧ (a ≠ (t : Int) → rSm t h r.1))
theorem cTr_no {a b c : Int} {h : zH} {v : zV} (hn : ¬ tArg a b c) : cTr a b c h (zset h 0 0 v, some (0, 0)) := Or.inl ⟨hn, rfl, cK_z⟩
theorem cTr_fin {a b c : Int} {h h' : zH} (s : Nat) (ha : a = (s : Int)) (hA : tArg a b c) (he : ∀ x y, h' x y = if x = 3 + 2 * s ∧ y < 60 then (1, 0) else zset (zset h (2 + 2 * s) 1 (0, b)) (2 + 2 * s) 2 (0, c) x y) : cTr a b c h (zset h' 0 0 (0, 0), some (0, 1)) := by
  refine Or.inr ⟨hA, rfl, fun t ht => ⟨fun e => ?_, fun e => ?_⟩⟩
  · have hts : t = s := by omega
    subst hts
    refine ⟨?_, ?_, fun k hk => ?_⟩
    · show zset h' 0 0 (0, 0) (2 + 2 * t) 1 = (0, b)
      rw [zset_ne (by omega), he, if_neg (by omega), zset_ne (by omega), zset_same]
    · show zset h' 0 0 (0, 0) (2 + 2 * t) 2 = (0, c)
      rw [zset_ne (by omega), he, if_neg (by omega), zset_same]
    · show zset h' 0 0 (0, 0) (3 + 2 * t) k = (1, 0)
      rw [zset_ne (by omega), he, if_pos ⟨rfl, hk⟩]
  · have hts : t ≠ s := fun c => e (by omega)
    refine ⟨?_, ?_, fun k hk => ?_⟩
    · show zset h' 0 0 (0, 0) (2 + 2 * t) 1 = _
      rw [zset_ne (by omega), he, if_neg (by omega), zset_ne (by omega), zset_ne (by omega)]
    · show zset h' 0 0 (0, 0) (2 + 2 * t) 2 = _
      rw [zset_ne (by omega), he, if_neg (by omega), zset_ne (by omega), zset_ne (by omega)]
    · show zset h' 0 0 (0, 0) (3 + 2 * t) k = _
      rw [zset_ne (by omega), he, if_neg (by omega), zset_ne (by omega), zset_ne (by omega)]
theorem cTr_ok {D : zD} {T : zT} (hT : hTab T) (hO : vOK T) {N : Nat} {h : zH} (a b c : Int) : vP D T N 188 0 h [some (2, 0), some (0, a), some (0, b), some (0, c)] [] (cTr a b c h) := by
  refine vP_hv (fun hv => y_X11_tray hT hO a b c hv ?_ ?_ ?_ ?_ ?_ ?_ ?_ ?_ ?_ ?_)
  · exact fun c1 => cTr_no (fun g => by have := g.1; omega)
  · exact fun _ _ c1 => cTr_no (fun g => by have := g.2.1; omega)
  · exact fun _ _ _ c1 => cTr_no (fun g => by have := g.2.1; omega)
  · exact fun _ _ _ _ c1 => cTr_no (fun g => by have := g.2.2; omega)
  · exact fun _ _ _ _ _ c1 => cTr_no (fun g => by have := g.2.2; omega)
  · exact fun c1 c2 c3 c4 c5 c6 e => q_fill_3 hT hO 0 (fun h' he => v_ret0 (hT _ zt_X9_becomeZeros rfl _ _ rfl) (y_X11_trayE hT hO a b c (cTr_fin 0 e ⟨⟨c1, c2⟩, ⟨c3, c4⟩, c6, c5⟩ he)))
  · exact fun c1 c2 c3 c4 c5 c6 e => q_fill_5 hT hO 0 (fun h' he => v_ret0 (hT _ zt_X9_becomeZeros rfl _ _ rfl) (y_X11_trayE hT hO a b c (cTr_fin 1 e ⟨⟨c1, c2⟩, ⟨c3, c4⟩, c6, c5⟩ he)))
  · exact fun c1 c2 c3 c4 c5 c6 e => q_fill_7 hT hO 0 (fun h' he => v_ret0 (hT _ zt_X9_becomeZeros rfl _ _ rfl) (y_X11_trayE hT hO a b c (cTr_fin 2 e ⟨⟨c1, c2⟩, ⟨c3, c4⟩, c6, c5⟩ he)))
  · exact fun c1 c2 c3 c4 c5 c6 e => q_fill_9 hT hO 0 (fun h' he => v_ret0 (hT _ zt_X9_becomeZeros rfl _ _ rfl) (y_X11_trayE hT hO a b c (cTr_fin 3 e ⟨⟨c1, c2⟩, ⟨c3, c4⟩, c6, c5⟩ he)))
  · exact fun _ c1 => cTr_no (fun g => by have := g.1; omega)
theorem rTr2_no {a b c : Int} {h : zH} {v : zV} (hn : ¬ tArg a b c) : rTr2 a b c h (zset (zset (zset h 121 1 (0, 0)) 121 0 (0, 0)) 121 0 v, some (0, 0)) := Or.inl ⟨hn, rfl, (rK_z.trans rK_z).trans rK_z⟩
theorem rTr2_fin {a b c k : Int} {h h' : zH} (hA : tArg a b c) (hk : c ≤ k) (he : ∀ x y, h' x y = if x = 124 ∧ 60 * a ≤ (y : Int) ∧ (y : Int) < 60 * a + k then (1, 0) else zset (zset (zset (zset h 121 1 (0, 0)) 121 0 (0, 0)) 122 a.toNat (0, b)) 123 a.toNat (0, c) x y) (hk6 : k ≤ 60) : rTr2 a b c h (h', some (0, 1)) := by
  have hA1 := hA.1
  refine Or.inr ⟨hA, rfl, fun t ht => ⟨fun e => ?_, fun e => ?_⟩⟩
  · have hts : a.toNat = t := by omega
    rw [hts] at he
    refine ⟨?_, ?_, fun j hj hjc => ?_⟩
    · show h' 122 t = (0, b)
      rw [he, if_neg (by omega), zset_ne (by omega), zset_same]
    · show h' 123 t = (0, c)
      rw [he, if_neg (by omega), zset_same]
    · show h' 124 (60 * t + j) = (1, 0)
      rw [he, if_pos ⟨rfl, by omega, by omega⟩]
  · have hts : a.toNat ≠ t := fun c => e (by omega)
    refine ⟨?_, ?_, fun j hj => ?_⟩
    · show h' 122 t = _
      rw [he, if_neg (by omega), zset_ne (by omega), zset_ne (by omega), zset_ne (by omega), zset_ne (by omega)]
    · show h' 123 t = _
      rw [he, if_neg (by omega), zset_ne (by omega), zset_ne (by omega), zset_ne (by omega), zset_ne (by omega)]
    · show h' 124 (60 * t + j) = _
      rw [he, if_neg (by omega), zset_ne (by omega), zset_ne (by omega), zset_ne (by omega), zset_ne (by omega)]
theorem rTr2_ok {D : zD} {T : zT} (hT : hTab T) (hO : vOK T) {N : Nat} {h : zH} (a b c : Int) : vP D T N 329 0 h [some (2, 121), some (0, a), some (0, b), some (0, c), none] [] (rTr2 a b c h) := by
  refine vP_hv (fun hv => y_X12_tray hT hO a b c hv ?_ ?_ ?_ ?_ ?_ ?_ ?_)
  · exact fun c1 => rTr2_no (fun g => by have := g.1; omega)
  · exact fun _ _ c1 => rTr2_no (fun g => by have := g.2.1; omega)
  · exact fun _ _ _ c1 => rTr2_no (fun g => by have := g.2.1; omega)
  · exact fun _ _ _ _ c1 => rTr2_no (fun g => by have := g.2.2; omega)
  · exact fun _ _ _ _ _ c1 => rTr2_no (fun g => by have := g.2.2; omega)
  · intro c1 c2 c3 c4 c5 c6
    refine vP_loop (D := D) (T := T) (mi := 329) (pc := 74) (fun h' l => ∃ k : Int, 0 ≤ k ∧ k ≤ c ∧ l = [some (2, 121), some (0, a), some (0, b), some (0, c), some (0, k)] ∧ ∀ x y, h' x y = if x = 124 ∧ 60 * a ≤ (y : Int) ∧ (y : Int) < 60 * a + k then (1, 0) else zset (zset (zset (zset h 121 1 (0, 0)) 121 0 (0, 0)) 122 a.toNat (0, b)) 123 a.toNat (0, c) x y) ?_ N _ _ ⟨0, Int.le_refl _, c6, rfl, fun x y => ?_⟩
    · rintro N h' l ⟨k, k0, k1, rfl, he⟩ ih
      refine vP_hv (fun hv' => y_X12_tray1 hT hO a b c k hv' ⟨k0, by omega⟩ ⟨c1, c2⟩ c5 ?_ ?_)
      · intro d1 d2 d3
        refine ih _ _ ⟨k + 1, by omega, by omega, rfl, fun x y => ?_⟩
        by_cases e : x = 124 ∧ y = (60 * a + k).toNat
        · rw [show zset h' 124 (60 * a + k).toNat (1, 0) x y = (1, 0) from if_pos e, if_pos ⟨e.1, by omega, by omega⟩]
        · rw [zset_ne e, he]
          by_cases e2 : x = 124 ∧ 60 * a ≤ (y : Int) ∧ (y : Int) < 60 * a + k
          · rw [if_pos e2, if_pos ⟨e2.1, e2.2.1, by omega⟩]
          · rw [if_neg e2, if_neg (fun f => e2 ⟨f.1, f.2.1, by have := e; omega⟩)]
      · exact fun d1 => rTr2_fin ⟨⟨c1, c2⟩, ⟨c3, c4⟩, c6, c5⟩ d1 he (by omega)
    · rw [if_neg (fun f => by omega)]
  · exact fun _ c1 => rTr2_no (fun g => by have := g.1; omega)
/-! TRAYS ALIKE ON BOTH SIDES: sort, length, numbers -/
def tOk (t : Nat) (h : zH) : Prop := ((h (2 + 2 * t) 1).2 = -1 ∧ (h 123 t).2 = -1) ∨ ((0 ≤ (h (2 + 2 * t) 1).2 ∧ (h 122 t).2 = (h (2 + 2 * t) 1).2) ∧ (0 ≤ (h (2 + 2 * t) 2).2 ∧ (h (2 + 2 * t) 2).2 ≤ 60 ∧ (h 123 t).2 = (h (2 + 2 * t) 2).2) ∧ ∀ k : Nat, k < 60 → (k : Int) < (h (2 + 2 * t) 2).2 → (h 124 (60 * t + k)).2 = (h (3 + 2 * t) k).2)
def lR (h : zH) : Prop := ∀ t, t < 4 → tOk t h
theorem tOk_cg {t : Nat} {h h' : zH} (c : cSm t h h') (r : rSm t h h') (g : tOk t h) : tOk t h' := by
  unfold tOk at g ⊢
  rw [c.1, c.2.1, r.1, r.2.1]
  rcases g with g | ⟨g1, g2, g3⟩
  · exact Or.inl g
  · exact Or.inr ⟨g1, g2, fun k hk hk2 => by rw [r.2.2 k hk, c.2.2 k hk]; exact g3 k hk hk2⟩
abbrev tSup : aM := cSup ++ rSup
theorem tSupC {r k : Nat} (h : aIn cSup r k) : aIn tSup r k := by
  obtain ⟨x, hx, e⟩ := h
  exact ⟨x, List.mem_append_left _ hx, e⟩
theorem tSupR {r k : Nat} (h : aIn rSup r k) : aIn tSup r k := by
  obtain ⟨x, hx, e⟩ := h
  exact ⟨x, List.mem_append_right _ hx, e⟩
theorem lR_S : lRs tSup lR := fun h h' he hR t ht => tOk_cg ⟨he _ _ (tSupC (cSup_in ht (Or.inl ⟨rfl, by omega, by omega⟩))), he _ _ (tSupC (cSup_in ht (Or.inl ⟨rfl, by omega, by omega⟩))), fun k hk => he _ _ (tSupC (cSup_in ht (Or.inr ⟨rfl, hk⟩)))⟩ ⟨he _ _ (tSupR (rSup_in ht (Or.inl ⟨rfl, rfl⟩))), he _ _ (tSupR (rSup_in ht (Or.inr (Or.inl ⟨rfl, rfl⟩)))), fun k hk => he _ _ (tSupR (rSup_in ht (Or.inr (Or.inr ⟨rfl, by omega⟩))))⟩ (hR t ht)
theorem lR_iniB : a_allN (fun t => @decide ((hIni (2 + 2 * t) 1).2 = -1) (a_decEqZ _ _) && @decide ((hIni 123 t).2 = -1) (a_decEqZ _ _)) 0 4 = true := by decide +kernel
theorem lR_ini : lR hIni := fun t ht => by
  have hb := a_allN_ok lR_iniB t ht
  rw [Nat.zero_add, Bool.and_eq_true, a_dec_eq, a_dec_eq] at hb
  exact Or.inl hb
theorem tLe {D : zD} {h : zH} (hZ : lZ D h) {t : Nat} (ht : t < 4) : 0 ≤ (h (2 + 2 * t) 2).2 ∧ (h (2 + 2 * t) 2).2 ≤ 60 := by
  have : t = 0 ∨ t = 1 ∨ t = 2 ∨ t = 3 := by omega
  rcases this with e | e | e | e <;> subst e
  · exact (hZ.bd (lo := 2) (hi := 2) (k := 0) (a := 0) (b := 60) ty_2 rfl (by decide +kernel) 2 (Nat.le_refl _) (Nat.le_refl _)).2
  · exact (hZ.bd (lo := 2) (hi := 2) (k := 0) (a := 0) (b := 60) ty_4 rfl (by decide +kernel) 2 (Nat.le_refl _) (Nat.le_refl _)).2
  · exact (hZ.bd (lo := 2) (hi := 2) (k := 0) (a := 0) (b := 60) ty_6 rfl (by decide +kernel) 2 (Nat.le_refl _) (Nat.le_refl _)).2
  · exact (hZ.bd (lo := 2) (hi := 2) (k := 0) (a := 0) (b := 60) ty_8 rfl (by decide +kernel) 2 (Nat.le_refl _) (Nat.le_refl _)).2
theorem mLe {D : zD} {h : zH} (hZ : lZ D h) {t : Nat} (ht : t < 4) : (h 123 t).2 ≤ 60 := (hZ.bd (lo := 0) (hi := 3) (k := 0) (a := -1) (b := 60) ty_123 rfl (by decide +kernel) t (Nat.zero_le _) (by omega)).2.2
/-- tray() -/
theorem lRk_tray {D : zD} (_ : ∀ i, -2147483648 ≤ D.2 i ∧ D.2 i ≤ 2147483647) {h h1 h2 : zH} {a b c v1 v2 : Int} (hZ : lZ D h) (hZ1 : lZ D h1) (hR : lR h) (z1 : zRun D TLw 614 188 0 (h, zargs 0 [(2, 0), (0, a), (0, b), (0, c)], []) (h1, some (0, v1))) (f1 : aFr lM_188 h h1) (z2 : zRun D TLw 614 329 0 (h1, zargs 0 [(2, 121), (0, a), (0, b), (0, c)], []) (h2, some (0, v2))) (f2 : aFr lM_329 h1 h2) : lR h2 ∧ v1 = v2 := by
  have c1 := hZ.run 4 z1 (Q := cTr a b c h) (fun N => cTr_ok TLw_T vOK_T a b c)
  have c2 := hZ1.run 5 z2 (Q := rTr2 a b c h1) (fun N => rTr2_ok TLw_T vOK_T a b c)
  have k1 : rK h h1 := rK_fr f1 (by decide +kernel)
  have k2 : cK h1 h2 := cK_fr f2 (by decide +kernel)
  rcases c1 with ⟨n1, e1, g1⟩ | ⟨n1, e1, g1⟩
  · have e1 : some ((0, v1) : zV) = some (0, 0) := e1
    rcases c2 with ⟨n2, e2, g2⟩ | ⟨n2, e2, g2⟩
    · have e2 : some ((0, v2) : zV) = some (0, 0) := e2
      cases e1; cases e2
      have g1 : cK h h1 := g1
      have g2 : rK h1 h2 := g2
      exact ⟨fun t ht => tOk_cg ((g1 t ht).trans (k2 t ht)) ((k1 t ht).trans (g2 t ht)) (hR t ht), rfl⟩
    · exact absurd n2 n1
  · have e1 : some ((0, v1) : zV) = some (0, 1) := e1
    rcases c2 with ⟨n2, e2, g2⟩ | ⟨n2, e2, g2⟩
    · exact absurd n1 n2
    · have e2 : some ((0, v2) : zV) = some (0, 1) := e2
      cases e1; cases e2
      refine ⟨fun t ht => ?_, rfl⟩
      obtain ⟨p1, p2⟩ := g1 t ht
      obtain ⟨q1, q2⟩ := g2 t ht
      by_cases e : a = (t : Int)
      · obtain ⟨x1, x2, x3⟩ := p1 e
        obtain ⟨y1, y2, y3⟩ := q1 e
        obtain ⟨m1, m2, m3⟩ := k2 t ht
        obtain ⟨-, n3, n4⟩ := n1
        have x1 : h1 (2 + 2 * t) 1 = (0, b) := x1
        have x2 : h1 (2 + 2 * t) 2 = (0, c) := x2
        have y1 : h2 122 t = (0, b) := y1
        have y2 : h2 123 t = (0, c) := y2
        unfold tOk
        rw [m1, m2, x1, x2, y1, y2]
        refine Or.inr ⟨⟨n3.1, rfl⟩, ⟨n4.1, n4.2, rfl⟩, fun k hk hk2 => ?_⟩
        have y3 : h2 124 (60 * t + k) = (1, 0) := y3 k hk hk2
        have x3 : h1 (3 + 2 * t) k = (1, 0) := x3 k hk
        rw [m3 k hk, x3, y3]
      · exact tOk_cg ((p2 e).trans (k2 t ht)) ((k1 t ht).trans (q2 e)) (hR t ht)
/-! write() -/
def vCut (s v : Int) : Int := if s = 0 then vB (vI v) else if s = 1 then vC (vI v) else if s = 2 then vI v else v
def wC (a b : Int) (h : zH) (t : Nat) : Prop := a = (t : Int) ∧ (h (2 + 2 * t) 1).2 ≠ -1 ∧ 0 ≤ b ∧ b < (h (2 + 2 * t) 2).2
def wD (a b : Int) (h : zH) (t : Nat) : Prop := a = (t : Int) ∧ 0 ≤ b ∧ b < (h 123 t).2
def cWr (a b v : Int) (h : zH) (r : zR) : Prop := ((∀ t : Nat, t < 4 → ¬ wC a b h t) ∧ r.2 = some (0, 0) ∧ cK h r.1) ∨ (∃ t : Nat, t < 4 ∧ wC a b h t ∧ r.2 = some (0, 1) ∧ r.1 = zset (zset h (3 + 2 * t) b.toNat (1, vCut (h (2 + 2 * t) 1).2 v)) 0 0 (0, 0))
def rWr (a b v : Int) (h : zH) (r : zR) : Prop := ((∀ t : Nat, t < 4 → ¬ wD a b h t) ∧ r.2 = some (0, 0) ∧ rK h r.1) ∨ (∃ t : Nat, t < 4 ∧ wD a b h t ∧ r.2 = some (0, 1) ∧ r.1 = zset (zset (zset h 121 1 (0, 0)) 121 0 (0, 0)) 124 (60 * t + b.toNat) (1, vCut (h 122 t).2 v))
theorem cWr_no {a b v : Int} {h : zH} {w : zV} (hn : ∀ t : Nat, t < 4 → ¬ wC a b h t) : cWr a b v h (zset h 0 0 w, some (0, 0)) := Or.inl ⟨hn, rfl, cK_z⟩
theorem cWr_ok {D : zD} {T : zT} (hT : hTab T) (hO : vOK T) {N : Nat} {h : zH} (a b v : Int) (hL : ∀ t : Nat, t < 4 → 0 ≤ (h (2 + 2 * t) 2).2 ∧ (h (2 + 2 * t) 2).2 ≤ 60) : vP D T N 195 0 h [some (2, 0), some (0, a), some (0, b), some (1, v), none, none, none] [] (cWr a b v h) := by
  refine vP_hv (fun hv => ?_)
  by_cases a0 : a < 0
  · exact y_X11_write_lo hT hO a b v hv a0 (cWr_no (fun t ht g => by have := g.1; omega))
  by_cases a4 : 4 ≤ a
  · exact y_X11_write_hi hT hO a b v hv (by omega) a4 (cWr_no (fun t ht g => by have := g.1; omega))
  have uniq : ∀ (s t : Nat), a = (s : Int) → wC a b h t → s = t := fun s t hs g => by have := g.1; omega
  have fail : ∀ (s : Nat) (w : zV), a = (s : Int) → ¬ ((h (2 + 2 * s) 1).2 ≠ -1 ∧ 0 ≤ b ∧ b < (h (2 + 2 * s) 2).2) → cWr a b v h (zset h 0 0 w, some (0, 0)) := fun s w hs hn => cWr_no (fun t ht g => by
    have e := uniq s t hs g
    subst e
    exact hn g.2)
  have good : ∀ (s : Nat) (w : Int), s < 4 → a = (s : Int) → ((h (2 + 2 * s) 1).2 ≠ -1 ∧ 0 ≤ b ∧ b < (h (2 + 2 * s) 2).2) → w = vCut (h (2 + 2 * s) 1).2 v → cWr a b v h (zset (zset h (3 + 2 * s) b.toNat (1, w)) 0 0 (0, 0), some (0, 1)) := fun s w hs ha hg hw => Or.inr ⟨s, hs, ⟨ha, hg⟩, rfl, by rw [hw]⟩
  have cs : a = 0 ∨ a = 1 ∨ a = 2 ∨ a = 3 := by omega
  rcases cs with e | e | e | e
  · subst e
    refine y_X11_write_0 hT hO b v hv (hL 0 (by decide)) ?_ ?_ ?_ ?_ ?_ ?_ ?_
    · exact fun c => fail 0 _ rfl (fun g => g.1 c)
    · exact fun _ c => fail 0 _ rfl (fun g => by have := g.2.1; omega)
    · exact fun _ _ c => fail 0 _ rfl (fun g => by have c : (h 2 2).2 - 1 < b := c; have : b < (h 2 2).2 := g.2.2; omega)
    · intro c1 c2 c3 c4 _
      exact good 0 _ (by decide) rfl ⟨c1, c2, by show b < (h 2 2).2; omega⟩ (by unfold vCut; exact (if_pos c4).symm)
    · intro c1 c2 c3 c4 c5 _
      exact good 0 _ (by decide) rfl ⟨c1, c2, by show b < (h 2 2).2; omega⟩ (by unfold vCut; exact ((if_neg c4).trans (if_pos c5)).symm)
    · intro c1 c2 c3 c4 c5 c6 _
      exact good 0 _ (by decide) rfl ⟨c1, c2, by show b < (h 2 2).2; omega⟩ (by unfold vCut; exact ((if_neg c4).trans ((if_neg c5).trans (if_pos c6))).symm)
    · intro c1 c2 c3 c4 c5 c6 _
      exact good 0 _ (by decide) rfl ⟨c1, c2, by show b < (h 2 2).2; omega⟩ (by unfold vCut; exact ((if_neg c4).trans ((if_neg c5).trans (if_neg c6))).symm)
  · subst e
    refine y_X11_write_1 hT hO b v hv (hL 1 (by decide)) ?_ ?_ ?_ ?_ ?_ ?_ ?_
    · exact fun c => fail 1 _ rfl (fun g => g.1 c)
    · exact fun _ c => fail 1 _ rfl (fun g => by have := g.2.1; omega)
    · exact fun _ _ c => fail 1 _ rfl (fun g => by have c : (h 4 2).2 - 1 < b := c; have : b < (h 4 2).2 := g.2.2; omega)
    · intro c1 c2 c3 c4 _
      exact good 1 _ (by decide) rfl ⟨c1, c2, by show b < (h 4 2).2; omega⟩ (by unfold vCut; exact (if_pos c4).symm)
    · intro c1 c2 c3 c4 c5 _
      exact good 1 _ (by decide) rfl ⟨c1, c2, by show b < (h 4 2).2; omega⟩ (by unfold vCut; exact ((if_neg c4).trans (if_pos c5)).symm)
    · intro c1 c2 c3 c4 c5 c6 _
      exact good 1 _ (by decide) rfl ⟨c1, c2, by show b < (h 4 2).2; omega⟩ (by unfold vCut; exact ((if_neg c4).trans ((if_neg c5).trans (if_pos c6))).symm)
    · intro c1 c2 c3 c4 c5 c6 _
      exact good 1 _ (by decide) rfl ⟨c1, c2, by show b < (h 4 2).2; omega⟩ (by unfold vCut; exact ((if_neg c4).trans ((if_neg c5).trans (if_neg c6))).symm)
  · subst e
    refine y_X11_write_2 hT hO b v hv (hL 2 (by decide)) ?_ ?_ ?_ ?_ ?_ ?_ ?_
    · exact fun c => fail 2 _ rfl (fun g => g.1 c)
    · exact fun _ c => fail 2 _ rfl (fun g => by have := g.2.1; omega)
    · exact fun _ _ c => fail 2 _ rfl (fun g => by have c : (h 6 2).2 - 1 < b := c; have : b < (h 6 2).2 := g.2.2; omega)
    · intro c1 c2 c3 c4 _
      exact good 2 _ (by decide) rfl ⟨c1, c2, by show b < (h 6 2).2; omega⟩ (by unfold vCut; exact (if_pos c4).symm)
    · intro c1 c2 c3 c4 c5 _
      exact good 2 _ (by decide) rfl ⟨c1, c2, by show b < (h 6 2).2; omega⟩ (by unfold vCut; exact ((if_neg c4).trans (if_pos c5)).symm)
    · intro c1 c2 c3 c4 c5 c6 _
      exact good 2 _ (by decide) rfl ⟨c1, c2, by show b < (h 6 2).2; omega⟩ (by unfold vCut; exact ((if_neg c4).trans ((if_neg c5).trans (if_pos c6))).symm)
    · intro c1 c2 c3 c4 c5 c6 _
      exact good 2 _ (by decide) rfl ⟨c1, c2, by show b < (h 6 2).2; omega⟩ (by unfold vCut; exact ((if_neg c4).trans ((if_neg c5).trans (if_neg c6))).symm)
  · subst e
    refine y_X11_write_3 hT hO b v hv (hL 3 (by decide)) ?_ ?_ ?_ ?_ ?_ ?_ ?_
    · exact fun c => fail 3 _ rfl (fun g => g.1 c)
    · exact fun _ c => fail 3 _ rfl (fun g => by have := g.2.1; omega)
    · exact fun _ _ c => fail 3 _ rfl (fun g => by have c : (h 8 2).2 - 1 < b := c; have : b < (h 8 2).2 := g.2.2; omega)
    · intro c1 c2 c3 c4 _
      exact good 3 _ (by decide) rfl ⟨c1, c2, by show b < (h 8 2).2; omega⟩ (by unfold vCut; exact (if_pos c4).symm)
    · intro c1 c2 c3 c4 c5 _
      exact good 3 _ (by decide) rfl ⟨c1, c2, by show b < (h 8 2).2; omega⟩ (by unfold vCut; exact ((if_neg c4).trans (if_pos c5)).symm)
    · intro c1 c2 c3 c4 c5 c6 _
      exact good 3 _ (by decide) rfl ⟨c1, c2, by show b < (h 8 2).2; omega⟩ (by unfold vCut; exact ((if_neg c4).trans ((if_neg c5).trans (if_pos c6))).symm)
    · intro c1 c2 c3 c4 c5 c6 _
      exact good 3 _ (by decide) rfl ⟨c1, c2, by show b < (h 8 2).2; omega⟩ (by unfold vCut; exact ((if_neg c4).trans ((if_neg c5).trans (if_neg c6))).symm)
theorem rWr_ok {D : zD} {T : zT} (hT : hTab T) (hO : vOK T) {N : Nat} {h : zH} (a b v : Int) (hL : ∀ t : Nat, t < 4 → (h 123 t).2 ≤ 60) : vP D T N 339 0 h [some (2, 121), some (0, a), some (0, b), some (1, v), none] [] (rWr a b v h) := by
  refine vP_hv (fun hv => ?_)
  have no : ∀ w : zV, (∀ t : Nat, t < 4 → ¬ wD a b h t) → rWr a b v h (zset (zset h 121 1 (0, 0)) 121 0 w, some (0, 0)) := fun w hn => Or.inl ⟨hn, rfl, rK_z.trans rK_z⟩
  by_cases ar : 0 ≤ a ∧ a < 4
  rotate_left
  · by_cases a0 : a < 0
    · exact y_X12_write_lo hT hO a b v hv a0 (no _ (fun t ht g => by have := g.1; omega))
    · exact y_X12_write_hi hT hO a b v hv (by omega) (by omega) (no _ (fun t ht g => by have := g.1; omega))
  obtain ⟨s, hs⟩ : ∃ s : Nat, a.toNat = s := ⟨_, rfl⟩
  have hsa : a = (s : Int) := by omega
  have hs4 : s < 4 := by omega
  have fail : ∀ w : zV, ¬ (0 ≤ b ∧ b < (h 123 s).2) → rWr a b v h (zset (zset h 121 1 (0, 0)) 121 0 w, some (0, 0)) := fun w hn => no w (fun t ht g => by
    have e : s = t := by have := g.1; omega
    subst e
    exact hn g.2)
  have good : ∀ w : Int, (0 ≤ b ∧ b < (h 123 s).2) → w = vCut (h 122 s).2 v → rWr a b v h (zset (zset (zset h 121 1 (0, 0)) 121 0 (0, 0)) 124 (60 * a + b).toNat (1, w), some (0, 1)) := fun w hg hw => Or.inr ⟨s, hs4, ⟨hsa, hg⟩, rfl, by
    have e : (60 * a + b).toNat = 60 * s + b.toNat := by omega
    rw [e, hw]⟩
  refine y_X12_write hT hO a b v hv (by rw [hs]; exact hL s hs4) ?_ ?_ ?_ ?_ ?_ ?_ ?_ ?_ ?_
  · intro c; omega
  · rw [hs]; exact fun _ _ c => fail _ (fun g => by omega)
  · rw [hs]; exact fun _ _ _ c => fail _ (fun g => by omega)
  · rw [hs]; exact fun _ _ _ c1 c2 c3 _ _ => good _ ⟨c1, c2⟩ (by unfold vCut; exact (if_pos c3).symm)
  · rw [hs]; exact fun _ _ _ c1 c2 c3 c4 _ _ => good _ ⟨c1, c2⟩ (by unfold vCut; exact ((if_neg c3).trans (if_pos c4)).symm)
  · rw [hs]; exact fun _ _ _ c1 c2 c3 c4 c5 _ _ => good _ ⟨c1, c2⟩ (by unfold vCut; exact ((if_neg c3).trans ((if_neg c4).trans (if_pos c5))).symm)
  · rw [hs]; exact fun _ _ _ c1 c2 c3 c4 c5 _ _ => good _ ⟨c1, c2⟩ (by unfold vCut; exact ((if_neg c3).trans ((if_neg c4).trans (if_neg c5))).symm)
  · rw [hs]; exact fun _ _ _ c1 c2 => fail _ (fun g => by omega)
  · intro c; omega
theorem lRk_write {D : zD} (_ : ∀ i, -2147483648 ≤ D.2 i ∧ D.2 i ≤ 2147483647) {h h1 h2 : zH} {a b v v1 v2 : Int} (hZ : lZ D h) (hZ1 : lZ D h1) (hR : lR h) (z1 : zRun D TLw 614 195 0 (h, zargs 0 [(2, 0), (0, a), (0, b), (1, v)], []) (h1, some (0, v1))) (f1 : aFr lM_195 h h1) (z2 : zRun D TLw 614 339 0 (h1, zargs 0 [(2, 121), (0, a), (0, b), (1, v)], []) (h2, some (0, v2))) (f2 : aFr lM_339 h1 h2) : lR h2 ∧ v1 = v2 := by
  have c1 := hZ.run 7 z1 (Q := cWr a b v h) (fun N => cWr_ok TLw_T vOK_T a b v (fun t ht => tLe hZ ht))
  have c2 := hZ1.run 5 z2 (Q := rWr a b v h1) (fun N => rWr_ok TLw_T vOK_T a b v (fun t ht => mLe hZ1 ht))
  have k1 : rK h h1 := rK_fr f1 (by decide +kernel)
  have k2 : cK h1 h2 := cK_fr f2 (by decide +kernel)
  have same : ∀ t, t < 4 → (wC a b h t ↔ wD a b h1 t) := fun t ht => by
    unfold wC wD
    rw [(k1 t ht).2.1]
    rcases hR t ht with ⟨x1, x2⟩ | ⟨⟨x1, x2⟩, ⟨x3, x4, x5⟩, -⟩
    · exact ⟨fun g => absurd x1 g.2.1, fun g => by have := g.2; omega⟩
    · exact ⟨fun g => ⟨g.1, g.2.2.1, by have := g.2.2.2; omega⟩, fun g => ⟨g.1, by omega, g.2.1, by have := g.2.2; omega⟩⟩
  rcases c1 with ⟨n1, e1, g1⟩ | ⟨t, ht, w1, e1, g1⟩
  · have e1 : some ((0, v1) : zV) = some (0, 0) := e1
    rcases c2 with ⟨n2, e2, g2⟩ | ⟨t, ht, w2, -, -⟩
    · have e2 : some ((0, v2) : zV) = some (0, 0) := e2
      cases e1; cases e2
      have g1 : cK h h1 := g1
      have g2 : rK h1 h2 := g2
      exact ⟨fun t ht => tOk_cg ((g1 t ht).trans (k2 t ht)) ((k1 t ht).trans (g2 t ht)) (hR t ht), rfl⟩
    · exact absurd ((same t ht).mpr w2) (n1 t ht)
  · have e1 : some ((0, v1) : zV) = some (0, 1) := e1
    rcases c2 with ⟨n2, -, -⟩ | ⟨t', ht', w2, e2, g2⟩
    · exact absurd ((same t ht).mp w1) (n2 t ht)
    · have e2 : some ((0, v2) : zV) = some (0, 1) := e2
      cases e1; cases e2
      refine ⟨fun u hu => ?_, rfl⟩
      have htt : t' = t := by have := w1.1; have := w2.1; omega
      subst htt
      have g1 : h1 = zset (zset h (3 + 2 * t') b.toNat (1, vCut (h (2 + 2 * t') 1).2 v)) 0 0 (0, 0) := g1
      have g2 : h2 = zset (zset (zset h1 121 1 (0, 0)) 121 0 (0, 0)) 124 (60 * t' + b.toNat) (1, vCut (h1 122 t').2 v) := g2
      obtain ⟨-, b1, b2, b3⟩ := w1
      have hb60 := tLe hZ ht
      by_cases e : u = t'
      · subst e
        have hu := hR u ht
        obtain ⟨m1, m2, m3⟩ := k2 u ht
        have s1 : h1 (2 + 2 * u) 1 = h (2 + 2 * u) 1 := by rw [g1, zset_ne (by omega), zset_ne (by omega)]
        have s2 : h1 (2 + 2 * u) 2 = h (2 + 2 * u) 2 := by rw [g1, zset_ne (by omega), zset_ne (by omega)]
        have r1 : h2 122 u = h 122 u := by rw [g2, zset_ne (by omega), zset_ne (by omega), zset_ne (by omega)]; exact (k1 u ht).1
        have r2 : h2 123 u = h 123 u := by rw [g2, zset_ne (by omega), zset_ne (by omega), zset_ne (by omega)]; exact (k1 u ht).2.1
        unfold tOk at hu ⊢
        rw [m1, m2, s1, s2, r1, r2]
        rcases hu with x | ⟨x1, x2, x3⟩
        · exact absurd x.1 b1
        · refine Or.inr ⟨x1, x2, fun k hk hk2 => ?_⟩
          rw [m3 k hk]
          by_cases ek : k = b.toNat
          · have L : h2 124 (60 * u + b.toNat) = (1, vCut (h 122 u).2 v) := by rw [g2, zset_same, (k1 u ht).1]
            have Rr : h1 (3 + 2 * u) b.toNat = (1, vCut (h (2 + 2 * u) 1).2 v) := by rw [g1, zset_ne (by omega), zset_same]
            rw [ek, L, Rr, x1.2]
          · rw [g2, zset_ne (by omega), zset_ne (by omega), zset_ne (by omega), (k1 u ht).2.2 k hk, g1, zset_ne (by omega), zset_ne (by omega)]
            exact x3 k hk hk2
      · refine tOk_cg (h := h) ?_ ?_ (hR u hu)
        · refine cSm.trans ?_ (k2 u hu)
          refine ⟨?_, ?_, fun k hk => ?_⟩
          · rw [g1, zset_ne (by omega), zset_ne (by omega)]
          · rw [g1, zset_ne (by omega), zset_ne (by omega)]
          · rw [g1, zset_ne (by omega), zset_ne (by omega)]
        · refine (k1 u hu).trans ?_
          refine ⟨?_, ?_, fun k hk => ?_⟩
          · rw [g2, zset_ne (by omega), zset_ne (by omega), zset_ne (by omega)]
          · rw [g2, zset_ne (by omega), zset_ne (by omega), zset_ne (by omega)]
          · rw [g2, zset_ne (by omega), zset_ne (by omega), zset_ne (by omega)]
/-! read() -/
def cRd (a b : Int) (h : zH) (r : zR) : Prop := ((∀ t : Nat, t < 4 → ¬ wC a b h t) ∧ r.2 = some (1, -1)) ∨ (∃ t : Nat, t < 4 ∧ wC a b h t ∧ r.2 = some (1, (h (3 + 2 * t) b.toNat).2))
def rRd (a b : Int) (h : zH) (r : zR) : Prop := ((∀ t : Nat, t < 4 → ¬ wD a b h t) ∧ r.2 = some (1, -1)) ∨ (∃ t : Nat, t < 4 ∧ wD a b h t ∧ r.2 = some (1, (h 124 (60 * t + b.toNat)).2))
theorem cRd_ok {D : zD} {T : zT} (hT : hTab T) (hO : vOK T) {N : Nat} {h : zH} (a b : Int) (hL : ∀ t : Nat, t < 4 → 0 ≤ (h (2 + 2 * t) 2).2 ∧ (h (2 + 2 * t) 2).2 ≤ 60) : vP D T N 175 0 h [some (2, 0), some (0, a), some (0, b), none] [] (cRd a b h) := by
  refine vP_hv (fun hv => ?_)
  have fail : ∀ (s : Nat) (g : zH), a = (s : Int) → ¬ ((h (2 + 2 * s) 1).2 ≠ -1 ∧ 0 ≤ b ∧ b < (h (2 + 2 * s) 2).2) → cRd a b h (g, some (1, -1)) := fun s g hs hn => Or.inl ⟨fun t ht g => by
    have e : s = t := by have := g.1; omega
    subst e
    exact hn g.2, rfl⟩
  by_cases a0 : a < 0
  · exact y_X11_read_lo hT hO a b hv a0 (Or.inl ⟨fun t ht g => by have := g.1; omega, rfl⟩)
  by_cases a4 : 4 ≤ a
  · exact y_X11_read_hi hT hO a b hv (by omega) a4 (Or.inl ⟨fun t ht g => by have := g.1; omega, rfl⟩)
  have cs : a = 0 ∨ a = 1 ∨ a = 2 ∨ a = 3 := by omega
  rcases cs with e | e | e | e
  · subst e
    exact y_X11_read_0 hT hO b hv (hL 0 (by decide)) (fun c => fail 0 _ rfl (fun g => g.1 c)) (fun _ c => fail 0 _ rfl (fun g => by have := g.2.1; omega)) (fun _ _ c => fail 0 _ rfl (fun g => by have g2 : b < (h 2 2).2 := g.2.2; omega)) (fun c1 c2 c3 _ => Or.inr ⟨0, by decide, ⟨rfl, c1, c2, by show b < (h 2 2).2; omega⟩, rfl⟩)
  · subst e
    exact y_X11_read_1 hT hO b hv (hL 1 (by decide)) (fun c => fail 1 _ rfl (fun g => g.1 c)) (fun _ c => fail 1 _ rfl (fun g => by have := g.2.1; omega)) (fun _ _ c => fail 1 _ rfl (fun g => by have g2 : b < (h 4 2).2 := g.2.2; omega)) (fun c1 c2 c3 _ => Or.inr ⟨1, by decide, ⟨rfl, c1, c2, by show b < (h 4 2).2; omega⟩, rfl⟩)
  · subst e
    exact y_X11_read_2 hT hO b hv (hL 2 (by decide)) (fun c => fail 2 _ rfl (fun g => g.1 c)) (fun _ c => fail 2 _ rfl (fun g => by have := g.2.1; omega)) (fun _ _ c => fail 2 _ rfl (fun g => by have g2 : b < (h 6 2).2 := g.2.2; omega)) (fun c1 c2 c3 _ => Or.inr ⟨2, by decide, ⟨rfl, c1, c2, by show b < (h 6 2).2; omega⟩, rfl⟩)
  · subst e
    exact y_X11_read_3 hT hO b hv (hL 3 (by decide)) (fun c => fail 3 _ rfl (fun g => g.1 c)) (fun _ c => fail 3 _ rfl (fun g => by have := g.2.1; omega)) (fun _ _ c => fail 3 _ rfl (fun g => by have g2 : b < (h 8 2).2 := g.2.2; omega)) (fun c1 c2 c3 _ => Or.inr ⟨3, by decide, ⟨rfl, c1, c2, by show b < (h 8 2).2; omega⟩, rfl⟩)
theorem rRd_ok {D : zD} {T : zT} (hT : hTab T) (hO : vOK T) {N : Nat} {h : zH} (a b : Int) (hL : ∀ t : Nat, t < 4 → (h 123 t).2 ≤ 60) : vP D T N 294 0 h [some (2, 121), some (0, a), some (0, b)] [] (rRd a b h) := by
  refine vP_hv (fun hv => ?_)
  by_cases ar : 0 ≤ a ∧ a < 4
  rotate_left
  · by_cases a0 : a < 0
    · exact y_X12_read_lo hT hO a b hv a0 (Or.inl ⟨fun t ht g => by have := g.1; omega, rfl⟩)
    · exact y_X12_read_hi hT hO a b hv (by omega) (by omega) (Or.inl ⟨fun t ht g => by have := g.1; omega, rfl⟩)
  obtain ⟨s, hs⟩ : ∃ s : Nat, a.toNat = s := ⟨_, rfl⟩
  have hsa : a = (s : Int) := by omega
  have hs4 : s < 4 := by omega
  have fail : ∀ g : zH, ¬ (0 ≤ b ∧ b < (h 123 s).2) → rRd a b h (g, some (1, -1)) := fun g hn => Or.inl ⟨fun t ht g => by
    have e : s = t := by have := g.1; omega
    subst e
    exact hn g.2, rfl⟩
  refine y_X12_read hT hO a b hv (by rw [hs]; exact hL s hs4) ?_ ?_ ?_ ?_ ?_ ?_
  · intro c; omega
  · rw [hs]; exact fun _ _ c => fail _ (fun g => by omega)
  · rw [hs]; exact fun _ _ _ c => fail _ (fun g => by omega)
  · rw [hs]
    intro _ _ _ c1 c2 _ _
    have e : (60 * a + b).toNat = 60 * s + b.toNat := by omega
    exact Or.inr ⟨s, hs4, ⟨hsa, c1, c2⟩, by show some ((1, (h 124 (60 * a + b).toNat).2) : zV) = _; rw [e]⟩
  · rw [hs]; exact fun _ _ _ c1 c2 => fail _ (fun g => by omega)
  · intro c; omega
theorem wCD {h h1 : zH} (hR : lR h) (k1 : rK h h1) {a b : Int} {t : Nat} (ht : t < 4) : wC a b h t ↔ wD a b h1 t := by
  unfold wC wD
  rw [(k1 t ht).2.1]
  rcases hR t ht with ⟨x1, x2⟩ | ⟨⟨x1, x2⟩, ⟨x3, x4, x5⟩, -⟩
  · exact ⟨fun g => absurd x1 g.2.1, fun g => by have := g.2; omega⟩
  · exact ⟨fun g => ⟨g.1, g.2.2.1, by have := g.2.2.2; omega⟩, fun g => ⟨g.1, by omega, g.2.1, by have := g.2.2; omega⟩⟩
theorem lRk_read {D : zD} (_ : ∀ i, -2147483648 ≤ D.2 i ∧ D.2 i ≤ 2147483647) {h h1 h2 : zH} {a b v1 v2 : Int} (hZ : lZ D h) (hZ1 : lZ D h1) (hR : lR h) (z1 : zRun D TLw 614 175 0 (h, zargs 0 [(2, 0), (0, a), (0, b)], []) (h1, some (1, v1))) (f1 : aFr lM_175 h h1) (z2 : zRun D TLw 614 294 0 (h1, zargs 0 [(2, 121), (0, a), (0, b)], []) (h2, some (1, v2))) (f2 : aFr lM_294 h1 h2) : lR h2 ∧ v1 = v2 := by
  have c1 := hZ.run 4 z1 (Q := cRd a b h) (fun N => cRd_ok TLw_T vOK_T a b (fun t ht => tLe hZ ht))
  have c2 := hZ1.run 3 z2 (Q := rRd a b h1) (fun N => rRd_ok TLw_T vOK_T a b (fun t ht => mLe hZ1 ht))
  have k1 : rK h h1 := rK_fr f1 (by decide +kernel)
  have k2 : cK h1 h2 := cK_fr f2 (by decide +kernel)
  have k3 : cK h h1 := cK_fr f1 (by decide +kernel)
  have k4 : rK h1 h2 := rK_fr f2 (by decide +kernel)
  refine ⟨fun t ht => tOk_cg ((k3 t ht).trans (k2 t ht)) ((k1 t ht).trans (k4 t ht)) (hR t ht), ?_⟩
  rcases c1 with ⟨n1, e1⟩ | ⟨t, ht, w1, e1⟩
  · have e1 : some ((1, v1) : zV) = some (1, -1) := e1
    rcases c2 with ⟨n2, e2⟩ | ⟨t, ht, w2, -⟩
    · have e2 : some ((1, v2) : zV) = some (1, -1) := e2
      cases e1; cases e2; rfl
    · exact absurd ((wCD hR k1 ht).mpr w2) (n1 t ht)
  · have e1 : some ((1, v1) : zV) = some (1, (h (3 + 2 * t) b.toNat).2) := e1
    rcases c2 with ⟨n2, -⟩ | ⟨t', ht', w2, e2⟩
    · exact absurd ((wCD hR k1 ht).mp w1) (n2 t ht)
    · have e2 : some ((1, v2) : zV) = some (1, (h1 124 (60 * t' + b.toNat)).2) := e2
      have htt : t' = t := by have := w1.1; have := w2.1; omega
      subst htt
      have x1 : v1 = (h (3 + 2 * t') b.toNat).2 := by cases e1; rfl
      have x2 : v2 = (h1 124 (60 * t' + b.toNat)).2 := by cases e2; rfl
      have hb := tLe hZ ht
      obtain ⟨-, b1, b2, b3⟩ := w1
      rcases hR t' ht with ⟨y1, y2⟩ | ⟨-, -, y3⟩
      · exact absurd y1 b1
      · rw [x1, x2, (k1 t' ht).2.2 b.toNat (by omega)]
        exact (y3 b.toNat (by omega) (by omega)).symm
/-! pour() -/
def pCc (i j n : Int) (h : zH) (t u : Nat) : Prop := (h (2 + 2 * t) 1).2 ≠ -1 ∧ (h (2 + 2 * u) 1).2 ≠ -1 ∧ (h (2 + 2 * t) 1).2 = (h (2 + 2 * u) 1).2 ∧ 0 ≤ n ∧ (0 ≤ i ∧ i + n ≤ (h (2 + 2 * t) 2).2) ∧ 0 ≤ j ∧ j + n ≤ (h (2 + 2 * u) 2).2
def pDd (i j n : Int) (h : zH) (t u : Nat) : Prop := 0 ≤ (h 123 t).2 ∧ 0 ≤ (h 123 u).2 ∧ (h 122 t).2 = (h 122 u).2 ∧ 0 ≤ n ∧ (0 ≤ i ∧ i + n ≤ (h 123 t).2) ∧ 0 ≤ j ∧ j + n ≤ (h 123 u).2
def pC (a i b j n : Int) (h : zH) (t u : Nat) : Prop := a = (t : Int) ∧ b = (u : Int) ∧ pCc i j n h t u
def pD (a i b j n : Int) (h : zH) (t u : Nat) : Prop := a = (t : Int) ∧ b = (u : Int) ∧ pDd i j n h t u
def cPo (a i b j n : Int) (h : zH) (r : zR) : Prop := ((∀ t u : Nat, t < 4 → u < 4 → ¬ pC a i b j n h t u) ∧ r.2 = some (0, 0) ∧ cK h r.1) ∨ (∃ t u : Nat, t < 4 ∧ u < 4 ∧ pC a i b j n h t u ∧ r.2 = some (0, 1) ∧ r.1 = zset (zcopy h (3 + 2 * t) i.toNat (3 + 2 * u) j.toNat n.toNat) 0 0 (0, 0))
def rPo (a i b j n : Int) (h : zH) (r : zR) : Prop := ((∀ t u : Nat, t < 4 → u < 4 → ¬ pD a i b j n h t u) ∧ r.2 = some (0, 0) ∧ rK h r.1) ∨ (∃ t u : Nat, t < 4 ∧ u < 4 ∧ pD a i b j n h t u ∧ r.2 = some (0, 1) ∧ ∀ x y : Nat, r.1 x y = if x = 124 ∧ 60 * b + j ≤ (y : Int) ∧ (y : Int) < 60 * b + j + n then (1, (h 124 (60 * a + i + ((y : Int) - (60 * b + j))).toNat).2) else zset (zset h 121 1 (0, 0)) 121 0 (0, 0) x y)
theorem cPo_ok {D : zD} {T : zT} (hT : hTab T) (hO : vOK T) {N : Nat} {h : zH} (a i b j n : Int) (hn : n ≤ 2147483647) (hL : ∀ t : Nat, t < 4 → 0 ≤ (h (2 + 2 * t) 2).2 ∧ (h (2 + 2 * t) 2).2 ≤ 60) : vP D T N 172 0 h [some (2, 0), some (0, a), some (0, i), some (0, b), some (0, j), some (0, n), none, none] [] (cPo a i b j n h) := by
  refine vP_hv (fun hv => ?_)
  by_cases a0 : a < 0
  · exact y_X11_pour_lo hT hO a i b j n hv a0 (Or.inl ⟨fun t u ht hu g => by have := g.1; omega, rfl, cK_z⟩)
  by_cases a4 : 4 ≤ a
  · exact y_X11_pour_hi hT hO a i b j n hv (by omega) a4 (Or.inl ⟨fun t u ht hu g => by have := g.1; omega, rfl, cK_z⟩)
  by_cases b0 : b < 0
  · exact y_X11_pour_blo hT hO a i b j n hv (by omega) (by omega) b0 (Or.inl ⟨fun t u ht hu g => by have := g.2.1; omega, rfl, cK_z⟩)
  by_cases b4 : 4 ≤ b
  · exact y_X11_pour_bhi hT hO a i b j n hv (by omega) (by omega) (by omega) b4 (Or.inl ⟨fun t u ht hu g => by have := g.2.1; omega, rfl, cK_z⟩)
  have fail : ∀ (s u : Nat) (w : zV), a = (s : Int) → b = (u : Int) → ¬ pCc i j n h s u → cPo a i b j n h (zset h 0 0 w, some (0, 0)) := fun s u w hs hu hn => Or.inl ⟨fun t v ht hv g => by
    have e : s = t := by have := g.1; omega
    have f : u = v := by have := g.2.1; omega
    subst e; subst f
    exact hn g.2.2, rfl, cK_z⟩
  have e0 : a = 0 ∨ a = 1 ∨ a = 2 ∨ a = 3 := by omega
  have f0 : b = 0 ∨ b = 1 ∨ b = 2 ∨ b = 3 := by omega
  rcases e0 with e | e | e | e
  · rcases f0 with f | f | f | f
    · subst e; subst f
      refine y_X11_pour_0_0 hT hO i j n hv (hL 0 (by decide)) (hL 0 (by decide)) hn ?_ ?_ ?_ ?_ ?_ ?_ ?_ ?_
      · intros
        exact fail 0 0 _ rfl rfl (fun g => by have g1 : (h 2 1).2 ≠ -1 := g.1; have g2 : (h 2 1).2 ≠ -1 := g.2.1; have g3 : (h 2 1).2 = (h 2 1).2 := g.2.2.1; have g4 : 0 ≤ n := g.2.2.2.1; have g5 : 0 ≤ i := g.2.2.2.2.1.1; have g6 : i + n ≤ (h 2 2).2 := g.2.2.2.2.1.2; have g7 : 0 ≤ j := g.2.2.2.2.2.1; have g8 : j + n ≤ (h 2 2).2 := g.2.2.2.2.2.2; omega)
      · intros
        exact fail 0 0 _ rfl rfl (fun g => by have g1 : (h 2 1).2 ≠ -1 := g.1; have g2 : (h 2 1).2 ≠ -1 := g.2.1; have g3 : (h 2 1).2 = (h 2 1).2 := g.2.2.1; have g4 : 0 ≤ n := g.2.2.2.1; have g5 : 0 ≤ i := g.2.2.2.2.1.1; have g6 : i + n ≤ (h 2 2).2 := g.2.2.2.2.1.2; have g7 : 0 ≤ j := g.2.2.2.2.2.1; have g8 : j + n ≤ (h 2 2).2 := g.2.2.2.2.2.2; omega)
      · intros
        exact fail 0 0 _ rfl rfl (fun g => by have g1 : (h 2 1).2 ≠ -1 := g.1; have g2 : (h 2 1).2 ≠ -1 := g.2.1; have g3 : (h 2 1).2 = (h 2 1).2 := g.2.2.1; have g4 : 0 ≤ n := g.2.2.2.1; have g5 : 0 ≤ i := g.2.2.2.2.1.1; have g6 : i + n ≤ (h 2 2).2 := g.2.2.2.2.1.2; have g7 : 0 ≤ j := g.2.2.2.2.2.1; have g8 : j + n ≤ (h 2 2).2 := g.2.2.2.2.2.2; omega)
      · intros
        exact fail 0 0 _ rfl rfl (fun g => by have g1 : (h 2 1).2 ≠ -1 := g.1; have g2 : (h 2 1).2 ≠ -1 := g.2.1; have g3 : (h 2 1).2 = (h 2 1).2 := g.2.2.1; have g4 : 0 ≤ n := g.2.2.2.1; have g5 : 0 ≤ i := g.2.2.2.2.1.1; have g6 : i + n ≤ (h 2 2).2 := g.2.2.2.2.1.2; have g7 : 0 ≤ j := g.2.2.2.2.2.1; have g8 : j + n ≤ (h 2 2).2 := g.2.2.2.2.2.2; omega)
      · intros
        exact fail 0 0 _ rfl rfl (fun g => by have g1 : (h 2 1).2 ≠ -1 := g.1; have g2 : (h 2 1).2 ≠ -1 := g.2.1; have g3 : (h 2 1).2 = (h 2 1).2 := g.2.2.1; have g4 : 0 ≤ n := g.2.2.2.1; have g5 : 0 ≤ i := g.2.2.2.2.1.1; have g6 : i + n ≤ (h 2 2).2 := g.2.2.2.2.1.2; have g7 : 0 ≤ j := g.2.2.2.2.2.1; have g8 : j + n ≤ (h 2 2).2 := g.2.2.2.2.2.2; omega)
      · intros
        exact fail 0 0 _ rfl rfl (fun g => by have g1 : (h 2 1).2 ≠ -1 := g.1; have g2 : (h 2 1).2 ≠ -1 := g.2.1; have g3 : (h 2 1).2 = (h 2 1).2 := g.2.2.1; have g4 : 0 ≤ n := g.2.2.2.1; have g5 : 0 ≤ i := g.2.2.2.2.1.1; have g6 : i + n ≤ (h 2 2).2 := g.2.2.2.2.1.2; have g7 : 0 ≤ j := g.2.2.2.2.2.1; have g8 : j + n ≤ (h 2 2).2 := g.2.2.2.2.2.2; omega)
      · intro c0 c1 c2 c3 c4 c5 c6 c7 c8 c9 c10 c11
        refine Or.inr ⟨0, 0, by decide, by decide, ⟨rfl, rfl, (?_ : (h 2 1).2 ≠ -1), (?_ : (h 2 1).2 ≠ -1), (?_ : (h 2 1).2 = (h 2 1).2), ?_, ⟨?_, (?_ : i + n ≤ (h 2 2).2)⟩, ?_, (?_ : j + n ≤ (h 2 2).2)⟩, rfl, rfl⟩ <;> first | assumption | omega
      · intros
        exact fail 0 0 _ rfl rfl (fun g => by have g1 : (h 2 1).2 ≠ -1 := g.1; have g2 : (h 2 1).2 ≠ -1 := g.2.1; have g3 : (h 2 1).2 = (h 2 1).2 := g.2.2.1; have g4 : 0 ≤ n := g.2.2.2.1; have g5 : 0 ≤ i := g.2.2.2.2.1.1; have g6 : i + n ≤ (h 2 2).2 := g.2.2.2.2.1.2; have g7 : 0 ≤ j := g.2.2.2.2.2.1; have g8 : j + n ≤ (h 2 2).2 := g.2.2.2.2.2.2; omega)
    · subst e; subst f
      refine y_X11_pour_0_1 hT hO i j n hv (hL 0 (by decide)) (hL 1 (by decide)) hn ?_ ?_ ?_ ?_ ?_ ?_ ?_ ?_ ?_
      · intros
        exact fail 0 1 _ rfl rfl (fun g => by have g1 : (h 2 1).2 ≠ -1 := g.1; have g2 : (h 4 1).2 ≠ -1 := g.2.1; have g3 : (h 2 1).2 = (h 4 1).2 := g.2.2.1; have g4 : 0 ≤ n := g.2.2.2.1; have g5 : 0 ≤ i := g.2.2.2.2.1.1; have g6 : i + n ≤ (h 2 2).2 := g.2.2.2.2.1.2; have g7 : 0 ≤ j := g.2.2.2.2.2.1; have g8 : j + n ≤ (h 4 2).2 := g.2.2.2.2.2.2; omega)
      · intros
        exact fail 0 1 _ rfl rfl (fun g => by have g1 : (h 2 1).2 ≠ -1 := g.1; have g2 : (h 4 1).2 ≠ -1 := g.2.1; have g3 : (h 2 1).2 = (h 4 1).2 := g.2.2.1; have g4 : 0 ≤ n := g.2.2.2.1; have g5 : 0 ≤ i := g.2.2.2.2.1.1; have g6 : i + n ≤ (h 2 2).2 := g.2.2.2.2.1.2; have g7 : 0 ≤ j := g.2.2.2.2.2.1; have g8 : j + n ≤ (h 4 2).2 := g.2.2.2.2.2.2; omega)
      · intros
        exact fail 0 1 _ rfl rfl (fun g => by have g1 : (h 2 1).2 ≠ -1 := g.1; have g2 : (h 4 1).2 ≠ -1 := g.2.1; have g3 : (h 2 1).2 = (h 4 1).2 := g.2.2.1; have g4 : 0 ≤ n := g.2.2.2.1; have g5 : 0 ≤ i := g.2.2.2.2.1.1; have g6 : i + n ≤ (h 2 2).2 := g.2.2.2.2.1.2; have g7 : 0 ≤ j := g.2.2.2.2.2.1; have g8 : j + n ≤ (h 4 2).2 := g.2.2.2.2.2.2; omega)
      · intros
        exact fail 0 1 _ rfl rfl (fun g => by have g1 : (h 2 1).2 ≠ -1 := g.1; have g2 : (h 4 1).2 ≠ -1 := g.2.1; have g3 : (h 2 1).2 = (h 4 1).2 := g.2.2.1; have g4 : 0 ≤ n := g.2.2.2.1; have g5 : 0 ≤ i := g.2.2.2.2.1.1; have g6 : i + n ≤ (h 2 2).2 := g.2.2.2.2.1.2; have g7 : 0 ≤ j := g.2.2.2.2.2.1; have g8 : j + n ≤ (h 4 2).2 := g.2.2.2.2.2.2; omega)
      · intros
        exact fail 0 1 _ rfl rfl (fun g => by have g1 : (h 2 1).2 ≠ -1 := g.1; have g2 : (h 4 1).2 ≠ -1 := g.2.1; have g3 : (h 2 1).2 = (h 4 1).2 := g.2.2.1; have g4 : 0 ≤ n := g.2.2.2.1; have g5 : 0 ≤ i := g.2.2.2.2.1.1; have g6 : i + n ≤ (h 2 2).2 := g.2.2.2.2.1.2; have g7 : 0 ≤ j := g.2.2.2.2.2.1; have g8 : j + n ≤ (h 4 2).2 := g.2.2.2.2.2.2; omega)
      · intros
        exact fail 0 1 _ rfl rfl (fun g => by have g1 : (h 2 1).2 ≠ -1 := g.1; have g2 : (h 4 1).2 ≠ -1 := g.2.1; have g3 : (h 2 1).2 = (h 4 1).2 := g.2.2.1; have g4 : 0 ≤ n := g.2.2.2.1; have g5 : 0 ≤ i := g.2.2.2.2.1.1; have g6 : i + n ≤ (h 2 2).2 := g.2.2.2.2.1.2; have g7 : 0 ≤ j := g.2.2.2.2.2.1; have g8 : j + n ≤ (h 4 2).2 := g.2.2.2.2.2.2; omega)
      · intros
        exact fail 0 1 _ rfl rfl (fun g => by have g1 : (h 2 1).2 ≠ -1 := g.1; have g2 : (h 4 1).2 ≠ -1 := g.2.1; have g3 : (h 2 1).2 = (h 4 1).2 := g.2.2.1; have g4 : 0 ≤ n := g.2.2.2.1; have g5 : 0 ≤ i := g.2.2.2.2.1.1; have g6 : i + n ≤ (h 2 2).2 := g.2.2.2.2.1.2; have g7 : 0 ≤ j := g.2.2.2.2.2.1; have g8 : j + n ≤ (h 4 2).2 := g.2.2.2.2.2.2; omega)
      · intro c0 c1 c2 c3 c4 c5 c6 c7 c8 c9 c10 c11 c12
        refine Or.inr ⟨0, 1, by decide, by decide, ⟨rfl, rfl, (?_ : (h 2 1).2 ≠ -1), (?_ : (h 4 1).2 ≠ -1), (?_ : (h 2 1).2 = (h 4 1).2), ?_, ⟨?_, (?_ : i + n ≤ (h 2 2).2)⟩, ?_, (?_ : j + n ≤ (h 4 2).2)⟩, rfl, rfl⟩ <;> first | assumption | omega
      · intros
        exact fail 0 1 _ rfl rfl (fun g => by have g1 : (h 2 1).2 ≠ -1 := g.1; have g2 : (h 4 1).2 ≠ -1 := g.2.1; have g3 : (h 2 1).2 = (h 4 1).2 := g.2.2.1; have g4 : 0 ≤ n := g.2.2.2.1; have g5 : 0 ≤ i := g.2.2.2.2.1.1; have g6 : i + n ≤ (h 2 2).2 := g.2.2.2.2.1.2; have g7 : 0 ≤ j := g.2.2.2.2.2.1; have g8 : j + n ≤ (h 4 2).2 := g.2.2.2.2.2.2; omega)
    · subst e; subst f
      refine y_X11_pour_0_2 hT hO i j n hv (hL 0 (by decide)) (hL 2 (by decide)) hn ?_ ?_ ?_ ?_ ?_ ?_ ?_ ?_ ?_
      · intros
        exact fail 0 2 _ rfl rfl (fun g => by have g1 : (h 2 1).2 ≠ -1 := g.1; have g2 : (h 6 1).2 ≠ -1 := g.2.1; have g3 : (h 2 1).2 = (h 6 1).2 := g.2.2.1; have g4 : 0 ≤ n := g.2.2.2.1; have g5 : 0 ≤ i := g.2.2.2.2.1.1; have g6 : i + n ≤ (h 2 2).2 := g.2.2.2.2.1.2; have g7 : 0 ≤ j := g.2.2.2.2.2.1; have g8 : j + n ≤ (h 6 2).2 := g.2.2.2.2.2.2; omega)
      · intros
        exact fail 0 2 _ rfl rfl (fun g => by have g1 : (h 2 1).2 ≠ -1 := g.1; have g2 : (h 6 1).2 ≠ -1 := g.2.1; have g3 : (h 2 1).2 = (h 6 1).2 := g.2.2.1; have g4 : 0 ≤ n := g.2.2.2.1; have g5 : 0 ≤ i := g.2.2.2.2.1.1; have g6 : i + n ≤ (h 2 2).2 := g.2.2.2.2.1.2; have g7 : 0 ≤ j := g.2.2.2.2.2.1; have g8 : j + n ≤ (h 6 2).2 := g.2.2.2.2.2.2; omega)
      · intros
        exact fail 0 2 _ rfl rfl (fun g => by have g1 : (h 2 1).2 ≠ -1 := g.1; have g2 : (h 6 1).2 ≠ -1 := g.2.1; have g3 : (h 2 1).2 = (h 6 1).2 := g.2.2.1; have g4 : 0 ≤ n := g.2.2.2.1; have g5 : 0 ≤ i := g.2.2.2.2.1.1; have g6 : i + n ≤ (h 2 2).2 := g.2.2.2.2.1.2; have g7 : 0 ≤ j := g.2.2.2.2.2.1; have g8 : j + n ≤ (h 6 2).2 := g.2.2.2.2.2.2; omega)
      · intros
        exact fail 0 2 _ rfl rfl (fun g => by have g1 : (h 2 1).2 ≠ -1 := g.1; have g2 : (h 6 1).2 ≠ -1 := g.2.1; have g3 : (h 2 1).2 = (h 6 1).2 := g.2.2.1; have g4 : 0 ≤ n := g.2.2.2.1; have g5 : 0 ≤ i := g.2.2.2.2.1.1; have g6 : i + n ≤ (h 2 2).2 := g.2.2.2.2.1.2; have g7 : 0 ≤ j := g.2.2.2.2.2.1; have g8 : j + n ≤ (h 6 2).2 := g.2.2.2.2.2.2; omega)
      · intros
        exact fail 0 2 _ rfl rfl (fun g => by have g1 : (h 2 1).2 ≠ -1 := g.1; have g2 : (h 6 1).2 ≠ -1 := g.2.1; have g3 : (h 2 1).2 = (h 6 1).2 := g.2.2.1; have g4 : 0 ≤ n := g.2.2.2.1; have g5 : 0 ≤ i := g.2.2.2.2.1.1; have g6 : i + n ≤ (h 2 2).2 := g.2.2.2.2.1.2; have g7 : 0 ≤ j := g.2.2.2.2.2.1; have g8 : j + n ≤ (h 6 2).2 := g.2.2.2.2.2.2; omega)
      · intros
        exact fail 0 2 _ rfl rfl (fun g => by have g1 : (h 2 1).2 ≠ -1 := g.1; have g2 : (h 6 1).2 ≠ -1 := g.2.1; have g3 : (h 2 1).2 = (h 6 1).2 := g.2.2.1; have g4 : 0 ≤ n := g.2.2.2.1; have g5 : 0 ≤ i := g.2.2.2.2.1.1; have g6 : i + n ≤ (h 2 2).2 := g.2.2.2.2.1.2; have g7 : 0 ≤ j := g.2.2.2.2.2.1; have g8 : j + n ≤ (h 6 2).2 := g.2.2.2.2.2.2; omega)
      · intros
        exact fail 0 2 _ rfl rfl (fun g => by have g1 : (h 2 1).2 ≠ -1 := g.1; have g2 : (h 6 1).2 ≠ -1 := g.2.1; have g3 : (h 2 1).2 = (h 6 1).2 := g.2.2.1; have g4 : 0 ≤ n := g.2.2.2.1; have g5 : 0 ≤ i := g.2.2.2.2.1.1; have g6 : i + n ≤ (h 2 2).2 := g.2.2.2.2.1.2; have g7 : 0 ≤ j := g.2.2.2.2.2.1; have g8 : j + n ≤ (h 6 2).2 := g.2.2.2.2.2.2; omega)
      · intro c0 c1 c2 c3 c4 c5 c6 c7 c8 c9 c10 c11 c12
        refine Or.inr ⟨0, 2, by decide, by decide, ⟨rfl, rfl, (?_ : (h 2 1).2 ≠ -1), (?_ : (h 6 1).2 ≠ -1), (?_ : (h 2 1).2 = (h 6 1).2), ?_, ⟨?_, (?_ : i + n ≤ (h 2 2).2)⟩, ?_, (?_ : j + n ≤ (h 6 2).2)⟩, rfl, rfl⟩ <;> first | assumption | omega
      · intros
        exact fail 0 2 _ rfl rfl (fun g => by have g1 : (h 2 1).2 ≠ -1 := g.1; have g2 : (h 6 1).2 ≠ -1 := g.2.1; have g3 : (h 2 1).2 = (h 6 1).2 := g.2.2.1; have g4 : 0 ≤ n := g.2.2.2.1; have g5 : 0 ≤ i := g.2.2.2.2.1.1; have g6 : i + n ≤ (h 2 2).2 := g.2.2.2.2.1.2; have g7 : 0 ≤ j := g.2.2.2.2.2.1; have g8 : j + n ≤ (h 6 2).2 := g.2.2.2.2.2.2; omega)
    · subst e; subst f
      refine y_X11_pour_0_3 hT hO i j n hv (hL 0 (by decide)) (hL 3 (by decide)) hn ?_ ?_ ?_ ?_ ?_ ?_ ?_ ?_ ?_
      · intros
        exact fail 0 3 _ rfl rfl (fun g => by have g1 : (h 2 1).2 ≠ -1 := g.1; have g2 : (h 8 1).2 ≠ -1 := g.2.1; have g3 : (h 2 1).2 = (h 8 1).2 := g.2.2.1; have g4 : 0 ≤ n := g.2.2.2.1; have g5 : 0 ≤ i := g.2.2.2.2.1.1; have g6 : i + n ≤ (h 2 2).2 := g.2.2.2.2.1.2; have g7 : 0 ≤ j := g.2.2.2.2.2.1; have g8 : j + n ≤ (h 8 2).2 := g.2.2.2.2.2.2; omega)
      · intros
        exact fail 0 3 _ rfl rfl (fun g => by have g1 : (h 2 1).2 ≠ -1 := g.1; have g2 : (h 8 1).2 ≠ -1 := g.2.1; have g3 : (h 2 1).2 = (h 8 1).2 := g.2.2.1; have g4 : 0 ≤ n := g.2.2.2.1; have g5 : 0 ≤ i := g.2.2.2.2.1.1; have g6 : i + n ≤ (h 2 2).2 := g.2.2.2.2.1.2; have g7 : 0 ≤ j := g.2.2.2.2.2.1; have g8 : j + n ≤ (h 8 2).2 := g.2.2.2.2.2.2; omega)
      · intros
        exact fail 0 3 _ rfl rfl (fun g => by have g1 : (h 2 1).2 ≠ -1 := g.1; have g2 : (h 8 1).2 ≠ -1 := g.2.1; have g3 : (h 2 1).2 = (h 8 1).2 := g.2.2.1; have g4 : 0 ≤ n := g.2.2.2.1; have g5 : 0 ≤ i := g.2.2.2.2.1.1; have g6 : i + n ≤ (h 2 2).2 := g.2.2.2.2.1.2; have g7 : 0 ≤ j := g.2.2.2.2.2.1; have g8 : j + n ≤ (h 8 2).2 := g.2.2.2.2.2.2; omega)
      · intros
        exact fail 0 3 _ rfl rfl (fun g => by have g1 : (h 2 1).2 ≠ -1 := g.1; have g2 : (h 8 1).2 ≠ -1 := g.2.1; have g3 : (h 2 1).2 = (h 8 1).2 := g.2.2.1; have g4 : 0 ≤ n := g.2.2.2.1; have g5 : 0 ≤ i := g.2.2.2.2.1.1; have g6 : i + n ≤ (h 2 2).2 := g.2.2.2.2.1.2; have g7 : 0 ≤ j := g.2.2.2.2.2.1; have g8 : j + n ≤ (h 8 2).2 := g.2.2.2.2.2.2; omega)
      · intros
        exact fail 0 3 _ rfl rfl (fun g => by have g1 : (h 2 1).2 ≠ -1 := g.1; have g2 : (h 8 1).2 ≠ -1 := g.2.1; have g3 : (h 2 1).2 = (h 8 1).2 := g.2.2.1; have g4 : 0 ≤ n := g.2.2.2.1; have g5 : 0 ≤ i := g.2.2.2.2.1.1; have g6 : i + n ≤ (h 2 2).2 := g.2.2.2.2.1.2; have g7 : 0 ≤ j := g.2.2.2.2.2.1; have g8 : j + n ≤ (h 8 2).2 := g.2.2.2.2.2.2; omega)
      · intros
        exact fail 0 3 _ rfl rfl (fun g => by have g1 : (h 2 1).2 ≠ -1 := g.1; have g2 : (h 8 1).2 ≠ -1 := g.2.1; have g3 : (h 2 1).2 = (h 8 1).2 := g.2.2.1; have g4 : 0 ≤ n := g.2.2.2.1; have g5 : 0 ≤ i := g.2.2.2.2.1.1; have g6 : i + n ≤ (h 2 2).2 := g.2.2.2.2.1.2; have g7 : 0 ≤ j := g.2.2.2.2.2.1; have g8 : j + n ≤ (h 8 2).2 := g.2.2.2.2.2.2; omega)
      · intros
        exact fail 0 3 _ rfl rfl (fun g => by have g1 : (h 2 1).2 ≠ -1 := g.1; have g2 : (h 8 1).2 ≠ -1 := g.2.1; have g3 : (h 2 1).2 = (h 8 1).2 := g.2.2.1; have g4 : 0 ≤ n := g.2.2.2.1; have g5 : 0 ≤ i := g.2.2.2.2.1.1; have g6 : i + n ≤ (h 2 2).2 := g.2.2.2.2.1.2; have g7 : 0 ≤ j := g.2.2.2.2.2.1; have g8 : j + n ≤ (h 8 2).2 := g.2.2.2.2.2.2; omega)
      · intro c0 c1 c2 c3 c4 c5 c6 c7 c8 c9 c10 c11 c12
        refine Or.inr ⟨0, 3, by decide, by decide, ⟨rfl, rfl, (?_ : (h 2 1).2 ≠ -1), (?_ : (h 8 1).2 ≠ -1), (?_ : (h 2 1).2 = (h 8 1).2), ?_, ⟨?_, (?_ : i + n ≤ (h 2 2).2)⟩, ?_, (?_ : j + n ≤ (h 8 2).2)⟩, rfl, rfl⟩ <;> first | assumption | omega
      · intros
        exact fail 0 3 _ rfl rfl (fun g => by have g1 : (h 2 1).2 ≠ -1 := g.1; have g2 : (h 8 1).2 ≠ -1 := g.2.1; have g3 : (h 2 1).2 = (h 8 1).2 := g.2.2.1; have g4 : 0 ≤ n := g.2.2.2.1; have g5 : 0 ≤ i := g.2.2.2.2.1.1; have g6 : i + n ≤ (h 2 2).2 := g.2.2.2.2.1.2; have g7 : 0 ≤ j := g.2.2.2.2.2.1; have g8 : j + n ≤ (h 8 2).2 := g.2.2.2.2.2.2; omega)
  · rcases f0 with f | f | f | f
    · subst e; subst f
      refine y_X11_pour_1_0 hT hO i j n hv (hL 1 (by decide)) (hL 0 (by decide)) hn ?_ ?_ ?_ ?_ ?_ ?_ ?_ ?_ ?_
      · intros
        exact fail 1 0 _ rfl rfl (fun g => by have g1 : (h 4 1).2 ≠ -1 := g.1; have g2 : (h 2 1).2 ≠ -1 := g.2.1; have g3 : (h 4 1).2 = (h 2 1).2 := g.2.2.1; have g4 : 0 ≤ n := g.2.2.2.1; have g5 : 0 ≤ i := g.2.2.2.2.1.1; have g6 : i + n ≤ (h 4 2).2 := g.2.2.2.2.1.2; have g7 : 0 ≤ j := g.2.2.2.2.2.1; have g8 : j + n ≤ (h 2 2).2 := g.2.2.2.2.2.2; omega)
      · intros
        exact fail 1 0 _ rfl rfl (fun g => by have g1 : (h 4 1).2 ≠ -1 := g.1; have g2 : (h 2 1).2 ≠ -1 := g.2.1; have g3 : (h 4 1).2 = (h 2 1).2 := g.2.2.1; have g4 : 0 ≤ n := g.2.2.2.1; have g5 : 0 ≤ i := g.2.2.2.2.1.1; have g6 : i + n ≤ (h 4 2).2 := g.2.2.2.2.1.2; have g7 : 0 ≤ j := g.2.2.2.2.2.1; have g8 : j + n ≤ (h 2 2).2 := g.2.2.2.2.2.2; omega)
      · intros
        exact fail 1 0 _ rfl rfl (fun g => by have g1 : (h 4 1).2 ≠ -1 := g.1; have g2 : (h 2 1).2 ≠ -1 := g.2.1; have g3 : (h 4 1).2 = (h 2 1).2 := g.2.2.1; have g4 : 0 ≤ n := g.2.2.2.1; have g5 : 0 ≤ i := g.2.2.2.2.1.1; have g6 : i + n ≤ (h 4 2).2 := g.2.2.2.2.1.2; have g7 : 0 ≤ j := g.2.2.2.2.2.1; have g8 : j + n ≤ (h 2 2).2 := g.2.2.2.2.2.2; omega)
      · intros
        exact fail 1 0 _ rfl rfl (fun g => by have g1 : (h 4 1).2 ≠ -1 := g.1; have g2 : (h 2 1).2 ≠ -1 := g.2.1; have g3 : (h 4 1).2 = (h 2 1).2 := g.2.2.1; have g4 : 0 ≤ n := g.2.2.2.1; have g5 : 0 ≤ i := g.2.2.2.2.1.1; have g6 : i + n ≤ (h 4 2).2 := g.2.2.2.2.1.2; have g7 : 0 ≤ j := g.2.2.2.2.2.1; have g8 : j + n ≤ (h 2 2).2 := g.2.2.2.2.2.2; omega)
      · intros
        exact fail 1 0 _ rfl rfl (fun g => by have g1 : (h 4 1).2 ≠ -1 := g.1; have g2 : (h 2 1).2 ≠ -1 := g.2.1; have g3 : (h 4 1).2 = (h 2 1).2 := g.2.2.1; have g4 : 0 ≤ n := g.2.2.2.1; have g5 : 0 ≤ i := g.2.2.2.2.1.1; have g6 : i + n ≤ (h 4 2).2 := g.2.2.2.2.1.2; have g7 : 0 ≤ j := g.2.2.2.2.2.1; have g8 : j + n ≤ (h 2 2).2 := g.2.2.2.2.2.2; omega)
      · intros
        exact fail 1 0 _ rfl rfl (fun g => by have g1 : (h 4 1).2 ≠ -1 := g.1; have g2 : (h 2 1).2 ≠ -1 := g.2.1; have g3 : (h 4 1).2 = (h 2 1).2 := g.2.2.1; have g4 : 0 ≤ n := g.2.2.2.1; have g5 : 0 ≤ i := g.2.2.2.2.1.1; have g6 : i + n ≤ (h 4 2).2 := g.2.2.2.2.1.2; have g7 : 0 ≤ j := g.2.2.2.2.2.1; have g8 : j + n ≤ (h 2 2).2 := g.2.2.2.2.2.2; omega)
      · intros
        exact fail 1 0 _ rfl rfl (fun g => by have g1 : (h 4 1).2 ≠ -1 := g.1; have g2 : (h 2 1).2 ≠ -1 := g.2.1; have g3 : (h 4 1).2 = (h 2 1).2 := g.2.2.1; have g4 : 0 ≤ n := g.2.2.2.1; have g5 : 0 ≤ i := g.2.2.2.2.1.1; have g6 : i + n ≤ (h 4 2).2 := g.2.2.2.2.1.2; have g7 : 0 ≤ j := g.2.2.2.2.2.1; have g8 : j + n ≤ (h 2 2).2 := g.2.2.2.2.2.2; omega)
      · intro c0 c1 c2 c3 c4 c5 c6 c7 c8 c9 c10 c11 c12
        refine Or.inr ⟨1, 0, by decide, by decide, ⟨rfl, rfl, (?_ : (h 4 1).2 ≠ -1), (?_ : (h 2 1).2 ≠ -1), (?_ : (h 4 1).2 = (h 2 1).2), ?_, ⟨?_, (?_ : i + n ≤ (h 4 2).2)⟩, ?_, (?_ : j + n ≤ (h 2 2).2)⟩, rfl, rfl⟩ <;> first | assumption | omega
      · intros
        exact fail 1 0 _ rfl rfl (fun g => by have g1 : (h 4 1).2 ≠ -1 := g.1; have g2 : (h 2 1).2 ≠ -1 := g.2.1; have g3 : (h 4 1).2 = (h 2 1).2 := g.2.2.1; have g4 : 0 ≤ n := g.2.2.2.1; have g5 : 0 ≤ i := g.2.2.2.2.1.1; have g6 : i + n ≤ (h 4 2).2 := g.2.2.2.2.1.2; have g7 : 0 ≤ j := g.2.2.2.2.2.1; have g8 : j + n ≤ (h 2 2).2 := g.2.2.2.2.2.2; omega)
    · subst e; subst f
      refine y_X11_pour_1_1 hT hO i j n hv (hL 1 (by decide)) (hL 1 (by decide)) hn ?_ ?_ ?_ ?_ ?_ ?_ ?_ ?_
      · intros
        exact fail 1 1 _ rfl rfl (fun g => by have g1 : (h 4 1).2 ≠ -1 := g.1; have g2 : (h 4 1).2 ≠ -1 := g.2.1; have g3 : (h 4 1).2 = (h 4 1).2 := g.2.2.1; have g4 : 0 ≤ n := g.2.2.2.1; have g5 : 0 ≤ i := g.2.2.2.2.1.1; have g6 : i + n ≤ (h 4 2).2 := g.2.2.2.2.1.2; have g7 : 0 ≤ j := g.2.2.2.2.2.1; have g8 : j + n ≤ (h 4 2).2 := g.2.2.2.2.2.2; omega)
      · intros
        exact fail 1 1 _ rfl rfl (fun g => by have g1 : (h 4 1).2 ≠ -1 := g.1; have g2 : (h 4 1).2 ≠ -1 := g.2.1; have g3 : (h 4 1).2 = (h 4 1).2 := g.2.2.1; have g4 : 0 ≤ n := g.2.2.2.1; have g5 : 0 ≤ i := g.2.2.2.2.1.1; have g6 : i + n ≤ (h 4 2).2 := g.2.2.2.2.1.2; have g7 : 0 ≤ j := g.2.2.2.2.2.1; have g8 : j + n ≤ (h 4 2).2 := g.2.2.2.2.2.2; omega)
      · intros
        exact fail 1 1 _ rfl rfl (fun g => by have g1 : (h 4 1).2 ≠ -1 := g.1; have g2 : (h 4 1).2 ≠ -1 := g.2.1; have g3 : (h 4 1).2 = (h 4 1).2 := g.2.2.1; have g4 : 0 ≤ n := g.2.2.2.1; have g5 : 0 ≤ i := g.2.2.2.2.1.1; have g6 : i + n ≤ (h 4 2).2 := g.2.2.2.2.1.2; have g7 : 0 ≤ j := g.2.2.2.2.2.1; have g8 : j + n ≤ (h 4 2).2 := g.2.2.2.2.2.2; omega)
      · intros
        exact fail 1 1 _ rfl rfl (fun g => by have g1 : (h 4 1).2 ≠ -1 := g.1; have g2 : (h 4 1).2 ≠ -1 := g.2.1; have g3 : (h 4 1).2 = (h 4 1).2 := g.2.2.1; have g4 : 0 ≤ n := g.2.2.2.1; have g5 : 0 ≤ i := g.2.2.2.2.1.1; have g6 : i + n ≤ (h 4 2).2 := g.2.2.2.2.1.2; have g7 : 0 ≤ j := g.2.2.2.2.2.1; have g8 : j + n ≤ (h 4 2).2 := g.2.2.2.2.2.2; omega)
      · intros
        exact fail 1 1 _ rfl rfl (fun g => by have g1 : (h 4 1).2 ≠ -1 := g.1; have g2 : (h 4 1).2 ≠ -1 := g.2.1; have g3 : (h 4 1).2 = (h 4 1).2 := g.2.2.1; have g4 : 0 ≤ n := g.2.2.2.1; have g5 : 0 ≤ i := g.2.2.2.2.1.1; have g6 : i + n ≤ (h 4 2).2 := g.2.2.2.2.1.2; have g7 : 0 ≤ j := g.2.2.2.2.2.1; have g8 : j + n ≤ (h 4 2).2 := g.2.2.2.2.2.2; omega)
      · intros
        exact fail 1 1 _ rfl rfl (fun g => by have g1 : (h 4 1).2 ≠ -1 := g.1; have g2 : (h 4 1).2 ≠ -1 := g.2.1; have g3 : (h 4 1).2 = (h 4 1).2 := g.2.2.1; have g4 : 0 ≤ n := g.2.2.2.1; have g5 : 0 ≤ i := g.2.2.2.2.1.1; have g6 : i + n ≤ (h 4 2).2 := g.2.2.2.2.1.2; have g7 : 0 ≤ j := g.2.2.2.2.2.1; have g8 : j + n ≤ (h 4 2).2 := g.2.2.2.2.2.2; omega)
      · intro c0 c1 c2 c3 c4 c5 c6 c7 c8 c9 c10 c11
        refine Or.inr ⟨1, 1, by decide, by decide, ⟨rfl, rfl, (?_ : (h 4 1).2 ≠ -1), (?_ : (h 4 1).2 ≠ -1), (?_ : (h 4 1).2 = (h 4 1).2), ?_, ⟨?_, (?_ : i + n ≤ (h 4 2).2)⟩, ?_, (?_ : j + n ≤ (h 4 2).2)⟩, rfl, rfl⟩ <;> first | assumption | omega
      · intros
        exact fail 1 1 _ rfl rfl (fun g => by have g1 : (h 4 1).2 ≠ -1 := g.1; have g2 : (h 4 1).2 ≠ -1 := g.2.1; have g3 : (h 4 1).2 = (h 4 1).2 := g.2.2.1; have g4 : 0 ≤ n := g.2.2.2.1; have g5 : 0 ≤ i := g.2.2.2.2.1.1; have g6 : i + n ≤ (h 4 2).2 := g.2.2.2.2.1.2; have g7 : 0 ≤ j := g.2.2.2.2.2.1; have g8 : j + n ≤ (h 4 2).2 := g.2.2.2.2.2.2; omega)
    · subst e; subst f
      refine y_X11_pour_1_2 hT hO i j n hv (hL 1 (by decide)) (hL 2 (by decide)) hn ?_ ?_ ?_ ?_ ?_ ?_ ?_ ?_ ?_
      · intros
        exact fail 1 2 _ rfl rfl (fun g => by have g1 : (h 4 1).2 ≠ -1 := g.1; have g2 : (h 6 1).2 ≠ -1 := g.2.1; have g3 : (h 4 1).2 = (h 6 1).2 := g.2.2.1; have g4 : 0 ≤ n := g.2.2.2.1; have g5 : 0 ≤ i := g.2.2.2.2.1.1; have g6 : i + n ≤ (h 4 2).2 := g.2.2.2.2.1.2; have g7 : 0 ≤ j := g.2.2.2.2.2.1; have g8 : j + n ≤ (h 6 2).2 := g.2.2.2.2.2.2; omega)
      · intros
        exact fail 1 2 _ rfl rfl (fun g => by have g1 : (h 4 1).2 ≠ -1 := g.1; have g2 : (h 6 1).2 ≠ -1 := g.2.1; have g3 : (h 4 1).2 = (h 6 1).2 := g.2.2.1; have g4 : 0 ≤ n := g.2.2.2.1; have g5 : 0 ≤ i := g.2.2.2.2.1.1; have g6 : i + n ≤ (h 4 2).2 := g.2.2.2.2.1.2; have g7 : 0 ≤ j := g.2.2.2.2.2.1; have g8 : j + n ≤ (h 6 2).2 := g.2.2.2.2.2.2; omega)
      · intros
        exact fail 1 2 _ rfl rfl (fun g => by have g1 : (h 4 1).2 ≠ -1 := g.1; have g2 : (h 6 1).2 ≠ -1 := g.2.1; have g3 : (h 4 1).2 = (h 6 1).2 := g.2.2.1; have g4 : 0 ≤ n := g.2.2.2.1; have g5 : 0 ≤ i := g.2.2.2.2.1.1; have g6 : i + n ≤ (h 4 2).2 := g.2.2.2.2.1.2; have g7 : 0 ≤ j := g.2.2.2.2.2.1; have g8 : j + n ≤ (h 6 2).2 := g.2.2.2.2.2.2; omega)
      · intros
        exact fail 1 2 _ rfl rfl (fun g => by have g1 : (h 4 1).2 ≠ -1 := g.1; have g2 : (h 6 1).2 ≠ -1 := g.2.1; have g3 : (h 4 1).2 = (h 6 1).2 := g.2.2.1; have g4 : 0 ≤ n := g.2.2.2.1; have g5 : 0 ≤ i := g.2.2.2.2.1.1; have g6 : i + n ≤ (h 4 2).2 := g.2.2.2.2.1.2; have g7 : 0 ≤ j := g.2.2.2.2.2.1; have g8 : j + n ≤ (h 6 2).2 := g.2.2.2.2.2.2; omega)
      · intros
        exact fail 1 2 _ rfl rfl (fun g => by have g1 : (h 4 1).2 ≠ -1 := g.1; have g2 : (h 6 1).2 ≠ -1 := g.2.1; have g3 : (h 4 1).2 = (h 6 1).2 := g.2.2.1; have g4 : 0 ≤ n := g.2.2.2.1; have g5 : 0 ≤ i := g.2.2.2.2.1.1; have g6 : i + n ≤ (h 4 2).2 := g.2.2.2.2.1.2; have g7 : 0 ≤ j := g.2.2.2.2.2.1; have g8 : j + n ≤ (h 6 2).2 := g.2.2.2.2.2.2; omega)
      · intros
        exact fail 1 2 _ rfl rfl (fun g => by have g1 : (h 4 1).2 ≠ -1 := g.1; have g2 : (h 6 1).2 ≠ -1 := g.2.1; have g3 : (h 4 1).2 = (h 6 1).2 := g.2.2.1; have g4 : 0 ≤ n := g.2.2.2.1; have g5 : 0 ≤ i := g.2.2.2.2.1.1; have g6 : i + n ≤ (h 4 2).2 := g.2.2.2.2.1.2; have g7 : 0 ≤ j := g.2.2.2.2.2.1; have g8 : j + n ≤ (h 6 2).2 := g.2.2.2.2.2.2; omega)
      · intros
        exact fail 1 2 _ rfl rfl (fun g => by have g1 : (h 4 1).2 ≠ -1 := g.1; have g2 : (h 6 1).2 ≠ -1 := g.2.1; have g3 : (h 4 1).2 = (h 6 1).2 := g.2.2.1; have g4 : 0 ≤ n := g.2.2.2.1; have g5 : 0 ≤ i := g.2.2.2.2.1.1; have g6 : i + n ≤ (h 4 2).2 := g.2.2.2.2.1.2; have g7 : 0 ≤ j := g.2.2.2.2.2.1; have g8 : j + n ≤ (h 6 2).2 := g.2.2.2.2.2.2; omega)
      · intro c0 c1 c2 c3 c4 c5 c6 c7 c8 c9 c10 c11 c12
        refine Or.inr ⟨1, 2, by decide, by decide, ⟨rfl, rfl, (?_ : (h 4 1).2 ≠ -1), (?_ : (h 6 1).2 ≠ -1), (?_ : (h 4 1).2 = (h 6 1).2), ?_, ⟨?_, (?_ : i + n ≤ (h 4 2).2)⟩, ?_, (?_ : j + n ≤ (h 6 2).2)⟩, rfl, rfl⟩ <;> first | assumption | omega
      · intros
        exact fail 1 2 _ rfl rfl (fun g => by have g1 : (h 4 1).2 ≠ -1 := g.1; have g2 : (h 6 1).2 ≠ -1 := g.2.1; have g3 : (h 4 1).2 = (h 6 1).2 := g.2.2.1; have g4 : 0 ≤ n := g.2.2.2.1; have g5 : 0 ≤ i := g.2.2.2.2.1.1; have g6 : i + n ≤ (h 4 2).2 := g.2.2.2.2.1.2; have g7 : 0 ≤ j := g.2.2.2.2.2.1; have g8 : j + n ≤ (h 6 2).2 := g.2.2.2.2.2.2; omega)
    · subst e; subst f
      refine y_X11_pour_1_3 hT hO i j n hv (hL 1 (by decide)) (hL 3 (by decide)) hn ?_ ?_ ?_ ?_ ?_ ?_ ?_ ?_ ?_
      · intros
        exact fail 1 3 _ rfl rfl (fun g => by have g1 : (h 4 1).2 ≠ -1 := g.1; have g2 : (h 8 1).2 ≠ -1 := g.2.1; have g3 : (h 4 1).2 = (h 8 1).2 := g.2.2.1; have g4 : 0 ≤ n := g.2.2.2.1; have g5 : 0 ≤ i := g.2.2.2.2.1.1; have g6 : i + n ≤ (h 4 2).2 := g.2.2.2.2.1.2; have g7 : 0 ≤ j := g.2.2.2.2.2.1; have g8 : j + n ≤ (h 8 2).2 := g.2.2.2.2.2.2; omega)
      · intros
        exact fail 1 3 _ rfl rfl (fun g => by have g1 : (h 4 1).2 ≠ -1 := g.1; have g2 : (h 8 1).2 ≠ -1 := g.2.1; have g3 : (h 4 1).2 = (h 8 1).2 := g.2.2.1; have g4 : 0 ≤ n := g.2.2.2.1; have g5 : 0 ≤ i := g.2.2.2.2.1.1; have g6 : i + n ≤ (h 4 2).2 := g.2.2.2.2.1.2; have g7 : 0 ≤ j := g.2.2.2.2.2.1; have g8 : j + n ≤ (h 8 2).2 := g.2.2.2.2.2.2; omega)
      · intros
        exact fail 1 3 _ rfl rfl (fun g => by have g1 : (h 4 1).2 ≠ -1 := g.1; have g2 : (h 8 1).2 ≠ -1 := g.2.1; have g3 : (h 4 1).2 = (h 8 1).2 := g.2.2.1; have g4 : 0 ≤ n := g.2.2.2.1; have g5 : 0 ≤ i := g.2.2.2.2.1.1; have g6 : i + n ≤ (h 4 2).2 := g.2.2.2.2.1.2; have g7 : 0 ≤ j := g.2.2.2.2.2.1; have g8 : j + n ≤ (h 8 2).2 := g.2.2.2.2.2.2; omega)
      · intros
        exact fail 1 3 _ rfl rfl (fun g => by have g1 : (h 4 1).2 ≠ -1 := g.1; have g2 : (h 8 1).2 ≠ -1 := g.2.1; have g3 : (h 4 1).2 = (h 8 1).2 := g.2.2.1; have g4 : 0 ≤ n := g.2.2.2.1; have g5 : 0 ≤ i := g.2.2.2.2.1.1; have g6 : i + n ≤ (h 4 2).2 := g.2.2.2.2.1.2; have g7 : 0 ≤ j := g.2.2.2.2.2.1; have g8 : j + n ≤ (h 8 2).2 := g.2.2.2.2.2.2; omega)
      · intros
        exact fail 1 3 _ rfl rfl (fun g => by have g1 : (h 4 1).2 ≠ -1 := g.1; have g2 : (h 8 1).2 ≠ -1 := g.2.1; have g3 : (h 4 1).2 = (h 8 1).2 := g.2.2.1; have g4 : 0 ≤ n := g.2.2.2.1; have g5 : 0 ≤ i := g.2.2.2.2.1.1; have g6 : i + n ≤ (h 4 2).2 := g.2.2.2.2.1.2; have g7 : 0 ≤ j := g.2.2.2.2.2.1; have g8 : j + n ≤ (h 8 2).2 := g.2.2.2.2.2.2; omega)
      · intros
        exact fail 1 3 _ rfl rfl (fun g => by have g1 : (h 4 1).2 ≠ -1 := g.1; have g2 : (h 8 1).2 ≠ -1 := g.2.1; have g3 : (h 4 1).2 = (h 8 1).2 := g.2.2.1; have g4 : 0 ≤ n := g.2.2.2.1; have g5 : 0 ≤ i := g.2.2.2.2.1.1; have g6 : i + n ≤ (h 4 2).2 := g.2.2.2.2.1.2; have g7 : 0 ≤ j := g.2.2.2.2.2.1; have g8 : j + n ≤ (h 8 2).2 := g.2.2.2.2.2.2; omega)
      · intros
        exact fail 1 3 _ rfl rfl (fun g => by have g1 : (h 4 1).2 ≠ -1 := g.1; have g2 : (h 8 1).2 ≠ -1 := g.2.1; have g3 : (h 4 1).2 = (h 8 1).2 := g.2.2.1; have g4 : 0 ≤ n := g.2.2.2.1; have g5 : 0 ≤ i := g.2.2.2.2.1.1; have g6 : i + n ≤ (h 4 2).2 := g.2.2.2.2.1.2; have g7 : 0 ≤ j := g.2.2.2.2.2.1; have g8 : j + n ≤ (h 8 2).2 := g.2.2.2.2.2.2; omega)
      · intro c0 c1 c2 c3 c4 c5 c6 c7 c8 c9 c10 c11 c12
        refine Or.inr ⟨1, 3, by decide, by decide, ⟨rfl, rfl, (?_ : (h 4 1).2 ≠ -1), (?_ : (h 8 1).2 ≠ -1), (?_ : (h 4 1).2 = (h 8 1).2), ?_, ⟨?_, (?_ : i + n ≤ (h 4 2).2)⟩, ?_, (?_ : j + n ≤ (h 8 2).2)⟩, rfl, rfl⟩ <;> first | assumption | omega
      · intros
        exact fail 1 3 _ rfl rfl (fun g => by have g1 : (h 4 1).2 ≠ -1 := g.1; have g2 : (h 8 1).2 ≠ -1 := g.2.1; have g3 : (h 4 1).2 = (h 8 1).2 := g.2.2.1; have g4 : 0 ≤ n := g.2.2.2.1; have g5 : 0 ≤ i := g.2.2.2.2.1.1; have g6 : i + n ≤ (h 4 2).2 := g.2.2.2.2.1.2; have g7 : 0 ≤ j := g.2.2.2.2.2.1; have g8 : j + n ≤ (h 8 2).2 := g.2.2.2.2.2.2; omega)
  · rcases f0 with f | f | f | f
    · subst e; subst f
      refine y_X11_pour_2_0 hT hO i j n hv (hL 2 (by decide)) (hL 0 (by decide)) hn ?_ ?_ ?_ ?_ ?_ ?_ ?_ ?_ ?_
      · intros
        exact fail 2 0 _ rfl rfl (fun g => by have g1 : (h 6 1).2 ≠ -1 := g.1; have g2 : (h 2 1).2 ≠ -1 := g.2.1; have g3 : (h 6 1).2 = (h 2 1).2 := g.2.2.1; have g4 : 0 ≤ n := g.2.2.2.1; have g5 : 0 ≤ i := g.2.2.2.2.1.1; have g6 : i + n ≤ (h 6 2).2 := g.2.2.2.2.1.2; have g7 : 0 ≤ j := g.2.2.2.2.2.1; have g8 : j + n ≤ (h 2 2).2 := g.2.2.2.2.2.2; omega)
      · intros
        exact fail 2 0 _ rfl rfl (fun g => by have g1 : (h 6 1).2 ≠ -1 := g.1; have g2 : (h 2 1).2 ≠ -1 := g.2.1; have g3 : (h 6 1).2 = (h 2 1).2 := g.2.2.1; have g4 : 0 ≤ n := g.2.2.2.1; have g5 : 0 ≤ i := g.2.2.2.2.1.1; have g6 : i + n ≤ (h 6 2).2 := g.2.2.2.2.1.2; have g7 : 0 ≤ j := g.2.2.2.2.2.1; have g8 : j + n ≤ (h 2 2).2 := g.2.2.2.2.2.2; omega)
      · intros
        exact fail 2 0 _ rfl rfl (fun g => by have g1 : (h 6 1).2 ≠ -1 := g.1; have g2 : (h 2 1).2 ≠ -1 := g.2.1; have g3 : (h 6 1).2 = (h 2 1).2 := g.2.2.1; have g4 : 0 ≤ n := g.2.2.2.1; have g5 : 0 ≤ i := g.2.2.2.2.1.1; have g6 : i + n ≤ (h 6 2).2 := g.2.2.2.2.1.2; have g7 : 0 ≤ j := g.2.2.2.2.2.1; have g8 : j + n ≤ (h 2 2).2 := g.2.2.2.2.2.2; omega)
      · intros
        exact fail 2 0 _ rfl rfl (fun g => by have g1 : (h 6 1).2 ≠ -1 := g.1; have g2 : (h 2 1).2 ≠ -1 := g.2.1; have g3 : (h 6 1).2 = (h 2 1).2 := g.2.2.1; have g4 : 0 ≤ n := g.2.2.2.1; have g5 : 0 ≤ i := g.2.2.2.2.1.1; have g6 : i + n ≤ (h 6 2).2 := g.2.2.2.2.1.2; have g7 : 0 ≤ j := g.2.2.2.2.2.1; have g8 : j + n ≤ (h 2 2).2 := g.2.2.2.2.2.2; omega)
      · intros
        exact fail 2 0 _ rfl rfl (fun g => by have g1 : (h 6 1).2 ≠ -1 := g.1; have g2 : (h 2 1).2 ≠ -1 := g.2.1; have g3 : (h 6 1).2 = (h 2 1).2 := g.2.2.1; have g4 : 0 ≤ n := g.2.2.2.1; have g5 : 0 ≤ i := g.2.2.2.2.1.1; have g6 : i + n ≤ (h 6 2).2 := g.2.2.2.2.1.2; have g7 : 0 ≤ j := g.2.2.2.2.2.1; have g8 : j + n ≤ (h 2 2).2 := g.2.2.2.2.2.2; omega)
      · intros
        exact fail 2 0 _ rfl rfl (fun g => by have g1 : (h 6 1).2 ≠ -1 := g.1; have g2 : (h 2 1).2 ≠ -1 := g.2.1; have g3 : (h 6 1).2 = (h 2 1).2 := g.2.2.1; have g4 : 0 ≤ n := g.2.2.2.1; have g5 : 0 ≤ i := g.2.2.2.2.1.1; have g6 : i + n ≤ (h 6 2).2 := g.2.2.2.2.1.2; have g7 : 0 ≤ j := g.2.2.2.2.2.1; have g8 : j + n ≤ (h 2 2).2 := g.2.2.2.2.2.2; omega)
      · intros
        exact fail 2 0 _ rfl rfl (fun g => by have g1 : (h 6 1).2 ≠ -1 := g.1; have g2 : (h 2 1).2 ≠ -1 := g.2.1; have g3 : (h 6 1).2 = (h 2 1).2 := g.2.2.1; have g4 : 0 ≤ n := g.2.2.2.1; have g5 : 0 ≤ i := g.2.2.2.2.1.1; have g6 : i + n ≤ (h 6 2).2 := g.2.2.2.2.1.2; have g7 : 0 ≤ j := g.2.2.2.2.2.1; have g8 : j + n ≤ (h 2 2).2 := g.2.2.2.2.2.2; omega)
      · intro c0 c1 c2 c3 c4 c5 c6 c7 c8 c9 c10 c11 c12
        refine Or.inr ⟨2, 0, by decide, by decide, ⟨rfl, rfl, (?_ : (h 6 1).2 ≠ -1), (?_ : (h 2 1).2 ≠ -1), (?_ : (h 6 1).2 = (h 2 1).2), ?_, ⟨?_, (?_ : i + n ≤ (h 6 2).2)⟩, ?_, (?_ : j + n ≤ (h 2 2).2)⟩, rfl, rfl⟩ <;> first | assumption | omega
      · intros
        exact fail 2 0 _ rfl rfl (fun g => by have g1 : (h 6 1).2 ≠ -1 := g.1; have g2 : (h 2 1).2 ≠ -1 := g.2.1; have g3 : (h 6 1).2 = (h 2 1).2 := g.2.2.1; have g4 : 0 ≤ n := g.2.2.2.1; have g5 : 0 ≤ i := g.2.2.2.2.1.1; have g6 : i + n ≤ (h 6 2).2 := g.2.2.2.2.1.2; have g7 : 0 ≤ j := g.2.2.2.2.2.1; have g8 : j + n ≤ (h 2 2).2 := g.2.2.2.2.2.2; omega)
    · subst e; subst f
      refine y_X11_pour_2_1 hT hO i j n hv (hL 2 (by decide)) (hL 1 (by decide)) hn ?_ ?_ ?_ ?_ ?_ ?_ ?_ ?_ ?_
      · intros
        exact fail 2 1 _ rfl rfl (fun g => by have g1 : (h 6 1).2 ≠ -1 := g.1; have g2 : (h 4 1).2 ≠ -1 := g.2.1; have g3 : (h 6 1).2 = (h 4 1).2 := g.2.2.1; have g4 : 0 ≤ n := g.2.2.2.1; have g5 : 0 ≤ i := g.2.2.2.2.1.1; have g6 : i + n ≤ (h 6 2).2 := g.2.2.2.2.1.2; have g7 : 0 ≤ j := g.2.2.2.2.2.1; have g8 : j + n ≤ (h 4 2).2 := g.2.2.2.2.2.2; omega)
      · intros
        exact fail 2 1 _ rfl rfl (fun g => by have g1 : (h 6 1).2 ≠ -1 := g.1; have g2 : (h 4 1).2 ≠ -1 := g.2.1; have g3 : (h 6 1).2 = (h 4 1).2 := g.2.2.1; have g4 : 0 ≤ n := g.2.2.2.1; have g5 : 0 ≤ i := g.2.2.2.2.1.1; have g6 : i + n ≤ (h 6 2).2 := g.2.2.2.2.1.2; have g7 : 0 ≤ j := g.2.2.2.2.2.1; have g8 : j + n ≤ (h 4 2).2 := g.2.2.2.2.2.2; omega)
      · intros
        exact fail 2 1 _ rfl rfl (fun g => by have g1 : (h 6 1).2 ≠ -1 := g.1; have g2 : (h 4 1).2 ≠ -1 := g.2.1; have g3 : (h 6 1).2 = (h 4 1).2 := g.2.2.1; have g4 : 0 ≤ n := g.2.2.2.1; have g5 : 0 ≤ i := g.2.2.2.2.1.1; have g6 : i + n ≤ (h 6 2).2 := g.2.2.2.2.1.2; have g7 : 0 ≤ j := g.2.2.2.2.2.1; have g8 : j + n ≤ (h 4 2).2 := g.2.2.2.2.2.2; omega)
      · intros
        exact fail 2 1 _ rfl rfl (fun g => by have g1 : (h 6 1).2 ≠ -1 := g.1; have g2 : (h 4 1).2 ≠ -1 := g.2.1; have g3 : (h 6 1).2 = (h 4 1).2 := g.2.2.1; have g4 : 0 ≤ n := g.2.2.2.1; have g5 : 0 ≤ i := g.2.2.2.2.1.1; have g6 : i + n ≤ (h 6 2).2 := g.2.2.2.2.1.2; have g7 : 0 ≤ j := g.2.2.2.2.2.1; have g8 : j + n ≤ (h 4 2).2 := g.2.2.2.2.2.2; omega)
      · intros
        exact fail 2 1 _ rfl rfl (fun g => by have g1 : (h 6 1).2 ≠ -1 := g.1; have g2 : (h 4 1).2 ≠ -1 := g.2.1; have g3 : (h 6 1).2 = (h 4 1).2 := g.2.2.1; have g4 : 0 ≤ n := g.2.2.2.1; have g5 : 0 ≤ i := g.2.2.2.2.1.1; have g6 : i + n ≤ (h 6 2).2 := g.2.2.2.2.1.2; have g7 : 0 ≤ j := g.2.2.2.2.2.1; have g8 : j + n ≤ (h 4 2).2 := g.2.2.2.2.2.2; omega)
      · intros
        exact fail 2 1 _ rfl rfl (fun g => by have g1 : (h 6 1).2 ≠ -1 := g.1; have g2 : (h 4 1).2 ≠ -1 := g.2.1; have g3 : (h 6 1).2 = (h 4 1).2 := g.2.2.1; have g4 : 0 ≤ n := g.2.2.2.1; have g5 : 0 ≤ i := g.2.2.2.2.1.1; have g6 : i + n ≤ (h 6 2).2 := g.2.2.2.2.1.2; have g7 : 0 ≤ j := g.2.2.2.2.2.1; have g8 : j + n ≤ (h 4 2).2 := g.2.2.2.2.2.2; omega)
      · intros
        exact fail 2 1 _ rfl rfl (fun g => by have g1 : (h 6 1).2 ≠ -1 := g.1; have g2 : (h 4 1).2 ≠ -1 := g.2.1; have g3 : (h 6 1).2 = (h 4 1).2 := g.2.2.1; have g4 : 0 ≤ n := g.2.2.2.1; have g5 : 0 ≤ i := g.2.2.2.2.1.1; have g6 : i + n ≤ (h 6 2).2 := g.2.2.2.2.1.2; have g7 : 0 ≤ j := g.2.2.2.2.2.1; have g8 : j + n ≤ (h 4 2).2 := g.2.2.2.2.2.2; omega)
      · intro c0 c1 c2 c3 c4 c5 c6 c7 c8 c9 c10 c11 c12
        refine Or.inr ⟨2, 1, by decide, by decide, ⟨rfl, rfl, (?_ : (h 6 1).2 ≠ -1), (?_ : (h 4 1).2 ≠ -1), (?_ : (h 6 1).2 = (h 4 1).2), ?_, ⟨?_, (?_ : i + n ≤ (h 6 2).2)⟩, ?_, (?_ : j + n ≤ (h 4 2).2)⟩, rfl, rfl⟩ <;> first | assumption | omega
      · intros
        exact fail 2 1 _ rfl rfl (fun g => by have g1 : (h 6 1).2 ≠ -1 := g.1; have g2 : (h 4 1).2 ≠ -1 := g.2.1; have g3 : (h 6 1).2 = (h 4 1).2 := g.2.2.1; have g4 : 0 ≤ n := g.2.2.2.1; have g5 : 0 ≤ i := g.2.2.2.2.1.1; have g6 : i + n ≤ (h 6 2).2 := g.2.2.2.2.1.2; have g7 : 0 ≤ j := g.2.2.2.2.2.1; have g8 : j + n ≤ (h 4 2).2 := g.2.2.2.2.2.2; omega)
    · subst e; subst f
      refine y_X11_pour_2_2 hT hO i j n hv (hL 2 (by decide)) (hL 2 (by decide)) hn ?_ ?_ ?_ ?_ ?_ ?_ ?_ ?_
      · intros
        exact fail 2 2 _ rfl rfl (fun g => by have g1 : (h 6 1).2 ≠ -1 := g.1; have g2 : (h 6 1).2 ≠ -1 := g.2.1; have g3 : (h 6 1).2 = (h 6 1).2 := g.2.2.1; have g4 : 0 ≤ n := g.2.2.2.1; have g5 : 0 ≤ i := g.2.2.2.2.1.1; have g6 : i + n ≤ (h 6 2).2 := g.2.2.2.2.1.2; have g7 : 0 ≤ j := g.2.2.2.2.2.1; have g8 : j + n ≤ (h 6 2).2 := g.2.2.2.2.2.2; omega)
      · intros
        exact fail 2 2 _ rfl rfl (fun g => by have g1 : (h 6 1).2 ≠ -1 := g.1; have g2 : (h 6 1).2 ≠ -1 := g.2.1; have g3 : (h 6 1).2 = (h 6 1).2 := g.2.2.1; have g4 : 0 ≤ n := g.2.2.2.1; have g5 : 0 ≤ i := g.2.2.2.2.1.1; have g6 : i + n ≤ (h 6 2).2 := g.2.2.2.2.1.2; have g7 : 0 ≤ j := g.2.2.2.2.2.1; have g8 : j + n ≤ (h 6 2).2 := g.2.2.2.2.2.2; omega)
      · intros
        exact fail 2 2 _ rfl rfl (fun g => by have g1 : (h 6 1).2 ≠ -1 := g.1; have g2 : (h 6 1).2 ≠ -1 := g.2.1; have g3 : (h 6 1).2 = (h 6 1).2 := g.2.2.1; have g4 : 0 ≤ n := g.2.2.2.1; have g5 : 0 ≤ i := g.2.2.2.2.1.1; have g6 : i + n ≤ (h 6 2).2 := g.2.2.2.2.1.2; have g7 : 0 ≤ j := g.2.2.2.2.2.1; have g8 : j + n ≤ (h 6 2).2 := g.2.2.2.2.2.2; omega)
      · intros
        exact fail 2 2 _ rfl rfl (fun g => by have g1 : (h 6 1).2 ≠ -1 := g.1; have g2 : (h 6 1).2 ≠ -1 := g.2.1; have g3 : (h 6 1).2 = (h 6 1).2 := g.2.2.1; have g4 : 0 ≤ n := g.2.2.2.1; have g5 : 0 ≤ i := g.2.2.2.2.1.1; have g6 : i + n ≤ (h 6 2).2 := g.2.2.2.2.1.2; have g7 : 0 ≤ j := g.2.2.2.2.2.1; have g8 : j + n ≤ (h 6 2).2 := g.2.2.2.2.2.2; omega)
      · intros
        exact fail 2 2 _ rfl rfl (fun g => by have g1 : (h 6 1).2 ≠ -1 := g.1; have g2 : (h 6 1).2 ≠ -1 := g.2.1; have g3 : (h 6 1).2 = (h 6 1).2 := g.2.2.1; have g4 : 0 ≤ n := g.2.2.2.1; have g5 : 0 ≤ i := g.2.2.2.2.1.1; have g6 : i + n ≤ (h 6 2).2 := g.2.2.2.2.1.2; have g7 : 0 ≤ j := g.2.2.2.2.2.1; have g8 : j + n ≤ (h 6 2).2 := g.2.2.2.2.2.2; omega)
      · intros
        exact fail 2 2 _ rfl rfl (fun g => by have g1 : (h 6 1).2 ≠ -1 := g.1; have g2 : (h 6 1).2 ≠ -1 := g.2.1; have g3 : (h 6 1).2 = (h 6 1).2 := g.2.2.1; have g4 : 0 ≤ n := g.2.2.2.1; have g5 : 0 ≤ i := g.2.2.2.2.1.1; have g6 : i + n ≤ (h 6 2).2 := g.2.2.2.2.1.2; have g7 : 0 ≤ j := g.2.2.2.2.2.1; have g8 : j + n ≤ (h 6 2).2 := g.2.2.2.2.2.2; omega)
      · intro c0 c1 c2 c3 c4 c5 c6 c7 c8 c9 c10 c11
        refine Or.inr ⟨2, 2, by decide, by decide, ⟨rfl, rfl, (?_ : (h 6 1).2 ≠ -1), (?_ : (h 6 1).2 ≠ -1), (?_ : (h 6 1).2 = (h 6 1).2), ?_, ⟨?_, (?_ : i + n ≤ (h 6 2).2)⟩, ?_, (?_ : j + n ≤ (h 6 2).2)⟩, rfl, rfl⟩ <;> first | assumption | omega
      · intros
        exact fail 2 2 _ rfl rfl (fun g => by have g1 : (h 6 1).2 ≠ -1 := g.1; have g2 : (h 6 1).2 ≠ -1 := g.2.1; have g3 : (h 6 1).2 = (h 6 1).2 := g.2.2.1; have g4 : 0 ≤ n := g.2.2.2.1; have g5 : 0 ≤ i := g.2.2.2.2.1.1; have g6 : i + n ≤ (h 6 2).2 := g.2.2.2.2.1.2; have g7 : 0 ≤ j := g.2.2.2.2.2.1; have g8 : j + n ≤ (h 6 2).2 := g.2.2.2.2.2.2; omega)
    · subst e; subst f
      refine y_X11_pour_2_3 hT hO i j n hv (hL 2 (by decide)) (hL 3 (by decide)) hn ?_ ?_ ?_ ?_ ?_ ?_ ?_ ?_ ?_
      · intros
        exact fail 2 3 _ rfl rfl (fun g => by have g1 : (h 6 1).2 ≠ -1 := g.1; have g2 : (h 8 1).2 ≠ -1 := g.2.1; have g3 : (h 6 1).2 = (h 8 1).2 := g.2.2.1; have g4 : 0 ≤ n := g.2.2.2.1; have g5 : 0 ≤ i := g.2.2.2.2.1.1; have g6 : i + n ≤ (h 6 2).2 := g.2.2.2.2.1.2; have g7 : 0 ≤ j := g.2.2.2.2.2.1; have g8 : j + n ≤ (h 8 2).2 := g.2.2.2.2.2.2; omega)
      · intros
        exact fail 2 3 _ rfl rfl (fun g => by have g1 : (h 6 1).2 ≠ -1 := g.1; have g2 : (h 8 1).2 ≠ -1 := g.2.1; have g3 : (h 6 1).2 = (h 8 1).2 := g.2.2.1; have g4 : 0 ≤ n := g.2.2.2.1; have g5 : 0 ≤ i := g.2.2.2.2.1.1; have g6 : i + n ≤ (h 6 2).2 := g.2.2.2.2.1.2; have g7 : 0 ≤ j := g.2.2.2.2.2.1; have g8 : j + n ≤ (h 8 2).2 := g.2.2.2.2.2.2; omega)
      · intros
        exact fail 2 3 _ rfl rfl (fun g => by have g1 : (h 6 1).2 ≠ -1 := g.1; have g2 : (h 8 1).2 ≠ -1 := g.2.1; have g3 : (h 6 1).2 = (h 8 1).2 := g.2.2.1; have g4 : 0 ≤ n := g.2.2.2.1; have g5 : 0 ≤ i := g.2.2.2.2.1.1; have g6 : i + n ≤ (h 6 2).2 := g.2.2.2.2.1.2; have g7 : 0 ≤ j := g.2.2.2.2.2.1; have g8 : j + n ≤ (h 8 2).2 := g.2.2.2.2.2.2; omega)
      · intros
        exact fail 2 3 _ rfl rfl (fun g => by have g1 : (h 6 1).2 ≠ -1 := g.1; have g2 : (h 8 1).2 ≠ -1 := g.2.1; have g3 : (h 6 1).2 = (h 8 1).2 := g.2.2.1; have g4 : 0 ≤ n := g.2.2.2.1; have g5 : 0 ≤ i := g.2.2.2.2.1.1; have g6 : i + n ≤ (h 6 2).2 := g.2.2.2.2.1.2; have g7 : 0 ≤ j := g.2.2.2.2.2.1; have g8 : j + n ≤ (h 8 2).2 := g.2.2.2.2.2.2; omega)
      · intros
        exact fail 2 3 _ rfl rfl (fun g => by have g1 : (h 6 1).2 ≠ -1 := g.1; have g2 : (h 8 1).2 ≠ -1 := g.2.1; have g3 : (h 6 1).2 = (h 8 1).2 := g.2.2.1; have g4 : 0 ≤ n := g.2.2.2.1; have g5 : 0 ≤ i := g.2.2.2.2.1.1; have g6 : i + n ≤ (h 6 2).2 := g.2.2.2.2.1.2; have g7 : 0 ≤ j := g.2.2.2.2.2.1; have g8 : j + n ≤ (h 8 2).2 := g.2.2.2.2.2.2; omega)
      · intros
        exact fail 2 3 _ rfl rfl (fun g => by have g1 : (h 6 1).2 ≠ -1 := g.1; have g2 : (h 8 1).2 ≠ -1 := g.2.1; have g3 : (h 6 1).2 = (h 8 1).2 := g.2.2.1; have g4 : 0 ≤ n := g.2.2.2.1; have g5 : 0 ≤ i := g.2.2.2.2.1.1; have g6 : i + n ≤ (h 6 2).2 := g.2.2.2.2.1.2; have g7 : 0 ≤ j := g.2.2.2.2.2.1; have g8 : j + n ≤ (h 8 2).2 := g.2.2.2.2.2.2; omega)
      · intros
        exact fail 2 3 _ rfl rfl (fun g => by have g1 : (h 6 1).2 ≠ -1 := g.1; have g2 : (h 8 1).2 ≠ -1 := g.2.1; have g3 : (h 6 1).2 = (h 8 1).2 := g.2.2.1; have g4 : 0 ≤ n := g.2.2.2.1; have g5 : 0 ≤ i := g.2.2.2.2.1.1; have g6 : i + n ≤ (h 6 2).2 := g.2.2.2.2.1.2; have g7 : 0 ≤ j := g.2.2.2.2.2.1; have g8 : j + n ≤ (h 8 2).2 := g.2.2.2.2.2.2; omega)
      · intro c0 c1 c2 c3 c4 c5 c6 c7 c8 c9 c10 c11 c12
        refine Or.inr ⟨2, 3, by decide, by decide, ⟨rfl, rfl, (?_ : (h 6 1).2 ≠ -1), (?_ : (h 8 1).2 ≠ -1), (?_ : (h 6 1).2 = (h 8 1).2), ?_, ⟨?_, (?_ : i + n ≤ (h 6 2).2)⟩, ?_, (?_ : j + n ≤ (h 8 2).2)⟩, rfl, rfl⟩ <;> first | assumption | omega
      · intros
        exact fail 2 3 _ rfl rfl (fun g => by have g1 : (h 6 1).2 ≠ -1 := g.1; have g2 : (h 8 1).2 ≠ -1 := g.2.1; have g3 : (h 6 1).2 = (h 8 1).2 := g.2.2.1; have g4 : 0 ≤ n := g.2.2.2.1; have g5 : 0 ≤ i := g.2.2.2.2.1.1; have g6 : i + n ≤ (h 6 2).2 := g.2.2.2.2.1.2; have g7 : 0 ≤ j := g.2.2.2.2.2.1; have g8 : j + n ≤ (h 8 2).2 := g.2.2.2.2.2.2; omega)
  · rcases f0 with f | f | f | f
    · subst e; subst f
      refine y_X11_pour_3_0 hT hO i j n hv (hL 3 (by decide)) (hL 0 (by decide)) hn ?_ ?_ ?_ ?_ ?_ ?_ ?_ ?_ ?_
      · intros
        exact fail 3 0 _ rfl rfl (fun g => by have g1 : (h 8 1).2 ≠ -1 := g.1; have g2 : (h 2 1).2 ≠ -1 := g.2.1; have g3 : (h 8 1).2 = (h 2 1).2 := g.2.2.1; have g4 : 0 ≤ n := g.2.2.2.1; have g5 : 0 ≤ i := g.2.2.2.2.1.1; have g6 : i + n ≤ (h 8 2).2 := g.2.2.2.2.1.2; have g7 : 0 ≤ j := g.2.2.2.2.2.1; have g8 : j + n ≤ (h 2 2).2 := g.2.2.2.2.2.2; omega)
      · intros
        exact fail 3 0 _ rfl rfl (fun g => by have g1 : (h 8 1).2 ≠ -1 := g.1; have g2 : (h 2 1).2 ≠ -1 := g.2.1; have g3 : (h 8 1).2 = (h 2 1).2 := g.2.2.1; have g4 : 0 ≤ n := g.2.2.2.1; have g5 : 0 ≤ i := g.2.2.2.2.1.1; have g6 : i + n ≤ (h 8 2).2 := g.2.2.2.2.1.2; have g7 : 0 ≤ j := g.2.2.2.2.2.1; have g8 : j + n ≤ (h 2 2).2 := g.2.2.2.2.2.2; omega)
      · intros
        exact fail 3 0 _ rfl rfl (fun g => by have g1 : (h 8 1).2 ≠ -1 := g.1; have g2 : (h 2 1).2 ≠ -1 := g.2.1; have g3 : (h 8 1).2 = (h 2 1).2 := g.2.2.1; have g4 : 0 ≤ n := g.2.2.2.1; have g5 : 0 ≤ i := g.2.2.2.2.1.1; have g6 : i + n ≤ (h 8 2).2 := g.2.2.2.2.1.2; have g7 : 0 ≤ j := g.2.2.2.2.2.1; have g8 : j + n ≤ (h 2 2).2 := g.2.2.2.2.2.2; omega)
      · intros
        exact fail 3 0 _ rfl rfl (fun g => by have g1 : (h 8 1).2 ≠ -1 := g.1; have g2 : (h 2 1).2 ≠ -1 := g.2.1; have g3 : (h 8 1).2 = (h 2 1).2 := g.2.2.1; have g4 : 0 ≤ n := g.2.2.2.1; have g5 : 0 ≤ i := g.2.2.2.2.1.1; have g6 : i + n ≤ (h 8 2).2 := g.2.2.2.2.1.2; have g7 : 0 ≤ j := g.2.2.2.2.2.1; have g8 : j + n ≤ (h 2 2).2 := g.2.2.2.2.2.2; omega)
      · intros
        exact fail 3 0 _ rfl rfl (fun g => by have g1 : (h 8 1).2 ≠ -1 := g.1; have g2 : (h 2 1).2 ≠ -1 := g.2.1; have g3 : (h 8 1).2 = (h 2 1).2 := g.2.2.1; have g4 : 0 ≤ n := g.2.2.2.1; have g5 : 0 ≤ i := g.2.2.2.2.1.1; have g6 : i + n ≤ (h 8 2).2 := g.2.2.2.2.1.2; have g7 : 0 ≤ j := g.2.2.2.2.2.1; have g8 : j + n ≤ (h 2 2).2 := g.2.2.2.2.2.2; omega)
      · intros
        exact fail 3 0 _ rfl rfl (fun g => by have g1 : (h 8 1).2 ≠ -1 := g.1; have g2 : (h 2 1).2 ≠ -1 := g.2.1; have g3 : (h 8 1).2 = (h 2 1).2 := g.2.2.1; have g4 : 0 ≤ n := g.2.2.2.1; have g5 : 0 ≤ i := g.2.2.2.2.1.1; have g6 : i + n ≤ (h 8 2).2 := g.2.2.2.2.1.2; have g7 : 0 ≤ j := g.2.2.2.2.2.1; have g8 : j + n ≤ (h 2 2).2 := g.2.2.2.2.2.2; omega)
      · intros
        exact fail 3 0 _ rfl rfl (fun g => by have g1 : (h 8 1).2 ≠ -1 := g.1; have g2 : (h 2 1).2 ≠ -1 := g.2.1; have g3 : (h 8 1).2 = (h 2 1).2 := g.2.2.1; have g4 : 0 ≤ n := g.2.2.2.1; have g5 : 0 ≤ i := g.2.2.2.2.1.1; have g6 : i + n ≤ (h 8 2).2 := g.2.2.2.2.1.2; have g7 : 0 ≤ j := g.2.2.2.2.2.1; have g8 : j + n ≤ (h 2 2).2 := g.2.2.2.2.2.2; omega)
      · intro c0 c1 c2 c3 c4 c5 c6 c7 c8 c9 c10 c11 c12
        refine Or.inr ⟨3, 0, by decide, by decide, ⟨rfl, rfl, (?_ : (h 8 1).2 ≠ -1), (?_ : (h 2 1).2 ≠ -1), (?_ : (h 8 1).2 = (h 2 1).2), ?_, ⟨?_, (?_ : i + n ≤ (h 8 2).2)⟩, ?_, (?_ : j + n ≤ (h 2 2).2)⟩, rfl, rfl⟩ <;> first | assumption | omega
      · intros
        exact fail 3 0 _ rfl rfl (fun g => by have g1 : (h 8 1).2 ≠ -1 := g.1; have g2 : (h 2 1).2 ≠ -1 := g.2.1; have g3 : (h 8 1).2 = (h 2 1).2 := g.2.2.1; have g4 : 0 ≤ n := g.2.2.2.1; have g5 : 0 ≤ i := g.2.2.2.2.1.1; have g6 : i + n ≤ (h 8 2).2 := g.2.2.2.2.1.2; have g7 : 0 ≤ j := g.2.2.2.2.2.1; have g8 : j + n ≤ (h 2 2).2 := g.2.2.2.2.2.2; omega)
    · subst e; subst f
      refine y_X11_pour_3_1 hT hO i j n hv (hL 3 (by decide)) (hL 1 (by decide)) hn ?_ ?_ ?_ ?_ ?_ ?_ ?_ ?_ ?_
      · intros
        exact fail 3 1 _ rfl rfl (fun g => by have g1 : (h 8 1).2 ≠ -1 := g.1; have g2 : (h 4 1).2 ≠ -1 := g.2.1; have g3 : (h 8 1).2 = (h 4 1).2 := g.2.2.1; have g4 : 0 ≤ n := g.2.2.2.1; have g5 : 0 ≤ i := g.2.2.2.2.1.1; have g6 : i + n ≤ (h 8 2).2 := g.2.2.2.2.1.2; have g7 : 0 ≤ j := g.2.2.2.2.2.1; have g8 : j + n ≤ (h 4 2).2 := g.2.2.2.2.2.2; omega)
      · intros
        exact fail 3 1 _ rfl rfl (fun g => by have g1 : (h 8 1).2 ≠ -1 := g.1; have g2 : (h 4 1).2 ≠ -1 := g.2.1; have g3 : (h 8 1).2 = (h 4 1).2 := g.2.2.1; have g4 : 0 ≤ n := g.2.2.2.1; have g5 : 0 ≤ i := g.2.2.2.2.1.1; have g6 : i + n ≤ (h 8 2).2 := g.2.2.2.2.1.2; have g7 : 0 ≤ j := g.2.2.2.2.2.1; have g8 : j + n ≤ (h 4 2).2 := g.2.2.2.2.2.2; omega)
      · intros
        exact fail 3 1 _ rfl rfl (fun g => by have g1 : (h 8 1).2 ≠ -1 := g.1; have g2 : (h 4 1).2 ≠ -1 := g.2.1; have g3 : (h 8 1).2 = (h 4 1).2 := g.2.2.1; have g4 : 0 ≤ n := g.2.2.2.1; have g5 : 0 ≤ i := g.2.2.2.2.1.1; have g6 : i + n ≤ (h 8 2).2 := g.2.2.2.2.1.2; have g7 : 0 ≤ j := g.2.2.2.2.2.1; have g8 : j + n ≤ (h 4 2).2 := g.2.2.2.2.2.2; omega)
      · intros
        exact fail 3 1 _ rfl rfl (fun g => by have g1 : (h 8 1).2 ≠ -1 := g.1; have g2 : (h 4 1).2 ≠ -1 := g.2.1; have g3 : (h 8 1).2 = (h 4 1).2 := g.2.2.1; have g4 : 0 ≤ n := g.2.2.2.1; have g5 : 0 ≤ i := g.2.2.2.2.1.1; have g6 : i + n ≤ (h 8 2).2 := g.2.2.2.2.1.2; have g7 : 0 ≤ j := g.2.2.2.2.2.1; have g8 : j + n ≤ (h 4 2).2 := g.2.2.2.2.2.2; omega)
      · intros
        exact fail 3 1 _ rfl rfl (fun g => by have g1 : (h 8 1).2 ≠ -1 := g.1; have g2 : (h 4 1).2 ≠ -1 := g.2.1; have g3 : (h 8 1).2 = (h 4 1).2 := g.2.2.1; have g4 : 0 ≤ n := g.2.2.2.1; have g5 : 0 ≤ i := g.2.2.2.2.1.1; have g6 : i + n ≤ (h 8 2).2 := g.2.2.2.2.1.2; have g7 : 0 ≤ j := g.2.2.2.2.2.1; have g8 : j + n ≤ (h 4 2).2 := g.2.2.2.2.2.2; omega)
      · intros
        exact fail 3 1 _ rfl rfl (fun g => by have g1 : (h 8 1).2 ≠ -1 := g.1; have g2 : (h 4 1).2 ≠ -1 := g.2.1; have g3 : (h 8 1).2 = (h 4 1).2 := g.2.2.1; have g4 : 0 ≤ n := g.2.2.2.1; have g5 : 0 ≤ i := g.2.2.2.2.1.1; have g6 : i + n ≤ (h 8 2).2 := g.2.2.2.2.1.2; have g7 : 0 ≤ j := g.2.2.2.2.2.1; have g8 : j + n ≤ (h 4 2).2 := g.2.2.2.2.2.2; omega)
      · intros
        exact fail 3 1 _ rfl rfl (fun g => by have g1 : (h 8 1).2 ≠ -1 := g.1; have g2 : (h 4 1).2 ≠ -1 := g.2.1; have g3 : (h 8 1).2 = (h 4 1).2 := g.2.2.1; have g4 : 0 ≤ n := g.2.2.2.1; have g5 : 0 ≤ i := g.2.2.2.2.1.1; have g6 : i + n ≤ (h 8 2).2 := g.2.2.2.2.1.2; have g7 : 0 ≤ j := g.2.2.2.2.2.1; have g8 : j + n ≤ (h 4 2).2 := g.2.2.2.2.2.2; omega)
      · intro c0 c1 c2 c3 c4 c5 c6 c7 c8 c9 c10 c11 c12
        refine Or.inr ⟨3, 1, by decide, by decide, ⟨rfl, rfl, (?_ : (h 8 1).2 ≠ -1), (?_ : (h 4 1).2 ≠ -1), (?_ : (h 8 1).2 = (h 4 1).2), ?_, ⟨?_, (?_ : i + n ≤ (h 8 2).2)⟩, ?_, (?_ : j + n ≤ (h 4 2).2)⟩, rfl, rfl⟩ <;> first | assumption | omega
      · intros
        exact fail 3 1 _ rfl rfl (fun g => by have g1 : (h 8 1).2 ≠ -1 := g.1; have g2 : (h 4 1).2 ≠ -1 := g.2.1; have g3 : (h 8 1).2 = (h 4 1).2 := g.2.2.1; have g4 : 0 ≤ n := g.2.2.2.1; have g5 : 0 ≤ i := g.2.2.2.2.1.1; have g6 : i + n ≤ (h 8 2).2 := g.2.2.2.2.1.2; have g7 : 0 ≤ j := g.2.2.2.2.2.1; have g8 : j + n ≤ (h 4 2).2 := g.2.2.2.2.2.2; omega)
    · subst e; subst f
      refine y_X11_pour_3_2 hT hO i j n hv (hL 3 (by decide)) (hL 2 (by decide)) hn ?_ ?_ ?_ ?_ ?_ ?_ ?_ ?_ ?_
      · intros
        exact fail 3 2 _ rfl rfl (fun g => by have g1 : (h 8 1).2 ≠ -1 := g.1; have g2 : (h 6 1).2 ≠ -1 := g.2.1; have g3 : (h 8 1).2 = (h 6 1).2 := g.2.2.1; have g4 : 0 ≤ n := g.2.2.2.1; have g5 : 0 ≤ i := g.2.2.2.2.1.1; have g6 : i + n ≤ (h 8 2).2 := g.2.2.2.2.1.2; have g7 : 0 ≤ j := g.2.2.2.2.2.1; have g8 : j + n ≤ (h 6 2).2 := g.2.2.2.2.2.2; omega)
      · intros
        exact fail 3 2 _ rfl rfl (fun g => by have g1 : (h 8 1).2 ≠ -1 := g.1; have g2 : (h 6 1).2 ≠ -1 := g.2.1; have g3 : (h 8 1).2 = (h 6 1).2 := g.2.2.1; have g4 : 0 ≤ n := g.2.2.2.1; have g5 : 0 ≤ i := g.2.2.2.2.1.1; have g6 : i + n ≤ (h 8 2).2 := g.2.2.2.2.1.2; have g7 : 0 ≤ j := g.2.2.2.2.2.1; have g8 : j + n ≤ (h 6 2).2 := g.2.2.2.2.2.2; omega)
      · intros
        exact fail 3 2 _ rfl rfl (fun g => by have g1 : (h 8 1).2 ≠ -1 := g.1; have g2 : (h 6 1).2 ≠ -1 := g.2.1; have g3 : (h 8 1).2 = (h 6 1).2 := g.2.2.1; have g4 : 0 ≤ n := g.2.2.2.1; have g5 : 0 ≤ i := g.2.2.2.2.1.1; have g6 : i + n ≤ (h 8 2).2 := g.2.2.2.2.1.2; have g7 : 0 ≤ j := g.2.2.2.2.2.1; have g8 : j + n ≤ (h 6 2).2 := g.2.2.2.2.2.2; omega)
      · intros
        exact fail 3 2 _ rfl rfl (fun g => by have g1 : (h 8 1).2 ≠ -1 := g.1; have g2 : (h 6 1).2 ≠ -1 := g.2.1; have g3 : (h 8 1).2 = (h 6 1).2 := g.2.2.1; have g4 : 0 ≤ n := g.2.2.2.1; have g5 : 0 ≤ i := g.2.2.2.2.1.1; have g6 : i + n ≤ (h 8 2).2 := g.2.2.2.2.1.2; have g7 : 0 ≤ j := g.2.2.2.2.2.1; have g8 : j + n ≤ (h 6 2).2 := g.2.2.2.2.2.2; omega)
      · intros
        exact fail 3 2 _ rfl rfl (fun g => by have g1 : (h 8 1).2 ≠ -1 := g.1; have g2 : (h 6 1).2 ≠ -1 := g.2.1; have g3 : (h 8 1).2 = (h 6 1).2 := g.2.2.1; have g4 : 0 ≤ n := g.2.2.2.1; have g5 : 0 ≤ i := g.2.2.2.2.1.1; have g6 : i + n ≤ (h 8 2).2 := g.2.2.2.2.1.2; have g7 : 0 ≤ j := g.2.2.2.2.2.1; have g8 : j + n ≤ (h 6 2).2 := g.2.2.2.2.2.2; omega)
      · intros
        exact fail 3 2 _ rfl rfl (fun g => by have g1 : (h 8 1).2 ≠ -1 := g.1; have g2 : (h 6 1).2 ≠ -1 := g.2.1; have g3 : (h 8 1).2 = (h 6 1).2 := g.2.2.1; have g4 : 0 ≤ n := g.2.2.2.1; have g5 : 0 ≤ i := g.2.2.2.2.1.1; have g6 : i + n ≤ (h 8 2).2 := g.2.2.2.2.1.2; have g7 : 0 ≤ j := g.2.2.2.2.2.1; have g8 : j + n ≤ (h 6 2).2 := g.2.2.2.2.2.2; omega)
      · intros
        exact fail 3 2 _ rfl rfl (fun g => by have g1 : (h 8 1).2 ≠ -1 := g.1; have g2 : (h 6 1).2 ≠ -1 := g.2.1; have g3 : (h 8 1).2 = (h 6 1).2 := g.2.2.1; have g4 : 0 ≤ n := g.2.2.2.1; have g5 : 0 ≤ i := g.2.2.2.2.1.1; have g6 : i + n ≤ (h 8 2).2 := g.2.2.2.2.1.2; have g7 : 0 ≤ j := g.2.2.2.2.2.1; have g8 : j + n ≤ (h 6 2).2 := g.2.2.2.2.2.2; omega)
      · intro c0 c1 c2 c3 c4 c5 c6 c7 c8 c9 c10 c11 c12
        refine Or.inr ⟨3, 2, by decide, by decide, ⟨rfl, rfl, (?_ : (h 8 1).2 ≠ -1), (?_ : (h 6 1).2 ≠ -1), (?_ : (h 8 1).2 = (h 6 1).2), ?_, ⟨?_, (?_ : i + n ≤ (h 8 2).2)⟩, ?_, (?_ : j + n ≤ (h 6 2).2)⟩, rfl, rfl⟩ <;> first | assumption | omega
      · intros
        exact fail 3 2 _ rfl rfl (fun g => by have g1 : (h 8 1).2 ≠ -1 := g.1; have g2 : (h 6 1).2 ≠ -1 := g.2.1; have g3 : (h 8 1).2 = (h 6 1).2 := g.2.2.1; have g4 : 0 ≤ n := g.2.2.2.1; have g5 : 0 ≤ i := g.2.2.2.2.1.1; have g6 : i + n ≤ (h 8 2).2 := g.2.2.2.2.1.2; have g7 : 0 ≤ j := g.2.2.2.2.2.1; have g8 : j + n ≤ (h 6 2).2 := g.2.2.2.2.2.2; omega)
    · subst e; subst f
      refine y_X11_pour_3_3 hT hO i j n hv (hL 3 (by decide)) (hL 3 (by decide)) hn ?_ ?_ ?_ ?_ ?_ ?_ ?_ ?_
      · intros
        exact fail 3 3 _ rfl rfl (fun g => by have g1 : (h 8 1).2 ≠ -1 := g.1; have g2 : (h 8 1).2 ≠ -1 := g.2.1; have g3 : (h 8 1).2 = (h 8 1).2 := g.2.2.1; have g4 : 0 ≤ n := g.2.2.2.1; have g5 : 0 ≤ i := g.2.2.2.2.1.1; have g6 : i + n ≤ (h 8 2).2 := g.2.2.2.2.1.2; have g7 : 0 ≤ j := g.2.2.2.2.2.1; have g8 : j + n ≤ (h 8 2).2 := g.2.2.2.2.2.2; omega)
      · intros
        exact fail 3 3 _ rfl rfl (fun g => by have g1 : (h 8 1).2 ≠ -1 := g.1; have g2 : (h 8 1).2 ≠ -1 := g.2.1; have g3 : (h 8 1).2 = (h 8 1).2 := g.2.2.1; have g4 : 0 ≤ n := g.2.2.2.1; have g5 : 0 ≤ i := g.2.2.2.2.1.1; have g6 : i + n ≤ (h 8 2).2 := g.2.2.2.2.1.2; have g7 : 0 ≤ j := g.2.2.2.2.2.1; have g8 : j + n ≤ (h 8 2).2 := g.2.2.2.2.2.2; omega)
      · intros
        exact fail 3 3 _ rfl rfl (fun g => by have g1 : (h 8 1).2 ≠ -1 := g.1; have g2 : (h 8 1).2 ≠ -1 := g.2.1; have g3 : (h 8 1).2 = (h 8 1).2 := g.2.2.1; have g4 : 0 ≤ n := g.2.2.2.1; have g5 : 0 ≤ i := g.2.2.2.2.1.1; have g6 : i + n ≤ (h 8 2).2 := g.2.2.2.2.1.2; have g7 : 0 ≤ j := g.2.2.2.2.2.1; have g8 : j + n ≤ (h 8 2).2 := g.2.2.2.2.2.2; omega)
      · intros
        exact fail 3 3 _ rfl rfl (fun g => by have g1 : (h 8 1).2 ≠ -1 := g.1; have g2 : (h 8 1).2 ≠ -1 := g.2.1; have g3 : (h 8 1).2 = (h 8 1).2 := g.2.2.1; have g4 : 0 ≤ n := g.2.2.2.1; have g5 : 0 ≤ i := g.2.2.2.2.1.1; have g6 : i + n ≤ (h 8 2).2 := g.2.2.2.2.1.2; have g7 : 0 ≤ j := g.2.2.2.2.2.1; have g8 : j + n ≤ (h 8 2).2 := g.2.2.2.2.2.2; omega)
      · intros
        exact fail 3 3 _ rfl rfl (fun g => by have g1 : (h 8 1).2 ≠ -1 := g.1; have g2 : (h 8 1).2 ≠ -1 := g.2.1; have g3 : (h 8 1).2 = (h 8 1).2 := g.2.2.1; have g4 : 0 ≤ n := g.2.2.2.1; have g5 : 0 ≤ i := g.2.2.2.2.1.1; have g6 : i + n ≤ (h 8 2).2 := g.2.2.2.2.1.2; have g7 : 0 ≤ j := g.2.2.2.2.2.1; have g8 : j + n ≤ (h 8 2).2 := g.2.2.2.2.2.2; omega)
      · intros
        exact fail 3 3 _ rfl rfl (fun g => by have g1 : (h 8 1).2 ≠ -1 := g.1; have g2 : (h 8 1).2 ≠ -1 := g.2.1; have g3 : (h 8 1).2 = (h 8 1).2 := g.2.2.1; have g4 : 0 ≤ n := g.2.2.2.1; have g5 : 0 ≤ i := g.2.2.2.2.1.1; have g6 : i + n ≤ (h 8 2).2 := g.2.2.2.2.1.2; have g7 : 0 ≤ j := g.2.2.2.2.2.1; have g8 : j + n ≤ (h 8 2).2 := g.2.2.2.2.2.2; omega)
      · intro c0 c1 c2 c3 c4 c5 c6 c7 c8 c9 c10 c11
        refine Or.inr ⟨3, 3, by decide, by decide, ⟨rfl, rfl, (?_ : (h 8 1).2 ≠ -1), (?_ : (h 8 1).2 ≠ -1), (?_ : (h 8 1).2 = (h 8 1).2), ?_, ⟨?_, (?_ : i + n ≤ (h 8 2).2)⟩, ?_, (?_ : j + n ≤ (h 8 2).2)⟩, rfl, rfl⟩ <;> first | assumption | omega
      · intros
        exact fail 3 3 _ rfl rfl (fun g => by have g1 : (h 8 1).2 ≠ -1 := g.1; have g2 : (h 8 1).2 ≠ -1 := g.2.1; have g3 : (h 8 1).2 = (h 8 1).2 := g.2.2.1; have g4 : 0 ≤ n := g.2.2.2.1; have g5 : 0 ≤ i := g.2.2.2.2.1.1; have g6 : i + n ≤ (h 8 2).2 := g.2.2.2.2.1.2; have g7 : 0 ≤ j := g.2.2.2.2.2.1; have g8 : j + n ≤ (h 8 2).2 := g.2.2.2.2.2.2; omega)
theorem rPo_lp {D : zD} {T : zT} (hT : hTab T) (hO : vOK T) {N : Nat} {h h0 : zH} {a i b j n : Int} {Q : zR → Prop} (rr : Int) (ha : 0 ≤ a ∧ a < 4) (hb : 0 ≤ b ∧ b < 4) (hi : 0 ≤ i ∧ i + n ≤ 60) (hj : 0 ≤ j ∧ j + n ≤ 60) (hn : 0 ≤ n) (hr : (rr = 1 ∧ i < j) ∨ (rr = 0 ∧ j ≤ i)) (h0e : ∀ y, h 124 y = h0 124 y) (l8 : Option zV) (k : ∀ h' : zH, (∀ x y : Nat, h' x y = if x = 124 ∧ 60 * b + j ≤ (y : Int) ∧ (y : Int) < 60 * b + j + n then (1, (h0 124 (60 * a + i + ((y : Int) - (60 * b + j))).toNat).2) else h x y) → Q (h', some (0, 1))) : vP D T N 291 158 h [some (2, 121), some (0, a), some (0, i), some (0, b), some (0, j), some (0, n), some (0, rr), some (0, 0), l8] [] Q := by
  refine vP_loop (D := D) (T := T) (mi := 291) (pc := 158) (Q := Q) (fun h' l => ∃ (m : Int) (o : Option zV), 0 ≤ m ∧ m ≤ n ∧ l = [some (2, 121), some (0, a), some (0, i), some (0, b), some (0, j), some (0, n), some (0, rr), some (0, m), o] ∧ ∀ x y : Nat, h' x y = if x = 124 ∧ (if rr = 0 then 60 * b + j ≤ (y : Int) ∧ (y : Int) < 60 * b + j + m else 60 * b + j + n - m ≤ (y : Int) ∧ (y : Int) < 60 * b + j + n) then (1, (h0 124 (60 * a + i + ((y : Int) - (60 * b + j))).toNat).2) else h x y) ?_ N h _ ⟨0, l8, Int.le_refl _, hn, rfl, fun x y => ?_⟩
  · rintro N h' l ⟨m, o, m0, m1, rfl, he⟩ ih
    refine vP_hv (fun hv' => y_X12_pour1o hT hO a i b j n rr m o hv' ha hb hi hj m0 ?_ ?_ ?_)
    · intro c1 c2 c3 c4 c5 c6
      have hji : j ≤ i := by omega
      refine ih _ _ ⟨m + 1, _, by omega, by omega, rfl, fun x y => ?_⟩
      have src : h' 124 (60 * a + i + m).toNat = h0 124 (60 * a + i + m).toNat := by
        rw [he, if_neg, h0e]
        rintro ⟨-, f⟩
        rw [if_pos c2] at f
        omega
      rw [src]
      by_cases e : x = 124 ∧ y = (60 * b + j + m).toNat
      · rw [show zset h' 124 (60 * b + j + m).toNat (1, (h0 124 (60 * a + i + m).toNat).2) x y = (1, (h0 124 (60 * a + i + m).toNat).2) from if_pos e, if_pos ⟨e.1, by rw [if_pos c2]; omega⟩]
        have : 60 * a + i + ((y : Int) - (60 * b + j)) = 60 * a + i + m := by omega
        rw [this]
      · rw [zset_ne e, he]
        by_cases e2 : x = 124 ∧ (if rr = 0 then 60 * b + j ≤ (y : Int) ∧ (y : Int) < 60 * b + j + m else 60 * b + j + n - m ≤ (y : Int) ∧ (y : Int) < 60 * b + j + n)
        · rw [if_pos e2, if_pos ⟨e2.1, by have f := e2.2; rw [if_pos c2] at f ⊢; omega⟩]
        · rw [if_neg e2, if_neg]
          rintro ⟨f1, f2⟩
          refine e2 ⟨f1, ?_⟩
          rw [if_pos c2] at f2 ⊢
          have : y ≠ (60 * b + j + m).toNat := fun g => e ⟨f1, g⟩
          omega
    · intro c1 c2 c3 c4 c5 c6
      have hij : i < j := by omega
      refine ih _ _ ⟨m + 1, _, by omega, by omega, rfl, fun x y => ?_⟩
      have src : h' 124 (60 * a + i + (n - 1 - m)).toNat = h0 124 (60 * a + i + (n - 1 - m)).toNat := by
        rw [he, if_neg, h0e]
        rintro ⟨-, f⟩
        rw [if_neg c2] at f
        omega
      rw [src]
      by_cases e : x = 124 ∧ y = (60 * b + j + (n - 1 - m)).toNat
      · rw [show zset h' 124 (60 * b + j + (n - 1 - m)).toNat (1, (h0 124 (60 * a + i + (n - 1 - m)).toNat).2) x y = (1, (h0 124 (60 * a + i + (n - 1 - m)).toNat).2) from if_pos e, if_pos ⟨e.1, by rw [if_neg c2]; omega⟩]
        have : 60 * a + i + ((y : Int) - (60 * b + j)) = 60 * a + i + (n - 1 - m) := by omega
        rw [this]
      · rw [zset_ne e, he]
        by_cases e2 : x = 124 ∧ (if rr = 0 then 60 * b + j ≤ (y : Int) ∧ (y : Int) < 60 * b + j + m else 60 * b + j + n - m ≤ (y : Int) ∧ (y : Int) < 60 * b + j + n)
        · rw [if_pos e2, if_pos ⟨e2.1, by have f := e2.2; rw [if_neg c2] at f ⊢; omega⟩]
        · rw [if_neg e2, if_neg]
          rintro ⟨f1, f2⟩
          refine e2 ⟨f1, ?_⟩
          rw [if_neg c2] at f2 ⊢
          have : y ≠ (60 * b + j + (n - 1 - m)).toNat := fun g => e ⟨f1, g⟩
          omega
    · intro c1
      have hm : m = n := by omega
      subst hm
      refine k h' (fun x y => ?_)
      rw [he]
      by_cases e2 : x = 124 ∧ 60 * b + j ≤ (y : Int) ∧ (y : Int) < 60 * b + j + m
      · rw [if_pos e2, if_pos]
        refine ⟨e2.1, ?_⟩
        split
        · exact e2.2
        · exact ⟨by omega, e2.2.2⟩
      · rw [if_neg e2, if_neg]
        rintro ⟨f1, f2⟩
        refine e2 ⟨f1, ?_⟩
        split at f2
        · exact f2
        · exact ⟨by omega, f2.2⟩
  · rw [if_neg]
    rintro ⟨-, f⟩
    split at f <;> omega
theorem rPo_ok {D : zD} {T : zT} (hT : hTab T) (hO : vOK T) {N : Nat} {h : zH} (a i b j n : Int) (hi : -2147483648 ≤ i ∧ i ≤ 2147483647) (hj : -2147483648 ≤ j ∧ j ≤ 2147483647) (hn : -2147483648 ≤ n ∧ n ≤ 2147483647) (hL : ∀ t : Nat, t < 4 → (h 123 t).2 ≤ 60) : vP D T N 291 0 h [some (2, 121), some (0, a), some (0, i), some (0, b), some (0, j), some (0, n), none, none, none] [] (rPo a i b j n h) := by
  refine vP_hv (fun hv => ?_)
  have z3 : ∀ w : zV, rK h (zset (zset (zset h 121 1 (0, 0)) 121 0 (0, 0)) 121 0 w) := fun w => (rK_z.trans rK_z).trans rK_z
  have e124 : ∀ y, zset (zset h 121 1 (0, 0)) 121 0 (0, 0) 124 y = h 124 y := fun y => by rw [zset_ne (by omega), zset_ne (by omega)]
  have fail : ∀ w : zV, (0 ≤ a → a < 4 → 0 ≤ b → b < 4 → ¬ pDd i j n h a.toNat b.toNat) → rPo a i b j n h (zset (zset (zset h 121 1 (0, 0)) 121 0 (0, 0)) 121 0 w, some (0, 0)) := fun w hf => Or.inl ⟨fun t u ht hu g => by
    obtain ⟨g1, g2, g3⟩ := g
    refine hf (by omega) (by omega) (by omega) (by omega) ?_
    rw [show a.toNat = t by omega, show b.toNat = u by omega]
    exact g3, rfl, z3 w⟩
  have good : ∀ h' : zH, 0 ≤ a → a < 4 → 0 ≤ b → b < 4 → pDd i j n h a.toNat b.toNat → (∀ x y : Nat, h' x y = if x = 124 ∧ 60 * b + j ≤ (y : Int) ∧ (y : Int) < 60 * b + j + n then (1, (h 124 (60 * a + i + ((y : Int) - (60 * b + j))).toNat).2) else zset (zset h 121 1 (0, 0)) 121 0 (0, 0) x y) → rPo a i b j n h (h', some (0, 1)) := fun h' a0 a1 b0 b1 g he => Or.inr ⟨a.toNat, b.toNat, by omega, by omega, ⟨by omega, by omega, g⟩, rfl, he⟩
  have hA : 0 ≤ a → a < 4 → (h 123 a.toNat).2 ≤ 60 := fun a0 a1 => hL a.toNat (by omega)
  have hB : 0 ≤ b → b < 4 → (h 123 b.toNat).2 ≤ 60 := fun a0 a1 => hL b.toNat (by omega)
  unfold pDd at fail good
  refine y_X12_pour hT hO a i b j n hv hi hj hn ?_ ?_ ?_ ?_ ?_ ?_ ?_ ?_ ?_ ?_ ?_ ?_ ?_ ?_
  · exact fun c => fail _ (fun _ _ _ _ => by omega)
  · exact fun _ _ c => fail _ (fun _ _ _ _ => by omega)
  · exact fun _ _ _ _ c => fail _ (fun _ _ _ _ => by omega)
  · exact fun _ _ _ _ _ c => fail _ (fun _ _ _ _ => by omega)
  · exact fun _ _ _ _ _ _ _ c => fail _ (fun _ _ _ _ => by omega)
  · exact fun _ _ _ _ _ _ _ _ c => fail _ (fun _ _ _ _ => by omega)
  · exact fun _ _ _ _ _ _ _ _ _ c => fail _ (fun _ _ _ _ => by omega)
  · exact fun _ _ _ _ _ _ _ _ _ _ c => fail _ (fun _ _ _ _ => by omega)
  · exact fun _ _ _ _ _ _ _ _ _ _ _ c => fail _ (fun _ _ _ _ => by omega)
  · intro a0 a1 b0 b1 m0 m1 s n0 i0 j0 i1 j1 ij
    have := hA a0 a1
    have := hB b0 b1
    exact rPo_lp hT hO 1 ⟨a0, a1⟩ ⟨b0, b1⟩ ⟨i0, by omega⟩ ⟨j0, by omega⟩ n0 (Or.inl ⟨rfl, ij⟩) e124 none (fun h' he => good h' a0 a1 b0 b1 ⟨m0, m1, s, n0, ⟨i0, i1⟩, j0, j1⟩ he)
  · intro a0 a1 b0 b1 m0 m1 s n0 i0 j0 i1 j1 ij
    have := hA a0 a1
    have := hB b0 b1
    exact rPo_lp hT hO 0 ⟨a0, a1⟩ ⟨b0, b1⟩ ⟨i0, by omega⟩ ⟨j0, by omega⟩ n0 (Or.inr ⟨rfl, ij⟩) e124 none (fun h' he => good h' a0 a1 b0 b1 ⟨m0, m1, s, n0, ⟨i0, i1⟩, j0, j1⟩ he)
  · exact fun _ _ _ _ _ _ c => fail _ (fun _ _ _ _ => by omega)
  · exact fun _ _ _ c => fail _ (fun _ _ _ _ => by omega)
  · exact fun _ c => fail _ (fun _ _ _ _ => by omega)
theorem lRk_pour {D : zD} (hD : ∀ i, -2147483648 ≤ D.2 i ∧ D.2 i ≤ 2147483647) {h h1 h2 : zH} {k1 k2 k3 k4 k5 : Nat} {v1 v2 : Int} (hZ : lZ D h) (hZ1 : lZ D h1) (hR : lR h) (z1 : zRun D TLw 614 172 0 (h, zargs 0 [(2, 0), (0, D.2 k1), (0, D.2 k2), (0, D.2 k3), (0, D.2 k4), (0, D.2 k5)], []) (h1, some (0, v1))) (f1 : aFr lM_172 h h1) (z2 : zRun D TLw 614 291 0 (h1, zargs 0 [(2, 121), (0, D.2 k1), (0, D.2 k2), (0, D.2 k3), (0, D.2 k4), (0, D.2 k5)], []) (h2, some (0, v2))) (f2 : aFr lM_291 h1 h2) : lR h2 ∧ v1 = v2 := by
  have hi := hD k2
  have hj := hD k4
  have hn := hD k5
  generalize D.2 k1 = a at z1 z2
  generalize D.2 k2 = i at z1 z2 hi
  generalize D.2 k3 = b at z1 z2
  generalize D.2 k4 = j at z1 z2 hj
  generalize D.2 k5 = n at z1 z2 hn
  have c1 := hZ.run 8 z1 (Q := cPo a i b j n h) (fun N => cPo_ok TLw_T vOK_T a i b j n hn.2 (fun t ht => tLe hZ ht))
  have c2 := hZ1.run 9 z2 (Q := rPo a i b j n h1) (fun N => rPo_ok TLw_T vOK_T a i b j n hi hj hn (fun t ht => mLe hZ1 ht))
  have k1 : rK h h1 := rK_fr f1 (by decide +kernel)
  have k2 : cK h1 h2 := cK_fr f2 (by decide +kernel)
  have same : ∀ t u, t < 4 → u < 4 → (pC a i b j n h t u ↔ pD a i b j n h1 t u) := fun t u ht hu => by
    unfold pC pD pCc pDd
    rw [(k1 t ht).2.1, (k1 u hu).2.1, (k1 t ht).1, (k1 u hu).1]
    have bt := tLe hZ ht
    have bu := tLe hZ hu
    rcases hR t ht with ⟨x1, x2⟩ | ⟨⟨x1, x2⟩, ⟨x3, x4, x5⟩, -⟩
    · constructor
      · rintro ⟨-, -, g, -⟩; exact absurd x1 g
      · rintro ⟨-, -, g, -⟩; omega
    · rcases hR u hu with ⟨y1, y2⟩ | ⟨⟨y1, y2⟩, ⟨y3, y4, y5⟩, -⟩
      · constructor
        · rintro ⟨-, -, -, g, -⟩; exact absurd y1 g
        · rintro ⟨-, -, -, g, -⟩; omega
      · constructor
        · rintro ⟨e1, e2, g1, g2, g3, g4, ⟨g5, g6⟩, g7, g8⟩
          exact ⟨e1, e2, by omega, by omega, by omega, g4, ⟨g5, by omega⟩, g7, by omega⟩
        · rintro ⟨e1, e2, g1, g2, g3, g4, ⟨g5, g6⟩, g7, g8⟩
          exact ⟨e1, e2, by omega, by omega, by omega, g4, ⟨g5, by omega⟩, g7, by omega⟩
  rcases c1 with ⟨n1, e1, g1⟩ | ⟨t, u, ht, hu, w1, e1, g1⟩
  · have e1 : some ((0, v1) : zV) = some (0, 0) := e1
    rcases c2 with ⟨n2, e2, g2⟩ | ⟨t, u, ht, hu, w2, -, -⟩
    · have e2 : some ((0, v2) : zV) = some (0, 0) := e2
      cases e1; cases e2
      have g1 : cK h h1 := g1
      have g2 : rK h1 h2 := g2
      exact ⟨fun t ht => tOk_cg ((g1 t ht).trans (k2 t ht)) ((k1 t ht).trans (g2 t ht)) (hR t ht), rfl⟩
    · exact absurd ((same t u ht hu).mpr w2) (n1 t u ht hu)
  · have e1 : some ((0, v1) : zV) = some (0, 1) := e1
    rcases c2 with ⟨n2, -, -⟩ | ⟨t', u', ht', hu', w2, e2, g2⟩
    · exact absurd ((same t u ht hu).mp w1) (n2 t u ht hu)
    · have e2 : some ((0, v2) : zV) = some (0, 1) := e2
      cases e1; cases e2
      have htt : t' = t := by have := w1.1; have := w2.1; omega
      have huu : u' = u := by have := w1.2.1; have := w2.2.1; omega
      subst htt; subst huu
      have g1 : h1 = zset (zcopy h (3 + 2 * t') i.toNat (3 + 2 * u') j.toNat n.toNat) 0 0 (0, 0) := g1
      have g2 : ∀ x y : Nat, h2 x y = if x = 124 ∧ 60 * b + j ≤ (y : Int) ∧ (y : Int) < 60 * b + j + n then (1, (h1 124 (60 * a + i + ((y : Int) - (60 * b + j))).toNat).2) else zset (zset h1 121 1 (0, 0)) 121 0 (0, 0) x y := g2
      have bt := tLe hZ ht
      have bu := tLe hZ hu
      obtain ⟨ea, eb, q1, q2, q3, q4, ⟨q5, q6⟩, q7, q8⟩ := w1
      have cSame : ∀ r k, r ≠ 3 + 2 * u' → r ≠ 0 → h1 r k = h r k := fun r k hr hr0 => by
        rw [g1, zset_ne (by omega)]
        exact vcopy_ne (fun c => hr c.1)
      have rSame : ∀ r k, r ≠ 124 → r ≠ 121 → h2 r k = h1 r k := fun r k hr hr0 => by
        rw [g2, if_neg (fun c => hr c.1), zset_ne (by omega), zset_ne (by omega)]
      refine ⟨fun v hv => ?_, rfl⟩
      obtain ⟨m1, m2, m3⟩ := k2 v hv
      obtain ⟨l1, l2, l3⟩ := k1 v hv
      have s1 : h2 (2 + 2 * v) 1 = h (2 + 2 * v) 1 := by rw [m1]; exact cSame _ _ (by omega) (by omega)
      have s2 : h2 (2 + 2 * v) 2 = h (2 + 2 * v) 2 := by rw [m2]; exact cSame _ _ (by omega) (by omega)
      have s3 : h2 122 v = h 122 v := by rw [rSame _ _ (by decide) (by decide)]; exact l1
      have s4 : h2 123 v = h 123 v := by rw [rSame _ _ (by decide) (by decide)]; exact l2
      have hv0 := hR v hv
      unfold tOk at hv0 ⊢
      rw [s1, s2, s3, s4]
      rcases hv0 with x | ⟨x1, x2, x3⟩
      · exact Or.inl x
      · refine Or.inr ⟨x1, x2, fun k hk hk2 => ?_⟩
        rw [m3 k hk]
        by_cases e : v = u' ∧ j ≤ (k : Int) ∧ (k : Int) < j + n
        · obtain ⟨e, ej, ek⟩ := e
          subst e
          have C : h1 (3 + 2 * v) k = h (3 + 2 * t') (i.toNat + (k - j.toNat)) := by
            rw [g1, zset_ne (by omega)]
            exact if_pos ⟨rfl, by omega, by omega⟩
          have R : h2 124 (60 * v + k) = (1, (h1 124 (60 * t' + (i.toNat + (k - j.toNat)))).2) := by
            rw [g2, if_pos ⟨rfl, by omega, by omega⟩]
            have : (60 * a + i + (((60 * v + k : Nat) : Int) - (60 * b + j))).toNat = 60 * t' + (i.toNat + (k - j.toNat)) := by omega
            rw [this]
          rw [C, R]
          show (h1 124 (60 * t' + (i.toNat + (k - j.toNat)))).2 = _
          rw [(k1 t' ht).2.2 _ (by omega)]
          rcases hR t' ht with y | ⟨-, -, y3⟩
          · exact absurd y.1 q1
          · exact y3 _ (by omega) (by omega)
        · have C : h1 (3 + 2 * v) k = h (3 + 2 * v) k := by
            rw [g1, zset_ne (by omega)]
            exact vcopy_ne (fun c => e ⟨by omega, by omega, by omega⟩)
          have R : h2 124 (60 * v + k) = h 124 (60 * v + k) := by
            rw [g2, if_neg, zset_ne (by omega), zset_ne (by omega)]
            · exact l3 k hk
            · rintro ⟨-, c1, c2⟩
              refine e ⟨?_, ?_, ?_⟩ <;> omega
          rw [C, R]
          exact x3 k hk hk2
