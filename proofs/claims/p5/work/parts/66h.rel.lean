/-! TRAYS OF BOTH SIDES: what tray() does -/
def cSm (t : Nat) (h h' : zH) : Prop := h' (2 + 2 * t) 1 = h (2 + 2 * t) 1 ∧ h' (2 + 2 * t) 2 = h (2 + 2 * t) 2 ∧ ∀ k, k < 60 → h' (3 + 2 * t) k = h (3 + 2 * t) k
def cK (h h' : zH) : Prop := ∀ t, t < 4 → cSm t h h'
def rSm (t : Nat) (h h' : zH) : Prop := h' 122 t = h 122 t ∧ h' 123 t = h 123 t ∧ ∀ k, k < 60 → h' 124 (60 * t + k) = h 124 (60 * t + k)
def rK (h h' : zH) : Prop := ∀ t, t < 4 → rSm t h h'
theorem cSm.trans {t : Nat} {h h1 h2 : zH} (a : cSm t h h1) (b : cSm t h1 h2) : cSm t h h2 := ⟨b.1.trans a.1, b.2.1.trans a.2.1, fun k hk => (b.2.2 k hk).trans (a.2.2 k hk)⟩
theorem rSm.trans {t : Nat} {h h1 h2 : zH} (a : rSm t h h1) (b : rSm t h1 h2) : rSm t h h2 := ⟨b.1.trans a.1, b.2.1.trans a.2.1, fun k hk => (b.2.2 k hk).trans (a.2.2 k hk)⟩
abbrev cSup : aM := [(2, 1, 2), (4, 1, 2), (6, 1, 2), (8, 1, 2), (3, 0, 59), (5, 0, 59), (7, 0, 59), (9, 0, 59)]
abbrev rSup : aM := [(122, 0, 3), (123, 0, 3), (124, 0, 239)]
theorem cSup_in {t r k : Nat} (ht : t < 4) (hr : (r = 2 + 2 * t ∧ 1 ≤ k ∧ k ≤ 2) ∨ (r = 3 + 2 * t ∧ k < 60)) : aIn cSup r k := by
  have : t = 0 ∨ t = 1 ∨ t = 2 ∨ t = 3 := by omega
  rcases this with e | e | e | e <;> subst e <;> rcases hr with ⟨e, k1, k2⟩ | ⟨e, k1⟩ <;> subst e
  · exact ⟨(2, 1, 2), by decide, rfl, k1, k2⟩
  · exact ⟨(3, 0, 59), by decide, rfl, Nat.zero_le _, Nat.le_of_lt_succ k1⟩
  · exact ⟨(4, 1, 2), by decide, rfl, k1, k2⟩
  · exact ⟨(5, 0, 59), by decide, rfl, Nat.zero_le _, Nat.le_of_lt_succ k1⟩
  · exact ⟨(6, 1, 2), by decide, rfl, k1, k2⟩
  · exact ⟨(7, 0, 59), by decide, rfl, Nat.zero_le _, Nat.le_of_lt_succ k1⟩
  · exact ⟨(8, 1, 2), by decide, rfl, k1, k2⟩
  · exact ⟨(9, 0, 59), by decide, rfl, Nat.zero_le _, Nat.le_of_lt_succ k1⟩
theorem rSup_in {t r k : Nat} (ht : t < 4) (hr : (r = 122 ∧ k = t) ∨ (r = 123 ∧ k = t) ∨ (r = 124 ∧ k < 240)) : aIn rSup r k := by
  rcases hr with ⟨e, k1⟩ | ⟨e, k1⟩ | ⟨e, k1⟩ <;> subst e
  · exact ⟨(122, 0, 3), by decide, rfl, Nat.zero_le _, by show k ≤ 3; omega⟩
  · exact ⟨(123, 0, 3), by decide, rfl, Nat.zero_le _, by show k ≤ 3; omega⟩
  · exact ⟨(124, 0, 239), by decide, rfl, Nat.zero_le _, by show k ≤ 239; omega⟩
theorem cK_fr {M : aM} {h h1 : zH} (g : aFr M h h1) (hf : lFree cSup M = true) : cK h h1 := fun t ht => ⟨g.keep hf (cSup_in ht (Or.inl ⟨rfl, by omega, by omega⟩)), g.keep hf (cSup_in ht (Or.inl ⟨rfl, by omega, by omega⟩)), fun k hk => g.keep hf (cSup_in ht (Or.inr ⟨rfl, hk⟩))⟩
theorem rK_fr {M : aM} {h h1 : zH} (g : aFr M h h1) (hf : lFree rSup M = true) : rK h h1 := fun t ht => ⟨g.keep hf (rSup_in ht (Or.inl ⟨rfl, rfl⟩)), g.keep hf (rSup_in ht (Or.inr (Or.inl ⟨rfl, rfl⟩))), fun k hk => g.keep hf (rSup_in ht (Or.inr (Or.inr ⟨rfl, by omega⟩)))⟩
theorem cK_z {h : zH} {v : zV} {k : Nat} : cK h (zset h 0 k v) := fun t _ => ⟨zset_ne (by omega), zset_ne (by omega), fun k _ => zset_ne (by omega)⟩
theorem rK_z {h : zH} {v : zV} {k : Nat} : rK h (zset h 121 k v) := fun t _ => ⟨zset_ne (by omega), zset_ne (by omega), fun k _ => zset_ne (by omega)⟩
theorem rK.trans {h h1 h2 : zH} (a : rK h h1) (b : rK h1 h2) : rK h h2 := fun t ht => (a t ht).trans (b t ht)
theorem cK.trans {h h1 h2 : zH} (a : cK h h1) (b : cK h1 h2) : cK h h2 := fun t ht => (a t ht).trans (b t ht)
def tArg (a b c : Int) : Prop := (0 ≤ a ∧ a < 4) ∧ (0 ≤ b ∧ b ≤ 3) ∧ 0 ≤ c ∧ c ≤ 60
def cTr (a b c : Int) (h : zH) (r : zR) : Prop := (¬ tArg a b c ∧ r.2 = some (0, 0) ∧ cK h r.1) ∨ (tArg a b c ∧ r.2 = some (0, 1) ∧ ∀ t : Nat, t < 4 → (a = (t : Int) → r.1 (2 + 2 * t) 1 = (0, b) ∧ r.1 (2 + 2 * t) 2 = (0, c) ∧ ∀ k, k < 60 → r.1 (3 + 2 * t) k = (1, 0)) ∧ (a ≠ (t : Int) → cSm t h r.1))
def rTr2 (a b c : Int) (h : zH) (r : zR) : Prop := (¬ tArg a b c ∧ r.2 = some (0, 0) ∧ rK h r.1) ∨ (tArg a b c ∧ r.2 = some (0, 1) ∧ ∀ t : Nat, t < 4 → (a = (t : Int) → r.1 122 t = (0, b) ∧ r.1 123 t = (0, c) ∧ ∀ k : Nat, k < 60 → (k : Int) < c → r.1 124 (60 * t + k) = (1, 0)) ∧ (a ≠ (t : Int) → rSm t h r.1))
theorem cTr_no {a b c : Int} {h : zH} {v : zV} (hn : ¬ tArg a b c) : cTr a b c h (zset h 0 0 v, some (0, 0)) := Or.inl ⟨hn, rfl, cK_z⟩
theorem cTr_fin {a b c : Int} {h h' : zH} (s : Nat) (ha : a = (s : Int)) (hA : tArg a b c) (he : ∀ x y, h' x y = if x = 3 + 2 * s ∧ y < 60 then (1, 0) else zset (zset h (2 + 2 * s) 1 (0, b)) (2 + 2 * s) 2 (0, c) x y) : cTr a b c h (zset h' 0 0 (0, 0), some (0, 1)) := by
  refine Or.inr ⟨hA, rfl, fun t ht => ⟨fun e => ?_, fun e => ?_⟩⟩
  · have hts : t = s := by omega
    subst hts
    refine ⟨?_, ?_, fun k hk => ?_⟩
    · show zset h' 0 0 (0, 0) (2 + 2 * t) 1 = (0, b)
      rw [zset_ne (by omega), he, if_neg (by omega), zset_ne (by omega), zset_same]
    · show zset h' 0 0 (0, 0) (2 + 2 * t) 2 = (0, c)
      rw [zset_ne (by omega), he, if_neg (by omega), zset_same]
    · show zset h' 0 0 (0, 0) (3 + 2 * t) k = (1, 0)
      rw [zset_ne (by omega), he, if_pos ⟨rfl, hk⟩]
  · have hts : t ≠ s := fun c => e (by omega)
    refine ⟨?_, ?_, fun k hk => ?_⟩
    · show zset h' 0 0 (0, 0) (2 + 2 * t) 1 = _
      rw [zset_ne (by omega), he, if_neg (by omega), zset_ne (by omega), zset_ne (by omega)]
    · show zset h' 0 0 (0, 0) (2 + 2 * t) 2 = _
      rw [zset_ne (by omega), he, if_neg (by omega), zset_ne (by omega), zset_ne (by omega)]
    · show zset h' 0 0 (0, 0) (3 + 2 * t) k = _
      rw [zset_ne (by omega), he, if_neg (by omega), zset_ne (by omega), zset_ne (by omega)]
theorem cTr_ok {D : zD} {T : zT} (hT : hTab T) (hO : vOK T) {N : Nat} {h : zH} (a b c : Int) : vP D T N 188 0 h [some (2, 0), some (0, a), some (0, b), some (0, c)] [] (cTr a b c h) := by
  refine vP_hv (fun hv => y_X11_tray hT hO a b c hv ?_ ?_ ?_ ?_ ?_ ?_ ?_ ?_ ?_ ?_)
  · exact fun c1 => cTr_no (fun g => by have := g.1; omega)
  · exact fun _ _ c1 => cTr_no (fun g => by have := g.2.1; omega)
  · exact fun _ _ _ c1 => cTr_no (fun g => by have := g.2.1; omega)
  · exact fun _ _ _ _ c1 => cTr_no (fun g => by have := g.2.2; omega)
  · exact fun _ _ _ _ _ c1 => cTr_no (fun g => by have := g.2.2; omega)
  · exact fun c1 c2 c3 c4 c5 c6 e => q_fill_3 hT hO 0 (fun h' he => v_ret0 (hT _ zt_X9_becomeZeros rfl _ _ rfl) (y_X11_trayE hT hO a b c (cTr_fin 0 e ⟨⟨c1, c2⟩, ⟨c3, c4⟩, c6, c5⟩ he)))
  · exact fun c1 c2 c3 c4 c5 c6 e => q_fill_5 hT hO 0 (fun h' he => v_ret0 (hT _ zt_X9_becomeZeros rfl _ _ rfl) (y_X11_trayE hT hO a b c (cTr_fin 1 e ⟨⟨c1, c2⟩, ⟨c3, c4⟩, c6, c5⟩ he)))
  · exact fun c1 c2 c3 c4 c5 c6 e => q_fill_7 hT hO 0 (fun h' he => v_ret0 (hT _ zt_X9_becomeZeros rfl _ _ rfl) (y_X11_trayE hT hO a b c (cTr_fin 2 e ⟨⟨c1, c2⟩, ⟨c3, c4⟩, c6, c5⟩ he)))
  · exact fun c1 c2 c3 c4 c5 c6 e => q_fill_9 hT hO 0 (fun h' he => v_ret0 (hT _ zt_X9_becomeZeros rfl _ _ rfl) (y_X11_trayE hT hO a b c (cTr_fin 3 e ⟨⟨c1, c2⟩, ⟨c3, c4⟩, c6, c5⟩ he)))
  · exact fun _ c1 => cTr_no (fun g => by have := g.1; omega)
theorem rTr2_no {a b c : Int} {h : zH} {v : zV} (hn : ¬ tArg a b c) : rTr2 a b c h (zset (zset (zset h 121 1 (0, 0)) 121 0 (0, 0)) 121 0 v, some (0, 0)) := Or.inl ⟨hn, rfl, (rK_z.trans rK_z).trans rK_z⟩
theorem rTr2_fin {a b c k : Int} {h h' : zH} (hA : tArg a b c) (hk : c ≤ k) (he : ∀ x y, h' x y = if x = 124 ∧ 60 * a ≤ (y : Int) ∧ (y : Int) < 60 * a + k then (1, 0) else zset (zset (zset (zset h 121 1 (0, 0)) 121 0 (0, 0)) 122 a.toNat (0, b)) 123 a.toNat (0, c) x y) (hk6 : k ≤ 60) : rTr2 a b c h (h', some (0, 1)) := by
  have hA1 := hA.1
  refine Or.inr ⟨hA, rfl, fun t ht => ⟨fun e => ?_, fun e => ?_⟩⟩
  · have hts : a.toNat = t := by omega
    rw [hts] at he
    refine ⟨?_, ?_, fun j hj hjc => ?_⟩
    · show h' 122 t = (0, b)
      rw [he, if_neg (by omega), zset_ne (by omega), zset_same]
    · show h' 123 t = (0, c)
      rw [he, if_neg (by omega), zset_same]
    · show h' 124 (60 * t + j) = (1, 0)
      rw [he, if_pos ⟨rfl, by omega, by omega⟩]
  · have hts : a.toNat ≠ t := fun c => e (by omega)
    refine ⟨?_, ?_, fun j hj => ?_⟩
    · show h' 122 t = _
      rw [he, if_neg (by omega), zset_ne (by omega), zset_ne (by omega), zset_ne (by omega), zset_ne (by omega)]
    · show h' 123 t = _
      rw [he, if_neg (by omega), zset_ne (by omega), zset_ne (by omega), zset_ne (by omega), zset_ne (by omega)]
    · show h' 124 (60 * t + j) = _
      rw [he, if_neg (by omega), zset_ne (by omega), zset_ne (by omega), zset_ne (by omega), zset_ne (by omega)]
theorem rTr2_ok {D : zD} {T : zT} (hT : hTab T) (hO : vOK T) {N : Nat} {h : zH} (a b c : Int) : vP D T N 329 0 h [some (2, 121), some (0, a), some (0, b), some (0, c), none] [] (rTr2 a b c h) := by
  refine vP_hv (fun hv => y_X12_tray hT hO a b c hv ?_ ?_ ?_ ?_ ?_ ?_ ?_)
  · exact fun c1 => rTr2_no (fun g => by have := g.1; omega)
  · exact fun _ _ c1 => rTr2_no (fun g => by have := g.2.1; omega)
  · exact fun _ _ _ c1 => rTr2_no (fun g => by have := g.2.1; omega)
  · exact fun _ _ _ _ c1 => rTr2_no (fun g => by have := g.2.2; omega)
  · exact fun _ _ _ _ _ c1 => rTr2_no (fun g => by have := g.2.2; omega)
  · intro c1 c2 c3 c4 c5 c6
    refine vP_loop (D := D) (T := T) (mi := 329) (pc := 74) (fun h' l => ∃ k : Int, 0 ≤ k ∧ k ≤ c ∧ l = [some (2, 121), some (0, a), some (0, b), some (0, c), some (0, k)] ∧ ∀ x y, h' x y = if x = 124 ∧ 60 * a ≤ (y : Int) ∧ (y : Int) < 60 * a + k then (1, 0) else zset (zset (zset (zset h 121 1 (0, 0)) 121 0 (0, 0)) 122 a.toNat (0, b)) 123 a.toNat (0, c) x y) ?_ N _ _ ⟨0, Int.le_refl _, c6, rfl, fun x y => ?_⟩
    · rintro N h' l ⟨k, k0, k1, rfl, he⟩ ih
      refine vP_hv (fun hv' => y_X12_tray1 hT hO a b c k hv' ⟨k0, by omega⟩ ⟨c1, c2⟩ c5 ?_ ?_)
      · intro d1 d2 d3
        refine ih _ _ ⟨k + 1, by omega, by omega, rfl, fun x y => ?_⟩
        by_cases e : x = 124 ∧ y = (60 * a + k).toNat
        · rw [show zset h' 124 (60 * a + k).toNat (1, 0) x y = (1, 0) from if_pos e, if_pos ⟨e.1, by omega, by omega⟩]
        · rw [zset_ne e, he]
          by_cases e2 : x = 124 ∧ 60 * a ≤ (y : Int) ∧ (y : Int) < 60 * a + k
          · rw [if_pos e2, if_pos ⟨e2.1, e2.2.1, by omega⟩]
          · rw [if_neg e2, if_neg (fun f => e2 ⟨f.1, f.2.1, by have := e; omega⟩)]
      · exact fun d1 => rTr2_fin ⟨⟨c1, c2⟩, ⟨c3, c4⟩, c6, c5⟩ d1 he (by omega)
    · rw [if_neg (fun f => by omega)]
  · exact fun _ c1 => rTr2_no (fun g => by have := g.1; omega)
/-! p5: what tray() answers hangs on its arguments alone -/
def lR (_ : zH) : Prop := True
theorem lR_S : lRs [] lR := fun _ _ _ _ => trivial
theorem lR_ini : lR hIni := trivial
theorem lRk_tray {D : zD} (_ : ∀ i, -2147483648 ≤ D.2 i ∧ D.2 i ≤ 2147483647) {h h1 h2 : zH} {a b c v1 v2 : Int} (hZ : lZ D h) (hZ1 : lZ D h1) (_ : lR h) (z1 : zRun D TLw 614 188 0 (h, zargs 0 [(2, 0), (0, a), (0, b), (0, c)], []) (h1, some (0, v1))) (_ : aFr lM_188 h h1) (z2 : zRun D TLw 614 329 0 (h1, zargs 0 [(2, 121), (0, a), (0, b), (0, c)], []) (h2, some (0, v2))) (_ : aFr lM_329 h1 h2) : lR h2 ∧ v1 = v2 := by
  have c1 := hZ.run 4 z1 (Q := cTr a b c h) (fun N => cTr_ok TLw_T vOK_T a b c)
  have c2 := hZ1.run 5 z2 (Q := rTr2 a b c h1) (fun N => rTr2_ok TLw_T vOK_T a b c)
  refine ⟨trivial, ?_⟩
  rcases c1 with ⟨n1, e1, -⟩ | ⟨n1, e1, -⟩
  · have e1 : some ((0, v1) : zV) = some (0, 0) := e1
    rcases c2 with ⟨n2, e2, -⟩ | ⟨n2, e2, -⟩
    · have e2 : some ((0, v2) : zV) = some (0, 0) := e2
      cases e1; cases e2; rfl
    · exact absurd n2 n1
  · have e1 : some ((0, v1) : zV) = some (0, 1) := e1
    rcases c2 with ⟨n2, e2, -⟩ | ⟨n2, e2, -⟩
    · exact absurd n1 n2
    · have e2 : some ((0, v2) : zV) = some (0, 1) := e2
      cases e1; cases e2; rfl
