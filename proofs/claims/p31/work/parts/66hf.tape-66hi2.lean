section
/-! THE TAPE OF BOTH SIDES: how long it is behind feed(), land(), orders() -/
-- behind land(n), orders(n): as it was, or empty
def cLn (m n : Int) (h : zH) (r : zR) : Prop := ((n < 0 ∨ (h 10 1).2 < n ∨ m < n) ∧ (r.1 10 1).2 = (h 10 1).2) ∨ ((0 ≤ n ∧ n ≤ (h 10 1).2 ∧ n ≤ m) ∧ (r.1 10 1).2 = 0)
def rLn (m n : Int) (h : zH) (r : zR) : Prop := ((n < 0 ∨ (h 121 8).2 < n ∨ m < n) ∧ (r.1 121 8).2 = (h 121 8).2) ∨ ((0 ≤ n ∧ n ≤ (h 121 8).2 ∧ n ≤ m) ∧ (r.1 121 8).2 = 0)
theorem c_land33 {D : zD} {N : Nat} {h : zH} {n z : Int} (hn : 0 ≤ n) {g : zH} (hg : n ≤ (g 10 1).2) (h9 : n ≤ 900) : vP D TLw N 162 33 h [some (2, 0), some (0, n), none, none] [(0, z)] (cLn 900 n g) := by
  refine vP_hv (fun hv => y_X11_land33 TLw_T vOK_T n z hv ?_)
  refine vP_Q (fun r hr => Or.inr ⟨⟨hn, hg, h9⟩, ?_⟩) (vP_fr (r0 := 10) (w := 11) rfl (fwOK_of fs_cland_ok) (by decide))
  rw [hr, zset_ne (by omega), zset_ne (by omega), zset_same]
theorem c_orders40 {D : zD} {N : Nat} {h : zH} {n z : Int} (hn : 0 ≤ n) {g : zH} (hg : n ≤ (g 10 1).2) (h9 : n ≤ 300) : vP D TLw N 170 40 h [some (2, 0), some (0, n), none] [(0, z)] (cLn 300 n g) := by
  refine vP_hv (fun hv => y_X11_orders40 TLw_T vOK_T n z hv ?_)
  refine vP_Q (fun r hr => Or.inr ⟨⟨hn, hg, h9⟩, ?_⟩) (vP_fr (r0 := 10) (w := 11) rfl (fwOK_of fs_corders_ok) (by decide))
  rw [hr, zset_ne (by omega), zset_ne (by omega), zset_same]
/-- a call that answers a number or a truth, then what its answer comes to -/
theorem vP_int {D : zD} {mi : Nat} (t : List (List (Option zX))) (ht : x_nth zMT mi = some t) (hb : rtT 1 t = true) {N pc : Nat} {h : zH} {l : List (Option zV)} {S : List zV} {Q : zR → Prop} (k : ∀ (h' : zH) (z : Int), Q (h', some (0, z))) : vP D TLw N mi pc h l S Q := vP_Q (fun r hr => by
  obtain ⟨h', v⟩ := r
  obtain ⟨z, hz⟩ := hr
  have hz : v = some (0, z) := hz
  rw [hz]
  exact k h' z) (vP_rt t ht hb (by decide))
theorem cLd_ok {D : zD} {N : Nat} {h : zH} (n : Int) (hL : (h 10 1).2 ≤ 900) (h8 : h 0 8 = (2, 24) ∨ h 0 8 = (2, 39)) : vP D TLw N 162 0 h [some (2, 0), some (0, n), none, none] [] (cLn 900 n h) := by
  refine vP_hv (fun hv => ?_)
  rcases h8 with e | e
  · exact y_X11_land_24 TLw_T vOK_T n hv e (fun c => Or.inl ⟨Or.inl c, rfl⟩) (fun _ c => Or.inl ⟨Or.inr (Or.inl c), rfl⟩) (fun c1 c2 => vP_int zt_X3_readText rfl (by decide +kernel) (fun h' z => c_land33 c1 c2 (by omega)))
  · exact y_X11_land_39 TLw_T vOK_T n hv e (fun c => Or.inl ⟨Or.inl c, rfl⟩) (fun _ c => Or.inl ⟨Or.inr (Or.inl c), rfl⟩) (fun c1 c2 => vP_int zt_X3_readText rfl (by decide +kernel) (fun h' z => c_land33 c1 c2 (by omega)))
theorem cOr_ok {D : zD} {N : Nat} {h : zH} (n : Int) (h7 : h 0 7 = (2, 24) ∨ h 0 7 = (2, 39)) : vP D TLw N 170 0 h [some (2, 0), some (0, n), none] [] (cLn 300 n h) := by
  refine vP_hv (fun hv => ?_)
  rcases h7 with e | e
  · exact y_X11_orders_24 TLw_T vOK_T n hv e (fun c => Or.inl ⟨Or.inl c, rfl⟩) (fun _ c => Or.inl ⟨Or.inr (Or.inl c), rfl⟩) (fun _ _ c => Or.inl ⟨Or.inr (Or.inr c), rfl⟩) (fun c1 c2 c3 => vP_int zt_X6_readText rfl (by decide +kernel) (fun h' z => c_orders40 c1 c2 c3))
  · exact y_X11_orders_39 TLw_T vOK_T n hv e (fun c => Or.inl ⟨Or.inl c, rfl⟩) (fun _ c => Or.inl ⟨Or.inr (Or.inl c), rfl⟩) (fun _ _ c => Or.inl ⟨Or.inr (Or.inr c), rfl⟩) (fun c1 c2 c3 => vP_int zt_X6_readText rfl (by decide +kernel) (fun h' z => c_orders40 c1 c2 c3))
theorem r8_o {h : zH} {n : Int} : zset (zset (zset (zset (zset (zset h 121 1 (0, 0)) 121 0 (0, 0)) 121 9 (0, n)) 121 8 (0, 0)) 121 16 (0, 0)) 121 12 (0, 0) 121 8 = (0, 0) := by rw [zset_ne (by omega), zset_ne (by omega), zset_same]
theorem rLd_ok {D : zD} {N : Nat} {h : zH} (n : Int) : vP D TLw N 268 0 h [some (2, 121), some (0, n), none] [] (rLn 900 n h) := by
  refine vP_hv (fun hv => y_X12_land TLw_T vOK_T n hv (fun c => Or.inl ⟨Or.inl c, rfl⟩) (fun _ c => Or.inl ⟨Or.inr (Or.inl c), rfl⟩) (fun _ _ c => Or.inl ⟨Or.inr (Or.inr c), rfl⟩) (fun c1 c2 c3 => ?_))
  refine vP_Q (fun r1 e1 => ?_) (vP_fr (r0 := 121) (w := 48) rfl (fwOK_of fs_next_ok) (by decide))
  refine vP_Q (fun r2 e2 => ?_) (vP_fr (r0 := 121) (w := 48) rfl (fwOK_of fs_opens_ok) (by decide))
  refine vP_Q (fun r3 e3 => Or.inr ⟨⟨c1, c2, c3⟩, ?_⟩) (vP_fr (r0 := 121) (w := 48) rfl (fwOK_of fs_rland_ok) (by decide))
  rw [e3, e2, e1, r8_o]
theorem rOr_ok {D : zD} {N : Nat} {h : zH} (n : Int) : vP D TLw N 289 0 h [some (2, 121), some (0, n), none] [] (rLn 300 n h) := by
  refine vP_hv (fun hv => y_X12_orders TLw_T vOK_T n hv (fun c => Or.inl ⟨Or.inl c, rfl⟩) (fun _ c => Or.inl ⟨Or.inr (Or.inl c), rfl⟩) (fun _ _ c => Or.inl ⟨Or.inr (Or.inr c), rfl⟩) (fun c1 c2 c3 => ?_))
  refine vP_Q (fun r1 e1 => ?_) (vP_fr (r0 := 121) (w := 48) rfl (fwOK_of fs_next_ok) (by decide))
  refine vP_Q (fun r2 e2 => ?_) (vP_fr (r0 := 121) (w := 48) rfl (fwOK_of fs_opens_ok) (by decide))
  refine vP_Q (fun r3 e3 => Or.inr ⟨⟨c1, c2, c3⟩, ?_⟩) (vP_fr (r0 := 121) (w := 48) rfl (fwOK_of fs_rorders_ok) (by decide))
  rw [e3, e2, e1, r8_o]
/-! p10: what land() answers; the tape is alike in both, the two LANDS of the class are two -/
abbrev tpR : aM := [(121, 8, 8)]
theorem tpR_in : aIn tpR 121 8 := ⟨_, List.mem_cons_self, rfl, Nat.le_refl _, Nat.le_refl _⟩
theorem lZ.b10 {D : zD} {h : zH} (hZ : lZ D h) : 0 ≤ (h 10 1).2 ∧ (h 10 1).2 ≤ 900 := (hZ.bd (lo := 1) (hi := 1) (k := 0) (a := 0) (b := 900) ty_10 rfl (by decide +kernel) 1 (Nat.le_refl _) (Nat.le_refl _)).2
theorem lZ.b121 {D : zD} {h : zH} (hZ : lZ D h) : 0 ≤ (h 121 8).2 ∧ (h 121 8).2 ≤ 900 := (hZ.bd (lo := 8) (hi := 8) (k := 0) (a := 0) (b := 900) ty_121 rfl (by decide +kernel) 8 (Nat.le_refl _) (Nat.le_refl _)).2
theorem lZ.r7 {D : zD} {h : zH} (hZ : lZ D h) : h 0 7 = (2, 24) ∨ h 0 7 = (2, 39) := by
  obtain ⟨c, hc, e⟩ := hZ.ref (r := 0) (k := 7) (ks := [24, 39]) (by decide +kernel)
  rcases (by simpa using hc : c = 24 ∨ c = 39) with rfl | rfl
  · exact Or.inl e
  · exact Or.inr e
theorem lZ.r8 {D : zD} {h : zH} (hZ : lZ D h) : h 0 8 = (2, 24) ∨ h 0 8 = (2, 39) := by
  obtain ⟨c, hc, e⟩ := hZ.ref (r := 0) (k := 8) (ks := [24, 39]) (by decide +kernel)
  rcases (by simpa using hc : c = 24 ∨ c = 39) with rfl | rfl
  · exact Or.inl e
  · exact Or.inr e
/-! THE TAPE OF BOTH SIDES: bytes too -/
def apT (x : Int) (t : Int × (Nat → Int)) : Int × (Nat → Int) := (t.1 + 4, fun q => if q = t.1.toNat + 3 then vB (v32 7 x 0) else if q = t.1.toNat + 2 then vB (v32 7 x 8) else if q = t.1.toNat + 1 then vB (v32 7 x 16) else if q = t.1.toNat then vB (v32 7 x 24) else t.2 q)
def tC (h : zH) : Int × (Nat → Int) := ((h 10 1).2, fun q => (h 11 q).2)
def tR (h : zH) : Int × (Nat → Int) := ((h 121 8).2, fun q => (h 125 q).2)
def tEq (s t : Int × (Nat → Int)) : Prop := s.1 = t.1 ∧ ∀ q : Nat, q ≤ 899 → (q : Int) < s.1 → s.2 q = t.2 q
theorem tEq.ap {s t : Int × (Nat → Int)} (x : Int) (h0 : 0 ≤ s.1) (e : tEq s t) : tEq (apT x s) (apT x t) := by
  obtain ⟨e1, e2⟩ := e
  refine ⟨by show s.1 + 4 = t.1 + 4; rw [e1], fun q h9 hq => ?_⟩
  have hq : (q : Int) < s.1 + 4 := hq
  show (if q = s.1.toNat + 3 then vB (v32 7 x 0) else if q = s.1.toNat + 2 then vB (v32 7 x 8) else if q = s.1.toNat + 1 then vB (v32 7 x 16) else if q = s.1.toNat then vB (v32 7 x 24) else s.2 q) = (if q = t.1.toNat + 3 then vB (v32 7 x 0) else if q = t.1.toNat + 2 then vB (v32 7 x 8) else if q = t.1.toNat + 1 then vB (v32 7 x 16) else if q = t.1.toNat then vB (v32 7 x 24) else t.2 q)
  rw [e1]
  by_cases c3 : q = t.1.toNat + 3
  · rw [if_pos c3, if_pos c3]
  · by_cases c2 : q = t.1.toNat + 2
    · rw [if_neg c3, if_pos c2, if_neg c3, if_pos c2]
    · by_cases c1 : q = t.1.toNat + 1
      · rw [if_neg c3, if_neg c2, if_pos c1, if_neg c3, if_neg c2, if_pos c1]
      · by_cases c0 : q = t.1.toNat
        · rw [if_neg c3, if_neg c2, if_neg c1, if_pos c0, if_neg c3, if_neg c2, if_neg c1, if_pos c0]
        · rw [if_neg c3, if_neg c2, if_neg c1, if_neg c0, if_neg c3, if_neg c2, if_neg c1, if_neg c0]
          exact e2 q h9 (by omega)
theorem ap_heap {h : zH} {r k c : Nat} {L : Int} {b3 b2 b1 b0 : Int} (hrc : r ≠ c) (h0 : 0 ≤ L) (q : Nat) : (zset (zset (zset (zset (zset (zset (zset (zset h c L.toNat (0, b3)) r k (0, L + 1)) c (L + 1).toNat (0, b2)) r k (0, L + 1 + 1)) c (L + 1 + 1).toNat (0, b1)) r k (0, L + 1 + 1 + 1)) c (L + 1 + 1 + 1).toNat (0, b0)) r k (0, L + 1 + 1 + 1 + 1) c q).2 = (if q = L.toNat + 3 then b0 else if q = L.toNat + 2 then b1 else if q = L.toNat + 1 then b2 else if q = L.toNat then b3 else (h c q).2) := by
  rw [zset_ne (fun f => hrc f.1.symm)]
  by_cases c3 : q = L.toNat + 3
  · rw [if_pos c3, show (L + 1 + 1 + 1).toNat = q from by omega, zset_same]
  · rw [if_neg c3, zset_ne (fun f => c3 (by omega)), zset_ne (fun f => hrc f.1.symm)]
    by_cases c2 : q = L.toNat + 2
    · rw [if_pos c2, show (L + 1 + 1).toNat = q from by omega, zset_same]
    · rw [if_neg c2, zset_ne (fun f => c2 (by omega)), zset_ne (fun f => hrc f.1.symm)]
      by_cases c1 : q = L.toNat + 1
      · rw [if_pos c1, show (L + 1).toNat = q from by omega, zset_same]
      · rw [if_neg c1, zset_ne (fun f => c1 (by omega)), zset_ne (fun f => hrc f.1.symm)]
        by_cases c0 : q = L.toNat
        · rw [if_pos c0, c0, zset_same]
        · rw [if_neg c0, zset_ne (fun f => c0 f.2)]
theorem cb_append {D : zD} {T : zT} (hT : hTab T) (hO : vOK T) {N : Nat} {h : zH} {Q : zR → Prop} (x : Int) (hL : 0 ≤ (h 10 1).2 ∧ (h 10 1).2 ≤ 896) (k : ∀ g : zH, tC g = apT x (tC h) → Q (g, none)) : vP D T N 101 0 h [some (2, 10), some (0, x), none] [] Q := by
  refine vP_hv (fun hv => y_X8_append hT hO x hv hL ?_ ?_ ?_ ?_ ?_)
  · intro _ _ _ _ _ _ _ _ _ _ _ _
    refine k _ (Prod.ext ?_ ?_)
    · show (zset _ 10 1 _ 10 1).2 = (h 10 1).2 + 4
      rw [zset_same]
      show (h 10 1).2 + 1 + 1 + 1 + 1 = _
      omega
    · funext q
      exact ap_heap (by decide) hL.1 q
  · intros; omega
  · intros; omega
  · intros; omega
  · intros; omega
theorem rb_lay {D : zD} {T : zT} (hT : hTab T) (hO : vOK T) {N : Nat} {h : zH} {Q : zR → Prop} (x : Int) (hL : 0 ≤ (h 121 8).2 ∧ (h 121 8).2 ≤ 896) (k : ∀ g : zH, tR g = apT x (tR h) → Q (g, none)) : vP D T N 269 0 h [some (2, 121), some (0, x), none] [] Q := by
  refine vP_hv (fun hv => y_X12_lay hT hO x hv hL ?_)
  intro _ _ _ _ _ _ _ _ _ _ _ _
  refine k _ (Prod.ext ?_ ?_)
  · show (zset _ 121 8 _ 121 8).2 = (h 121 8).2 + 4
    rw [zset_same]
    show (h 121 8).2 + 1 + 1 + 1 + 1 = _
    omega
  · funext q
    exact ap_heap (by decide) hL.1 q
def fdT (a b c d e : Int) (t : Int × (Nat → Int)) : Int × (Nat → Int) := apT e (apT d (apT c (apT b (apT a t))))
def cFdB (a b c d e : Int) (h : zH) (r : zR) : Prop := (900 < (h 10 1).2 + 20 ∧ r.2 = some (0, -1) ∧ tC r.1 = tC h) ∨ ((h 10 1).2 + 20 ≤ 900 ∧ r.2 = some (0, (h 10 1).2 + 20) ∧ tC r.1 = fdT a b c d e (tC h))
def rFdB (a b c d e : Int) (h : zH) (r : zR) : Prop := (900 < (h 121 8).2 + 20 ∧ r.2 = some (0, -1) ∧ tR r.1 = tR h) ∨ ((h 121 8).2 + 20 ≤ 900 ∧ r.2 = some (0, (h 121 8).2 + 20) ∧ tR r.1 = fdT a b c d e (tR h))
theorem apT_1 {x : Int} {t : Int × (Nat → Int)} : (apT x t).1 = t.1 + 4 := rfl
theorem cFdB_ok {D : zD} {T : zT} (hT : hTab T) (hO : vOK T) {N : Nat} {h : zH} (a b c d e : Int) (hL : 0 ≤ (h 10 1).2 ∧ (h 10 1).2 ≤ 900) : vP D T N 155 0 h [some (2, 0), some (0, a), some (0, b), some (0, c), some (0, d), some (0, e)] [] (cFdB a b c d e h) := by
  refine vP_hv (fun hv => y_X11_feed hT hO a b c d e hv hL (fun c1 => Or.inl ⟨c1, rfl, rfl⟩) (fun c1 => ?_))
  refine cb_append hT hO a ⟨hL.1, by omega⟩ (fun h1 e1 => vP_hv (fun hv1 => y_X11_feed_1 hT hO a b c d e hv1 ?_))
  have l1 : (h1 10 1).2 = (h 10 1).2 + 4 := congrArg Prod.fst e1
  refine cb_append hT hO b ⟨by show 0 ≤ (h1 10 1).2; omega, by show (h1 10 1).2 ≤ 896; omega⟩ (fun h2 e2 => vP_hv (fun hv2 => y_X11_feed_2 hT hO a b c d e hv2 ?_))
  have e2 : tC h2 = apT b (tC h1) := e2
  have l2 : (h2 10 1).2 = (h1 10 1).2 + 4 := congrArg Prod.fst e2
  refine cb_append hT hO c ⟨by show 0 ≤ (h2 10 1).2; omega, by show (h2 10 1).2 ≤ 896; omega⟩ (fun h3 e3 => vP_hv (fun hv3 => y_X11_feed_3 hT hO a b c d e hv3 ?_))
  have e3 : tC h3 = apT c (tC h2) := e3
  have l3 : (h3 10 1).2 = (h2 10 1).2 + 4 := congrArg Prod.fst e3
  refine cb_append hT hO d ⟨by show 0 ≤ (h3 10 1).2; omega, by show (h3 10 1).2 ≤ 896; omega⟩ (fun h4 e4 => vP_hv (fun hv4 => y_X11_feed_4 hT hO a b c d e hv4 ?_))
  have e4 : tC h4 = apT d (tC h3) := e4
  have l4 : (h4 10 1).2 = (h3 10 1).2 + 4 := congrArg Prod.fst e4
  refine cb_append hT hO e ⟨by show 0 ≤ (h4 10 1).2; omega, by show (h4 10 1).2 ≤ 896; omega⟩ (fun h5 e5 => vP_hv (fun hv5 => y_X11_feed_5 hT hO a b c d e hv5 ?_))
  have e5 : tC h5 = apT e (tC h4) := e5
  have l5 : (h5 10 1).2 = (h4 10 1).2 + 4 := congrArg Prod.fst e5
  refine Or.inr ⟨c1, ?_, ?_⟩
  · show some ((0, (h5 10 1).2) : zV) = _
    rw [show (h5 10 1).2 = (h 10 1).2 + 20 from by omega]
  · show tC h5 = _
    rw [e5, e4, e3, e2, e1]
    rfl
theorem rFdB_ok {D : zD} {T : zT} (hT : hTab T) (hO : vOK T) {N : Nat} {h : zH} (a b c d e : Int) (hL : 0 ≤ (h 121 8).2 ∧ (h 121 8).2 ≤ 900) : vP D T N 227 0 h [some (2, 121), some (0, a), some (0, b), some (0, c), some (0, d), some (0, e)] [] (rFdB a b c d e h) := by
  have e00 : tR (zset h 121 1 (0, 0)) = tR h := Prod.ext (by show (zset h 121 1 (0, 0) 121 8).2 = _; rw [zset_ne (by omega)]; rfl) (by funext q; show (zset h 121 1 (0, 0) 125 q).2 = _; rw [zset_ne (by omega)]; rfl)
  refine vP_hv (fun hv => y_X12_feed hT hO a b c d e hv hL (fun c1 => Or.inl ⟨c1, rfl, e00⟩) (fun c1 => ?_))
  have e0 : (zset h 121 1 (0, 0) 121 8).2 = (h 121 8).2 := by rw [zset_ne (by omega)]
  refine rb_lay hT hO a ⟨by rw [e0]; omega, by rw [e0]; omega⟩ (fun h1 e1 => vP_hv (fun hv1 => y_X12_feed_1 hT hO a b c d e hv1 ?_))
  rw [e00] at e1
  have l1 : (h1 121 8).2 = (h 121 8).2 + 4 := congrArg Prod.fst e1
  refine rb_lay hT hO b ⟨by show 0 ≤ (h1 121 8).2; omega, by show (h1 121 8).2 ≤ 896; omega⟩ (fun h2 e2 => vP_hv (fun hv2 => y_X12_feed_2 hT hO a b c d e hv2 ?_))
  have e2 : tR h2 = apT b (tR h1) := e2
  have l2 : (h2 121 8).2 = (h1 121 8).2 + 4 := congrArg Prod.fst e2
  refine rb_lay hT hO c ⟨by show 0 ≤ (h2 121 8).2; omega, by show (h2 121 8).2 ≤ 896; omega⟩ (fun h3 e3 => vP_hv (fun hv3 => y_X12_feed_3 hT hO a b c d e hv3 ?_))
  have e3 : tR h3 = apT c (tR h2) := e3
  have l3 : (h3 121 8).2 = (h2 121 8).2 + 4 := congrArg Prod.fst e3
  refine rb_lay hT hO d ⟨by show 0 ≤ (h3 121 8).2; omega, by show (h3 121 8).2 ≤ 896; omega⟩ (fun h4 e4 => vP_hv (fun hv4 => y_X12_feed_4 hT hO a b c d e hv4 ?_))
  have e4 : tR h4 = apT d (tR h3) := e4
  have l4 : (h4 121 8).2 = (h3 121 8).2 + 4 := congrArg Prod.fst e4
  refine rb_lay hT hO e ⟨by show 0 ≤ (h4 121 8).2; omega, by show (h4 121 8).2 ≤ 896; omega⟩ (fun h5 e5 => vP_hv (fun hv5 => y_X12_feed_5 hT hO a b c d e hv5 ?_))
  have e5 : tR h5 = apT e (tR h4) := e5
  have l5 : (h5 121 8).2 = (h4 121 8).2 + 4 := congrArg Prod.fst e5
  refine Or.inr ⟨c1, ?_, ?_⟩
  · show some ((0, (h5 121 8).2) : zV) = _
    rw [show (h5 121 8).2 = (h 121 8).2 + 20 from by omega]
  · show tR h5 = _
    rw [e5, e4, e3, e2, e1]
    rfl
/-! what holds of the tapes between calls -/
def lT (h : zH) : Prop := tEq (tC h) (tR h)
abbrev tbC : aM := [(10, 1, 1), (11, 0, 899)]
abbrev tbR : aM := [(121, 8, 8), (125, 0, 899)]
theorem tbC_1 : aIn tbC 10 1 := ⟨_, List.mem_cons_self, rfl, Nat.le_refl _, Nat.le_refl _⟩
theorem tbC_b {q : Nat} (h : q ≤ 899) : aIn tbC 11 q := ⟨_, List.mem_cons_of_mem _ List.mem_cons_self, rfl, Nat.zero_le _, h⟩
theorem tbR_1 : aIn tbR 121 8 := ⟨_, List.mem_cons_self, rfl, Nat.le_refl _, Nat.le_refl _⟩
theorem tbR_b {q : Nat} (h : q ≤ 899) : aIn tbR 125 q := ⟨_, List.mem_cons_of_mem _ List.mem_cons_self, rfl, Nat.zero_le _, h⟩
def tK (s t : Int × (Nat → Int)) : Prop := s.1 = t.1 ∧ ∀ q, q ≤ 899 → s.2 q = t.2 q
theorem tK_c {M : aM} {h g : zH} (f : aFr M h g) (hf : lFree tbC M = true) : tK (tC g) (tC h) := ⟨congrArg Prod.snd (f.keep hf tbC_1), fun q hq => congrArg Prod.snd (f.keep hf (tbC_b hq))⟩
theorem tK_r {M : aM} {h g : zH} (f : aFr M h g) (hf : lFree tbR M = true) : tK (tR g) (tR h) := ⟨congrArg Prod.snd (f.keep hf tbR_1), fun q hq => congrArg Prod.snd (f.keep hf (tbR_b hq))⟩
theorem tEq.k {s s' t t' : Int × (Nat → Int)} (e : tEq s t) (a : tK s' s) (b : tK t' t) : tEq s' t' := ⟨by rw [a.1, b.1]; exact e.1, fun q h9 hq => by
  rw [a.1] at hq
  rw [a.2 q h9, b.2 q h9]
  exact e.2 q h9 hq⟩
theorem tEq.fd {s t : Int × (Nat → Int)} {a b c d e : Int} (h0 : 0 ≤ s.1) (h : tEq s t) : tEq (fdT a b c d e s) (fdT a b c d e t) := by
  have h1 := h.ap a h0
  have h2 := h1.ap b (by rw [apT_1]; omega)
  have h3 := h2.ap c (by rw [apT_1, apT_1]; omega)
  have h4 := h3.ap d (by rw [apT_1, apT_1, apT_1]; omega)
  exact h4.ap e (by rw [apT_1, apT_1, apT_1, apT_1]; omega)
theorem cTx_k {D : zD} {T : zT} {N mi pc : Nat} {l : List (Option zV)} {S : List zV} {Q : zR → Prop} {B : Nat → Int} {n r : Nat} {h : zH} (H : vP D T N mi pc h l S (cTx B n r h)) (k1 : ∀ g m τ P, xFr r h g → Tks B n m τ → pLand τ = .inr P → cP r P g → lB P → g 10 7 = (0, 0) → g 10 8 = (0, -1) → g (r + 10) 0 = (0, -1) → g (r + 10) 1 = (0, 0) → Q (g, some (0, 1))) (k2 : ∀ g m τ e, xFr r h g → Tks B n m τ → pLand τ = .inl e → cB e g → Q (g, some (0, 0))) : vP D T N mi pc h l S Q := vP_Q (fun x hx => by
  obtain ⟨g, v⟩ := x
  obtain ⟨m, τ, hK, h1, hf⟩ := hx
  rcases h1 with ⟨e, h1, h2, h3⟩ | ⟨P, h1, h2, h3, h4, h5, h6, h7, h8⟩
  · have h2 : v = some (0, 0) := h2
    subst h2
    exact k2 g m τ e hf hK h1 h3
  · have h2 : v = some (0, 1) := h2
    subst h2
    exact k1 g m τ P hf hK h1 h3 h4 h5 h6 h7 h8) H
/-! land(n) on both sides -/
def lSw (r c : Nat) : Prop := (r = 24 ∧ c = 39) ∨ (r = 39 ∧ c = 24)
def cLf (r : Nat) (h0 h : zH) : Prop := ∀ a b, ¬ (a = 0 ∨ a = 10 ∨ (12 ≤ a ∧ a ≤ 16) ∨ (r ≤ a ∧ a ≤ r + 10)) → h a b = h0 a b
def cLd (r c : Nat) (B : Nat → Int) (n : Nat) (h0 : zH) (x : zR) : Prop := ((h0 10 1).2 < (n : Int) ∧ x = (zset h0 0 0 (0, 5), some (0, -1))) ∨ ((n : Int) ≤ (h0 10 1).2 ∧ cLf r h0 x.1 ∧ x.1 0 10 = h0 0 10 ∧ ∃ m τ, Tks B n m τ ∧ ((∃ e, pLand τ = .inl e ∧ x.2 = some (0, -1) ∧ x.1 10 9 = (0, e.1) ∧ x.1 10 10 = (0, e.2) ∧ x.1 0 7 = (2, (c : Int)) ∧ x.1 0 8 = (2, (r : Int))) ∨ (∃ P, pLand τ = .inr P ∧ x.2 = some (0, P 0 3) ∧ x.1 10 9 = (0, 0) ∧ x.1 10 10 = (0, -1) ∧ x.1 0 7 = (2, (r : Int)) ∧ x.1 0 8 = (2, (c : Int)) ∧ cP r P x.1 ∧ lB P ∧ x.1 (r + 10) 0 = (0, -1) ∧ x.1 (r + 10) 1 = (0, 0))))
theorem qc_land_24 {D : zD} {T : zT} (hT : hTab T) (hO : vOK T) {N : Nat} {h : zH} {Q : zR → Prop} {B : Nat → Int} {n : Nat} (hv0 : zHv h) (hB : TXc B n h) (e7 : h 0 7 = (2, 39)) (e8 : h 0 8 = (2, 24))
    (k0 : ((n : Int) < 0) → Q (zset h 0 0 (0, 5), some (0, -1)))
    (k1 : (0 ≤ (n : Int)) → ((h 10 1).2 < (n : Int)) → Q (zset h 0 0 (0, 5), some (0, -1)))
    (k2 : (0 ≤ (n : Int)) → ((n : Int) ≤ (h 10 1).2) → ∀ (g5 : zH) (m : Nat) (τ : PT) (P5 : PT), (xFr 24 h g5) → (Tks B n m τ) → (pLand τ = .inr P5) → (cP 24 P5 g5) → (lB P5) → (g5 10 7 = (0, 0)) → (g5 10 8 = (0, -1)) → (g5 34 0 = (0, -1)) → (g5 34 1 = (0, 0)) → Q (zset (zset (zset (zset (zset (zset g5 10 1 (0, 0)) 10 9 (0, 0)) 10 10 (0, -1)) 0 7 (2, 24)) 0 8 (2, 39)) 0 0 (0, 0), some (0, (P5 0 3))))
    (k3 : (0 ≤ (n : Int)) → ((n : Int) ≤ (h 10 1).2) → ∀ (g6 : zH) (m : Nat) (τ : PT) (e6 : Er), (xFr 24 h g6) → (Tks B n m τ) → (pLand τ = .inl e6) → (cB e6 g6) → Q (zset (zset (zset (zset g6 10 1 (0, 0)) 10 9 (0, e6.1)) 10 10 (0, e6.2)) 0 0 (0, 10), some (0, -1))) :
    vP D T N 162 0 h [some (2, 0), some (0, (n : Int)), none, none] [] Q := by
  refine v_load (v := (0, (n : Int))) (hi_X11_land_0 hT) rfl rfl ?_
  refine v_if (hi_X11_land_1 hT) (fun hc1 => ?_) (fun hc1 => ?_)
  · have hc1 : (n : Int) < 0 := hc1
    refine v_load (v := (2, 0)) (hi_X11_land_15 hT) rfl rfl ?_
    refine v_push (5) (hi_X11_land_16 hT) rfl ?_
    refine v_call (w := 2) [some (2, 0), some (0, 5)] hO (hi_X11_land_17 hT) rfl rfl ?_
    refine v_load (v := (2, 0)) (hi_X11_refused_0 hT) rfl rfl ?_
    refine v_load (v := (0, 5)) (hi_X11_refused_1 hT) rfl rfl ?_
    refine v_putf (r := 0) hO (hi_X11_refused_2 hT) rfl (fun hf2 => ?_)
    refine v_push (-1) (hi_X11_refused_5 hT) rfl ?_
    refine v_ret (hi_X11_refused_6 hT) (Or.inl rfl) ?_
    show vP D T N 162 20 (zset h 0 0 (0, 5)) [some (2, 0), some (0, (n : Int)), none, none] [(0, -1)] _
    refine v_ret (hi_X11_land_20 hT) (Or.inl rfl) ?_
    exact k0 hc1
  · have hc1 : 0 ≤ (n : Int) := Int.not_lt.mp hc1
    refine v_load (v := (0, (n : Int))) (hi_X11_land_4 hT) rfl rfl ?_
    refine v_load (v := (2, 0)) (hi_X11_land_5 hT) rfl rfl ?_
    refine v_getR (c := 10) (r := 0) (hi_X11_land_6 hT) rfl rfl rfl ?_
    refine v_getI (t := 0) (r := 10) (hi_X11_land_9 hT) rfl rfl rfl ?_
    refine v_ic (hi_X11_land_12 hT) (fun hc3 => ?_) (fun hc3 => ?_)
    · have hc3 : (h 10 1).2 < (n : Int) := hc3
      refine v_load (v := (2, 0)) (hi_X11_land_15 hT) rfl rfl ?_
      refine v_push (5) (hi_X11_land_16 hT) rfl ?_
      refine v_call (w := 2) [some (2, 0), some (0, 5)] hO (hi_X11_land_17 hT) rfl rfl ?_
      refine v_load (v := (2, 0)) (hi_X11_refused_0 hT) rfl rfl ?_
      refine v_load (v := (0, 5)) (hi_X11_refused_1 hT) rfl rfl ?_
      refine v_putf (r := 0) hO (hi_X11_refused_2 hT) rfl (fun hf4 => ?_)
      refine v_push (-1) (hi_X11_refused_5 hT) rfl ?_
      refine v_ret (hi_X11_refused_6 hT) (Or.inl rfl) ?_
      show vP D T N 162 20 (zset h 0 0 (0, 5)) [some (2, 0), some (0, (n : Int)), none, none] [(0, -1)] _
      refine v_ret (hi_X11_land_20 hT) (Or.inl rfl) ?_
      exact k1 hc1 hc3
    · have hc3 : (n : Int) ≤ (h 10 1).2 := Int.not_lt.mp hc3
      refine v_load (v := (2, 0)) (hi_X11_land_21 hT) rfl rfl ?_
      refine v_getR (c := 16) (r := 0) (hi_X11_land_22 hT) rfl rfl rfl ?_
      refine v_load (v := (2, 0)) (hi_X11_land_25 hT) rfl rfl ?_
      refine v_getf (v := (2, 24)) (r := 0) (hi_X11_land_26 hT) rfl rfl (fun _ => e8) ?_
      refine v_load (v := (0, (n : Int))) (hi_X11_land_29 hT) rfl rfl ?_
      refine v_call (w := 4) [some (2, 16), some (2, 24), some (0, (n : Int)), none] hO (hi_X11_land_30 hT) rfl rfl (cTx_k (cx_text_24 hT hO hB (by omega)) (fun g5 m τ P5 xf5 hK5 q5 cp5 lb5 da5 db5 oa5 ob5 => ?_) (fun g6 m τ e6 xf6 hK6 q6 c6 => ?_))
      · show vP D T N 162 33 g5 [some (2, 0), some (0, (n : Int)), none, none] [(0, 1)] _
        refine vP_hv (fun hv5 => ?_)
        refine v_store1 [some (2, 0), some (0, (n : Int)), some (0, 1), none] (hi_X11_land_33 hT) ⟨rfl, Nat.ne_of_beq_eq_false rfl⟩ (Nat.le_of_ble_eq_true rfl) rfl ?_
        refine v_load (v := (2, 0)) (hi_X11_land_34 hT) rfl rfl ?_
        refine v_getR (c := 10) (r := 0) (hi_X11_land_35 hT) rfl rfl rfl ?_
        refine v_call (w := 1) [some (2, 10)] hO (hi_X11_land_38 hT) rfl rfl ?_
        refine v_load (v := (2, 10)) (hi_X8_finishText_0 hT) rfl rfl ?_
        refine v_push (0) (hi_X8_finishText_1 hT) rfl ?_
        refine v_putf (r := 10) hO (hi_X8_finishText_2 hT) rfl (fun hf7 => ?_)
        refine v_load (v := (2, 10)) (hi_X8_finishText_5 hT) rfl rfl ?_
        refine v_load (v := (2, 10)) (hi_X8_finishText_6 hT) rfl rfl ?_
        refine v_getf (v := (0, 0)) (r := 10) (hi_X8_finishText_7 hT) rfl rfl (fun _ => Eq.trans (zset_ne (fun c => absurd c.2 (by decide))) (da5)) ?_
        refine v_putf (r := 10) hO (hi_X8_finishText_10 hT) rfl (fun hf8 => ?_)
        refine v_load (v := (2, 10)) (hi_X8_finishText_13 hT) rfl rfl ?_
        refine v_load (v := (2, 10)) (hi_X8_finishText_14 hT) rfl rfl ?_
        refine v_getf (v := (0, -1)) (r := 10) (hi_X8_finishText_15 hT) rfl rfl (fun _ => Eq.trans (Eq.trans (zset_ne (fun c => absurd c.2 (by decide))) (zset_ne (fun c => absurd c.2 (by decide)))) (db5)) ?_
        refine v_putf (r := 10) hO (hi_X8_finishText_18 hT) rfl (fun hf9 => ?_)
        refine v_ret0 (hi_X8_finishText_21 hT) ?_
        show vP D T N 162 41 (zset (zset (zset g5 10 1 (0, 0)) 10 9 (0, 0)) 10 10 (0, -1)) [some (2, 0), some (0, (n : Int)), some (0, 1), none] [] _
        refine v_load (v := (0, 1)) (hi_X11_land_41 hT) rfl rfl ?_
        refine v_if (hi_X11_land_42 hT) (fun hc10 => absurd (show (1 : Int) = 0 from hc10) (by decide)) (fun _ => ?_)
        refine v_load (v := (2, 0)) (hz_X11_land hT _ _ rfl) rfl rfl ?_
        refine v_getf (v := (2, 39)) (r := 0) (hz_X11_land hT _ _ rfl) rfl rfl (fun _ => Eq.trans (Eq.trans (zset_ne (fun c => absurd c.1 (by decide))) (Eq.trans (zset_ne (fun c => absurd c.1 (by decide))) (zset_ne (fun c => absurd c.1 (by decide))))) ((Eq.trans (xf5 0 7 (fun c => by omega)) e7))) ?_
        refine v_store1 [some (2, 0), some (0, (n : Int)), some (0, 1), some (2, 39)] (hz_X11_land hT _ _ rfl) ⟨rfl, Nat.ne_of_beq_eq_false rfl⟩ (Nat.le_of_ble_eq_true rfl) rfl ?_
        refine v_load (v := (2, 0)) (hz_X11_land hT _ _ rfl) rfl rfl ?_
        refine v_load (v := (2, 0)) (hz_X11_land hT _ _ rfl) rfl rfl ?_
        refine v_getf (v := (2, 24)) (r := 0) (hz_X11_land hT _ _ rfl) rfl rfl (fun _ => Eq.trans (Eq.trans (zset_ne (fun c => absurd c.1 (by decide))) (Eq.trans (zset_ne (fun c => absurd c.1 (by decide))) (zset_ne (fun c => absurd c.1 (by decide))))) ((Eq.trans (xf5 0 8 (fun c => by omega)) e8))) ?_
        refine v_putf (r := 0) hO (hz_X11_land hT _ _ rfl) rfl (fun hf11 => ?_)
        refine v_load (v := (2, 0)) (hz_X11_land hT _ _ rfl) rfl rfl ?_
        refine v_load (v := (2, 39)) (hz_X11_land hT _ _ rfl) rfl rfl ?_
        refine v_putf (r := 0) hO (hz_X11_land hT _ _ rfl) rfl (fun hf12 => ?_)
        refine v_load (v := (2, 0)) (hz_X11_land hT _ _ rfl) rfl rfl ?_
        refine v_load (v := (2, 0)) (hz_X11_land hT _ _ rfl) rfl rfl ?_
        refine v_getf (v := (2, 24)) (r := 0) (hz_X11_land hT _ _ rfl) rfl rfl (fun _ => Eq.trans (zset_ne (fun c => absurd c.2 (by decide))) zset_same) ?_
        refine v_getf (v := (0, (P5 0 3))) (r := 24) (hz_X11_land hT _ _ rfl) rfl rfl (fun _ => Eq.trans (Eq.trans (zset_ne (fun c => absurd c.1 (by decide))) (Eq.trans (zset_ne (fun c => absurd c.1 (by decide))) (Eq.trans (zset_ne (fun c => absurd c.1 (by decide))) (Eq.trans (zset_ne (fun c => absurd c.1 (by decide))) (zset_ne (fun c => absurd c.1 (by decide))))))) (cp5.m)) ?_
        refine v_call (w := 2) [some (2, 0), some (0, (P5 0 3))] hO (hz_X11_land hT _ _ rfl) rfl rfl ?_
        refine v_load (v := (2, 0)) (hi_X11_answer_0 hT) rfl rfl ?_
        refine v_push (0) (hi_X11_answer_1 hT) rfl ?_
        refine v_putf (r := 0) hO (hi_X11_answer_2 hT) rfl (fun hf13 => ?_)
        refine v_load (v := (0, (P5 0 3))) (hi_X11_answer_5 hT) rfl rfl ?_
        refine v_ret (hi_X11_answer_6 hT) (Or.inl rfl) ?_
        show vP D T N 162 81 (zset (zset (zset (zset (zset (zset g5 10 1 (0, 0)) 10 9 (0, 0)) 10 10 (0, -1)) 0 7 (2, 24)) 0 8 (2, 39)) 0 0 (0, 0)) [some (2, 0), some (0, (n : Int)), some (0, 1), some (2, 39)] [(0, (P5 0 3))] _
        refine v_ret (hz_X11_land hT _ _ rfl) (Or.inl rfl) ?_
        exact k2 hc1 hc3 g5 m τ P5 xf5 hK5 q5 cp5 lb5 da5 db5 oa5 ob5
      · show vP D T N 162 33 g6 [some (2, 0), some (0, (n : Int)), none, none] [(0, 0)] _
        refine vP_hv (fun hv6 => ?_)
        refine v_store1 [some (2, 0), some (0, (n : Int)), some (0, 0), none] (hi_X11_land_33 hT) ⟨rfl, Nat.ne_of_beq_eq_false rfl⟩ (Nat.le_of_ble_eq_true rfl) rfl ?_
        refine v_load (v := (2, 0)) (hi_X11_land_34 hT) rfl rfl ?_
        refine v_getR (c := 10) (r := 0) (hi_X11_land_35 hT) rfl rfl rfl ?_
        refine v_call (w := 1) [some (2, 10)] hO (hi_X11_land_38 hT) rfl rfl ?_
        refine v_load (v := (2, 10)) (hi_X8_finishText_0 hT) rfl rfl ?_
        refine v_push (0) (hi_X8_finishText_1 hT) rfl ?_
        refine v_putf (r := 10) hO (hi_X8_finishText_2 hT) rfl (fun hf14 => ?_)
        refine v_load (v := (2, 10)) (hi_X8_finishText_5 hT) rfl rfl ?_
        refine v_load (v := (2, 10)) (hi_X8_finishText_6 hT) rfl rfl ?_
        refine v_getf (v := (0, e6.1)) (r := 10) (hi_X8_finishText_7 hT) rfl rfl (fun _ => Eq.trans (zset_ne (fun c => absurd c.2 (by decide))) (c6.1)) ?_
        refine v_putf (r := 10) hO (hi_X8_finishText_10 hT) rfl (fun hf15 => ?_)
        refine v_load (v := (2, 10)) (hi_X8_finishText_13 hT) rfl rfl ?_
        refine v_load (v := (2, 10)) (hi_X8_finishText_14 hT) rfl rfl ?_
        refine v_getf (v := (0, e6.2)) (r := 10) (hi_X8_finishText_15 hT) rfl rfl (fun _ => Eq.trans (Eq.trans (zset_ne (fun c => absurd c.2 (by decide))) (zset_ne (fun c => absurd c.2 (by decide)))) (c6.2)) ?_
        refine v_putf (r := 10) hO (hi_X8_finishText_18 hT) rfl (fun hf16 => ?_)
        refine v_ret0 (hi_X8_finishText_21 hT) ?_
        show vP D T N 162 41 (zset (zset (zset g6 10 1 (0, 0)) 10 9 (0, e6.1)) 10 10 (0, e6.2)) [some (2, 0), some (0, (n : Int)), some (0, 0), none] [] _
        refine v_load (v := (0, 0)) (hi_X11_land_41 hT) rfl rfl ?_
        refine v_if (hi_X11_land_42 hT) (fun _ => ?_) (fun hc17 => absurd (show (0 : Int) = 0 from (by decide)) hc17)
        refine v_load (v := (2, 0)) (hz_X11_land hT _ _ rfl) rfl rfl ?_
        refine v_push (10) (hz_X11_land hT _ _ rfl) rfl ?_
        refine v_call (w := 2) [some (2, 0), some (0, 10)] hO (hz_X11_land hT _ _ rfl) rfl rfl ?_
        refine v_load (v := (2, 0)) (hi_X11_refused_0 hT) rfl rfl ?_
        refine v_load (v := (0, 10)) (hi_X11_refused_1 hT) rfl rfl ?_
        refine v_putf (r := 0) hO (hi_X11_refused_2 hT) rfl (fun hf18 => ?_)
        refine v_push (-1) (hi_X11_refused_5 hT) rfl ?_
        refine v_ret (hi_X11_refused_6 hT) (Or.inl rfl) ?_
        show vP D T N 162 51 (zset (zset (zset (zset g6 10 1 (0, 0)) 10 9 (0, e6.1)) 10 10 (0, e6.2)) 0 0 (0, 10)) [some (2, 0), some (0, (n : Int)), some (0, 0), none] [(0, -1)] _
        refine v_ret (hz_X11_land hT _ _ rfl) (Or.inl rfl) ?_
        exact k3 hc1 hc3 g6 m τ e6 xf6 hK6 q6 c6
theorem qc_land_39 {D : zD} {T : zT} (hT : hTab T) (hO : vOK T) {N : Nat} {h : zH} {Q : zR → Prop} {B : Nat → Int} {n : Nat} (hv0 : zHv h) (hB : TXc B n h) (e7 : h 0 7 = (2, 24)) (e8 : h 0 8 = (2, 39))
    (k0 : ((n : Int) < 0) → Q (zset h 0 0 (0, 5), some (0, -1)))
    (k1 : (0 ≤ (n : Int)) → ((h 10 1).2 < (n : Int)) → Q (zset h 0 0 (0, 5), some (0, -1)))
    (k2 : (0 ≤ (n : Int)) → ((n : Int) ≤ (h 10 1).2) → ∀ (g5 : zH) (m : Nat) (τ : PT) (P5 : PT), (xFr 39 h g5) → (Tks B n m τ) → (pLand τ = .inr P5) → (cP 39 P5 g5) → (lB P5) → (g5 10 7 = (0, 0)) → (g5 10 8 = (0, -1)) → (g5 49 0 = (0, -1)) → (g5 49 1 = (0, 0)) → Q (zset (zset (zset (zset (zset (zset g5 10 1 (0, 0)) 10 9 (0, 0)) 10 10 (0, -1)) 0 7 (2, 39)) 0 8 (2, 24)) 0 0 (0, 0), some (0, (P5 0 3))))
    (k3 : (0 ≤ (n : Int)) → ((n : Int) ≤ (h 10 1).2) → ∀ (g6 : zH) (m : Nat) (τ : PT) (e6 : Er), (xFr 39 h g6) → (Tks B n m τ) → (pLand τ = .inl e6) → (cB e6 g6) → Q (zset (zset (zset (zset g6 10 1 (0, 0)) 10 9 (0, e6.1)) 10 10 (0, e6.2)) 0 0 (0, 10), some (0, -1))) :
    vP D T N 162 0 h [some (2, 0), some (0, (n : Int)), none, none] [] Q := by
  refine v_load (v := (0, (n : Int))) (hi_X11_land_0 hT) rfl rfl ?_
  refine v_if (hi_X11_land_1 hT) (fun hc1 => ?_) (fun hc1 => ?_)
  · have hc1 : (n : Int) < 0 := hc1
    refine v_load (v := (2, 0)) (hi_X11_land_15 hT) rfl rfl ?_
    refine v_push (5) (hi_X11_land_16 hT) rfl ?_
    refine v_call (w := 2) [some (2, 0), some (0, 5)] hO (hi_X11_land_17 hT) rfl rfl ?_
    refine v_load (v := (2, 0)) (hi_X11_refused_0 hT) rfl rfl ?_
    refine v_load (v := (0, 5)) (hi_X11_refused_1 hT) rfl rfl ?_
    refine v_putf (r := 0) hO (hi_X11_refused_2 hT) rfl (fun hf2 => ?_)
    refine v_push (-1) (hi_X11_refused_5 hT) rfl ?_
    refine v_ret (hi_X11_refused_6 hT) (Or.inl rfl) ?_
    show vP D T N 162 20 (zset h 0 0 (0, 5)) [some (2, 0), some (0, (n : Int)), none, none] [(0, -1)] _
    refine v_ret (hi_X11_land_20 hT) (Or.inl rfl) ?_
    exact k0 hc1
  · have hc1 : 0 ≤ (n : Int) := Int.not_lt.mp hc1
    refine v_load (v := (0, (n : Int))) (hi_X11_land_4 hT) rfl rfl ?_
    refine v_load (v := (2, 0)) (hi_X11_land_5 hT) rfl rfl ?_
    refine v_getR (c := 10) (r := 0) (hi_X11_land_6 hT) rfl rfl rfl ?_
    refine v_getI (t := 0) (r := 10) (hi_X11_land_9 hT) rfl rfl rfl ?_
    refine v_ic (hi_X11_land_12 hT) (fun hc3 => ?_) (fun hc3 => ?_)
    · have hc3 : (h 10 1).2 < (n : Int) := hc3
      refine v_load (v := (2, 0)) (hi_X11_land_15 hT) rfl rfl ?_
      refine v_push (5) (hi_X11_land_16 hT) rfl ?_
      refine v_call (w := 2) [some (2, 0), some (0, 5)] hO (hi_X11_land_17 hT) rfl rfl ?_
      refine v_load (v := (2, 0)) (hi_X11_refused_0 hT) rfl rfl ?_
      refine v_load (v := (0, 5)) (hi_X11_refused_1 hT) rfl rfl ?_
      refine v_putf (r := 0) hO (hi_X11_refused_2 hT) rfl (fun hf4 => ?_)
      refine v_push (-1) (hi_X11_refused_5 hT) rfl ?_
      refine v_ret (hi_X11_refused_6 hT) (Or.inl rfl) ?_
      show vP D T N 162 20 (zset h 0 0 (0, 5)) [some (2, 0), some (0, (n : Int)), none, none] [(0, -1)] _
      refine v_ret (hi_X11_land_20 hT) (Or.inl rfl) ?_
      exact k1 hc1 hc3
    · have hc3 : (n : Int) ≤ (h 10 1).2 := Int.not_lt.mp hc3
      refine v_load (v := (2, 0)) (hi_X11_land_21 hT) rfl rfl ?_
      refine v_getR (c := 16) (r := 0) (hi_X11_land_22 hT) rfl rfl rfl ?_
      refine v_load (v := (2, 0)) (hi_X11_land_25 hT) rfl rfl ?_
      refine v_getf (v := (2, 39)) (r := 0) (hi_X11_land_26 hT) rfl rfl (fun _ => e8) ?_
      refine v_load (v := (0, (n : Int))) (hi_X11_land_29 hT) rfl rfl ?_
      refine v_call (w := 4) [some (2, 16), some (2, 39), some (0, (n : Int)), none] hO (hi_X11_land_30 hT) rfl rfl (cTx_k (cx_text_39 hT hO hB (by omega)) (fun g5 m τ P5 xf5 hK5 q5 cp5 lb5 da5 db5 oa5 ob5 => ?_) (fun g6 m τ e6 xf6 hK6 q6 c6 => ?_))
      · show vP D T N 162 33 g5 [some (2, 0), some (0, (n : Int)), none, none] [(0, 1)] _
        refine vP_hv (fun hv5 => ?_)
        refine v_store1 [some (2, 0), some (0, (n : Int)), some (0, 1), none] (hi_X11_land_33 hT) ⟨rfl, Nat.ne_of_beq_eq_false rfl⟩ (Nat.le_of_ble_eq_true rfl) rfl ?_
        refine v_load (v := (2, 0)) (hi_X11_land_34 hT) rfl rfl ?_
        refine v_getR (c := 10) (r := 0) (hi_X11_land_35 hT) rfl rfl rfl ?_
        refine v_call (w := 1) [some (2, 10)] hO (hi_X11_land_38 hT) rfl rfl ?_
        refine v_load (v := (2, 10)) (hi_X8_finishText_0 hT) rfl rfl ?_
        refine v_push (0) (hi_X8_finishText_1 hT) rfl ?_
        refine v_putf (r := 10) hO (hi_X8_finishText_2 hT) rfl (fun hf7 => ?_)
        refine v_load (v := (2, 10)) (hi_X8_finishText_5 hT) rfl rfl ?_
        refine v_load (v := (2, 10)) (hi_X8_finishText_6 hT) rfl rfl ?_
        refine v_getf (v := (0, 0)) (r := 10) (hi_X8_finishText_7 hT) rfl rfl (fun _ => Eq.trans (zset_ne (fun c => absurd c.2 (by decide))) (da5)) ?_
        refine v_putf (r := 10) hO (hi_X8_finishText_10 hT) rfl (fun hf8 => ?_)
        refine v_load (v := (2, 10)) (hi_X8_finishText_13 hT) rfl rfl ?_
        refine v_load (v := (2, 10)) (hi_X8_finishText_14 hT) rfl rfl ?_
        refine v_getf (v := (0, -1)) (r := 10) (hi_X8_finishText_15 hT) rfl rfl (fun _ => Eq.trans (Eq.trans (zset_ne (fun c => absurd c.2 (by decide))) (zset_ne (fun c => absurd c.2 (by decide)))) (db5)) ?_
        refine v_putf (r := 10) hO (hi_X8_finishText_18 hT) rfl (fun hf9 => ?_)
        refine v_ret0 (hi_X8_finishText_21 hT) ?_
        show vP D T N 162 41 (zset (zset (zset g5 10 1 (0, 0)) 10 9 (0, 0)) 10 10 (0, -1)) [some (2, 0), some (0, (n : Int)), some (0, 1), none] [] _
        refine v_load (v := (0, 1)) (hi_X11_land_41 hT) rfl rfl ?_
        refine v_if (hi_X11_land_42 hT) (fun hc10 => absurd (show (1 : Int) = 0 from hc10) (by decide)) (fun _ => ?_)
        refine v_load (v := (2, 0)) (hz_X11_land hT _ _ rfl) rfl rfl ?_
        refine v_getf (v := (2, 24)) (r := 0) (hz_X11_land hT _ _ rfl) rfl rfl (fun _ => Eq.trans (Eq.trans (zset_ne (fun c => absurd c.1 (by decide))) (Eq.trans (zset_ne (fun c => absurd c.1 (by decide))) (zset_ne (fun c => absurd c.1 (by decide))))) ((Eq.trans (xf5 0 7 (fun c => by omega)) e7))) ?_
        refine v_store1 [some (2, 0), some (0, (n : Int)), some (0, 1), some (2, 24)] (hz_X11_land hT _ _ rfl) ⟨rfl, Nat.ne_of_beq_eq_false rfl⟩ (Nat.le_of_ble_eq_true rfl) rfl ?_
        refine v_load (v := (2, 0)) (hz_X11_land hT _ _ rfl) rfl rfl ?_
        refine v_load (v := (2, 0)) (hz_X11_land hT _ _ rfl) rfl rfl ?_
        refine v_getf (v := (2, 39)) (r := 0) (hz_X11_land hT _ _ rfl) rfl rfl (fun _ => Eq.trans (Eq.trans (zset_ne (fun c => absurd c.1 (by decide))) (Eq.trans (zset_ne (fun c => absurd c.1 (by decide))) (zset_ne (fun c => absurd c.1 (by decide))))) ((Eq.trans (xf5 0 8 (fun c => by omega)) e8))) ?_
        refine v_putf (r := 0) hO (hz_X11_land hT _ _ rfl) rfl (fun hf11 => ?_)
        refine v_load (v := (2, 0)) (hz_X11_land hT _ _ rfl) rfl rfl ?_
        refine v_load (v := (2, 24)) (hz_X11_land hT _ _ rfl) rfl rfl ?_
        refine v_putf (r := 0) hO (hz_X11_land hT _ _ rfl) rfl (fun hf12 => ?_)
        refine v_load (v := (2, 0)) (hz_X11_land hT _ _ rfl) rfl rfl ?_
        refine v_load (v := (2, 0)) (hz_X11_land hT _ _ rfl) rfl rfl ?_
        refine v_getf (v := (2, 39)) (r := 0) (hz_X11_land hT _ _ rfl) rfl rfl (fun _ => Eq.trans (zset_ne (fun c => absurd c.2 (by decide))) zset_same) ?_
        refine v_getf (v := (0, (P5 0 3))) (r := 39) (hz_X11_land hT _ _ rfl) rfl rfl (fun _ => Eq.trans (Eq.trans (zset_ne (fun c => absurd c.1 (by decide))) (Eq.trans (zset_ne (fun c => absurd c.1 (by decide))) (Eq.trans (zset_ne (fun c => absurd c.1 (by decide))) (Eq.trans (zset_ne (fun c => absurd c.1 (by decide))) (zset_ne (fun c => absurd c.1 (by decide))))))) (cp5.m)) ?_
        refine v_call (w := 2) [some (2, 0), some (0, (P5 0 3))] hO (hz_X11_land hT _ _ rfl) rfl rfl ?_
        refine v_load (v := (2, 0)) (hi_X11_answer_0 hT) rfl rfl ?_
        refine v_push (0) (hi_X11_answer_1 hT) rfl ?_
        refine v_putf (r := 0) hO (hi_X11_answer_2 hT) rfl (fun hf13 => ?_)
        refine v_load (v := (0, (P5 0 3))) (hi_X11_answer_5 hT) rfl rfl ?_
        refine v_ret (hi_X11_answer_6 hT) (Or.inl rfl) ?_
        show vP D T N 162 81 (zset (zset (zset (zset (zset (zset g5 10 1 (0, 0)) 10 9 (0, 0)) 10 10 (0, -1)) 0 7 (2, 39)) 0 8 (2, 24)) 0 0 (0, 0)) [some (2, 0), some (0, (n : Int)), some (0, 1), some (2, 24)] [(0, (P5 0 3))] _
        refine v_ret (hz_X11_land hT _ _ rfl) (Or.inl rfl) ?_
        exact k2 hc1 hc3 g5 m τ P5 xf5 hK5 q5 cp5 lb5 da5 db5 oa5 ob5
      · show vP D T N 162 33 g6 [some (2, 0), some (0, (n : Int)), none, none] [(0, 0)] _
        refine vP_hv (fun hv6 => ?_)
        refine v_store1 [some (2, 0), some (0, (n : Int)), some (0, 0), none] (hi_X11_land_33 hT) ⟨rfl, Nat.ne_of_beq_eq_false rfl⟩ (Nat.le_of_ble_eq_true rfl) rfl ?_
        refine v_load (v := (2, 0)) (hi_X11_land_34 hT) rfl rfl ?_
        refine v_getR (c := 10) (r := 0) (hi_X11_land_35 hT) rfl rfl rfl ?_
        refine v_call (w := 1) [some (2, 10)] hO (hi_X11_land_38 hT) rfl rfl ?_
        refine v_load (v := (2, 10)) (hi_X8_finishText_0 hT) rfl rfl ?_
        refine v_push (0) (hi_X8_finishText_1 hT) rfl ?_
        refine v_putf (r := 10) hO (hi_X8_finishText_2 hT) rfl (fun hf14 => ?_)
        refine v_load (v := (2, 10)) (hi_X8_finishText_5 hT) rfl rfl ?_
        refine v_load (v := (2, 10)) (hi_X8_finishText_6 hT) rfl rfl ?_
        refine v_getf (v := (0, e6.1)) (r := 10) (hi_X8_finishText_7 hT) rfl rfl (fun _ => Eq.trans (zset_ne (fun c => absurd c.2 (by decide))) (c6.1)) ?_
        refine v_putf (r := 10) hO (hi_X8_finishText_10 hT) rfl (fun hf15 => ?_)
        refine v_load (v := (2, 10)) (hi_X8_finishText_13 hT) rfl rfl ?_
        refine v_load (v := (2, 10)) (hi_X8_finishText_14 hT) rfl rfl ?_
        refine v_getf (v := (0, e6.2)) (r := 10) (hi_X8_finishText_15 hT) rfl rfl (fun _ => Eq.trans (Eq.trans (zset_ne (fun c => absurd c.2 (by decide))) (zset_ne (fun c => absurd c.2 (by decide)))) (c6.2)) ?_
        refine v_putf (r := 10) hO (hi_X8_finishText_18 hT) rfl (fun hf16 => ?_)
        refine v_ret0 (hi_X8_finishText_21 hT) ?_
        show vP D T N 162 41 (zset (zset (zset g6 10 1 (0, 0)) 10 9 (0, e6.1)) 10 10 (0, e6.2)) [some (2, 0), some (0, (n : Int)), some (0, 0), none] [] _
        refine v_load (v := (0, 0)) (hi_X11_land_41 hT) rfl rfl ?_
        refine v_if (hi_X11_land_42 hT) (fun _ => ?_) (fun hc17 => absurd (show (0 : Int) = 0 from (by decide)) hc17)
        refine v_load (v := (2, 0)) (hz_X11_land hT _ _ rfl) rfl rfl ?_
        refine v_push (10) (hz_X11_land hT _ _ rfl) rfl ?_
        refine v_call (w := 2) [some (2, 0), some (0, 10)] hO (hz_X11_land hT _ _ rfl) rfl rfl ?_
        refine v_load (v := (2, 0)) (hi_X11_refused_0 hT) rfl rfl ?_
        refine v_load (v := (0, 10)) (hi_X11_refused_1 hT) rfl rfl ?_
        refine v_putf (r := 0) hO (hi_X11_refused_2 hT) rfl (fun hf18 => ?_)
        refine v_push (-1) (hi_X11_refused_5 hT) rfl ?_
        refine v_ret (hi_X11_refused_6 hT) (Or.inl rfl) ?_
        show vP D T N 162 51 (zset (zset (zset (zset g6 10 1 (0, 0)) 10 9 (0, e6.1)) 10 10 (0, e6.2)) 0 0 (0, 10)) [some (2, 0), some (0, (n : Int)), some (0, 0), none] [(0, -1)] _
        refine v_ret (hz_X11_land hT _ _ rfl) (Or.inl rfl) ?_
        exact k3 hc1 hc3 g6 m τ e6 xf6 hK6 q6 c6
theorem qc_landH {D : zD} {T : zT} (hT : hTab T) (hO : vOK T) {N : Nat} {h : zH} {Q : zR → Prop} (n : Nat) (hv0 : zHv h) (hn : (h 10 1).2 < (n : Int))
    (k0 : Q (zset h 0 0 (0, 5), some (0, -1))) :
    vP D T N 162 0 h [some (2, 0), some (0, (n : Int)), none, none] [] Q := by
  refine v_load (v := (0, (n : Int))) (hi_X11_land_0 hT) rfl rfl ?_
  refine v_if (hi_X11_land_1 hT) (fun hc1 => absurd (show (n : Int) < 0 from hc1) (by omega)) (fun _ => ?_)
  refine v_load (v := (0, (n : Int))) (hi_X11_land_4 hT) rfl rfl ?_
  refine v_load (v := (2, 0)) (hi_X11_land_5 hT) rfl rfl ?_
  refine v_getR (c := 10) (r := 0) (hi_X11_land_6 hT) rfl rfl rfl ?_
  refine v_getI (t := 0) (r := 10) (hi_X11_land_9 hT) rfl rfl rfl ?_
  refine v_ic (hi_X11_land_12 hT) (fun _ => ?_) (fun hc2 => absurd (show (h 10 1).2 < (n : Int) from hn) hc2)
  refine v_load (v := (2, 0)) (hi_X11_land_15 hT) rfl rfl ?_
  refine v_push (5) (hi_X11_land_16 hT) rfl ?_
  refine v_call (w := 2) [some (2, 0), some (0, 5)] hO (hi_X11_land_17 hT) rfl rfl ?_
  refine v_load (v := (2, 0)) (hi_X11_refused_0 hT) rfl rfl ?_
  refine v_load (v := (0, 5)) (hi_X11_refused_1 hT) rfl rfl ?_
  refine v_putf (r := 0) hO (hi_X11_refused_2 hT) rfl (fun hf3 => ?_)
  refine v_push (-1) (hi_X11_refused_5 hT) rfl ?_
  refine v_ret (hi_X11_refused_6 hT) (Or.inl rfl) ?_
  show vP D T N 162 20 (zset h 0 0 (0, 5)) [some (2, 0), some (0, (n : Int)), none, none] [(0, -1)] _
  refine v_ret (hi_X11_land_20 hT) (Or.inl rfl) ?_
  exact k0 
theorem qr_landH {D : zD} {T : zT} (hT : hTab T) (hO : vOK T) {N : Nat} {h : zH} {Q : zR → Prop} (n : Nat) (hv0 : zHv h) (hn : (h 121 8).2 < (n : Int))
    (k0 : Q (zset (zset (zset h 121 1 (0, 0)) 121 0 (0, 0)) 121 0 (0, 5), some (0, -1))) :
    vP D T N 268 0 h [some (2, 121), some (0, (n : Int)), none] [] Q := by
  refine v_load (v := (2, 121)) (hi_X12_land_0 hT) rfl rfl ?_
  refine v_push (0) (hi_X12_land_1 hT) rfl ?_
  refine v_putf (r := 121) hO (hi_X12_land_2 hT) rfl (fun hf1 => ?_)
  refine v_load (v := (2, 121)) (hi_X12_land_5 hT) rfl rfl ?_
  refine v_push (0) (hi_X12_land_6 hT) rfl ?_
  refine v_putf (r := 121) hO (hi_X12_land_7 hT) rfl (fun hf2 => ?_)
  refine v_load (v := (2, 121)) (hi_X12_land_10 hT) rfl rfl ?_
  refine v_load (v := (0, (n : Int))) (hi_X12_land_11 hT) rfl rfl ?_
  refine v_push (900) (hi_X12_land_12 hT) rfl ?_
  refine v_call (w := 3) [some (2, 121), some (0, (n : Int)), some (0, 900)] hO (hi_X12_land_15 hT) rfl rfl ?_
  refine v_load (v := (0, (n : Int))) (hi_X12_opens_0 hT) rfl rfl ?_
  refine v_if (hi_X12_opens_1 hT) (fun hc3 => absurd (show (n : Int) < 0 from hc3) (by omega)) (fun _ => ?_)
  refine v_load (v := (0, (n : Int))) (hi_X12_opens_4 hT) rfl rfl ?_
  refine v_load (v := (2, 121)) (hi_X12_opens_5 hT) rfl rfl ?_
  refine v_getf (v := (0, (h 121 8).2)) (r := 121) (hi_X12_opens_6 hT) rfl rfl (fun hv_ => Eq.trans (Eq.trans (zset_ne (fun c => absurd c.2 (by decide))) (zset_ne (fun c => absurd c.2 (by decide)))) (hv0.at rfl)) ?_
  refine v_ic (hi_X12_opens_9 hT) (fun _ => ?_) (fun hc4 => absurd (show (h 121 8).2 < (n : Int) from hn) hc4)
  refine v_load (v := (2, 121)) (hi_X12_opens_17 hT) rfl rfl ?_
  refine v_push (5) (hi_X12_opens_18 hT) rfl ?_
  refine v_call (w := 2) [some (2, 121), some (0, 5)] hO (hi_X12_opens_19 hT) rfl rfl ?_
  refine v_load (v := (2, 121)) (hi_X12_no_0 hT) rfl rfl ?_
  refine v_load (v := (0, 5)) (hi_X12_no_1 hT) rfl rfl ?_
  refine v_putf (r := 121) hO (hi_X12_no_2 hT) rfl (fun hf5 => ?_)
  refine v_push (0) (hi_X12_no_5 hT) rfl ?_
  refine v_ret (hi_X12_no_6 hT) (Or.inl rfl) ?_
  show vP D T N 288 22 (zset (zset (zset h 121 1 (0, 0)) 121 0 (0, 0)) 121 0 (0, 5)) [some (2, 121), some (0, (n : Int)), some (0, 900)] [(0, 0)] _
  refine v_ret (hi_X12_opens_22 hT) (Or.inl rfl) ?_
  show vP D T N 268 18 (zset (zset (zset h 121 1 (0, 0)) 121 0 (0, 0)) 121 0 (0, 5)) [some (2, 121), some (0, (n : Int)), none] [(0, 0)] _
  refine v_if (hi_X12_land_18 hT) (fun _ => ?_) (fun hc6 => absurd (show (0 : Int) = 0 from (by decide)) hc6)
  refine v_push (-1) (hi_X12_land_21 hT) rfl ?_
  refine v_ret (hi_X12_land_22 hT) (Or.inl rfl) ?_
  exact k0 
theorem qc_landn {D : zD} {T : zT} (hT : hTab T) (hO : vOK T) {N : Nat} {h : zH} {Q : zR → Prop} (n : Int) (hv0 : zHv h) (hn : n < 0)
    (k0 : Q (zset h 0 0 (0, 5), some (0, -1))) :
    vP D T N 162 0 h [some (2, 0), some (0, n), none, none] [] Q := by
  refine v_load (v := (0, n)) (hi_X11_land_0 hT) rfl rfl ?_
  refine v_if (hi_X11_land_1 hT) (fun _ => ?_) (fun hc1 => absurd (show n < 0 from hn) hc1)
  refine v_load (v := (2, 0)) (hi_X11_land_15 hT) rfl rfl ?_
  refine v_push (5) (hi_X11_land_16 hT) rfl ?_
  refine v_call (w := 2) [some (2, 0), some (0, 5)] hO (hi_X11_land_17 hT) rfl rfl ?_
  refine v_load (v := (2, 0)) (hi_X11_refused_0 hT) rfl rfl ?_
  refine v_load (v := (0, 5)) (hi_X11_refused_1 hT) rfl rfl ?_
  refine v_putf (r := 0) hO (hi_X11_refused_2 hT) rfl (fun hf2 => ?_)
  refine v_push (-1) (hi_X11_refused_5 hT) rfl ?_
  refine v_ret (hi_X11_refused_6 hT) (Or.inl rfl) ?_
  show vP D T N 162 20 (zset h 0 0 (0, 5)) [some (2, 0), some (0, n), none, none] [(0, -1)] _
  refine v_ret (hi_X11_land_20 hT) (Or.inl rfl) ?_
  exact k0 
theorem qr_landn {D : zD} {T : zT} (hT : hTab T) (hO : vOK T) {N : Nat} {h : zH} {Q : zR → Prop} (n : Int) (hv0 : zHv h) (hn : n < 0)
    (k0 : Q (zset (zset (zset h 121 1 (0, 0)) 121 0 (0, 0)) 121 0 (0, 5), some (0, -1))) :
    vP D T N 268 0 h [some (2, 121), some (0, n), none] [] Q := by
  refine v_load (v := (2, 121)) (hi_X12_land_0 hT) rfl rfl ?_
  refine v_push (0) (hi_X12_land_1 hT) rfl ?_
  refine v_putf (r := 121) hO (hi_X12_land_2 hT) rfl (fun hf1 => ?_)
  refine v_load (v := (2, 121)) (hi_X12_land_5 hT) rfl rfl ?_
  refine v_push (0) (hi_X12_land_6 hT) rfl ?_
  refine v_putf (r := 121) hO (hi_X12_land_7 hT) rfl (fun hf2 => ?_)
  refine v_load (v := (2, 121)) (hi_X12_land_10 hT) rfl rfl ?_
  refine v_load (v := (0, n)) (hi_X12_land_11 hT) rfl rfl ?_
  refine v_push (900) (hi_X12_land_12 hT) rfl ?_
  refine v_call (w := 3) [some (2, 121), some (0, n), some (0, 900)] hO (hi_X12_land_15 hT) rfl rfl ?_
  refine v_load (v := (0, n)) (hi_X12_opens_0 hT) rfl rfl ?_
  refine v_if (hi_X12_opens_1 hT) (fun _ => ?_) (fun hc3 => absurd (show n < 0 from hn) hc3)
  refine v_load (v := (2, 121)) (hi_X12_opens_17 hT) rfl rfl ?_
  refine v_push (5) (hi_X12_opens_18 hT) rfl ?_
  refine v_call (w := 2) [some (2, 121), some (0, 5)] hO (hi_X12_opens_19 hT) rfl rfl ?_
  refine v_load (v := (2, 121)) (hi_X12_no_0 hT) rfl rfl ?_
  refine v_load (v := (0, 5)) (hi_X12_no_1 hT) rfl rfl ?_
  refine v_putf (r := 121) hO (hi_X12_no_2 hT) rfl (fun hf4 => ?_)
  refine v_push (0) (hi_X12_no_5 hT) rfl ?_
  refine v_ret (hi_X12_no_6 hT) (Or.inl rfl) ?_
  show vP D T N 288 22 (zset (zset (zset h 121 1 (0, 0)) 121 0 (0, 0)) 121 0 (0, 5)) [some (2, 121), some (0, n), some (0, 900)] [(0, 0)] _
  refine v_ret (hi_X12_opens_22 hT) (Or.inl rfl) ?_
  show vP D T N 268 18 (zset (zset (zset h 121 1 (0, 0)) 121 0 (0, 0)) 121 0 (0, 5)) [some (2, 121), some (0, n), none] [(0, 0)] _
  refine v_if (hi_X12_land_18 hT) (fun _ => ?_) (fun hc5 => absurd (show (0 : Int) = 0 from (by decide)) hc5)
  refine v_push (-1) (hi_X12_land_21 hT) rfl ?_
  refine v_ret (hi_X12_land_22 hT) (Or.inl rfl) ?_
  exact k0 
theorem cx_land_24 {D : zD} {T : zT} (hT : hTab T) (hO : vOK T) {N : Nat} {h : zH} {B : Nat → Int} {n : Nat} (hB : TXc B n h) (e7 : h 0 7 = (2, 39)) (e8 : h 0 8 = (2, 24)) : vP D T N 162 0 h [some (2, 0), some (0, (n : Int)), none, none] [] (cLd 24 39 B n h) := by
  refine vP_hv (fun hv => qc_land_24 hT hO hv hB e7 e8 ?_ ?_ ?_ ?_)
  · intros; omega
  · intro _ c
    exact Or.inl ⟨c, rfl⟩
  · intro _ c g m τ P xf hK q cp lb d7 d8 o0 o1
    refine Or.inr ⟨c, fun a b hn => ?_, ?_, m, τ, hK, Or.inr ⟨P, q, rfl, ?_, ?_, ?_, ?_, ?_, lb, ?_, ?_⟩⟩
    · show zset (zset (zset (zset (zset (zset g 10 1 (0, 0)) 10 9 (0, 0)) 10 10 (0, -1)) 0 7 (2, 24)) 0 8 (2, 39)) 0 0 (0, 0) a b = h a b
      rw [zset_ne (fun c => hn (by omega)), zset_ne (fun c => hn (by omega)), zset_ne (fun c => hn (by omega)), zset_ne (fun c => hn (by omega)), zset_ne (fun c => hn (by omega)), zset_ne (fun c => hn (by omega))]
      exact xf a b (fun c => hn (by omega))
    · show zset (zset (zset (zset (zset (zset g 10 1 (0, 0)) 10 9 (0, 0)) 10 10 (0, -1)) 0 7 (2, 24)) 0 8 (2, 39)) 0 0 (0, 0) 0 10 = h 0 10
      rw [zset_ne (by decide), zset_ne (by decide), zset_ne (by decide), zset_ne (by decide), zset_ne (by decide), zset_ne (by decide)]
      exact xf 0 10 (fun c => by omega)
    · dsimp only
      exact (zset_ne (by decide)).trans ((zset_ne (by decide)).trans ((zset_ne (by decide)).trans ((zset_ne (by decide)).trans zset_same)))
    · dsimp only
      exact (zset_ne (by decide)).trans ((zset_ne (by decide)).trans ((zset_ne (by decide)).trans zset_same))
    · dsimp only
      exact (zset_ne (by decide)).trans ((zset_ne (by decide)).trans zset_same)
    · dsimp only
      exact (zset_ne (by decide)).trans zset_same
    · exact cp.eq (fun a b h1 h2 => (zset_ne (fun c => by omega)).trans ((zset_ne (fun c => by omega)).trans ((zset_ne (fun c => by omega)).trans ((zset_ne (fun c => by omega)).trans ((zset_ne (fun c => by omega)).trans (zset_ne (fun c => by omega)))))))
    · dsimp only
      exact (zset_ne (by decide)).trans ((zset_ne (by decide)).trans ((zset_ne (by decide)).trans ((zset_ne (by decide)).trans ((zset_ne (by decide)).trans ((zset_ne (by decide)).trans o0)))))
    · dsimp only
      exact (zset_ne (by decide)).trans ((zset_ne (by decide)).trans ((zset_ne (by decide)).trans ((zset_ne (by decide)).trans ((zset_ne (by decide)).trans ((zset_ne (by decide)).trans o1)))))
  · intro _ c g m τ e xf hK q cb
    refine Or.inr ⟨c, fun a b hn => ?_, ?_, m, τ, hK, Or.inl ⟨e, q, rfl, ?_, ?_, ?_, ?_⟩⟩
    · show zset (zset (zset (zset g 10 1 (0, 0)) 10 9 (0, e.1)) 10 10 (0, e.2)) 0 0 (0, 10) a b = h a b
      rw [zset_ne (fun c => hn (by omega)), zset_ne (fun c => hn (by omega)), zset_ne (fun c => hn (by omega)), zset_ne (fun c => hn (by omega))]
      exact xf a b (fun c => hn (by omega))
    · show zset (zset (zset (zset g 10 1 (0, 0)) 10 9 (0, e.1)) 10 10 (0, e.2)) 0 0 (0, 10) 0 10 = h 0 10
      rw [zset_ne (by decide), zset_ne (by decide), zset_ne (by decide), zset_ne (by decide)]
      exact xf 0 10 (fun c => by omega)
    · dsimp only
      exact (zset_ne (by decide)).trans ((zset_ne (by decide)).trans zset_same)
    · dsimp only
      exact (zset_ne (by decide)).trans zset_same
    · dsimp only
      exact (zset_ne (by decide)).trans ((zset_ne (by decide)).trans ((zset_ne (by decide)).trans ((zset_ne (by decide)).trans ((xf 0 7 (fun c => by omega)).trans e7))))
    · dsimp only
      exact (zset_ne (by decide)).trans ((zset_ne (by decide)).trans ((zset_ne (by decide)).trans ((zset_ne (by decide)).trans ((xf 0 8 (fun c => by omega)).trans e8))))
theorem cx_land_39 {D : zD} {T : zT} (hT : hTab T) (hO : vOK T) {N : Nat} {h : zH} {B : Nat → Int} {n : Nat} (hB : TXc B n h) (e7 : h 0 7 = (2, 24)) (e8 : h 0 8 = (2, 39)) : vP D T N 162 0 h [some (2, 0), some (0, (n : Int)), none, none] [] (cLd 39 24 B n h) := by
  refine vP_hv (fun hv => qc_land_39 hT hO hv hB e7 e8 ?_ ?_ ?_ ?_)
  · intros; omega
  · intro _ c
    exact Or.inl ⟨c, rfl⟩
  · intro _ c g m τ P xf hK q cp lb d7 d8 o0 o1
    refine Or.inr ⟨c, fun a b hn => ?_, ?_, m, τ, hK, Or.inr ⟨P, q, rfl, ?_, ?_, ?_, ?_, ?_, lb, ?_, ?_⟩⟩
    · show zset (zset (zset (zset (zset (zset g 10 1 (0, 0)) 10 9 (0, 0)) 10 10 (0, -1)) 0 7 (2, 39)) 0 8 (2, 24)) 0 0 (0, 0) a b = h a b
      rw [zset_ne (fun c => hn (by omega)), zset_ne (fun c => hn (by omega)), zset_ne (fun c => hn (by omega)), zset_ne (fun c => hn (by omega)), zset_ne (fun c => hn (by omega)), zset_ne (fun c => hn (by omega))]
      exact xf a b (fun c => hn (by omega))
    · show zset (zset (zset (zset (zset (zset g 10 1 (0, 0)) 10 9 (0, 0)) 10 10 (0, -1)) 0 7 (2, 39)) 0 8 (2, 24)) 0 0 (0, 0) 0 10 = h 0 10
      rw [zset_ne (by decide), zset_ne (by decide), zset_ne (by decide), zset_ne (by decide), zset_ne (by decide), zset_ne (by decide)]
      exact xf 0 10 (fun c => by omega)
    · dsimp only
      exact (zset_ne (by decide)).trans ((zset_ne (by decide)).trans ((zset_ne (by decide)).trans ((zset_ne (by decide)).trans zset_same)))
    · dsimp only
      exact (zset_ne (by decide)).trans ((zset_ne (by decide)).trans ((zset_ne (by decide)).trans zset_same))
    · dsimp only
      exact (zset_ne (by decide)).trans ((zset_ne (by decide)).trans zset_same)
    · dsimp only
      exact (zset_ne (by decide)).trans zset_same
    · exact cp.eq (fun a b h1 h2 => (zset_ne (fun c => by omega)).trans ((zset_ne (fun c => by omega)).trans ((zset_ne (fun c => by omega)).trans ((zset_ne (fun c => by omega)).trans ((zset_ne (fun c => by omega)).trans (zset_ne (fun c => by omega)))))))
    · dsimp only
      exact (zset_ne (by decide)).trans ((zset_ne (by decide)).trans ((zset_ne (by decide)).trans ((zset_ne (by decide)).trans ((zset_ne (by decide)).trans ((zset_ne (by decide)).trans o0)))))
    · dsimp only
      exact (zset_ne (by decide)).trans ((zset_ne (by decide)).trans ((zset_ne (by decide)).trans ((zset_ne (by decide)).trans ((zset_ne (by decide)).trans ((zset_ne (by decide)).trans o1)))))
  · intro _ c g m τ e xf hK q cb
    refine Or.inr ⟨c, fun a b hn => ?_, ?_, m, τ, hK, Or.inl ⟨e, q, rfl, ?_, ?_, ?_, ?_⟩⟩
    · show zset (zset (zset (zset g 10 1 (0, 0)) 10 9 (0, e.1)) 10 10 (0, e.2)) 0 0 (0, 10) a b = h a b
      rw [zset_ne (fun c => hn (by omega)), zset_ne (fun c => hn (by omega)), zset_ne (fun c => hn (by omega)), zset_ne (fun c => hn (by omega))]
      exact xf a b (fun c => hn (by omega))
    · show zset (zset (zset (zset g 10 1 (0, 0)) 10 9 (0, e.1)) 10 10 (0, e.2)) 0 0 (0, 10) 0 10 = h 0 10
      rw [zset_ne (by decide), zset_ne (by decide), zset_ne (by decide), zset_ne (by decide)]
      exact xf 0 10 (fun c => by omega)
    · dsimp only
      exact (zset_ne (by decide)).trans ((zset_ne (by decide)).trans zset_same)
    · dsimp only
      exact (zset_ne (by decide)).trans zset_same
    · dsimp only
      exact (zset_ne (by decide)).trans ((zset_ne (by decide)).trans ((zset_ne (by decide)).trans ((zset_ne (by decide)).trans ((xf 0 7 (fun c => by omega)).trans e7))))
    · dsimp only
      exact (zset_ne (by decide)).trans ((zset_ne (by decide)).trans ((zset_ne (by decide)).trans ((zset_ne (by decide)).trans ((xf 0 8 (fun c => by omega)).trans e8))))
theorem lZ.by {D : zD} {h : zH} (hZ : lZ D h) (q : Nat) (hq : q ≤ 899) : h 11 q = (0, (h 11 q).2) ∧ -128 ≤ (h 11 q).2 ∧ (h 11 q).2 ≤ 127 := by
  have b := hZ.bd (r := 11) (lo := 0) (hi := 899) (k := 0) (a := -128) (b := 127) ty_11 rfl (by decide +kernel) q (Nat.zero_le _) hq
  exact ⟨Prod.ext b.1 rfl, b.2⟩
theorem lZ.bt {D : zD} {h : zH} (hZ : lZ D h) (q : Nat) (hq : q ≤ 899) : h 125 q = (0, (h 125 q).2) := Prod.ext (hZ.bd (r := 125) (lo := 0) (hi := 899) (k := 0) (a := -128) (b := 127) ty_125 rfl (by decide +kernel) q (Nat.zero_le _) hq).1 rfl
def lB2 (h : zH) : Nat → Int := fun q => (h 11 q).2
theorem lZ.tx {D : zD} {h : zH} (hZ : lZ D h) {n : Nat} (hn : n ≤ 900) : TXc (lB2 h) n h := ⟨⟨hn, fun q hq => (hZ.by q (by omega)).2⟩, fun q hq => (hZ.by q (by omega)).1⟩
/-- what land(n) comes to on both sides (h: ahead of it, h1: between, h2: behind) -/
theorem land_both {D : zD} {h h1 h2 : zH} {n v1 v2 : Int} {r c : Nat} (hrc : lSw r c) (e7 : h 0 7 = (2, (c : Int))) (e8 : h 0 8 = (2, (r : Int))) (hZ : lZ D h) (hZ1 : lZ D h1) (hR : lT h) (z1 : zRun D TLw 614 162 0 (h, zargs 0 [(2, 0), (0, n)], []) (h1, some (0, v1))) (f1 : aFr lM_162 h h1) (z2 : zRun D TLw 614 268 0 (h1, zargs 0 [(2, 121), (0, n)], []) (h2, some (0, v2))) (f2 : aFr lM_268 h1 h2) : (v1 = -1 ∧ v2 = -1 ∧ h1 = zset h 0 0 (0, 5) ∧ (∀ a b, ¬ (a = 121 ∧ b ≤ 1) → h2 a b = h1 a b)) ∨ (cLf r h h1 ∧ h1 0 10 = h 0 10 ∧ ((∃ e : Er, v1 = -1 ∧ v2 = -1 ∧ h1 10 9 = (0, e.1) ∧ h1 10 10 = (0, e.2) ∧ h1 0 7 = (2, (c : Int)) ∧ h1 0 8 = (2, (r : Int)) ∧ h2 121 10 = (0, e.1) ∧ h2 121 11 = (0, e.2) ∧ rG 0 h1 h2) ∨ (∃ P, v1 = P 0 3 ∧ v2 = P 0 3 ∧ h1 10 9 = (0, 0) ∧ h1 10 10 = (0, -1) ∧ h1 0 7 = (2, (r : Int)) ∧ h1 0 8 = (2, (c : Int)) ∧ cP r P h1 ∧ lB P ∧ h1 (r + 10) 0 = (0, -1) ∧ h1 (r + 10) 1 = (0, 0) ∧ h2 121 10 = (0, 0) ∧ h2 121 11 = (0, -1) ∧ rP 0 P h2 ∧ rD 0 P h2 ∧ rG 1 h1 h2))) := by
  have b10 := hZ.b10
  have k1 : h1 121 8 = h 121 8 := f1.keep (S := tpR) (by decide +kernel) tpR_in
  have kr : tK (tR h1) (tR h) := tK_r f1 (by decide +kernel)
  have hR1 : (h 10 1).2 = (h 121 8).2 := hR.1
  by_cases hn : n < 0
  · have a1 := hZ.run 4 z1 (Q := fun x => x = (zset h 0 0 (0, 5), some (0, -1))) (fun N => vP_hv (fun hv => qc_landn TLw_T vOK_T n hv hn rfl))
    have a2 := hZ1.run 3 z2 (Q := fun x => x = (zset (zset (zset h1 121 1 (0, 0)) 121 0 (0, 0)) 121 0 (0, 5), some (0, -1))) (fun N => vP_hv (fun hv => qr_landn TLw_T vOK_T n hv hn rfl))
    refine Or.inl ⟨?_, ?_, congrArg Prod.fst a1, fun a b hab => ?_⟩
    · cases (congrArg Prod.snd a1 : some ((0, v1) : zV) = some (0, -1)); rfl
    · cases (congrArg Prod.snd a2 : some ((0, v2) : zV) = some (0, -1)); rfl
    · have a2' : h2 = zset (zset (zset h1 121 1 (0, 0)) 121 0 (0, 0)) 121 0 (0, 5) := congrArg Prod.fst a2
      rw [a2', zset_ne (fun c => hab (by omega)), zset_ne (fun c => hab (by omega)), zset_ne (fun c => hab (by omega))]
  · obtain ⟨m', rfl⟩ : ∃ m' : Nat, n = (m' : Int) := ⟨n.toNat, by omega⟩
    by_cases hl : (h 10 1).2 < (m' : Int)
    · have q0 : vP D TLw 1 0 0 h [] [] (fun _ => True) := fun _ _ _ _ _ => trivial
      have a1 : (h1, some ((0, v1) : zV)) = (zset h 0 0 (0, 5), some (0, -1)) := by
        rcases hrc with ⟨rfl, rfl⟩ | ⟨rfl, rfl⟩
        · exact hZ.run 4 z1 (Q := fun x => x = (zset h 0 0 (0, 5), some (0, -1))) (fun N => vP_hv (fun hv => qc_landH TLw_T vOK_T m' hv hl rfl))
        · exact hZ.run 4 z1 (Q := fun x => x = (zset h 0 0 (0, 5), some (0, -1))) (fun N => vP_hv (fun hv => qc_landH TLw_T vOK_T m' hv hl rfl))
      have a2 := hZ1.run 3 z2 (Q := fun x => x = (zset (zset (zset h1 121 1 (0, 0)) 121 0 (0, 0)) 121 0 (0, 5), some (0, -1))) (fun N => vP_hv (fun hv => qr_landH TLw_T vOK_T m' hv (by rw [k1, ← hR1]; exact hl) rfl))
      refine Or.inl ⟨?_, ?_, congrArg Prod.fst a1, fun a b hab => ?_⟩
      · cases (congrArg Prod.snd a1 : some ((0, v1) : zV) = some (0, -1)); rfl
      · cases (congrArg Prod.snd a2 : some ((0, v2) : zV) = some (0, -1)); rfl
      · have a2' : h2 = zset (zset (zset h1 121 1 (0, 0)) 121 0 (0, 0)) 121 0 (0, 5) := congrArg Prod.fst a2
        rw [a2', zset_ne (fun c => hab (by omega)), zset_ne (fun c => hab (by omega)), zset_ne (fun c => hab (by omega))]
    · have hn9 : m' ≤ 900 := by omega
      have a1 : cLd r c (lB2 h) m' h (h1, some (0, v1)) := by
        rcases hrc with ⟨rfl, rfl⟩ | ⟨rfl, rfl⟩
        · exact hZ.run 4 z1 (Q := cLd 24 39 (lB2 h) m' h) (fun N => cx_land_24 TLw_T vOK_T (hZ.tx hn9) e7 e8)
        · exact hZ.run 4 z1 (Q := cLd 39 24 (lB2 h) m' h) (fun N => cx_land_39 TLw_T vOK_T (hZ.tx hn9) e7 e8)
      rcases a1 with ⟨d, _⟩ | ⟨_, lf, e10, m, τ, hK, hh⟩
      · exact absurd d hl
      · have a2 := hZ1.run 3 z2 (Q := rLr τ h1) (fun N => rx_land TLw_T vOK_T hK (hZ.tx hn9).1 (fun q hq => by
          rw [hZ1.bt q (by omega)]
          refine congrArg (Prod.mk (0 : Nat)) ?_
          have w := kr.2 q (by omega)
          exact w.trans (hR.2 q (by omega) (by show (q : Int) < (h 10 1).2; omega)).symm) (by rw [k1, ← hR1]; omega))
        refine Or.inr ⟨lf, e10, ?_⟩
        rcases hh with ⟨e, q1, q2, q3, q4, q5, q6⟩ | ⟨P, q1, q2, q3, q4, q5, q6, q7, q8, q9, q10⟩
        · rcases a2 with ⟨e', p1, p2, p3, p4, p5⟩ | ⟨P', p1, _⟩
          · rw [q1] at p1
            cases p1
            refine Or.inl ⟨e, ?_, ?_, q3, q4, q5, q6, p3, p4, p5⟩
            · cases (q2 : some ((0, v1) : zV) = some (0, -1)); rfl
            · cases (p2 : some ((0, v2) : zV) = some (0, -1)); rfl
          · rw [q1] at p1; cases p1
        · rcases a2 with ⟨e', p1, _⟩ | ⟨P', p1, p2, p3, p4, p5, p6, p7, p8⟩
          · rw [q1] at p1; cases p1
          · rw [q1] at p1
            cases p1
            refine Or.inr ⟨P, ?_, ?_, q3, q4, q5, q6, q7, q8, q9, q10, p3, p4, p5, p6, p8⟩
            · cases (q2 : some ((0, v1) : zV) = some (0, P 0 3)); rfl
            · cases (p2 : some ((0, v2) : zV) = some (0, P 0 3)); rfl
theorem lSw.symm {r c : Nat} (h : lSw r c) : lSw c r := by
  rcases h with ⟨a, b⟩ | ⟨a, b⟩
  · exact Or.inr ⟨b, a⟩
  · exact Or.inl ⟨b, a⟩
theorem lT_feed {D : zD} {h h1 h2 : zH} {a b c d e v1 v2 : Int} (hZ : lZ D h) (hZ1 : lZ D h1) (hR : lT h) (z1 : zRun D TLw 614 155 0 (h, zargs 0 [(2, 0), (0, a), (0, b), (0, c), (0, d), (0, e)], []) (h1, some (0, v1))) (f1 : aFr lM_155 h h1) (z2 : zRun D TLw 614 227 0 (h1, zargs 0 [(2, 121), (0, a), (0, b), (0, c), (0, d), (0, e)], []) (h2, some (0, v2))) (f2 : aFr lM_227 h1 h2) : lT h2 ∧ v1 = v2 := by
  have c1 := hZ.run 6 z1 (Q := cFdB a b c d e h) (fun N => cFdB_ok TLw_T vOK_T a b c d e hZ.b10)
  have c2 := hZ1.run 6 z2 (Q := rFdB a b c d e h1) (fun N => rFdB_ok TLw_T vOK_T a b c d e hZ1.b121)
  have k1 : tK (tR h1) (tR h) := tK_r f1 (by decide +kernel)
  have k2 : tK (tC h2) (tC h1) := tK_c f2 (by decide +kernel)
  have hR1 : (h 10 1).2 = (h 121 8).2 := hR.1
  have l1 : (h1 121 8).2 = (h 121 8).2 := k1.1
  have hb := hZ.b10
  have hE : tEq (tC h) (tR h1) := tEq.k hR ⟨rfl, fun _ _ => rfl⟩ k1
  unfold cFdB at c1
  unfold rFdB at c2
  dsimp only at c1 c2
  rcases c1 with ⟨x1, x2, x3⟩ | ⟨x1, x2, x3⟩ <;> rcases c2 with ⟨y1, y2, y3⟩ | ⟨y1, y2, y3⟩
  · refine ⟨?_, by cases x2; cases y2; rfl⟩
    have e1 : tEq (tC h1) (tR h2) := by rw [x3, y3]; exact hE
    exact tEq.k e1 k2 ⟨rfl, fun _ _ => rfl⟩
  · omega
  · omega
  · have x2 : v1 = (h 10 1).2 + 20 := by cases x2; rfl
    have y2 : v2 = (h1 121 8).2 + 20 := by cases y2; rfl
    refine ⟨?_, by omega⟩
    have e1 : tEq (tC h1) (tR h2) := by rw [x3, y3]; exact tEq.fd hb.1 hE
    exact tEq.k e1 k2 ⟨rfl, fun _ _ => rfl⟩
/-- behind land(n), orders(n): the tape as it was, or empty -/
theorem lT_len {h h1 h2 : zH} {m n : Int} {v1 v2 : Option zV} (hR : lT h) (c1 : cLn m n h (h1, v1)) (c2 : rLn m n h1 (h2, v2)) (k1 : tK (tR h1) (tR h)) (k2 : tK (tC h2) (tC h1)) (kb : ∀ q, q ≤ 899 → (h1 11 q).2 = (h 11 q).2) (kb2 : ∀ q, q ≤ 899 → (h2 125 q).2 = (h1 125 q).2) : lT h2 := by
  have hR1 : (h 10 1).2 = (h 121 8).2 := hR.1
  have l1 : (h1 121 8).2 = (h 121 8).2 := k1.1
  have l2 : (h2 10 1).2 = (h1 10 1).2 := k2.1
  have w1 : ∀ q, q ≤ 899 → (h1 125 q).2 = (h 125 q).2 := k1.2
  have w2 : ∀ q, q ≤ 899 → (h2 11 q).2 = (h1 11 q).2 := k2.2
  unfold cLn at c1
  unfold rLn at c2
  dsimp only at c1 c2
  refine ⟨?_, fun q hq9 hq => ?_⟩
  · show (h2 10 1).2 = (h2 121 8).2
    omega
  · have hq : (q : Int) < (h2 10 1).2 := hq
    show (h2 11 q).2 = (h2 125 q).2
    rw [w2 q hq9, kb q hq9, kb2 q hq9, w1 q hq9]
    exact hR.2 q hq9 (by show (q : Int) < (h 10 1).2; omega)
theorem kb_c {M : aM} {h g : zH} (f : aFr M h g) (hf : lFree [(11, 0, 899)] M = true) : ∀ q, q ≤ 899 → (g 11 q).2 = (h 11 q).2 := fun q hq => congrArg Prod.snd (f.keep (S := [(11, 0, 899)]) hf ⟨_, List.mem_cons_self, rfl, Nat.zero_le _, hq⟩)
theorem kb_r {M : aM} {h g : zH} (f : aFr M h g) (hf : lFree [(125, 0, 899)] M = true) : ∀ q, q ≤ 899 → (g 125 q).2 = (h 125 q).2 := fun q hq => congrArg Prod.snd (f.keep (S := [(125, 0, 899)]) hf ⟨_, List.mem_cons_self, rfl, Nat.zero_le _, hq⟩)
theorem lT_land {D : zD} {h h1 h2 : zH} {n v1 v2 : Int} (hZ : lZ D h) (hZ1 : lZ D h1) (hR : lT h) (z1 : zRun D TLw 614 162 0 (h, zargs 0 [(2, 0), (0, n)], []) (h1, some (0, v1))) (f1 : aFr lM_162 h h1) (z2 : zRun D TLw 614 268 0 (h1, zargs 0 [(2, 121), (0, n)], []) (h2, some (0, v2))) (f2 : aFr lM_268 h1 h2) : lT h2 :=
  lT_len hR (hZ.run 4 z1 (Q := cLn 900 n h) (fun N => cLd_ok n hZ.b10.2 hZ.r8)) (hZ1.run 3 z2 (Q := rLn 900 n h1) (fun N => rLd_ok n)) (tK_r f1 (by decide +kernel)) (tK_c f2 (by decide +kernel)) (kb_c f1 (by decide +kernel)) (kb_r f2 (by decide +kernel))
theorem lT_orders {D : zD} {h h1 h2 : zH} {n v1 v2 : Int} (hZ : lZ D h) (hZ1 : lZ D h1) (hR : lT h) (z1 : zRun D TLw 614 170 0 (h, zargs 0 [(2, 0), (0, n)], []) (h1, some (0, v1))) (f1 : aFr lM_170 h h1) (z2 : zRun D TLw 614 289 0 (h1, zargs 0 [(2, 121), (0, n)], []) (h2, some (0, v2))) (f2 : aFr lM_289 h1 h2) : lT h2 :=
  lT_len hR (hZ.run 3 z1 (Q := cLn 300 n h) (fun N => cOr_ok n hZ.r7)) (hZ1.run 3 z2 (Q := rLn 300 n h1) (fun N => rOr_ok n)) (tK_r f1 (by decide +kernel)) (tK_c f2 (by decide +kernel)) (kb_c f1 (by decide +kernel)) (kb_r f2 (by decide +kernel))
end
section
/-! A CELL OUT OF REACH: code that never takes the one field that names it changes nothing in it -/
def oV (u : Nat) (v : zV) : Prop := ¬ (v.1 = 2 ∧ v.2.toNat = u)
def oS (u : Nat) (S : List zV) : Prop := ∀ v ∈ S, oV u v
def oLo (u : Nat) (L : zL) : Prop := ∀ i v, L i = some v → oV u v
def oH (u r0 k0 : Nat) (h : zH) : Prop := ∀ a b, vCode a b = some 4 → ¬ (a = r0 ∧ b = k0) → oV u (h a b)
theorem oV_t {u : Nat} {v : zV} (h : v.1 ≠ 2) : oV u v := fun e => h e.1
theorem oS_c {u : Nat} {v : zV} {S : List zV} : oS u (v :: S) ↔ oV u v ∧ oS u S := List.forall_mem_cons
theorem oS_nil {u : Nat} : oS u [] := fun _ h => absurd h List.not_mem_nil
theorem oLo.put1 {u : Nat} {L : zL} (hL : oLo u L) {i : Nat} {v : zV} (hv : oV u v) : oLo u (zput1 L i v) := by
  intro k w hk
  unfold zput1 at hk
  by_cases e : k = i
  · rw [if_pos e] at hk; cases hk; exact hv
  · rw [if_neg e] at hk
    cases hl : L k with
    | none => rw [hl] at hk; cases hk
    | some x =>
      rw [hl] at hk
      have hk : (if k + 1 = i ∧ zcat x = 2 then none else some x) = some w := hk
      split at hk
      · cases hk
      · cases hk; exact hL k _ hl
theorem oLo.put2 {u : Nat} {L : zL} (hL : oLo u L) {i : Nat} {v : zV} (hv : oV u v) : oLo u (zput2 L i v) := by
  intro k w hk
  unfold zput2 at hk
  by_cases e : k = i
  · rw [if_pos e] at hk; cases hk; exact hv
  · rw [if_neg e] at hk
    by_cases e2 : k = i + 1
    · rw [if_pos e2] at hk; cases hk
    · rw [if_neg e2] at hk
      cases hl : L k with
      | none => rw [hl] at hk; cases hk
      | some x =>
        rw [hl] at hk
        have hk : (if k + 1 = i ∧ zcat x = 2 then none else some x) = some w := hk
        split at hk
        · cases hk
        · cases hk; exact hL k _ hl
theorem oLo_args {u : Nat} : ∀ {vs : List zV} {i : Nat}, oS u vs → oLo u (zargs i vs)
  | [], _, _, k, w, hk => by cases hk
  | v :: vs, i, hS, k, w, hk => by
    have hk : (if k = i then some v else zargs (if zcat v = 2 then i + 2 else i + 1) vs k) = some w := hk
    by_cases e : k = i
    · rw [if_pos e] at hk; cases hk; exact (oS_c.mp hS).1
    · rw [if_neg e] at hk; exact oLo_args (oS_c.mp hS).2 k w hk
theorem oS_take {u : Nat} : ∀ {n : Nat} {S acc : List zV} {p : List zV × List zV}, ztake n S acc = some p → oS u S → oS u acc → oS u p.1 ∧ oS u p.2
  | 0, S, acc, p, h, h1, h2 => by cases h; exact ⟨h2, h1⟩
  | n + 1, v :: S, acc, p, h, h1, h2 => oS_take (n := n) (S := S) (acc := v :: acc) h (oS_c.mp h1).2 (oS_c.mpr ⟨(oS_c.mp h1).1, h2⟩)
  | n + 1, [], acc, p, h, _, _ => by cases h
def oO (u : Nat) (o : zO) : Prop := match o with
  | .inl r => ∀ v, r.2 = some v → oV u v
  | .inr (.inl q) => oLo u q.2.2.1 ∧ oS u q.2.2.2
  | .inr (.inr q) => oS u q.2.1 ∧ oLo u q.2.2.2.2.1 ∧ oS u q.2.2.2.2.2
-- an instruction that doesn't take the field (and takes fields that are there)
def guI (ci k0 : Nat) (i : zX) : Bool := match i with
  | (0, _, a, _, _, _) => !(a == 2)
  | (20, _, a, b, _, _) => !(a == ci && b == k0) && (match vFt[a]? with
    | some l => (l[b]?).isSome
    | none => false)
  | _ => true
def guOK (inS : Nat → Nat → Bool) (ci k0 : Nat) (T : zT) : Prop := ∀ mi pc i, inS mi pc = true → T mi pc = some i → guI ci k0 i = true
theorem zisO_code {a b : Nat} {r : Int} (h : zisO a r = true) (hb : (match vFt[a]? with
    | some l => (l[b]?).isSome
    | none => false) = true) : ∃ c, vCode r.toNat b = some c := by
  unfold zisO at h
  split at h
  · rename_i q hq
    have e : q.1 = a := eq_of_beq h
    cases hl : vFt[a]? with
    | none => rw [hl] at hb; cases hb
    | some l =>
      rw [hl] at hb
      obtain ⟨c, hc⟩ := Option.isSome_iff_exists.mp hb
      refine ⟨c, ?_⟩
      unfold vCode
      rw [hq]
      show (match vFt[q.1]? with
        | some l => l[b]?
        | none => none) = some c
      rw [e, hl]
      exact hc
  · cases h
theorem zarr_code {c : Nat} {r i : Int} (h : zarr c r i = true) : vCode r.toNat i.toNat = some c ∧ ∃ q, zShape[r.toNat]? = some (.inl q) := by
  unfold zarr at h
  split at h
  · rename_i q hq
    rw [Bool.and_eq_true, Bool.and_eq_true] at h
    have e1 : zcode q.1 = c := eq_of_beq h.1
    have e2 : 0 ≤ i := of_decide_eq_true h.2.1
    have e3 : i < (q.2 : Int) := of_decide_eq_true h.2.2
    refine ⟨?_, q, hq⟩
    unfold vCode
    rw [hq]
    show (if i.toNat < q.2 then some (zcode q.1) else none) = some c
    rw [if_pos (by omega), e1]
  · cases h
/-- what is taken out of the heap is no name of the cell -/
theorem oH.at {u r0 k0 : Nat} {h : zH} (hH : oH u r0 k0 h) (hv : zHv h) {a b c : Nat} (hc : vCode a b = some c) (hn : ¬ (a = r0 ∧ b = k0)) : oV u (h a b) := by
  by_cases e : c = 4
  · rw [e] at hc; exact hH a b hc hn
  · refine oV_t ?_
    rw [hv.1 a b c hc e]
    unfold vTag
    split <;> decide
theorem oV_0 {u : Nat} {z : Int} : oV u (0, z) := oV_t (show (0 : Nat) ≠ 2 by decide)
theorem oV_1 {u : Nat} {z : Int} : oV u (1, z) := oV_t (show (1 : Nat) ≠ 2 by decide)
theorem zi_o {D : zD} {st : zS} {o : zO} {u ci k0 r0 w : Nat} (hs : zShape[r0]? = some (.inr (ci, w))) (hH : oH u r0 k0 st.1) (hv : zHv st.1) (hL : oLo u st.2.1) (hS : oS u st.2.2) : ∀ {i : zX}, guI ci k0 i = true → zi D i st = some o → oO u o
  | (0, nx, a, b, z, cs), hO, h => by
    have h : z_push nx a z st = some o := h
    have hO : (!(a == 2)) = true := hO
    cases h
    refine ⟨hL, oS_c.mpr ⟨oV_t (fun e => ?_), hS⟩⟩
    have e : a = 2 := e
    rw [e] at hO
    exact absurd hO (by decide)
  | (1, nx, a, b, z, cs), _, h => by cases h; exact ⟨hL, hS⟩
  | (2, nx, a, b, z, cs), _, h => by
    have h : z_load nx a b st = some o := h
    unfold z_load znx at h
    repeat' split at h
    all_goals first | (cases h; done) | (cases h; exact ⟨hL, oS_c.mpr ⟨hL _ _ (by assumption), hS⟩⟩)
  | (3, nx, a, b, z, cs), _, h => by
    have h : z_store1 nx a b st = some o := h
    unfold z_store1 znx at h
    repeat' split at h
    all_goals first | (cases h; done) | (cases h; rw [‹st.2.2 = _›] at hS; simp only [oS_c] at hS; exact ⟨hL.put1 hS.1, hS.2⟩)
  | (4, nx, a, b, z, cs), _, h => by
    have h : z_store2 nx a st = some o := h
    unfold z_store2 znx at h
    repeat' split at h
    all_goals first | (cases h; done) | (cases h; rw [‹st.2.2 = _›] at hS; simp only [oS_c] at hS; exact ⟨hL.put2 hS.1, hS.2⟩)
  | (5, nx, a, b, z, cs), _, h => by
    have h : z_iinc nx a z st = some o := h
    unfold z_iinc znx at h
    repeat' split at h
    all_goals first | (cases h; done) | (cases h; exact ⟨hL.put1 oV_0, hS⟩)
  | (6, nx, a, b, z, cs), _, h => by
    have h : z_un32 nx b st = some o := h
    unfold z_un32 znx at h
    repeat' split at h
    all_goals first | (cases h; done) | (cases h; rw [‹st.2.2 = _›] at hS; simp only [oS_c] at hS; exact ⟨hL, by simp only [oS_c, oV_0, oV_1, hS, and_self]⟩)
  | (7, nx, a, b, z, cs), _, h => by
    have h : z_bin32 nx b st = some o := h
    unfold z_bin32 znx at h
    repeat' split at h
    all_goals first | (cases h; done) | (cases h; rw [‹st.2.2 = _›] at hS; simp only [oS_c] at hS; exact ⟨hL, by simp only [oS_c, oV_0, oV_1, hS, and_self]⟩)
  | (8, nx, a, b, z, cs), _, h => by
    have h : z_div32 nx b st = some o := h
    unfold z_div32 znx at h
    repeat' split at h
    all_goals first | (cases h; done) | (cases h; rw [‹st.2.2 = _›] at hS; simp only [oS_c] at hS; exact ⟨hL, by simp only [oS_c, oV_0, oV_1, hS, and_self]⟩)
  | (9, nx, a, b, z, cs), _, h => by
    have h : z_neg64 nx st = some o := h
    unfold z_neg64 znx at h
    repeat' split at h
    all_goals first | (cases h; done) | (cases h; rw [‹st.2.2 = _›] at hS; simp only [oS_c] at hS; exact ⟨hL, by simp only [oS_c, oV_0, oV_1, hS, and_self]⟩)
  | (10, nx, a, b, z, cs), _, h => by
    have h : z_bin64 nx b st = some o := h
    unfold z_bin64 znx at h
    repeat' split at h
    all_goals first | (cases h; done) | (cases h; rw [‹st.2.2 = _›] at hS; simp only [oS_c] at hS; exact ⟨hL, by simp only [oS_c, oV_0, oV_1, hS, and_self]⟩)
  | (11, nx, a, b, z, cs), _, h => by
    have h : z_div64 nx b st = some o := h
    unfold z_div64 znx at h
    repeat' split at h
    all_goals first | (cases h; done) | (cases h; rw [‹st.2.2 = _›] at hS; simp only [oS_c] at hS; exact ⟨hL, by simp only [oS_c, oV_0, oV_1, hS, and_self]⟩)
  | (12, nx, a, b, z, cs), _, h => by
    have h : z_sh64 nx b st = some o := h
    unfold z_sh64 znx at h
    repeat' split at h
    all_goals first | (cases h; done) | (cases h; rw [‹st.2.2 = _›] at hS; simp only [oS_c] at hS; exact ⟨hL, by simp only [oS_c, oV_0, oV_1, hS, and_self]⟩)
  | (13, nx, a, b, z, cs), _, h => by
    have h : z_i2l nx st = some o := h
    unfold z_i2l znx at h
    repeat' split at h
    all_goals first | (cases h; done) | (cases h; rw [‹st.2.2 = _›] at hS; simp only [oS_c] at hS; exact ⟨hL, by simp only [oS_c, oV_0, oV_1, hS, and_self]⟩)
  | (14, nx, a, b, z, cs), _, h => by
    have h : z_l2i nx st = some o := h
    unfold z_l2i znx at h
    repeat' split at h
    all_goals first | (cases h; done) | (cases h; rw [‹st.2.2 = _›] at hS; simp only [oS_c] at hS; exact ⟨hL, by simp only [oS_c, oV_0, oV_1, hS, and_self]⟩)
  | (15, nx, a, b, z, cs), _, h => by
    have h : z_stk nx b st = some o := h
    unfold z_stk znx at h
    repeat' split at h
    all_goals first | (cases h; done) | (cases h; rw [‹st.2.2 = _›] at hS; simp only [oS_c] at hS; exact ⟨hL, by simp only [oS_c, oV_0, oV_1, hS, and_self]⟩)
  | (16, nx, a, b, z, cs), _, h => by
    have h : z_if nx a b st = some o := h
    unfold z_if znx at h
    repeat' split at h
    all_goals first | (cases h; done) | (cases h; rw [‹st.2.2 = _›] at hS; simp only [oS_c] at hS; exact ⟨hL, by simp only [oS_c, oV_0, oV_1, hS, and_self]⟩)
  | (17, nx, a, b, z, cs), _, h => by
    have h : z_icmp nx a b st = some o := h
    unfold z_icmp znx at h
    repeat' split at h
    all_goals first | (cases h; done) | (cases h; rw [‹st.2.2 = _›] at hS; simp only [oS_c] at hS; exact ⟨hL, by simp only [oS_c, oV_0, oV_1, hS, and_self]⟩)
  | (18, nx, a, b, z, cs), _, h => by
    have h : z_lcmp nx st = some o := h
    unfold z_lcmp znx at h
    repeat' split at h
    all_goals first | (cases h; done) | (cases h; rw [‹st.2.2 = _›] at hS; simp only [oS_c] at hS; exact ⟨hL, by simp only [oS_c, oV_0, oV_1, hS, and_self]⟩)
  | (19, nx, a, b, z, cs), _, h => by
    have h : z_sw nx cs st = some o := h
    unfold z_sw znx at h
    repeat' split at h
    all_goals first | (cases h; done) | (cases h; rw [‹st.2.2 = _›] at hS; simp only [oS_c] at hS; exact ⟨hL, by simp only [oS_c, oV_0, oV_1, hS, and_self]⟩)
  | (20, nx, a, b, z, cs), hO, h => by
    have h : z_getf nx a b st = some o := h
    unfold z_getf znx at h
    repeat' split at h
    · rename_i r S heq hz
      have hO : (!(a == ci && b == k0) && (match vFt[a]? with
        | some l => (l[b]?).isSome
        | none => false)) = true := hO
      rw [Bool.and_eq_true, Bool.not_eq_true'] at hO
      obtain ⟨c, hc⟩ := zisO_code hz hO.2
      cases h
      rw [heq, oS_c] at hS
      refine ⟨hL, oS_c.mpr ⟨hH.at hv hc (fun e => ?_), hS.2⟩⟩
      unfold zisO at hz
      rw [e.1, hs] at hz
      have e3 : ci = a := eq_of_beq (hz : (ci == a) = true)
      rw [← e3, e.2, beq_self_eq_true, beq_self_eq_true] at hO
      exact absurd hO.1 (by decide)
    all_goals cases h
  | (21, nx, a, b, z, cs), _, h => by
    have h : z_putf nx a b z st = some o := h
    unfold z_putf znx at h
    repeat' split at h
    all_goals first | (cases h; done) | (cases h; rw [‹st.2.2 = _›] at hS; simp only [oS_c] at hS; exact ⟨hL, by simp only [oS_c, oV_0, oV_1, hS, and_self]⟩)
  | (22, nx, a, b, z, cs), _, h => by
    have h : z_ald D nx a st = some o := h
    unfold z_ald znx at h
    repeat' split at h
    · rename_i i r S heq hz
      cases h
      rw [heq, oS_c, oS_c] at hS
      refine ⟨hL, oS_c.mpr ⟨hH.at hv (zarr_code hz).1 (fun e => ?_), hS.2.2⟩⟩
      obtain ⟨_, q, hq⟩ := zarr_code hz
      rw [e.1, hs] at hq
      cases hq
    · cases h
    · cases h; rw [‹st.2.2 = _›] at hS; simp only [oS_c] at hS; exact ⟨hL, oS_c.mpr ⟨oV_0, hS.2.2⟩⟩
    all_goals cases h
  | (23, nx, a, b, z, cs), _, h => by
    have h : z_ast nx a st = some o := h
    unfold z_ast znx at h
    repeat' split at h
    all_goals first | (cases h; done) | (cases h; rw [‹st.2.2 = _›] at hS; simp only [oS_c] at hS; exact ⟨hL, by simp only [oS_c, oV_0, oV_1, hS, and_self]⟩)
  | (24, nx, a, b, z, cs), _, h => by
    have h : z_alen D nx st = some o := h
    unfold z_alen znx at h
    repeat' split at h
    all_goals first | (cases h; done) | (cases h; rw [‹st.2.2 = _›] at hS; simp only [oS_c] at hS; exact ⟨hL, by simp only [oS_c, oV_0, oV_1, hS, and_self]⟩)
  | (25, nx, a, b, z, cs), _, h => by
    have h : z_slen D nx st = some o := h
    unfold z_slen znx at h
    repeat' split at h
    all_goals first | (cases h; done) | (cases h; rw [‹st.2.2 = _›] at hS; simp only [oS_c] at hS; exact ⟨hL, by simp only [oS_c, oV_0, oV_1, hS, and_self]⟩)
  | (26, nx, a, b, z, cs), _, h => by
    have h : z_char D nx st = some o := h
    unfold z_char znx at h
    repeat' split at h
    all_goals first | (cases h; done) | (cases h; rw [‹st.2.2 = _›] at hS; simp only [oS_c] at hS; exact ⟨hL, by simp only [oS_c, oV_0, oV_1, hS, and_self]⟩)
  | (27, nx, a, b, z, cs), _, h => by
    have h : z_math nx b st = some o := h
    unfold z_math znx at h
    repeat' split at h
    all_goals first | (cases h; done) | (cases h; rw [‹st.2.2 = _›] at hS; simp only [oS_c] at hS; exact ⟨hL, by simp only [oS_c, oV_0, oV_1, hS, and_self]⟩)
  | (28, nx, a, b, z, cs), _, h => by
    have h : z_copy nx a st = some o := h
    unfold z_copy znx at h
    repeat' split at h
    all_goals first | (cases h; done) | (cases h; rw [‹st.2.2 = _›] at hS; simp only [oS_c] at hS; exact ⟨hL, by simp only [oS_c, oV_0, oV_1, hS, and_self]⟩)
  | (29, nx, a, b, z, cs), _, h => by
    have h : z_call nx a b z (cs.head?.elim 0 (fun q => q.2)) st = some o := h
    unfold z_call at h
    repeat' split at h
    all_goals first | (cases h; done) | (rename_i hk _; cases h; exact ⟨(oS_take hk hS oS_nil).1, hL, (oS_take hk hS oS_nil).2⟩)
  | (30, nx, a, b, z, cs), _, h => by
    have h : z_ret b a st = some o := h
    unfold z_ret at h
    repeat' split at h
    all_goals first | (cases h; done) | (cases h; intro v hv; cases hv; done) | (cases h; intro v hv; cases hv; rw [‹st.2.2 = _›] at hS; simp only [oS_c] at hS; exact hS.1)
  | (n + 31, nx, a, b, z, cs), _, h => by cases h
theorem zi_oh {D : zD} {st : zS} {o : zO} {u r0 k0 : Nat} (hH : oH u r0 k0 st.1) (hS : oS u st.2.2) : ∀ {i : zX}, zi D i st = some o → oH u r0 k0 (zOh o) ∧ ∀ k, zOh o u k = st.1 u k
  | (0, nx, a, b, z, cs), h => by cases h; exact ⟨hH, fun _ => rfl⟩
  | (1, nx, a, b, z, cs), h => by cases h; exact ⟨hH, fun _ => rfl⟩
  | (2, nx, a, b, z, cs), h => by rw [zh_load h]; exact ⟨hH, fun _ => rfl⟩
  | (3, nx, a, b, z, cs), h => by rw [zh_store1 h]; exact ⟨hH, fun _ => rfl⟩
  | (4, nx, a, b, z, cs), h => by rw [zh_store2 h]; exact ⟨hH, fun _ => rfl⟩
  | (5, nx, a, b, z, cs), h => by rw [zh_iinc h]; exact ⟨hH, fun _ => rfl⟩
  | (6, nx, a, b, z, cs), h => by rw [zh_un32 h]; exact ⟨hH, fun _ => rfl⟩
  | (7, nx, a, b, z, cs), h => by rw [zh_bin32 h]; exact ⟨hH, fun _ => rfl⟩
  | (8, nx, a, b, z, cs), h => by rw [zh_div32 h]; exact ⟨hH, fun _ => rfl⟩
  | (9, nx, a, b, z, cs), h => by rw [zh_neg64 h]; exact ⟨hH, fun _ => rfl⟩
  | (10, nx, a, b, z, cs), h => by rw [zh_bin64 h]; exact ⟨hH, fun _ => rfl⟩
  | (11, nx, a, b, z, cs), h => by rw [zh_div64 h]; exact ⟨hH, fun _ => rfl⟩
  | (12, nx, a, b, z, cs), h => by rw [zh_sh64 h]; exact ⟨hH, fun _ => rfl⟩
  | (13, nx, a, b, z, cs), h => by rw [zh_i2l h]; exact ⟨hH, fun _ => rfl⟩
  | (14, nx, a, b, z, cs), h => by rw [zh_l2i h]; exact ⟨hH, fun _ => rfl⟩
  | (15, nx, a, b, z, cs), h => by rw [zh_stk h]; exact ⟨hH, fun _ => rfl⟩
  | (16, nx, a, b, z, cs), h => by rw [zh_if h]; exact ⟨hH, fun _ => rfl⟩
  | (17, nx, a, b, z, cs), h => by rw [zh_icmp h]; exact ⟨hH, fun _ => rfl⟩
  | (18, nx, a, b, z, cs), h => by rw [zh_lcmp h]; exact ⟨hH, fun _ => rfl⟩
  | (19, nx, a, b, z, cs), h => by rw [zh_sw h]; exact ⟨hH, fun _ => rfl⟩
  | (20, nx, a, b, z, cs), h => by rw [zh_getf h]; exact ⟨hH, fun _ => rfl⟩
  | (21, nx, a, b, z, cs), h => by
    have h : z_putf nx a b z st = some o := h
    unfold z_putf znx at h
    split at h
    · rename_i v r S heq
      split at h
      · cases h
        rw [heq, oS_c, oS_c] at hS
        refine ⟨fun x y hc hn => ?_, fun k => zset_ne (fun e => hS.2.1 ⟨rfl, e.1.symm⟩)⟩
        show oV u (zset st.1 r.toNat b v x y)
        by_cases e : x = r.toNat ∧ y = b
        · obtain ⟨rfl, rfl⟩ := e
          rw [zset_same]
          exact hS.1
        · rw [zset_ne e]
          exact hH x y hc hn
      · cases h
    · cases h
  | (22, nx, a, b, z, cs), h => by rw [zh_ald h]; exact ⟨hH, fun _ => rfl⟩
  | (23, nx, a, b, z, cs), h => by
    have h : z_ast nx a st = some o := h
    unfold z_ast znx at h
    split at h
    · rename_i v i r S heq
      split at h
      · rename_i hz
        cases h
        rw [heq, oS_c, oS_c, oS_c] at hS
        refine ⟨fun x y hc hn => ?_, fun k => zset_ne (fun e => hS.2.2.1 ⟨rfl, e.1.symm⟩)⟩
        show oV u (zset st.1 r.toNat i.toNat v x y)
        by_cases e : x = r.toNat ∧ y = i.toNat
        · obtain ⟨rfl, rfl⟩ := e
          rw [(zarr_code hz.1).1] at hc
          have := Option.some.inj hc
          have := hz.2.2
          omega
        · rw [zset_ne e]
          exact hH x y hc hn
      · cases h
    · cases h
  | (24, nx, a, b, z, cs), h => by rw [zh_alen h]; exact ⟨hH, fun _ => rfl⟩
  | (25, nx, a, b, z, cs), h => by rw [zh_slen h]; exact ⟨hH, fun _ => rfl⟩
  | (26, nx, a, b, z, cs), h => by rw [zh_char h]; exact ⟨hH, fun _ => rfl⟩
  | (27, nx, a, b, z, cs), h => by rw [zh_math h]; exact ⟨hH, fun _ => rfl⟩
  | (28, nx, a, b, z, cs), h => by
    have h : z_copy nx a st = some o := h
    unfold z_copy znx at h
    split at h
    · rename_i n dp r1 sp r0' S heq
      split at h
      · rename_i hz
        cases h
        rw [heq, oS_c, oS_c, oS_c, oS_c, oS_c] at hS
        refine ⟨fun x y hc hn => ?_, fun k => if_neg (fun e => hS.2.2.1 ⟨rfl, e.1.symm⟩)⟩
        show oV u (if x = r1.toNat ∧ dp.toNat ≤ y ∧ y < dp.toNat + n.toNat then st.1 r0'.toNat (sp.toNat + (y - dp.toNat)) else st.1 x y)
        by_cases e : x = r1.toNat ∧ dp.toNat ≤ y ∧ y < dp.toNat + n.toNat
        · have hr := hz.2.1
          unfold zroom at hr
          rw [← e.1] at hr
          unfold vCode at hc
          split at hr
          · rename_i q hq
            rw [hq] at hc
            rw [Bool.and_eq_true] at hr
            have e1 : zcode q.1 = a := eq_of_beq hr.1
            have hc : (if y < q.2 then some (zcode q.1) else none) = some 4 := hc
            split at hc
            · have := Option.some.inj hc
              have := hz.2.2.2
              omega
            · cases hc
          · cases hr
        · rw [if_neg e]
          exact hH x y hc hn
      · cases h
    · cases h
  | (29, nx, a, b, z, cs), h => by rw [zh_call h]; exact ⟨hH, fun _ => rfl⟩
  | (30, nx, a, b, z, cs), h => by rw [zh_ret h]; exact ⟨hH, fun _ => rfl⟩
  | (n + 31, nx, a, b, z, cs), h => by cases h
theorem zEv_un {D : zD} {T : zT} {inS : Nat → Nat → Bool} {u ci k0 cj kj r0 w : Nat} (hs : zShape[r0]? = some (.inr (ci, w))) (hO : vOK T) (hW : fwOK inS cj kj T) (hG : guOK inS ci k0 T) : ∀ {n mi pc : Nat} {st : zS} {r : zR}, zEv D T n mi pc st = some r → inS mi pc = true → zHv st.1 → oH u r0 k0 st.1 → oLo u st.2.1 → oS u st.2.2 → (zHv r.1 ∧ oH u r0 k0 r.1) ∧ (∀ k, r.1 u k = st.1 u k) ∧ ∀ v, r.2 = some v → oV u v := by
  intro n
  induction n with
  | zero => intro mi pc st r h; cases h
  | succ n ih =>
    intro mi pc st r h hI hv hH hL hS
    cases hi : T mi pc with
    | none =>
      have h : zEvA D T (zEv D T n) mi pc st = some r := h
      unfold zEvA at h
      rw [hi] at h
      cases h
    | some i =>
      rw [zEv_s hi] at h
      have hf := hW mi pc i hI hi
      cases hz : zi D i st with
      | none => rw [hz] at h; cases h
      | some o =>
        have g1 := zi_o hs hH hv hL hS (hG mi pc i hI hi) hz
        obtain ⟨g2, g3⟩ := zi_oh hH hS hz
        have g4 : zHv (zOh o) := zi_hv (hO mi pc i hi) hv hz
        rw [hz] at h
        match o, h, g1, g2, g3, g4, hz with
        | .inl q, h, g1, g2, g3, g4, _ => cases h; exact ⟨⟨g4, g2⟩, g3, g1⟩
        | .inr (.inl q), h, g1, g2, g3, g4, hz =>
          obtain ⟨a1, a2, a3⟩ := ih h (zi_nx hf hz) g4 g2 g1.1 g1.2
          exact ⟨a1, fun k => (a2 k).trans (g3 k), a3⟩
        | .inr (.inr q), h, g1, g2, g3, g4, hz =>
          obtain ⟨c1, c2⟩ := zi_cl hf hz
          have h : (match zEv D T n q.1 0 (q.2.2.2.1, zargs 0 q.2.1, []) with
            | none => none
            | some r1 => zEv D T n mi q.2.2.1 (r1.1, q.2.2.2.2.1, zpush r1.2 q.2.2.2.2.2)) = some r := h
          cases hc : zEv D T n q.1 0 (q.2.2.2.1, zargs 0 q.2.1, []) with
          | none => rw [hc] at h; cases h
          | some r1 =>
            rw [hc] at h
            obtain ⟨⟨b0, b1⟩, b2, b3⟩ := ih hc c2 g4 g2 (oLo_args g1.1) oS_nil
            have hp : oS u (zpush r1.2 q.2.2.2.2.2) := by
              cases hr : r1.2 with
              | none => exact g1.2.2
              | some v => exact oS_c.mpr ⟨b3 v hr, g1.2.2⟩
            obtain ⟨a1, a2, a3⟩ := ih h c1 b0 b1 g1.2.1 hp
            exact ⟨a1, fun k => ((a2 k).trans (b2 k)).trans (g3 k), a3⟩
/-- such a run changes nothing in the cell out of reach -/
theorem vP_un {D : zD} {T : zT} {inS : Nat → Nat → Bool} {u ci k0 cj kj r0 w : Nat} (hs : zShape[r0]? = some (.inr (ci, w))) (hO : vOK T) (hW : fwOK inS cj kj T) (hG : guOK inS ci k0 T) {N mi pc : Nat} {h : zH} {l : List (Option zV)} {S : List zV} (hI : inS mi pc = true) (hH : oH u r0 k0 h) (hL : oLo u (vL l)) (hS : oS u S) : vP D T N mi pc h l S (fun r => oH u r0 k0 r.1 ∧ ∀ k, r.1 u k = h u k) := fun hv _ _ _ he => by
  obtain ⟨a, b, _⟩ := zEv_un hs hO hW hG he hI hv hH hL hS
  exact ⟨a.2, b⟩
end
section
/-! THE LANDS OF CLASS AND REFERENCE ALIKE in what texts and marks alone change (c: the class's object; b: the reference's block) -/
def sCl (c : Nat) (P : PT) (h : zH) : Prop := (h c 0 = (0, P 0 0) ∧ h c 1 = (0, P 0 1) ∧ h c 2 = (0, P 0 2) ∧ h c 3 = (0, P 0 3)) ∧ (∀ k, k < 48 → h (c + 1) k = (0, P 1 k)) ∧ (∀ k, k < 48 → h (c + 2) k = (0, P 2 k)) ∧ (∀ k : Nat, (k : Int) < P 0 3 → h (c + 4) k = (1, P 4 k) ∧ h (c + 5) k = (0, P 5 k) ∧ h (c + 7) k = (0, P 7 k))
theorem cP.s {c : Nat} {P : PT} {h : zH} (g : cP c P h) : sCl c P h := ⟨⟨g.1.1, g.1.2.1, g.1.2.2.1, g.1.2.2.2.1⟩, g.2.1, g.2.2.1, fun k hk => ⟨(g.2.2.2.2 k hk).1, (g.2.2.2.2 k hk).2.1, (g.2.2.2.2 k hk).2.2.2.1⟩⟩
def oFl (c b : Nat) (h : zH) : Prop := ((h (c + 10) 0).2 = -1 ∧ (h 126 (550 * b + 275)).2 = 0) ∨ (0 ≤ (h (c + 10) 0).2 ∧ (h 126 (550 * b + 275)).2 = 1)
def sLd (c b : Nat) (h : zH) : Prop := ∃ P, sCl c P h ∧ rP b P h ∧ lB P ∧ oFl c b h
def sJ (j : Nat) : Prop := j < 4 ∨ (5 ≤ j ∧ j < 101) ∨ (251 ≤ j ∧ j < 263) ∨ j = 275
def cK (c c' : Nat) (h h' : zH) : Prop := (∀ k, k < 4 → h' c' k = h c k) ∧ (∀ k, k < 48 → h' (c' + 1) k = h (c + 1) k) ∧ (∀ k, k < 48 → h' (c' + 2) k = h (c + 2) k) ∧ (∀ k, k < 6 → h' (c' + 4) k = h (c + 4) k ∧ h' (c' + 5) k = h (c + 5) k ∧ h' (c' + 7) k = h (c + 7) k) ∧ h' (c' + 10) 0 = h (c + 10) 0
def bK (b b' : Nat) (h h' : zH) : Prop := (∀ j, sJ j → h' 126 (550 * b' + j) = h 126 (550 * b + j)) ∧ ∀ k, k < 6 → h' 128 (6 * b' + k) = h 128 (6 * b + k)
theorem cK.trans {c c' c'' : Nat} {h h' h'' : zH} (k : cK c c' h h') (m : cK c' c'' h' h'') : cK c c'' h h'' := ⟨fun q hq => (m.1 q hq).trans (k.1 q hq), fun q hq => (m.2.1 q hq).trans (k.2.1 q hq), fun q hq => (m.2.2.1 q hq).trans (k.2.2.1 q hq), fun q hq => ⟨(m.2.2.2.1 q hq).1.trans (k.2.2.2.1 q hq).1, (m.2.2.2.1 q hq).2.1.trans (k.2.2.2.1 q hq).2.1, (m.2.2.2.1 q hq).2.2.trans (k.2.2.2.1 q hq).2.2⟩, m.2.2.2.2.trans k.2.2.2.2⟩
theorem bK.trans {b b' b'' : Nat} {h h' h'' : zH} (k : bK b b' h h') (m : bK b' b'' h' h'') : bK b b'' h h'' := ⟨fun j hj => (m.1 j hj).trans (k.1 j hj), fun q hq => (m.2 q hq).trans (k.2 q hq)⟩
theorem sCl.tr {c c' : Nat} {P : PT} {h h' : zH} (g : sCl c P h) (hm : P 0 3 ≤ 6) (k : cK c c' h h') : sCl c' P h' := by
  obtain ⟨⟨a0, a1, a2, a3⟩, a4, a5, a6⟩ := g
  obtain ⟨k0, k1, k2, k3, k4⟩ := k
  refine ⟨⟨(k0 0 (by decide)).trans a0, (k0 1 (by decide)).trans a1, (k0 2 (by decide)).trans a2, (k0 3 (by decide)).trans a3⟩, fun q hq => (k1 q hq).trans (a4 q hq), fun q hq => (k2 q hq).trans (a5 q hq), fun q hq => ?_⟩
  obtain ⟨x1, x2, x3⟩ := a6 q hq
  obtain ⟨y1, y2, y3⟩ := k3 q (by omega)
  exact ⟨y1.trans x1, y2.trans x2, y3.trans x3⟩
theorem pIxy {w x y : Int} (hw : w ≤ 8) (x1 : 0 ≤ x) (x2 : x < w) (y1 : 0 ≤ y) (y2 : y < 6) : 0 ≤ w * y + x ∧ w * y + x < 48 := by
  have : y = 0 ∨ y = 1 ∨ y = 2 ∨ y = 3 ∨ y = 4 ∨ y = 5 := by omega
  rcases this with rfl | rfl | rfl | rfl | rfl | rfl <;> omega
theorem rP.tr {b b' : Nat} {P : PT} {h h' : zH} (g : rP b P h) (lb : lB P) (m : bK b b' h h') : rP b' P h' := by
  obtain ⟨⟨b0, b1, b2, b3⟩, b4, b5⟩ := g
  obtain ⟨m0, m1⟩ := m
  have hw := lb.1.2
  have hm := lb.2.2.2.2
  refine ⟨⟨(m0 0 (Or.inl (by decide))).trans b0, (m0 1 (Or.inl (by decide))).trans b1, (m0 2 (Or.inl (by decide))).trans b2, (m0 3 (Or.inl (by decide))).trans b3⟩, fun x y x1 x2 y1 y2 => ?_, fun q hq => ?_⟩
  · have i := pIxy hw x1 x2 y1 y2
    obtain ⟨z1, z2⟩ := b4 x y x1 x2 y1 y2
    exact ⟨(m0 _ (Or.inr (Or.inl ⟨by omega, by omega⟩))).trans z1, (m0 _ (Or.inr (Or.inl ⟨by omega, by omega⟩))).trans z2⟩
  · obtain ⟨z1, z2, z3⟩ := b5 q hq
    exact ⟨(m1 q (by omega)).trans z1, (m0 _ (Or.inr (Or.inr (Or.inl ⟨by omega, by omega⟩)))).trans z2, (m0 _ (Or.inr (Or.inr (Or.inl ⟨by omega, by omega⟩)))).trans z3⟩
theorem oFl.tr {c c' b b' : Nat} {h h' : zH} (o : oFl c b h) (k : h' (c' + 10) 0 = h (c + 10) 0) (m : h' 126 (550 * b' + 275) = h 126 (550 * b + 275)) : oFl c' b' h' := by
  unfold oFl at o ⊢
  rw [k, m]
  exact o
theorem sLd.tr {c c' b b' : Nat} {h h' : zH} (g : sLd c b h) (k : cK c c' h h') (m : bK b b' h h') : sLd c' b' h' := by
  obtain ⟨P, a1, a2, lb, o⟩ := g
  exact ⟨P, a1.tr lb.2.2.2.2 k, a2.tr lb m, lb, o.tr k.2.2.2.2 (m.1 275 (Or.inr (Or.inr (Or.inr rfl))))⟩
abbrev cLs (c : Nat) : aM := [(c, 0, 3), (c + 1, 0, 47), (c + 2, 0, 47), (c + 4, 0, 5), (c + 5, 0, 5), (c + 7, 0, 5), (c + 10, 0, 0)]
abbrev bLs (b : Nat) : aM := [(126, 550 * b, 550 * b + 3), (126, 550 * b + 5, 550 * b + 100), (126, 550 * b + 251, 550 * b + 262), (126, 550 * b + 275, 550 * b + 275), (128, 6 * b, 6 * b + 5)]
abbrev cAll : aM := cLs 24 ++ (cLs 39 ++ (cLs 55 ++ (cLs 70 ++ cLs 85)))
abbrev bAll : aM := bLs 0 ++ (bLs 1 ++ (bLs 2 ++ bLs 3))
abbrev tp0 : aM := [(10, 1, 1), (10, 9, 10), (11, 0, 899), (121, 8, 8), (121, 10, 11), (125, 0, 899), (0, 7, 8), (0, 10, 10), (121, 23, 23)]
abbrev tpS : aM := tp0 ++ (cAll ++ bAll)
theorem cK_S {S : aM} {c : Nat} {h h' : zH} (he : ∀ a b, aIn S a b → h' a b = h a b) (hc : ∀ e ∈ cLs c, e ∈ S) : cK c c h h' := by
  have m0 : (c, 0, 3) ∈ S := hc _ List.mem_cons_self
  have m1 : (c + 1, 0, 47) ∈ S := hc _ (List.mem_cons_of_mem _ List.mem_cons_self)
  have m2 : (c + 2, 0, 47) ∈ S := hc _ (List.mem_cons_of_mem _ (List.mem_cons_of_mem _ List.mem_cons_self))
  have m3 : (c + 4, 0, 5) ∈ S := hc _ (List.mem_cons_of_mem _ (List.mem_cons_of_mem _ (List.mem_cons_of_mem _ List.mem_cons_self)))
  have m4 : (c + 5, 0, 5) ∈ S := hc _ (List.mem_cons_of_mem _ (List.mem_cons_of_mem _ (List.mem_cons_of_mem _ (List.mem_cons_of_mem _ List.mem_cons_self))))
  have m5 : (c + 7, 0, 5) ∈ S := hc _ (List.mem_cons_of_mem _ (List.mem_cons_of_mem _ (List.mem_cons_of_mem _ (List.mem_cons_of_mem _ (List.mem_cons_of_mem _ List.mem_cons_self)))))
  have m6 : (c + 10, 0, 0) ∈ S := hc _ (List.mem_cons_of_mem _ (List.mem_cons_of_mem _ (List.mem_cons_of_mem _ (List.mem_cons_of_mem _ (List.mem_cons_of_mem _ (List.mem_cons_of_mem _ List.mem_cons_self))))))
  exact ⟨fun k hk => he _ _ ⟨_, m0, rfl, Nat.zero_le _, Nat.le_of_lt_succ hk⟩, fun k hk => he _ _ ⟨_, m1, rfl, Nat.zero_le _, Nat.le_of_lt_succ hk⟩, fun k hk => he _ _ ⟨_, m2, rfl, Nat.zero_le _, Nat.le_of_lt_succ hk⟩, fun k hk => ⟨he _ _ ⟨_, m3, rfl, Nat.zero_le _, Nat.le_of_lt_succ hk⟩, he _ _ ⟨_, m4, rfl, Nat.zero_le _, Nat.le_of_lt_succ hk⟩, he _ _ ⟨_, m5, rfl, Nat.zero_le _, Nat.le_of_lt_succ hk⟩⟩, he _ _ ⟨_, m6, rfl, Nat.zero_le _, Nat.le_refl _⟩⟩
theorem bK_S {S : aM} {b : Nat} {h h' : zH} (he : ∀ a k, aIn S a k → h' a k = h a k) (hb : ∀ e ∈ bLs b, e ∈ S) : bK b b h h' := by
  have m0 : (126, 550 * b, 550 * b + 3) ∈ S := hb _ List.mem_cons_self
  have m1 : (126, 550 * b + 5, 550 * b + 100) ∈ S := hb _ (List.mem_cons_of_mem _ List.mem_cons_self)
  have m2 : (126, 550 * b + 251, 550 * b + 262) ∈ S := hb _ (List.mem_cons_of_mem _ (List.mem_cons_of_mem _ List.mem_cons_self))
  have m3 : (126, 550 * b + 275, 550 * b + 275) ∈ S := hb _ (List.mem_cons_of_mem _ (List.mem_cons_of_mem _ (List.mem_cons_of_mem _ List.mem_cons_self)))
  have m4 : (128, 6 * b, 6 * b + 5) ∈ S := hb _ (List.mem_cons_of_mem _ (List.mem_cons_of_mem _ (List.mem_cons_of_mem _ (List.mem_cons_of_mem _ List.mem_cons_self))))
  refine ⟨fun j hj => ?_, fun k hk => he _ _ ⟨_, m4, rfl, Nat.le_add_right _ _, Nat.add_le_add_left (Nat.le_of_lt_succ hk) _⟩⟩
  rcases hj with e | e | e | e
  · exact he _ _ ⟨_, m0, rfl, Nat.le_add_right _ _, Nat.add_le_add_left (Nat.le_of_lt_succ e) _⟩
  · exact he _ _ ⟨_, m1, rfl, Nat.add_le_add_left e.1 _, Nat.add_le_add_left (Nat.le_of_lt_succ e.2) _⟩
  · exact he _ _ ⟨_, m2, rfl, Nat.add_le_add_left e.1 _, Nat.add_le_add_left (Nat.le_of_lt_succ e.2) _⟩
  · exact he _ _ ⟨_, m3, rfl, Nat.add_le_add_left (Nat.le_of_eq e.symm) _, Nat.add_le_add_left (Nat.le_of_eq e) _⟩
def cOb (c : Nat) : Prop := c = 24 ∨ c = 39 ∨ c = 55 ∨ c = 70 ∨ c = 85
theorem cAll_in {c : Nat} (hc : cOb c) : ∀ e ∈ cLs c, e ∈ cAll := by
  rcases hc with rfl | rfl | rfl | rfl | rfl <;> decide
theorem bAll_in {b : Nat} (hb : b < 4) : ∀ e ∈ bLs b, e ∈ bAll := by
  have : b = 0 ∨ b = 1 ∨ b = 2 ∨ b = 3 := by omega
  rcases this with rfl | rfl | rfl | rfl <;> decide
theorem cK_fr {M : aM} {h g : zH} (f : aFr M h g) (hf : lFree cAll M = true) {c : Nat} (hc : cOb c) : cK c c h g := cK_S (S := cAll) (fun _ _ hi => f.keep hf hi) (cAll_in hc)
theorem bK_fr {M : aM} {h g : zH} (f : aFr M h g) (hf : lFree bAll M = true) {b : Nat} (hb : b < 4) : bK b b h g := bK_S (S := bAll) (fun _ _ hi => f.keep hf hi) (bAll_in hb)
theorem bK_rG {s b : Nat} {h g : zH} (hs : s ≤ b) (hb : b < 4) (f : rG s h g) : bK b b h g := by
  refine ⟨fun j hj => f _ _ (fun c => ?_), fun k hk => f _ _ (fun c => by omega)⟩
  have : j < 276 := by
    rcases hj with e | e | e | e <;> omega
  omega
def lFa (h : zH) : Prop := (h 10 9).2 = (h 121 10).2 ∧ (h 10 10).2 = (h 121 11).2
def lMk (h : zH) : Prop := (h 0 10).2 = (h 121 23).2 ∧ ∀ m : Nat, m < 3 → (m : Int) < (h 0 10).2 → sLd (55 + 15 * m) (m + 1) h
def lCu (h : zH) : Prop := ∃ r c, lSw r c ∧ h 0 7 = (2, (c : Int)) ∧ h 0 8 = (2, (r : Int)) ∧ sLd c 0 h
/-- all that the readers' claims say of class and reference -/
def lR (h : zH) : Prop := lT h ∧ lFa h ∧ lMk h ∧ lCu h
theorem lSw.ob {r c : Nat} (h : lSw r c) : cOb c := by
  rcases h with ⟨_, rfl⟩ | ⟨_, rfl⟩
  · exact Or.inr (Or.inl rfl)
  · exact Or.inl rfl
theorem mOb {m : Nat} (hm : m < 3) : cOb (55 + 15 * m) := by
  have : m = 0 ∨ m = 1 ∨ m = 2 := by omega
  rcases this with rfl | rfl | rfl
  · exact Or.inr (Or.inr (Or.inl rfl))
  · exact Or.inr (Or.inr (Or.inr (Or.inl rfl)))
  · exact Or.inr (Or.inr (Or.inr (Or.inr rfl)))
theorem tpS_0 {a k : Nat} (h : aIn tp0 a k) : aIn tpS a k := by
  obtain ⟨e, he, x⟩ := h
  exact ⟨e, List.mem_append_left _ he, x⟩
theorem tpS_c {c : Nat} (hc : cOb c) : ∀ e ∈ cLs c, e ∈ tpS := fun e he => List.mem_append_right _ (List.mem_append_left _ (cAll_in hc e he))
theorem tpS_b {b : Nat} (hb : b < 4) : ∀ e ∈ bLs b, e ∈ tpS := fun e he => List.mem_append_right _ (List.mem_append_right _ (bAll_in hb e he))
theorem lT.of {h h' : zH} (hT : lT h) (e1 : h' 10 1 = h 10 1) (e2 : ∀ q, q ≤ 899 → h' 11 q = h 11 q) (e3 : h' 121 8 = h 121 8) (e4 : ∀ q, q ≤ 899 → h' 125 q = h 125 q) : lT h' := tEq.k hT ⟨congrArg Prod.snd e1, fun q hq => congrArg Prod.snd (e2 q hq)⟩ ⟨congrArg Prod.snd e3, fun q hq => congrArg Prod.snd (e4 q hq)⟩
/-- the tape alone, the faults alone, the marks alone, the LAND alone: kept where their places are -/
theorem lFa.of {h h' : zH} (g : lFa h) (he : ∀ a k, aIn tp0 a k → h' a k = h a k) : lFa h' := by
  unfold lFa at g ⊢
  rw [he 10 9 ⟨(10, 9, 10), by decide, rfl, by decide, by decide⟩, he 10 10 ⟨(10, 9, 10), by decide, rfl, by decide, by decide⟩, he 121 10 ⟨(121, 10, 11), by decide, rfl, by decide, by decide⟩, he 121 11 ⟨(121, 10, 11), by decide, rfl, by decide, by decide⟩]
  exact g
theorem lMk.of {h h' : zH} (g : lMk h) (e1 : h' 0 10 = h 0 10) (e2 : h' 121 23 = h 121 23) (hc : ∀ m, m < 3 → cK (55 + 15 * m) (55 + 15 * m) h h') (hb : ∀ m, m < 3 → bK (m + 1) (m + 1) h h') : lMk h' := by
  unfold lMk at g ⊢
  rw [e1, e2]
  exact ⟨g.1, fun m hm hq => (g.2 m hm hq).tr (hc m hm) (hb m hm)⟩
theorem lR_S : lRs tpS lR := fun h h' he hR => by
  obtain ⟨hT, hF, hM, r, c, s1, s2, s3, hL⟩ := hR
  have h0 : ∀ a k, aIn tp0 a k → h' a k = h a k := fun a k hi => he a k (tpS_0 hi)
  refine ⟨hT.of (h0 _ _ ⟨(10, 1, 1), by decide, rfl, by decide, by decide⟩) (fun q hq => h0 _ _ ⟨(11, 0, 899), by decide, rfl, Nat.zero_le _, hq⟩) (h0 _ _ ⟨(121, 8, 8), by decide, rfl, by decide, by decide⟩) (fun q hq => h0 _ _ ⟨(125, 0, 899), by decide, rfl, Nat.zero_le _, hq⟩), hF.of h0, hM.of (h0 _ _ ⟨(0, 10, 10), by decide, rfl, by decide, by decide⟩) (h0 _ _ ⟨(121, 23, 23), by decide, rfl, by decide, by decide⟩) (fun m hm => cK_S he (tpS_c (mOb hm))) (fun m hm => bK_S he (tpS_b (by omega))), r, c, s1, (h0 _ _ ⟨(0, 7, 8), by decide, rfl, by decide, by decide⟩).trans s2, (h0 _ _ ⟨(0, 7, 8), by decide, rfl, by decide, by decide⟩).trans s3, hL.tr (cK_S he (tpS_c s1.ob)) (bK_S he (tpS_b (by decide)))⟩
theorem lR.off {M : aM} {h h' : zH} (hR : lR h) (hf : lFree tpS M = true) (he : ∀ a b, ¬ aIn M a b → h' a b = h a b) : lR h' := lR_S h h' (fun a b hi => he a b (lFree_ok hf hi)) hR
def iniP : PT := fun a b => if a = 0 ∧ b = 0 then 2 else if a = 0 ∧ (b = 1 ∨ b = 2) then 1 else 0
theorem ini_c : (hIni 24 0 = (0, 2) ∧ hIni 24 1 = (0, 1) ∧ hIni 24 2 = (0, 1) ∧ hIni 24 3 = (0, 0)) ∧ (∀ k, k < 48 → hIni 25 k = (0, 0)) ∧ (∀ k, k < 48 → hIni 26 k = (0, 0)) ∧ hIni 34 0 = (0, -1) := by decide +kernel
theorem ini_b : (hIni 126 0 = (0, 2) ∧ hIni 126 1 = (0, 1) ∧ hIni 126 2 = (0, 1) ∧ hIni 126 3 = (0, 0)) ∧ (∀ k, k < 96 → hIni 126 (5 + k) = (0, 0)) ∧ hIni 126 275 = (0, 0) := by decide +kernel
theorem ini_LS : sLd 24 0 hIni := by
  refine ⟨iniP, ⟨ini_c.1, ini_c.2.1, ini_c.2.2.1, fun k hk => ?_⟩, ⟨ini_b.1, fun x y x1 x2 y1 y2 => ?_, fun k hk => ?_⟩, by unfold lB; decide, Or.inl ⟨congrArg Prod.snd ini_c.2.2.2, congrArg Prod.snd ini_b.2.2⟩⟩
  · have hk : (k : Int) < 0 := hk
    omega
  · have x2 : x < 2 := x2
    have i := pIxy (w := 2) (by decide) x1 x2 y1 y2
    have a1 := ini_b.2.1 (2 * y + x).toNat (by omega)
    have a2 := ini_b.2.1 (48 + (2 * y + x).toNat) (by omega)
    constructor
    · show hIni 126 (550 * 0 + (5 + (2 * y + x)).toNat) = (0, 0)
      rw [show 550 * 0 + (5 + (2 * y + x)).toNat = 5 + (2 * y + x).toNat by omega]
      exact a1
    · show hIni 126 (550 * 0 + (53 + (2 * y + x)).toNat) = (0, 0)
      rw [show 550 * 0 + (53 + (2 * y + x)).toNat = 5 + (48 + (2 * y + x).toNat) by omega]
      exact a2
  · have hk : (k : Int) < 0 := hk
    omega
theorem lR_ini : lR hIni := by
  refine ⟨⟨(by decide +kernel : (hIni 10 1).2 = (hIni 121 8).2), fun q _ hq => ?_⟩, (by decide +kernel : (hIni 10 9).2 = (hIni 121 10).2 ∧ (hIni 10 10).2 = (hIni 121 11).2), ⟨(by decide +kernel : (hIni 0 10).2 = (hIni 121 23).2), fun m _ hm => ?_⟩, 39, 24, Or.inr ⟨rfl, rfl⟩, (by decide +kernel : hIni 0 7 = (2, 24)), (by decide +kernel : hIni 0 8 = (2, 39)), ini_LS⟩
  · have e : (hIni 10 1).2 = 0 := by decide +kernel
    have hq : (q : Int) < (hIni 10 1).2 := hq
    omega
  · have e : (hIni 0 10).2 = 0 := by decide +kernel
    omega
theorem lRk_feed {D : zD} (_ : ∀ i, -2147483648 ≤ D.2 i ∧ D.2 i ≤ 2147483647) {h h1 h2 : zH} {a b c d e v1 v2 : Int} (hZ : lZ D h) (hZ1 : lZ D h1) (hR : lR h) (z1 : zRun D TLw 614 155 0 (h, zargs 0 [(2, 0), (0, a), (0, b), (0, c), (0, d), (0, e)], []) (h1, some (0, v1))) (f1 : aFr lM_155 h h1) (z2 : zRun D TLw 614 227 0 (h1, zargs 0 [(2, 121), (0, a), (0, b), (0, c), (0, d), (0, e)], []) (h2, some (0, v2))) (f2 : aFr lM_227 h1 h2) : lR h2 ∧ v1 = v2 := by
  obtain ⟨t, e⟩ := lT_feed hZ hZ1 hR.1 z1 f1 z2 f2
  obtain ⟨hT, hF, hM, r, c, s1, s2, s3, hL⟩ := hR
  have ka : ∀ {S : aM}, lFree S lM_155 = true → lFree S lM_227 = true → ∀ a k, aIn S a k → h2 a k = h a k := fun q1 q2 a k hi => (f2.keep q2 hi).trans (f1.keep q1 hi)
  have k0 := ka (S := [(10, 9, 10), (121, 10, 11), (0, 7, 8), (0, 10, 10), (121, 23, 23)]) (by decide +kernel) (by decide +kernel)
  have kc := ka (S := cAll) (by decide +kernel) (by decide +kernel)
  have kb := ka (S := bAll) (by decide +kernel) (by decide +kernel)
  refine ⟨⟨t, ?_, hM.of (k0 _ _ ⟨(0, 10, 10), by decide, rfl, by decide, by decide⟩) (k0 _ _ ⟨(121, 23, 23), by decide, rfl, by decide, by decide⟩) (fun m hm => cK_S kc (cAll_in (mOb hm))) (fun m hm => bK_S kb (bAll_in (by omega))), r, c, s1, (k0 _ _ ⟨(0, 7, 8), by decide, rfl, by decide, by decide⟩).trans s2, (k0 _ _ ⟨(0, 7, 8), by decide, rfl, by decide, by decide⟩).trans s3, hL.tr (cK_S kc (cAll_in s1.ob)) (bK_S kb (bAll_in (by decide)))⟩, e⟩
  unfold lFa at hF ⊢
  rw [k0 10 9 ⟨(10, 9, 10), by decide, rfl, by decide, by decide⟩, k0 10 10 ⟨(10, 9, 10), by decide, rfl, by decide, by decide⟩, k0 121 10 ⟨(121, 10, 11), by decide, rfl, by decide, by decide⟩, k0 121 11 ⟨(121, 10, 11), by decide, rfl, by decide, by decide⟩]
  exact hF
theorem lRk_land {D : zD} (_ : ∀ i, -2147483648 ≤ D.2 i ∧ D.2 i ≤ 2147483647) {h h1 h2 : zH} {n v1 v2 : Int} (hZ : lZ D h) (hZ1 : lZ D h1) (hR : lR h) (z1 : zRun D TLw 614 162 0 (h, zargs 0 [(2, 0), (0, n)], []) (h1, some (0, v1))) (f1 : aFr lM_162 h h1) (z2 : zRun D TLw 614 268 0 (h1, zargs 0 [(2, 121), (0, n)], []) (h2, some (0, v2))) (f2 : aFr lM_268 h1 h2) : lR h2 ∧ v1 = v2 := by
  have hR' := hR
  obtain ⟨hT, hF, hM, r, c, s1, s2, s3, hL⟩ := hR'
  have t := lT_land hZ hZ1 hT z1 f1 z2 f2
  have hb : ∀ b, b < 4 → bK b b h h1 := fun b hb => bK_fr f1 (by decide +kernel) hb
  have hc : ∀ c, cOb c → cK c c h1 h2 := fun c hc => cK_fr f2 (by decide +kernel) hc
  have k2 : ∀ a k, aIn [(0, 7, 8), (0, 10, 10), (10, 9, 10), (121, 23, 23)] a k → h2 a k = h1 a k := fun a k hi => f2.keep (S := [(0, 7, 8), (0, 10, 10), (10, 9, 10), (121, 23, 23)]) (by decide +kernel) hi
  have e7 := k2 0 7 ⟨(0, 7, 8), by decide, rfl, by decide, by decide⟩
  have e8 := k2 0 8 ⟨(0, 7, 8), by decide, rfl, by decide, by decide⟩
  have e10 := k2 0 10 ⟨(0, 10, 10), by decide, rfl, by decide, by decide⟩
  have e9 := k2 10 9 ⟨(10, 9, 10), by decide, rfl, by decide, by decide⟩
  have e9' := k2 10 10 ⟨(10, 9, 10), by decide, rfl, by decide, by decide⟩
  have e23 : h2 121 23 = h 121 23 := (k2 121 23 ⟨(121, 23, 23), by decide, rfl, by decide, by decide⟩).trans (f1.keep (S := [(121, 23, 23)]) (by decide +kernel) ⟨(121, 23, 23), by decide, rfl, by decide, by decide⟩)
  rcases land_both s1 s2 s3 hZ hZ1 hT z1 f1 z2 f2 with ⟨a1, a2, a3, a4⟩ | ⟨lf, q10, hh⟩
  · refine ⟨hR.off (M := [(0, 0, 0), (121, 0, 1)]) (by decide +kernel) (fun a b hn => ?_), by omega⟩
    rw [a4 a b (fun e => hn ⟨(121, 0, 1), by decide, e.1.symm, Nat.zero_le _, e.2⟩), a3]
    exact zset_ne (fun e => hn ⟨(0, 0, 0), by decide, e.1.symm, Nat.zero_le _, Nat.le_of_eq e.2⟩)
  · have lm : ∀ m, m < 3 → cK (55 + 15 * m) (55 + 15 * m) h h2 := fun m hm => by
      refine cK.trans ⟨fun k _ => lf _ _ ?_, fun k _ => lf _ _ ?_, fun k _ => lf _ _ ?_, fun k _ => ⟨lf _ _ ?_, lf _ _ ?_, lf _ _ ?_⟩, lf _ _ ?_⟩ (hc _ (mOb hm)) <;> · rcases s1 with ⟨rfl, rfl⟩ | ⟨rfl, rfl⟩ <;> omega
    rcases hh with ⟨e, a1, a2, a3, a4, a5, a6, a7, a8, a9⟩ | ⟨P, a1, a2, a3, a4, a5, a6, a7, a8, a9, a10, a11, a12, a13, a14, a15⟩
    · refine ⟨⟨t, ⟨?_, ?_⟩, hM.of (e10.trans q10) e23 lm (fun m hm => (hb _ (by omega)).trans (bK_rG (Nat.zero_le _) (by omega) a9)), r, c, s1, e7.trans a5, e8.trans a6, ?_⟩, by omega⟩
      · rw [e9, a3, a7]
      · rw [e9', a4, a8]
      · refine hL.tr (cK.trans ⟨fun k _ => lf _ _ ?_, fun k _ => lf _ _ ?_, fun k _ => lf _ _ ?_, fun k _ => ⟨lf _ _ ?_, lf _ _ ?_, lf _ _ ?_⟩, lf _ _ ?_⟩ (hc _ s1.ob)) ((hb _ (by decide)).trans (bK_rG (Nat.zero_le _) (by decide) a9)) <;> · rcases s1 with ⟨rfl, rfl⟩ | ⟨rfl, rfl⟩ <;> omega
    · have ho := hc r s1.symm.ob
      refine ⟨⟨t, ⟨?_, ?_⟩, hM.of (e10.trans q10) e23 lm (fun m hm => (hb _ (by omega)).trans (bK_rG (by omega) (by omega) a15)), c, r, s1.symm, e7.trans a5, e8.trans a6, P, a7.s.tr a8.2.2.2.2 ho, a13, a8, Or.inl ⟨?_, ?_⟩⟩, by omega⟩
      · rw [e9, a3, a11]
      · rw [e9', a4, a12]
      · rw [ho.2.2.2.2, a9]
      · rw [a14.2 275 (Or.inr (Or.inr (by decide)))]
theorem zHv.eta {h : zH} (hv : zHv h) {r k : Nat} (hc : vCode r k = some 0) : h r k = (0, (h r k).2) := Prod.ext (hv.1 r k 0 hc (by decide)) rfl
end
section
/-! WHAT ORDERS SAY: so many STEPS, so deep; P: the LAND (wide, rows, copies, its companies' names) -/
def pCm (τ : PT) (i : Nat) : Er ⊕ (Int × Nat) := if τ 0 i = 3 ∧ iC (τ 3 i) ≠ 0 then .inr (τ 3 i, i + 1) else .inl (eF τ i 2)
def pNm (τ P : PT) (i : Nat) : Er ⊕ (Int × Nat) := if bN τ i ≠ 0 then (if pIx (P 4) (τ 4 i) (P 0 3).toNat 0 ≠ -1 then .inr (pIx (P 4) (τ 4 i) (P 0 3).toNat 0, i + 1) else .inl (eF τ i 3)) else .inl (eF τ i 2)
def oArg (τ P : PT) (w : Int) (i : Nat) : Er ⊕ Nat := if w = 8 ∨ w = 10 ∨ w = 16 then eb (pNum τ 0 (P 0 2 - 1) i) fun a => eb (pWord τ 6 a.2) fun j => eb (pCell τ (P 0 0) (P 0 1) j) fun c => .inr c.2.2
  else if w = 9 then eb (pNum τ 0 (P 0 2 - 1) i) fun a => .inr a.2
  else if w = 11 then eb (pNum τ 0 (P 0 2 - 1) i) fun a => eb (pWord τ 7 a.2) fun j => eb (pNum τ 0 (P 0 2 - 1) j) fun b => .inr b.2
  else if w = 12 then eb (pNum τ 0 (P 0 2 - 1) i) fun a => eb (pWord τ 3 a.2) fun j => eb (pNum τ 0 12 j) fun b => .inr b.2
  else if w = 13 ∨ w = 17 then eb (pNm τ P i) fun a => .inr a.2
  else if w = 19 then eb (pNum τ 1 99 i) fun a => .inr a.2
  else if w = 18 then eb (pCm τ i) fun a => eb (pNum τ 0 9999 a.2) fun b => .inr b.2
  else .inr i
def opW (w : Int) : Bool := decide (w = 15 ∨ w = 19)
theorem opW15 : opW 15 = true := by decide
def pStep (τ P : PT) (s d i : Nat) : Er ⊕ (Nat × Nat × Nat) :=
  if bW τ 20 i ≠ 0 then (if d = 0 then .inl (eF τ i 2) else eb (pSg τ 59 (i + 1)) fun j => .inr (s, d - 1, j))
  else if swd τ i < 0 then .inl (eF τ i 2)
  else if 30 ≤ s then .inl (eF τ i 6)
  else if opW (τ 3 i) = true ∧ 3 ≤ d then .inl (eF τ i 7)
  else eb (if τ 3 i = 15 then (if twd τ (i + 1) < 0 then .inl (eF τ (i + 1) 2) else oArg τ P (τ 3 (i + 1)) (i + 1 + 1)) else oArg τ P (τ 3 i) (i + 1)) fun j => eb (pSg τ 59 j) fun k => .inr (s + 1, if opW (τ 3 i) = true then d + 1 else d, k)
def pOrd (τ P : PT) : Nat → Nat → Nat → Nat → Er ⊕ Nat
  | 0, s, _, _ => .inr s
  | f + 1, s, d, i => if τ 0 i = 0 then (if d = 0 then .inr s else .inl (eF τ i 2)) else eb (pStep τ P s d i) fun a => pOrd τ P f a.1 a.2.1 a.2.2
/-- a word's index, as the reference counts it -/
theorem swd_v {τ : PT} {i : Nat} (h : τ 0 i = 1) : swd τ i = if τ 3 i = 8 then 0 else if τ 3 i = 9 then 1 else if τ 3 i = 10 then 2 else if τ 3 i = 11 then 3 else if τ 3 i = 12 then 4 else if τ 3 i = 13 then 5 else if τ 3 i = 14 then 6 else if τ 3 i = 15 then 7 else if τ 3 i = 19 then 8 else if τ 3 i = 21 then 9 else -1 := by
  unfold swd
  simp only [bW_y, h, true_and]
theorem twd_v {τ : PT} {i : Nat} (h : τ 0 i = 1) : twd τ i = if τ 3 i = 16 then 0 else if τ 3 i = 17 then 1 else if τ 3 i = 18 then 2 else -1 := by
  unfold twd
  simp only [bW_y, h, true_and]
/-! the class's orders under way: size, STEPS, depth -/
/-! ORDERS: small things -/
theorem cP.tf {r : Nat} {P : PT} {h h' : zH} (g : cP r P h) (f : tF h h') (hr : 16 < r := by decide) : cP r P h' := g.eq (fun a b h1 h2 => f a b (fun c => by omega))
theorem cP.z {r a b : Nat} {P : PT} {h : zH} {v : zV} (ha : a < r ∨ r + 9 < a) (g : cP r P h) : cP r P (zset h a b v) := g.eq (fun x y h1 h2 => zset_ne (fun c => by omega))
theorem o23_t {h h' : zH} {t : Nat → zV} (f : tF h h') (k : ∀ e, h 23 e = t e) : ∀ e, h' 23 e = t e := fun e => (f 23 e (fun c => by omega)).trans (k e)
theorem o23_n {h h0 : zH} {r k : Nat} {v : zV} (hr : r ≠ 23) (g : ∀ e, h 23 e = h0 23 e) : ∀ e, zset h r k v 23 e = h0 23 e := fun e => (zset_ne (fun c => hr c.1.symm)).trans (g e)
theorem o23_z {h h0 : zH} {k : Nat} {v : zV} (g : ∀ e, h 23 e = h0 23 e) : ∀ e, zset h 23 k v 23 e = zset h0 23 k v 23 e := fun e => by
  by_cases c : e = k
  · rw [c, zset_same, zset_same]
  · rw [zset_ne (fun f => c f.2), zset_ne (fun f => c f.2)]
    exact g e
theorem ob_same {h g : zH} {d d' : Nat} {z z' : Int} (k : ∀ e, g 23 e = h 23 e) (ho : ∀ e : Nat, e < d → 0 ≤ (h 23 e).2 ∧ (h 23 e).2 < z) (hd : d' ≤ d) (hz : z ≤ z') : ∀ e : Nat, e < d' → 0 ≤ (g 23 e).2 ∧ (g 23 e).2 < z' := fun e he => by
  rw [k e]
  have := ho e (by omega)
  omega
theorem ob_open {h g : zH} {d : Nat} {z z' : Int} (k : ∀ e, g 23 e = zset h 23 ((d : Int)).toNat (0, z) 23 e) (ho : ∀ e : Nat, e < d → 0 ≤ (h 23 e).2 ∧ (h 23 e).2 < z) (bz : 0 ≤ z) (hz : z < z') : ∀ e : Nat, e < d + 1 → 0 ≤ (g 23 e).2 ∧ (g 23 e).2 < z' := fun e he => by
  rw [k e]
  by_cases c : e = d
  · rw [show ((d : Int)).toNat = e from by omega, zset_same]
    exact ⟨bz, hz⟩
  · rw [zset_ne (fun f => c (by omega))]
    have := ho e (by omega)
    omega
def oFr (h0 h : zH) : Prop := ∀ a b, ¬ ((a = 10 ∧ 6 ≤ b ∧ b ≤ 8) ∨ (a = 17 ∧ b = 4) ∨ (18 ≤ a ∧ a ≤ 23)) → h a b = h0 a b
theorem oFr.rfl {h : zH} : oFr h h := fun _ _ _ => Eq.refl _
theorem oFr.t {h0 h h' : zH} (g : oFr h0 h) (f : tF h h') : oFr h0 h' := fun a b hn => (f a b (fun c => hn (Or.inl c))).trans (g a b hn)
theorem oFr.z {a b : Nat} {v : zV} {h0 h : zH} (ha : (a = 17 ∧ b = 4) ∨ (18 ≤ a ∧ a ≤ 23)) (g : oFr h0 h) : oFr h0 (zset h a b v) := fun x y hn => (zset_ne (fun c => hn (by omega))).trans (g x y hn)
theorem oFr.trans {h0 h h' : zH} (g : oFr h0 h) (f : oFr h h') : oFr h0 h' := fun a b hn => (f a b hn).trans (g a b hn)
theorem bEn_n {τ : PT} {i : Nat} (h : τ 0 i ≠ 0) : bEn τ i = 0 := by
  unfold bEn
  exact if_neg h
theorem cx_wordK {D : zD} {T : zT} {N : Nat} {h : zH} {Q : zR → Prop} {B : Nat → Int} {n m i : Nat} {τ : PT} (hT : hTab T) (hO : vOK T) (K : Int) (hX : cX B n m τ i h) (h1 : τ 0 i = 1) (h3 : τ 3 i = K) (k : Q (h, some (0, K))) : vP D T N 126 0 h [some (2, 10)] [] Q := cx_wordHere hT hO hX (by
  unfold bHw
  rw [if_pos h1, h3]
  exact k)
theorem iC_b {x : Int} (h : iC x ≠ 0) : x = 60 ∨ x = 62 ∨ x = 61 := by
  unfold iC at h
  by_cases c : x = 60 ∨ x = 62 ∨ x = 61
  · exact c
  · rw [if_neg c] at h; exact absurd rfl h
theorem cx_cmp {D : zD} {T : zT} {N : Nat} {h : zH} {Q : zR → Prop} {B : Nat → Int} {n m i : Nat} {τ : PT} (hT : hTab T) (hO : vOK T) (hX : cX B n m τ i h) (k1 : ∀ g x, tF h g → pCm τ i = .inr (x, i + 1) → 0 ≤ x → cX B n m τ (i + 1) g → Q (g, some (0, x))) (k2 : ∀ g e, tF h g → pCm τ i = .inl e → cB e g → Q (g, some (0, -1))) : vP D T N 122 0 h [some (2, 10), none] [] Q := by
  have a2 := hX.im
  refine vP_hv (fun hv => qx_cmp hT hO hv hX (fun c d => ?_) (fun c d _ => ?_) (fun c d e => ?_) (fun c d => ?_) (fun c d => ?_))
  · exact k2 _ _ tF_b (if_neg (fun f => f.2 d)) (cB_f2 (by omega))
  · have := iC_b d
    exact k1 _ _ tF_a (if_pos ⟨c, d⟩) (by omega) (hX.next (by omega) (by omega))
  · have a1 := hX.lst (by omega) (by omega)
    omega
  · exact k2 _ _ tF_b (if_neg (fun f => c f.1)) (cB_f1 d)
  · exact k2 _ _ tF_b (if_neg (fun f => c f.1)) (cB_f2 d)
/-! the reference -/
theorem rx_stepK {D : zD} {T : zT} {N : Nat} {h : zH} {Q : zR → Prop} {B : Nat → Int} {n m i : Nat} {τ : PT} {K : Int} (hT : hTab T) (hO : vOK T) (v : Int) (hX : rX B n m τ i h) (h1 : τ 0 i = 1) (h3 : τ 3 i = K) (hv : (if K = 8 then (0 : Int) else if K = 9 then 1 else if K = 10 then 2 else if K = 11 then 3 else if K = 12 then 4 else if K = 13 then 5 else if K = 14 then 6 else if K = 15 then 7 else if K = 19 then 8 else if K = 21 then 9 else -1) = v) (k : Q (h, some (0, v))) : vP D T N 318 0 h [some (2, 121)] [] Q := rx_stepWord hT hO hX (by
  rw [swd_v h1, h3, hv]
  exact k)
theorem rx_testK {D : zD} {T : zT} {N : Nat} {h : zH} {Q : zR → Prop} {B : Nat → Int} {n m i : Nat} {τ : PT} {K : Int} (hT : hTab T) (hO : vOK T) (v : Int) (hX : rX B n m τ i h) (h1 : τ 0 i = 1) (h3 : τ 3 i = K) (hv : (if K = 16 then (0 : Int) else if K = 17 then 1 else if K = 18 then 2 else -1) = v) (k : Q (h, some (0, v))) : vP D T N 325 0 h [some (2, 121)] [] Q := rx_testWord hT hO hX (by
  rw [twd_v h1, h3, hv]
  exact k)
theorem pCm_y {τ : PT} {i : Nat} {x : Int} (hx : iC x ≠ 0) (h : bG τ x i ≠ 0) : pCm τ i = .inr (τ 3 i, i + 1) := by
  obtain ⟨a, b⟩ := bG_y.mp h
  exact if_pos ⟨a, by rw [b]; exact hx⟩
theorem bG_0 {τ : PT} {w : Int} {i : Nat} : bG τ w i = 0 ↔ ¬ (τ 0 i = 3 ∧ τ 3 i = w) := by
  unfold bG
  by_cases c : τ 0 i = 3 ∧ τ 3 i = w
  · rw [if_pos c]; exact ⟨fun f => absurd f (by decide), fun f => absurd c f⟩
  · rw [if_neg c]; exact ⟨fun _ => c, fun _ => rfl⟩
theorem pCm_n {τ : PT} {i : Nat} (h0 : bG τ 60 i = 0) (h2 : bG τ 62 i = 0) (h1 : bG τ 61 i = 0) : pCm τ i = .inl (eF τ i 2) := by
  have a := bG_0.mp h0
  have b := bG_0.mp h1
  have c := bG_0.mp h2
  refine if_neg (fun f => ?_)
  have d := iC_b f.2
  have e := f.1
  omega
def rNm (P : PT) (h : zH) : Prop := ∀ k : Nat, (k : Int) < P 0 3 → h 128 k = (1, P 4 k)
theorem rNm.qf {P : PT} {h h' : zH} (g : rNm P h) (f : qF h h') : rNm P h' := fun k hk => (f 128 k (fun c => by omega)).trans (g k hk)
theorem rNm.z {P : PT} {h : zH} {a b : Nat} {v : zV} (ha : a ≠ 128) (g : rNm P h) : rNm P (zset h a b v) := fun k hk => (zset_ne (fun c => ha c.1.symm)).trans (g k hk)
def roF (h0 h : zH) : Prop := ∀ a b, ¬ ((a = 121 ∧ ((12 ≤ b ∧ b ≤ 19) ∨ b = 25)) ∨ (a = 126 ∧ 2477 ≤ b)) → h a b = h0 a b
theorem roF.rfl {h : zH} : roF h h := fun _ _ _ => Eq.refl _
theorem roF.t {h0 h h' : zH} (g : roF h0 h) (f : qF h h') : roF h0 h' := fun a b hn => (f a b (fun c => hn (by omega))).trans (g a b hn)
theorem roF.z {a b : Nat} {v : zV} {h0 h : zH} (ha : (a = 121 ∧ b = 25) ∨ (a = 126 ∧ 2477 ≤ b)) (g : roF h0 h) : roF h0 (zset h a b v) := fun x y hn => (zset_ne (fun c => hn (by omega))).trans (g x y hn)
theorem roF.trans {h0 h h' : zH} (g : roF h0 h) (f : roF h h') : roF h0 h' := fun a b hn => (f a b hn).trans (g a b hn)
theorem roF.qf {h h' : zH} (f : qF h h') : roF h h' := fun a b hn => f a b (fun c => hn (by omega))
theorem pNm_i {τ P : PT} {i : Nat} {a : Int × Nat} (h : pNm τ P i = .inr a) : a.2 = i + 1 := by
  unfold pNm at h
  by_cases c : bN τ i ≠ 0
  · rw [if_pos c] at h
    by_cases d : pIx (P 4) (τ 4 i) (P 0 3).toNat 0 ≠ -1
    · rw [if_pos d] at h; cases h; rfl
    · rw [if_neg d] at h; cases h
  · rw [if_neg c] at h; cases h
theorem pCm_i {τ : PT} {i : Nat} {a : Int × Nat} (h : pCm τ i = .inr a) : a.2 = i + 1 := by
  unfold pCm at h
  by_cases c : τ 0 i = 3 ∧ iC (τ 3 i) ≠ 0
  · rw [if_pos c] at h; cases h; rfl
  · rw [if_neg c] at h; cases h
theorem oArg_i {τ P : PT} {w : Int} {i j : Nat} (h : oArg τ P w i = .inr j) : i ≤ j := by
  unfold oArg at h
  by_cases c1 : w = 8 ∨ w = 10 ∨ w = 16
  · rw [if_pos c1] at h
    obtain ⟨a, h1, h⟩ := eb_i h
    obtain ⟨b, h2, h⟩ := eb_i h
    obtain ⟨c, h3, h⟩ := eb_i h
    cases h
    have e1 := pNum_j h1
    have e2 := pWord_i h2
    have e3 := pCell_i h3
    omega
  · rw [if_neg c1] at h
    by_cases c2 : w = 9
    · rw [if_pos c2] at h
      obtain ⟨a, h1, h⟩ := eb_i h
      cases h
      have e1 := pNum_j h1
      omega
    · rw [if_neg c2] at h
      by_cases c3 : w = 11
      · rw [if_pos c3] at h
        obtain ⟨a, h1, h⟩ := eb_i h
        obtain ⟨b, h2, h⟩ := eb_i h
        obtain ⟨c, h3, h⟩ := eb_i h
        cases h
        have e1 := pNum_j h1
        have e2 := pWord_i h2
        have e3 := pNum_j h3
        omega
      · rw [if_neg c3] at h
        by_cases c4 : w = 12
        · rw [if_pos c4] at h
          obtain ⟨a, h1, h⟩ := eb_i h
          obtain ⟨b, h2, h⟩ := eb_i h
          obtain ⟨c, h3, h⟩ := eb_i h
          cases h
          have e1 := pNum_j h1
          have e2 := pWord_i h2
          have e3 := pNum_j h3
          omega
        · rw [if_neg c4] at h
          by_cases c5 : w = 13 ∨ w = 17
          · rw [if_pos c5] at h
            obtain ⟨a, h1, h⟩ := eb_i h
            cases h
            have e1 := pNm_i h1
            omega
          · rw [if_neg c5] at h
            by_cases c6 : w = 19
            · rw [if_pos c6] at h
              obtain ⟨a, h1, h⟩ := eb_i h
              cases h
              have e1 := pNum_j h1
              omega
            · rw [if_neg c6] at h
              by_cases c7 : w = 18
              · rw [if_pos c7] at h
                obtain ⟨a, h1, h⟩ := eb_i h
                obtain ⟨b, h2, h⟩ := eb_i h
                cases h
                have e1 := pCm_i h1
                have e2 := pNum_j h2
                omega
              · rw [if_neg c7] at h
                cases h
                exact Nat.le_refl _
theorem pStep_i {τ P : PT} {s d i s' d' j : Nat} (h : pStep τ P s d i = .inr (s', d', j)) : i + 2 ≤ j := by
  unfold pStep at h
  by_cases c1 : bW τ 20 i ≠ 0
  · rw [if_pos c1] at h
    by_cases c2 : d = 0
    · rw [if_pos c2] at h; cases h
    · rw [if_neg c2] at h
      obtain ⟨a, h1, h⟩ := eb_i h
      cases h
      have e1 := pSg_i h1
      omega
  · rw [if_neg c1] at h
    by_cases c2 : swd τ i < 0
    · rw [if_pos c2] at h; cases h
    · rw [if_neg c2] at h
      by_cases c3 : 30 ≤ s
      · rw [if_pos c3] at h; cases h
      · rw [if_neg c3] at h
        by_cases c4 : opW (τ 3 i) = true ∧ 3 ≤ d
        · rw [if_pos c4] at h; cases h
        · rw [if_neg c4] at h
          obtain ⟨a, h1, h⟩ := eb_i h
          obtain ⟨b, h2, h⟩ := eb_i h
          cases h
          have e2 := pSg_i h2
          by_cases c5 : τ 3 i = 15
          · rw [if_pos c5] at h1
            by_cases c6 : twd τ (i + 1) < 0
            · rw [if_pos c6] at h1; cases h1
            · rw [if_neg c6] at h1
              have e1 := oArg_i h1
              omega
          · rw [if_neg c5] at h1
            have e1 := oArg_i h1
            omega
theorem pStep_d {τ P : PT} {s d i s' d' j : Nat} (h : pStep τ P s d i = .inr (s', d', j)) (hE : bW τ 20 i = 0) : s' = s + 1 ∧ s < 30 ∧ (opW (τ 3 i) = true → d' = d + 1 ∧ d < 3) ∧ (opW (τ 3 i) = false → d' = d) := by
  unfold pStep at h
  rw [if_neg (fun c => c hE)] at h
  by_cases c2 : swd τ i < 0
  · rw [if_pos c2] at h; cases h
  · rw [if_neg c2] at h
    by_cases c3 : 30 ≤ s
    · rw [if_pos c3] at h; cases h
    · rw [if_neg c3] at h
      by_cases c4 : opW (τ 3 i) = true ∧ 3 ≤ d
      · rw [if_pos c4] at h; cases h
      · rw [if_neg c4] at h
        obtain ⟨a, h1, h⟩ := eb_i h
        obtain ⟨b, h2, h⟩ := eb_i h
        cases h
        refine ⟨rfl, by omega, fun c => ⟨if_pos c, ?_⟩, fun c => if_neg (fun f => by rw [c] at f; cases f)⟩
        exact Nat.lt_of_not_le (fun f => c4 ⟨c, f⟩)
def oXr (h0 h : zH) : Prop := ∀ a b, ¬ ((a = 10 ∧ 6 ≤ b ∧ b ≤ 8) ∨ (12 ≤ a ∧ a ≤ 15) ∨ (17 ≤ a ∧ a ≤ 23)) → h a b = h0 a b
def cOx (B : Nat → Int) (n r : Nat) (P : PT) (h0 : zH) (x : zR) : Prop := ∃ m τ, Tks B n m τ ∧ ((∃ e, pOrd τ P 900 0 0 0 = .inl e ∧ x.2 = some (0, 0) ∧ cB e x.1) ∨ (∃ (s : Nat) (z : Int), pOrd τ P 900 0 0 0 = .inr s ∧ x.2 = some (0, 1) ∧ x.1 18 1 = (0, (s : Int)) ∧ x.1 18 0 = (0, z) ∧ 0 ≤ z ∧ x.1 10 7 = (0, 0) ∧ x.1 10 8 = (0, -1))) ∧ oXr h0 x.1
theorem cOx_k {D : zD} {T : zT} {N mi pc : Nat} {l : List (Option zV)} {S : List zV} {Q : zR → Prop} {B : Nat → Int} {n r : Nat} {P : PT} {h : zH} (H : vP D T N mi pc h l S (cOx B n r P h)) (k1 : ∀ g m τ s z, oXr h g → Tks B n m τ → pOrd τ P 900 0 0 0 = .inr s → g 18 1 = (0, (s : Int)) → g 18 0 = (0, z) → 0 ≤ z → g 10 7 = (0, 0) → g 10 8 = (0, -1) → Q (g, some (0, 1))) (k2 : ∀ g m τ e, oXr h g → Tks B n m τ → pOrd τ P 900 0 0 0 = .inl e → cB e g → Q (g, some (0, 0))) : vP D T N mi pc h l S Q := vP_Q (fun x hx => by
  obtain ⟨g, v⟩ := x
  obtain ⟨m, τ, hK, h1, hf⟩ := hx
  rcases h1 with ⟨e, h1, h2, h3⟩ | ⟨s, z, h1, h2, h3, h4, h5, h6, h7⟩
  · have h2 : v = some (0, 0) := h2
    subst h2
    exact k2 g m τ e hf hK h1 h3
  · have h2 : v = some (0, 1) := h2
    subst h2
    exact k1 g m τ s z hf hK h1 h3 h4 h5 h6 h7) H
def cOd (r : Nat) (B : Nat → Int) (n : Nat) (P : PT) (h0 : zH) (x : zR) : Prop := (∀ a b, ¬ ((a = 0 ∧ b = 0) ∨ a = 10 ∨ (12 ≤ a ∧ a ≤ 15) ∨ (17 ≤ a ∧ a ≤ 23) ∨ (r + 10 ≤ a ∧ a ≤ r + 14)) → x.1 a b = h0 a b) ∧ ∃ m τ, Tks B n m τ ∧ ((∃ e, pOrd τ P 900 0 0 0 = .inl e ∧ x.2 = some (0, -1) ∧ x.1 10 9 = (0, e.1) ∧ x.1 10 10 = (0, e.2) ∧ ∀ j, x.1 (r + 10) j = h0 (r + 10) j) ∨ (∃ s : Nat, pOrd τ P 900 0 0 0 = .inr s ∧ x.2 = some (0, (s : Int)) ∧ x.1 10 9 = (0, 0) ∧ x.1 10 10 = (0, -1) ∧ x.1 (r + 10) 1 = (0, (s : Int)) ∧ ∃ z : Int, 0 ≤ z ∧ x.1 (r + 10) 0 = (0, z)))
end
section
/-! from the texts of contents: what the readers of ORDERS say of what they lay down -/
theorem zset_e {h : zH} {r k k' : Nat} {v : zV} (e : k' = k) : zset h r k v r k' = v := by
  subst e
  exact zset_same
theorem kr_f {h h' t : zH} {r : Nat} (f : ∀ e, h' r e = h r e) (k : ∀ e, h r e = t r e) : ∀ e, h' r e = t r e := fun e => (f e).trans (k e)
theorem kr_n {h h0 : zH} {r a k : Nat} {v : zV} (hr : a ≠ r) (g : ∀ e, h r e = h0 r e) : ∀ e, zset h a k v r e = h0 r e := fun e => (zset_ne (fun c => hr c.1.symm)).trans (g e)
theorem kr_z {h h0 : zH} {r k : Nat} {v : zV} (g : ∀ e, h r e = h0 r e) : ∀ e, zset h r k v r e = zset h0 r k v r e := fun e => by
  by_cases c : e = k
  · rw [c, zset_same, zset_same]
  · rw [zset_ne (fun f => c f.2), zset_ne (fun f => c f.2)]
    exact g e
theorem cell_wv {w x y : Int} (h0 : 0 ≤ x) (h8 : x < 8) : w * ((y * 8 + x) / 8) + (y * 8 + x) % 8 = w * y + x := by
  rw [show (y * 8 + x) / 8 = y from by omega, show (y * 8 + x) % 8 = x from by omega]
theorem ho_at {h g : zH} {d idx : Nat} {z : Int} (ho : ∀ e : Nat, e < d → 0 ≤ (h 23 e).2 ∧ (h 23 e).2 < z) (f : g 23 idx = h 23 idx) (hi : idx < d) : 0 ≤ (g 23 idx).2 ∧ (g 23 idx).2 < z := by
  rw [f]
  exact ho _ hi
theorem eb_a {α β γ : Type} {x : Er ⊕ α} {k : α → Er ⊕ β} {k' : β → Er ⊕ γ} : eb (eb x k) k' = eb x fun a => eb (k a) k' := by
  cases x with
  | inl e => rfl
  | inr a => rfl
def oArV (τ P : PT) (w : Int) (i : Nat) : Er ⊕ (Int × Int × Nat) := if w = 8 ∨ w = 10 ∨ w = 16 then eb (pNum τ 0 (P 0 2 - 1) i) fun a => eb (pWord τ 6 a.2) fun j => eb (pCell τ (P 0 0) (P 0 1) j) fun c => .inr (a.1, c.2.1 * 8 + c.1, c.2.2)
  else if w = 9 then eb (pNum τ 0 (P 0 2 - 1) i) fun a => .inr (a.1, 0, a.2)
  else if w = 11 then eb (pNum τ 0 (P 0 2 - 1) i) fun a => eb (pWord τ 7 a.2) fun j => eb (pNum τ 0 (P 0 2 - 1) j) fun b => .inr (a.1, b.1, b.2)
  else if w = 12 then eb (pNum τ 0 (P 0 2 - 1) i) fun a => eb (pWord τ 3 a.2) fun j => eb (pNum τ 0 12 j) fun b => .inr (a.1, b.1, b.2)
  else if w = 13 ∨ w = 17 then eb (pNm τ P i) fun a => .inr (a.1, 0, a.2)
  else if w = 19 then eb (pNum τ 1 99 i) fun a => .inr (a.1, 0, a.2)
  else if w = 18 then eb (pCm τ i) fun a => eb (pNum τ 0 9999 a.2) fun b => .inr (a.1, b.1, b.2)
  else .inr (0, 0, i)
theorem oArg_V {τ P : PT} {w : Int} {i : Nat} : oArg τ P w i = eb (oArV τ P w i) fun v => .inr v.2.2 := by
  unfold oArg oArV
  by_cases c1 : w = 8 ∨ w = 10 ∨ w = 16
  · rw [if_pos c1, if_pos c1]; simp only [eb_a, eb_r]
  rw [if_neg c1, if_neg c1]
  by_cases c2 : w = 9
  · rw [if_pos c2, if_pos c2]; simp only [eb_a, eb_r]
  rw [if_neg c2, if_neg c2]
  by_cases c3 : w = 11
  · rw [if_pos c3, if_pos c3]; simp only [eb_a, eb_r]
  rw [if_neg c3, if_neg c3]
  by_cases c4 : w = 12
  · rw [if_pos c4, if_pos c4]; simp only [eb_a, eb_r]
  rw [if_neg c4, if_neg c4]
  by_cases c5 : w = 13 ∨ w = 17
  · rw [if_pos c5, if_pos c5]; simp only [eb_a, eb_r]
  rw [if_neg c5, if_neg c5]
  by_cases c6 : w = 19
  · rw [if_pos c6, if_pos c6]; simp only [eb_a, eb_r]
  rw [if_neg c6, if_neg c6]
  by_cases c7 : w = 18
  · rw [if_pos c7, if_pos c7]; simp only [eb_a, eb_r]
  rw [if_neg c7, if_neg c7]
  rfl
theorem pIx_bq {f : Nat → Int} {w : Int} : ∀ {n k : Nat}, pIx f w n k ≠ -1 → (k : Int) ≤ pIx f w n k ∧ pIx f w n k < ((k + n : Nat) : Int)
  | 0, _, h => absurd rfl h
  | n + 1, k, h => by
    have e : pIx f w (n + 1) k = if f k = w then (k : Int) else pIx f w n (k + 1) := rfl
    rw [e] at h ⊢
    by_cases c : f k = w
    · rw [if_pos c]; omega
    · rw [if_neg c] at h ⊢
      have := pIx_bq h
      omega
def pItV (τ P : PT) (i : Nat) : Er ⊕ (Int × Int × Int × Nat) := if τ 3 i = 15 then eb (oArV τ P (τ 3 (i + 1)) (i + 1 + 1)) fun v => .inr (τ 3 (i + 1), v) else eb (oArV τ P (τ 3 i) (i + 1)) fun v => .inr (τ 3 i, v)
theorem pItV_a {τ P : PT} {i j : Nat} {K u v : Int} (h3 : τ 3 i = K) (hK : K ≠ 15) (h : oArV τ P K (i + 1) = .inr (u, v, j)) : pItV τ P i = .inr (K, u, v, j) := by
  unfold pItV
  rw [h3, if_neg hK, h, eb_r]
theorem pItV_b {τ P : PT} {i j : Nat} {K u v : Int} (h3 : τ 3 i = 15) (h3b : τ 3 (i + 1) = K) (h : oArV τ P K (i + 1 + 1) = .inr (u, v, j)) : pItV τ P i = .inr (K, u, v, j) := by
  unfold pItV
  rw [if_pos h3, h3b, h, eb_r]
def oW4 (h g : zH) (z K u v : Int) : Prop := (∀ e, g 19 e = zset h 19 z.toNat (0, K) 19 e) ∧ (∀ e, g 20 e = zset h 20 z.toNat (0, u) 20 e) ∧ (∀ e, g 21 e = zset h 21 z.toNat (0, v) 21 e) ∧ ∀ e, g 22 e = zset h 22 z.toNat (0, -1) 22 e
def oE4 (h g : zH) (z f : Int) : Prop := (∀ e, g 19 e = zset h 19 z.toNat (0, 20) 19 e) ∧ (∀ e, g 20 e = zset h 20 z.toNat (0, 0) 20 e) ∧ (∀ e, g 21 e = zset h 21 z.toNat (0, 0) 21 e) ∧ ∀ e, g 22 e = zset (zset (zset h 22 z.toNat (0, -1)) 22 z.toNat (0, f)) 22 f.toNat (0, z) 22 e
def rKd (k : Nat) : Int := if k = 8 then 0 else if k = 9 then 1 else if k = 10 then 2 else if k = 11 then 3 else if k = 12 then 4 else if k = 13 then 5 else if k = 14 then 6 else if k = 19 then 8 else if k = 21 then 9 else 7
end
