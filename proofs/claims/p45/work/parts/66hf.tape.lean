/-! THE TAPE OF BOTH SIDES: how long it is behind feed(), land(), orders() -/
theorem c_append {D : zD} {T : zT} (hT : hTab T) (hO : vOK T) {N : Nat} {h : zH} {Q : zR → Prop} (x : Int) (hL : 0 ≤ (h 10 1).2 ∧ (h 10 1).2 ≤ 896) (k : ∀ h' : zH, (h' 10 1).2 = (h 10 1).2 + 4 → Q (h', none)) : vP D T N 101 0 h [some (2, 10), some (0, x), none] [] Q := by
  refine vP_hv (fun hv => y_X8_append hT hO x hv hL ?_ ?_ ?_ ?_ ?_)
  · intro _ _ _ _ _ _ _ _ _ _ _ _
    refine k _ ?_
    rw [zset_same]
    show (h 10 1).2 + 1 + 1 + 1 + 1 = _
    omega
  · intros; omega
  · intros; omega
  · intros; omega
  · intros; omega
theorem r_lay {D : zD} {T : zT} (hT : hTab T) (hO : vOK T) {N : Nat} {h : zH} {Q : zR → Prop} (x : Int) (hL : 0 ≤ (h 121 8).2 ∧ (h 121 8).2 ≤ 896) (k : ∀ h' : zH, (h' 121 8).2 = (h 121 8).2 + 4 → Q (h', none)) : vP D T N 269 0 h [some (2, 121), some (0, x), none] [] Q := by
  refine vP_hv (fun hv => y_X12_lay hT hO x hv hL ?_)
  intro _ _ _ _ _ _ _ _ _ _ _ _
  refine k _ ?_
  rw [zset_same]
  show (h 121 8).2 + 1 + 1 + 1 + 1 = _
  omega
def cFd (h : zH) (r : zR) : Prop := (900 < (h 10 1).2 + 20 ∧ r.2 = some (0, -1) ∧ (r.1 10 1).2 = (h 10 1).2) ∨ ((h 10 1).2 + 20 ≤ 900 ∧ r.2 = some (0, (h 10 1).2 + 20) ∧ (r.1 10 1).2 = (h 10 1).2 + 20)
def rFd (h : zH) (r : zR) : Prop := (900 < (h 121 8).2 + 20 ∧ r.2 = some (0, -1) ∧ (r.1 121 8).2 = (h 121 8).2) ∨ ((h 121 8).2 + 20 ≤ 900 ∧ r.2 = some (0, (h 121 8).2 + 20) ∧ (r.1 121 8).2 = (h 121 8).2 + 20)
theorem cFd_ok {D : zD} {T : zT} (hT : hTab T) (hO : vOK T) {N : Nat} {h : zH} (a b c d e : Int) (hL : 0 ≤ (h 10 1).2 ∧ (h 10 1).2 ≤ 900) : vP D T N 155 0 h [some (2, 0), some (0, a), some (0, b), some (0, c), some (0, d), some (0, e)] [] (cFd h) := by
  refine vP_hv (fun hv => y_X11_feed hT hO a b c d e hv hL (fun c1 => Or.inl ⟨c1, rfl, rfl⟩) (fun c1 => ?_))
  refine c_append hT hO a ⟨hL.1, by omega⟩ (fun h1 e1 => vP_hv (fun hv1 => y_X11_feed_1 hT hO a b c d e hv1 ?_))
  have e1 : (h1 10 1).2 = (h 10 1).2 + 4 := e1
  refine c_append hT hO b ⟨by show 0 ≤ (h1 10 1).2; omega, by show (h1 10 1).2 ≤ 896; omega⟩ (fun h2 e2 => vP_hv (fun hv2 => y_X11_feed_2 hT hO a b c d e hv2 ?_))
  have e2 : (h2 10 1).2 = (h1 10 1).2 + 4 := e2
  refine c_append hT hO c ⟨by show 0 ≤ (h2 10 1).2; omega, by show (h2 10 1).2 ≤ 896; omega⟩ (fun h3 e3 => vP_hv (fun hv3 => y_X11_feed_3 hT hO a b c d e hv3 ?_))
  have e3 : (h3 10 1).2 = (h2 10 1).2 + 4 := e3
  refine c_append hT hO d ⟨by show 0 ≤ (h3 10 1).2; omega, by show (h3 10 1).2 ≤ 896; omega⟩ (fun h4 e4 => vP_hv (fun hv4 => y_X11_feed_4 hT hO a b c d e hv4 ?_))
  have e4 : (h4 10 1).2 = (h3 10 1).2 + 4 := e4
  refine c_append hT hO e ⟨by show 0 ≤ (h4 10 1).2; omega, by show (h4 10 1).2 ≤ 896; omega⟩ (fun h5 e5 => vP_hv (fun hv5 => y_X11_feed_5 hT hO a b c d e hv5 ?_))
  have e5 : (h5 10 1).2 = (h4 10 1).2 + 4 := e5
  have e6 : (h5 10 1).2 = (h 10 1).2 + 20 := by omega
  refine Or.inr ⟨c1, ?_, e6⟩
  show some ((0, (h5 10 1).2) : zV) = _
  rw [e6]
theorem rFd_ok {D : zD} {T : zT} (hT : hTab T) (hO : vOK T) {N : Nat} {h : zH} (a b c d e : Int) (hL : 0 ≤ (h 121 8).2 ∧ (h 121 8).2 ≤ 900) : vP D T N 227 0 h [some (2, 121), some (0, a), some (0, b), some (0, c), some (0, d), some (0, e)] [] (rFd h) := by
  refine vP_hv (fun hv => y_X12_feed hT hO a b c d e hv hL (fun c1 => Or.inl ⟨c1, rfl, ?_⟩) (fun c1 => ?_))
  · show (zset h 121 1 (0, 0) 121 8).2 = _
    rw [zset_ne (by omega)]
  have e0 : (zset h 121 1 (0, 0) 121 8).2 = (h 121 8).2 := by rw [zset_ne (by omega)]
  refine r_lay hT hO a ⟨by rw [e0]; omega, by rw [e0]; omega⟩ (fun h1 e1 => vP_hv (fun hv1 => y_X12_feed_1 hT hO a b c d e hv1 ?_))
  rw [e0] at e1
  have e1 : (h1 121 8).2 = (h 121 8).2 + 4 := e1
  refine r_lay hT hO b ⟨by show 0 ≤ (h1 121 8).2; omega, by show (h1 121 8).2 ≤ 896; omega⟩ (fun h2 e2 => vP_hv (fun hv2 => y_X12_feed_2 hT hO a b c d e hv2 ?_))
  have e2 : (h2 121 8).2 = (h1 121 8).2 + 4 := e2
  refine r_lay hT hO c ⟨by show 0 ≤ (h2 121 8).2; omega, by show (h2 121 8).2 ≤ 896; omega⟩ (fun h3 e3 => vP_hv (fun hv3 => y_X12_feed_3 hT hO a b c d e hv3 ?_))
  have e3 : (h3 121 8).2 = (h2 121 8).2 + 4 := e3
  refine r_lay hT hO d ⟨by show 0 ≤ (h3 121 8).2; omega, by show (h3 121 8).2 ≤ 896; omega⟩ (fun h4 e4 => vP_hv (fun hv4 => y_X12_feed_4 hT hO a b c d e hv4 ?_))
  have e4 : (h4 121 8).2 = (h3 121 8).2 + 4 := e4
  refine r_lay hT hO e ⟨by show 0 ≤ (h4 121 8).2; omega, by show (h4 121 8).2 ≤ 896; omega⟩ (fun h5 e5 => vP_hv (fun hv5 => y_X12_feed_5 hT hO a b c d e hv5 ?_))
  have e5 : (h5 121 8).2 = (h4 121 8).2 + 4 := e5
  have e6 : (h5 121 8).2 = (h 121 8).2 + 20 := by omega
  refine Or.inr ⟨c1, ?_, e6⟩
  show some ((0, (h5 121 8).2) : zV) = _
  rw [e6]
-- behind land(n), orders(n): as it was, or empty
def cLn (m n : Int) (h : zH) (r : zR) : Prop := ((n < 0 ∨ (h 10 1).2 < n ∨ m < n) ∧ (r.1 10 1).2 = (h 10 1).2) ∨ ((0 ≤ n ∧ n ≤ (h 10 1).2 ∧ n ≤ m) ∧ (r.1 10 1).2 = 0)
def rLn (m n : Int) (h : zH) (r : zR) : Prop := ((n < 0 ∨ (h 121 8).2 < n ∨ m < n) ∧ (r.1 121 8).2 = (h 121 8).2) ∨ ((0 ≤ n ∧ n ≤ (h 121 8).2 ∧ n ≤ m) ∧ (r.1 121 8).2 = 0)
theorem c10_z {h : zH} {v : zV} {k : Nat} : (zset h 0 k v 10 1).2 = (h 10 1).2 := by rw [zset_ne (by omega)]
theorem c_land33 {D : zD} {N : Nat} {h : zH} {n z : Int} (hn : 0 ≤ n) {g : zH} (hg : n ≤ (g 10 1).2) (h9 : n ≤ 900) : vP D TLw N 162 33 h [some (2, 0), some (0, n), none, none] [(0, z)] (cLn 900 n g) := by
  refine vP_hv (fun hv => y_X11_land33 TLw_T vOK_T n z hv ?_)
  refine vP_Q (fun r hr => Or.inr ⟨⟨hn, hg, h9⟩, ?_⟩) (vP_fr (r0 := 10) (w := 11) rfl (fwOK_of fs_cland_ok) (by decide))
  rw [hr, zset_ne (by omega), zset_ne (by omega), zset_same]
theorem c_orders40 {D : zD} {N : Nat} {h : zH} {n z : Int} (hn : 0 ≤ n) {g : zH} (hg : n ≤ (g 10 1).2) (h9 : n ≤ 300) : vP D TLw N 170 40 h [some (2, 0), some (0, n), none] [(0, z)] (cLn 300 n g) := by
  refine vP_hv (fun hv => y_X11_orders40 TLw_T vOK_T n z hv ?_)
  refine vP_Q (fun r hr => Or.inr ⟨⟨hn, hg, h9⟩, ?_⟩) (vP_fr (r0 := 10) (w := 11) rfl (fwOK_of fs_corders_ok) (by decide))
  rw [hr, zset_ne (by omega), zset_ne (by omega), zset_same]
/-- a call that answers a number or a truth, then what its answer comes to -/
theorem vP_int {D : zD} {mi : Nat} (t : List (List (Option zX))) (ht : x_nth zMT mi = some t) (hb : rtT 1 t = true) {N pc : Nat} {h : zH} {l : List (Option zV)} {S : List zV} {Q : zR → Prop} (k : ∀ (h' : zH) (z : Int), Q (h', some (0, z))) : vP D TLw N mi pc h l S Q := vP_Q (fun r hr => by
  obtain ⟨h', v⟩ := r
  obtain ⟨z, hz⟩ := hr
  have hz : v = some (0, z) := hz
  rw [hz]
  exact k h' z) (vP_rt t ht hb (by decide))
theorem cLd_ok {D : zD} {N : Nat} {h : zH} (n : Int) (hL : (h 10 1).2 ≤ 900) (h8 : h 0 8 = (2, 24) ∨ h 0 8 = (2, 39)) : vP D TLw N 162 0 h [some (2, 0), some (0, n), none, none] [] (cLn 900 n h) := by
  refine vP_hv (fun hv => ?_)
  rcases h8 with e | e
  · exact y_X11_land_24 TLw_T vOK_T n hv e (fun c => Or.inl ⟨Or.inl c, rfl⟩) (fun _ c => Or.inl ⟨Or.inr (Or.inl c), rfl⟩) (fun c1 c2 => vP_int zt_X3_readText rfl (by decide +kernel) (fun h' z => c_land33 c1 c2 (by omega)))
  · exact y_X11_land_39 TLw_T vOK_T n hv e (fun c => Or.inl ⟨Or.inl c, rfl⟩) (fun _ c => Or.inl ⟨Or.inr (Or.inl c), rfl⟩) (fun c1 c2 => vP_int zt_X3_readText rfl (by decide +kernel) (fun h' z => c_land33 c1 c2 (by omega)))
theorem cOr_ok {D : zD} {N : Nat} {h : zH} (n : Int) (h7 : h 0 7 = (2, 24) ∨ h 0 7 = (2, 39)) : vP D TLw N 170 0 h [some (2, 0), some (0, n), none] [] (cLn 300 n h) := by
  refine vP_hv (fun hv => ?_)
  rcases h7 with e | e
  · exact y_X11_orders_24 TLw_T vOK_T n hv e (fun c => Or.inl ⟨Or.inl c, rfl⟩) (fun _ c => Or.inl ⟨Or.inr (Or.inl c), rfl⟩) (fun _ _ c => Or.inl ⟨Or.inr (Or.inr c), rfl⟩) (fun c1 c2 c3 => vP_int zt_X6_readText rfl (by decide +kernel) (fun h' z => c_orders40 c1 c2 c3))
  · exact y_X11_orders_39 TLw_T vOK_T n hv e (fun c => Or.inl ⟨Or.inl c, rfl⟩) (fun _ c => Or.inl ⟨Or.inr (Or.inl c), rfl⟩) (fun _ _ c => Or.inl ⟨Or.inr (Or.inr c), rfl⟩) (fun c1 c2 c3 => vP_int zt_X6_readText rfl (by decide +kernel) (fun h' z => c_orders40 c1 c2 c3))
theorem r8_z {h : zH} {v w u : zV} : (zset (zset (zset h 121 1 v) 121 0 w) 121 0 u 121 8).2 = (h 121 8).2 := by rw [zset_ne (by omega), zset_ne (by omega), zset_ne (by omega)]
theorem r8_o {h : zH} {n : Int} : zset (zset (zset (zset (zset (zset h 121 1 (0, 0)) 121 0 (0, 0)) 121 9 (0, n)) 121 8 (0, 0)) 121 16 (0, 0)) 121 12 (0, 0) 121 8 = (0, 0) := by rw [zset_ne (by omega), zset_ne (by omega), zset_same]
theorem rLd_ok {D : zD} {N : Nat} {h : zH} (n : Int) : vP D TLw N 268 0 h [some (2, 121), some (0, n), none] [] (rLn 900 n h) := by
  refine vP_hv (fun hv => y_X12_land TLw_T vOK_T n hv (fun c => Or.inl ⟨Or.inl c, rfl⟩) (fun _ c => Or.inl ⟨Or.inr (Or.inl c), rfl⟩) (fun _ _ c => Or.inl ⟨Or.inr (Or.inr c), rfl⟩) (fun c1 c2 c3 => ?_))
  refine vP_Q (fun r1 e1 => ?_) (vP_fr (r0 := 121) (w := 48) rfl (fwOK_of fs_next_ok) (by decide))
  refine vP_Q (fun r2 e2 => ?_) (vP_fr (r0 := 121) (w := 48) rfl (fwOK_of fs_opens_ok) (by decide))
  refine vP_Q (fun r3 e3 => Or.inr ⟨⟨c1, c2, c3⟩, ?_⟩) (vP_fr (r0 := 121) (w := 48) rfl (fwOK_of fs_rland_ok) (by decide))
  rw [e3, e2, e1, r8_o]
theorem rOr_ok {D : zD} {N : Nat} {h : zH} (n : Int) : vP D TLw N 289 0 h [some (2, 121), some (0, n), none] [] (rLn 300 n h) := by
  refine vP_hv (fun hv => y_X12_orders TLw_T vOK_T n hv (fun c => Or.inl ⟨Or.inl c, rfl⟩) (fun _ c => Or.inl ⟨Or.inr (Or.inl c), rfl⟩) (fun _ _ c => Or.inl ⟨Or.inr (Or.inr c), rfl⟩) (fun c1 c2 c3 => ?_))
  refine vP_Q (fun r1 e1 => ?_) (vP_fr (r0 := 121) (w := 48) rfl (fwOK_of fs_next_ok) (by decide))
  refine vP_Q (fun r2 e2 => ?_) (vP_fr (r0 := 121) (w := 48) rfl (fwOK_of fs_opens_ok) (by decide))
  refine vP_Q (fun r3 e3 => Or.inr ⟨⟨c1, c2, c3⟩, ?_⟩) (vP_fr (r0 := 121) (w := 48) rfl (fwOK_of fs_rorders_ok) (by decide))
  rw [e3, e2, e1, r8_o]
/-! p10: what land() answers; the tape is alike in both, the two LANDS of the class are two -/
abbrev tpC : aM := [(10, 1, 1)]
abbrev tpR : aM := [(121, 8, 8)]
theorem tpC_in : aIn tpC 10 1 := ⟨_, List.mem_cons_self, rfl, Nat.le_refl _, Nat.le_refl _⟩
theorem tpR_in : aIn tpR 121 8 := ⟨_, List.mem_cons_self, rfl, Nat.le_refl _, Nat.le_refl _⟩
theorem lZ.b10 {D : zD} {h : zH} (hZ : lZ D h) : 0 ≤ (h 10 1).2 ∧ (h 10 1).2 ≤ 900 := (hZ.bd (lo := 1) (hi := 1) (k := 0) (a := 0) (b := 900) ty_10 rfl (by decide +kernel) 1 (Nat.le_refl _) (Nat.le_refl _)).2
theorem lZ.b121 {D : zD} {h : zH} (hZ : lZ D h) : 0 ≤ (h 121 8).2 ∧ (h 121 8).2 ≤ 900 := (hZ.bd (lo := 8) (hi := 8) (k := 0) (a := 0) (b := 900) ty_121 rfl (by decide +kernel) 8 (Nat.le_refl _) (Nat.le_refl _)).2
theorem lZ.r7 {D : zD} {h : zH} (hZ : lZ D h) : h 0 7 = (2, 24) ∨ h 0 7 = (2, 39) := by
  obtain ⟨c, hc, e⟩ := hZ.ref (r := 0) (k := 7) (ks := [24, 39]) (by decide +kernel)
  rcases (by simpa using hc : c = 24 ∨ c = 39) with rfl | rfl
  · exact Or.inl e
  · exact Or.inr e
theorem lZ.r8 {D : zD} {h : zH} (hZ : lZ D h) : h 0 8 = (2, 24) ∨ h 0 8 = (2, 39) := by
  obtain ⟨c, hc, e⟩ := hZ.ref (r := 0) (k := 8) (ks := [24, 39]) (by decide +kernel)
  rcases (by simpa using hc : c = 24 ∨ c = 39) with rfl | rfl
  · exact Or.inl e
  · exact Or.inr e
/-! THE TAPE OF BOTH SIDES: bytes too -/
def apT (x : Int) (t : Int × (Nat → Int)) : Int × (Nat → Int) := (t.1 + 4, fun q => if q = t.1.toNat + 3 then vB (v32 7 x 0) else if q = t.1.toNat + 2 then vB (v32 7 x 8) else if q = t.1.toNat + 1 then vB (v32 7 x 16) else if q = t.1.toNat then vB (v32 7 x 24) else t.2 q)
def tC (h : zH) : Int × (Nat → Int) := ((h 10 1).2, fun q => (h 11 q).2)
def tR (h : zH) : Int × (Nat → Int) := ((h 121 8).2, fun q => (h 125 q).2)
def tEq (s t : Int × (Nat → Int)) : Prop := s.1 = t.1 ∧ ∀ q : Nat, q ≤ 899 → (q : Int) < s.1 → s.2 q = t.2 q
theorem tEq.ap {s t : Int × (Nat → Int)} (x : Int) (h0 : 0 ≤ s.1) (e : tEq s t) : tEq (apT x s) (apT x t) := by
  obtain ⟨e1, e2⟩ := e
  refine ⟨by show s.1 + 4 = t.1 + 4; rw [e1], fun q h9 hq => ?_⟩
  have hq : (q : Int) < s.1 + 4 := hq
  show (if q = s.1.toNat + 3 then vB (v32 7 x 0) else if q = s.1.toNat + 2 then vB (v32 7 x 8) else if q = s.1.toNat + 1 then vB (v32 7 x 16) else if q = s.1.toNat then vB (v32 7 x 24) else s.2 q) = (if q = t.1.toNat + 3 then vB (v32 7 x 0) else if q = t.1.toNat + 2 then vB (v32 7 x 8) else if q = t.1.toNat + 1 then vB (v32 7 x 16) else if q = t.1.toNat then vB (v32 7 x 24) else t.2 q)
  rw [e1]
  by_cases c3 : q = t.1.toNat + 3
  · rw [if_pos c3, if_pos c3]
  · by_cases c2 : q = t.1.toNat + 2
    · rw [if_neg c3, if_pos c2, if_neg c3, if_pos c2]
    · by_cases c1 : q = t.1.toNat + 1
      · rw [if_neg c3, if_neg c2, if_pos c1, if_neg c3, if_neg c2, if_pos c1]
      · by_cases c0 : q = t.1.toNat
        · rw [if_neg c3, if_neg c2, if_neg c1, if_pos c0, if_neg c3, if_neg c2, if_neg c1, if_pos c0]
        · rw [if_neg c3, if_neg c2, if_neg c1, if_neg c0, if_neg c3, if_neg c2, if_neg c1, if_neg c0]
          exact e2 q h9 (by omega)
theorem ap_heap {h : zH} {r k c : Nat} {L : Int} {b3 b2 b1 b0 : Int} (hrc : r ≠ c) (h0 : 0 ≤ L) (q : Nat) : (zset (zset (zset (zset (zset (zset (zset (zset h c L.toNat (0, b3)) r k (0, L + 1)) c (L + 1).toNat (0, b2)) r k (0, L + 1 + 1)) c (L + 1 + 1).toNat (0, b1)) r k (0, L + 1 + 1 + 1)) c (L + 1 + 1 + 1).toNat (0, b0)) r k (0, L + 1 + 1 + 1 + 1) c q).2 = (if q = L.toNat + 3 then b0 else if q = L.toNat + 2 then b1 else if q = L.toNat + 1 then b2 else if q = L.toNat then b3 else (h c q).2) := by
  rw [zset_ne (fun f => hrc f.1.symm)]
  by_cases c3 : q = L.toNat + 3
  · rw [if_pos c3, show (L + 1 + 1 + 1).toNat = q from by omega, zset_same]
  · rw [if_neg c3, zset_ne (fun f => c3 (by omega)), zset_ne (fun f => hrc f.1.symm)]
    by_cases c2 : q = L.toNat + 2
    · rw [if_pos c2, show (L + 1 + 1).toNat = q from by omega, zset_same]
    · rw [if_neg c2, zset_ne (fun f => c2 (by omega)), zset_ne (fun f => hrc f.1.symm)]
      by_cases c1 : q = L.toNat + 1
      · rw [if_pos c1, show (L + 1).toNat = q from by omega, zset_same]
      · rw [if_neg c1, zset_ne (fun f => c1 (by omega)), zset_ne (fun f => hrc f.1.symm)]
        by_cases c0 : q = L.toNat
        · rw [if_pos c0, c0, zset_same]
        · rw [if_neg c0, zset_ne (fun f => c0 f.2)]
theorem cb_append {D : zD} {T : zT} (hT : hTab T) (hO : vOK T) {N : Nat} {h : zH} {Q : zR → Prop} (x : Int) (hL : 0 ≤ (h 10 1).2 ∧ (h 10 1).2 ≤ 896) (k : ∀ g : zH, tC g = apT x (tC h) → Q (g, none)) : vP D T N 101 0 h [some (2, 10), some (0, x), none] [] Q := by
  refine vP_hv (fun hv => y_X8_append hT hO x hv hL ?_ ?_ ?_ ?_ ?_)
  · intro _ _ _ _ _ _ _ _ _ _ _ _
    refine k _ (Prod.ext ?_ ?_)
    · show (zset _ 10 1 _ 10 1).2 = (h 10 1).2 + 4
      rw [zset_same]
      show (h 10 1).2 + 1 + 1 + 1 + 1 = _
      omega
    · funext q
      exact ap_heap (by decide) hL.1 q
  · intros; omega
  · intros; omega
  · intros; omega
  · intros; omega
theorem rb_lay {D : zD} {T : zT} (hT : hTab T) (hO : vOK T) {N : Nat} {h : zH} {Q : zR → Prop} (x : Int) (hL : 0 ≤ (h 121 8).2 ∧ (h 121 8).2 ≤ 896) (k : ∀ g : zH, tR g = apT x (tR h) → Q (g, none)) : vP D T N 269 0 h [some (2, 121), some (0, x), none] [] Q := by
  refine vP_hv (fun hv => y_X12_lay hT hO x hv hL ?_)
  intro _ _ _ _ _ _ _ _ _ _ _ _
  refine k _ (Prod.ext ?_ ?_)
  · show (zset _ 121 8 _ 121 8).2 = (h 121 8).2 + 4
    rw [zset_same]
    show (h 121 8).2 + 1 + 1 + 1 + 1 = _
    omega
  · funext q
    exact ap_heap (by decide) hL.1 q
def fdT (a b c d e : Int) (t : Int × (Nat → Int)) : Int × (Nat → Int) := apT e (apT d (apT c (apT b (apT a t))))
def cFdB (a b c d e : Int) (h : zH) (r : zR) : Prop := (900 < (h 10 1).2 + 20 ∧ r.2 = some (0, -1) ∧ tC r.1 = tC h) ∨ ((h 10 1).2 + 20 ≤ 900 ∧ r.2 = some (0, (h 10 1).2 + 20) ∧ tC r.1 = fdT a b c d e (tC h))
def rFdB (a b c d e : Int) (h : zH) (r : zR) : Prop := (900 < (h 121 8).2 + 20 ∧ r.2 = some (0, -1) ∧ tR r.1 = tR h) ∨ ((h 121 8).2 + 20 ≤ 900 ∧ r.2 = some (0, (h 121 8).2 + 20) ∧ tR r.1 = fdT a b c d e (tR h))
theorem apT_1 {x : Int} {t : Int × (Nat → Int)} : (apT x t).1 = t.1 + 4 := rfl
theorem cFdB_ok {D : zD} {T : zT} (hT : hTab T) (hO : vOK T) {N : Nat} {h : zH} (a b c d e : Int) (hL : 0 ≤ (h 10 1).2 ∧ (h 10 1).2 ≤ 900) : vP D T N 155 0 h [some (2, 0), some (0, a), some (0, b), some (0, c), some (0, d), some (0, e)] [] (cFdB a b c d e h) := by
  refine vP_hv (fun hv => y_X11_feed hT hO a b c d e hv hL (fun c1 => Or.inl ⟨c1, rfl, rfl⟩) (fun c1 => ?_))
  refine cb_append hT hO a ⟨hL.1, by omega⟩ (fun h1 e1 => vP_hv (fun hv1 => y_X11_feed_1 hT hO a b c d e hv1 ?_))
  have l1 : (h1 10 1).2 = (h 10 1).2 + 4 := congrArg Prod.fst e1
  refine cb_append hT hO b ⟨by show 0 ≤ (h1 10 1).2; omega, by show (h1 10 1).2 ≤ 896; omega⟩ (fun h2 e2 => vP_hv (fun hv2 => y_X11_feed_2 hT hO a b c d e hv2 ?_))
  have e2 : tC h2 = apT b (tC h1) := e2
  have l2 : (h2 10 1).2 = (h1 10 1).2 + 4 := congrArg Prod.fst e2
  refine cb_append hT hO c ⟨by show 0 ≤ (h2 10 1).2; omega, by show (h2 10 1).2 ≤ 896; omega⟩ (fun h3 e3 => vP_hv (fun hv3 => y_X11_feed_3 hT hO a b c d e hv3 ?_))
  have e3 : tC h3 = apT c (tC h2) := e3
  have l3 : (h3 10 1).2 = (h2 10 1).2 + 4 := congrArg Prod.fst e3
  refine cb_append hT hO d ⟨by show 0 ≤ (h3 10 1).2; omega, by show (h3 10 1).2 ≤ 896; omega⟩ (fun h4 e4 => vP_hv (fun hv4 => y_X11_feed_4 hT hO a b c d e hv4 ?_))
  have e4 : tC h4 = apT d (tC h3) := e4
  have l4 : (h4 10 1).2 = (h3 10 1).2 + 4 := congrArg Prod.fst e4
  refine cb_append hT hO e ⟨by show 0 ≤ (h4 10 1).2; omega, by show (h4 10 1).2 ≤ 896; omega⟩ (fun h5 e5 => vP_hv (fun hv5 => y_X11_feed_5 hT hO a b c d e hv5 ?_))
  have e5 : tC h5 = apT e (tC h4) := e5
  have l5 : (h5 10 1).2 = (h4 10 1).2 + 4 := congrArg Prod.fst e5
  refine Or.inr ⟨c1, ?_, ?_⟩
  · show some ((0, (h5 10 1).2) : zV) = _
    rw [show (h5 10 1).2 = (h 10 1).2 + 20 from by omega]
  · show tC h5 = _
    rw [e5, e4, e3, e2, e1]
    rfl
theorem rFdB_ok {D : zD} {T : zT} (hT : hTab T) (hO : vOK T) {N : Nat} {h : zH} (a b c d e : Int) (hL : 0 ≤ (h 121 8).2 ∧ (h 121 8).2 ≤ 900) : vP D T N 227 0 h [some (2, 121), some (0, a), some (0, b), some (0, c), some (0, d), some (0, e)] [] (rFdB a b c d e h) := by
  have e00 : tR (zset h 121 1 (0, 0)) = tR h := Prod.ext (by show (zset h 121 1 (0, 0) 121 8).2 = _; rw [zset_ne (by omega)]; rfl) (by funext q; show (zset h 121 1 (0, 0) 125 q).2 = _; rw [zset_ne (by omega)]; rfl)
  refine vP_hv (fun hv => y_X12_feed hT hO a b c d e hv hL (fun c1 => Or.inl ⟨c1, rfl, e00⟩) (fun c1 => ?_))
  have e0 : (zset h 121 1 (0, 0) 121 8).2 = (h 121 8).2 := by rw [zset_ne (by omega)]
  refine rb_lay hT hO a ⟨by rw [e0]; omega, by rw [e0]; omega⟩ (fun h1 e1 => vP_hv (fun hv1 => y_X12_feed_1 hT hO a b c d e hv1 ?_))
  rw [e00] at e1
  have l1 : (h1 121 8).2 = (h 121 8).2 + 4 := congrArg Prod.fst e1
  refine rb_lay hT hO b ⟨by show 0 ≤ (h1 121 8).2; omega, by show (h1 121 8).2 ≤ 896; omega⟩ (fun h2 e2 => vP_hv (fun hv2 => y_X12_feed_2 hT hO a b c d e hv2 ?_))
  have e2 : tR h2 = apT b (tR h1) := e2
  have l2 : (h2 121 8).2 = (h1 121 8).2 + 4 := congrArg Prod.fst e2
  refine rb_lay hT hO c ⟨by show 0 ≤ (h2 121 8).2; omega, by show (h2 121 8).2 ≤ 896; omega⟩ (fun h3 e3 => vP_hv (fun hv3 => y_X12_feed_3 hT hO a b c d e hv3 ?_))
  have e3 : tR h3 = apT c (tR h2) := e3
  have l3 : (h3 121 8).2 = (h2 121 8).2 + 4 := congrArg Prod.fst e3
  refine rb_lay hT hO d ⟨by show 0 ≤ (h3 121 8).2; omega, by show (h3 121 8).2 ≤ 896; omega⟩ (fun h4 e4 => vP_hv (fun hv4 => y_X12_feed_4 hT hO a b c d e hv4 ?_))
  have e4 : tR h4 = apT d (tR h3) := e4
  have l4 : (h4 121 8).2 = (h3 121 8).2 + 4 := congrArg Prod.fst e4
  refine rb_lay hT hO e ⟨by show 0 ≤ (h4 121 8).2; omega, by show (h4 121 8).2 ≤ 896; omega⟩ (fun h5 e5 => vP_hv (fun hv5 => y_X12_feed_5 hT hO a b c d e hv5 ?_))
  have e5 : tR h5 = apT e (tR h4) := e5
  have l5 : (h5 121 8).2 = (h4 121 8).2 + 4 := congrArg Prod.fst e5
  refine Or.inr ⟨c1, ?_, ?_⟩
  · show some ((0, (h5 121 8).2) : zV) = _
    rw [show (h5 121 8).2 = (h 121 8).2 + 20 from by omega]
  · show tR h5 = _
    rw [e5, e4, e3, e2, e1]
    rfl
/-! what holds of the tapes between calls -/
def lT (h : zH) : Prop := tEq (tC h) (tR h)
abbrev tbC : aM := [(10, 1, 1), (11, 0, 899)]
abbrev tbR : aM := [(121, 8, 8), (125, 0, 899)]
theorem tbC_1 : aIn tbC 10 1 := ⟨_, List.mem_cons_self, rfl, Nat.le_refl _, Nat.le_refl _⟩
theorem tbC_b {q : Nat} (h : q ≤ 899) : aIn tbC 11 q := ⟨_, List.mem_cons_of_mem _ List.mem_cons_self, rfl, Nat.zero_le _, h⟩
theorem tbR_1 : aIn tbR 121 8 := ⟨_, List.mem_cons_self, rfl, Nat.le_refl _, Nat.le_refl _⟩
theorem tbR_b {q : Nat} (h : q ≤ 899) : aIn tbR 125 q := ⟨_, List.mem_cons_of_mem _ List.mem_cons_self, rfl, Nat.zero_le _, h⟩
def tK (s t : Int × (Nat → Int)) : Prop := s.1 = t.1 ∧ ∀ q, q ≤ 899 → s.2 q = t.2 q
theorem tK_c {M : aM} {h g : zH} (f : aFr M h g) (hf : lFree tbC M = true) : tK (tC g) (tC h) := ⟨congrArg Prod.snd (f.keep hf tbC_1), fun q hq => congrArg Prod.snd (f.keep hf (tbC_b hq))⟩
theorem tK_r {M : aM} {h g : zH} (f : aFr M h g) (hf : lFree tbR M = true) : tK (tR g) (tR h) := ⟨congrArg Prod.snd (f.keep hf tbR_1), fun q hq => congrArg Prod.snd (f.keep hf (tbR_b hq))⟩
theorem tEq.k {s s' t t' : Int × (Nat → Int)} (e : tEq s t) (a : tK s' s) (b : tK t' t) : tEq s' t' := ⟨by rw [a.1, b.1]; exact e.1, fun q h9 hq => by
  rw [a.1] at hq
  rw [a.2 q h9, b.2 q h9]
  exact e.2 q h9 hq⟩
theorem tEq.fd {s t : Int × (Nat → Int)} {a b c d e : Int} (h0 : 0 ≤ s.1) (h : tEq s t) : tEq (fdT a b c d e s) (fdT a b c d e t) := by
  have h1 := h.ap a h0
  have h2 := h1.ap b (by rw [apT_1]; omega)
  have h3 := h2.ap c (by rw [apT_1, apT_1]; omega)
  have h4 := h3.ap d (by rw [apT_1, apT_1, apT_1]; omega)
  exact h4.ap e (by rw [apT_1, apT_1, apT_1, apT_1]; omega)
theorem cTx_k {D : zD} {T : zT} {N mi pc : Nat} {l : List (Option zV)} {S : List zV} {Q : zR → Prop} {B : Nat → Int} {n r : Nat} {h : zH} (H : vP D T N mi pc h l S (cTx B n r h)) (k1 : ∀ g m τ P, xFr r h g → Tks B n m τ → pLand τ = .inr P → cP r P g → lB P → g 10 7 = (0, 0) → g 10 8 = (0, -1) → g (r + 10) 0 = (0, -1) → g (r + 10) 1 = (0, 0) → Q (g, some (0, 1))) (k2 : ∀ g m τ e, xFr r h g → Tks B n m τ → pLand τ = .inl e → cB e g → Q (g, some (0, 0))) : vP D T N mi pc h l S Q := vP_Q (fun x hx => by
  obtain ⟨g, v⟩ := x
  obtain ⟨m, τ, hK, h1, hf⟩ := hx
  rcases h1 with ⟨e, h1, h2, h3⟩ | ⟨P, h1, h2, h3, h4, h5, h6, h7, h8⟩
  · have h2 : v = some (0, 0) := h2
    subst h2
    exact k2 g m τ e hf hK h1 h3
  · have h2 : v = some (0, 1) := h2
    subst h2
    exact k1 g m τ P hf hK h1 h3 h4 h5 h6 h7 h8) H
/-! land(n) on both sides -/
def lSw (r c : Nat) : Prop := (r = 24 ∧ c = 39) ∨ (r = 39 ∧ c = 24)
def cLf (r : Nat) (h0 h : zH) : Prop := ∀ a b, ¬ (a = 0 ∨ a = 10 ∨ (12 ≤ a ∧ a ≤ 16) ∨ (r ≤ a ∧ a ≤ r + 10)) → h a b = h0 a b
def cLd (r c : Nat) (B : Nat → Int) (n : Nat) (h0 : zH) (x : zR) : Prop := ((h0 10 1).2 < (n : Int) ∧ x = (zset h0 0 0 (0, 5), some (0, -1))) ∨ ((n : Int) ≤ (h0 10 1).2 ∧ cLf r h0 x.1 ∧ x.1 0 10 = h0 0 10 ∧ ∃ m τ, Tks B n m τ ∧ ((∃ e, pLand τ = .inl e ∧ x.2 = some (0, -1) ∧ x.1 10 9 = (0, e.1) ∧ x.1 10 10 = (0, e.2) ∧ x.1 0 7 = (2, (c : Int)) ∧ x.1 0 8 = (2, (r : Int))) ∨ (∃ P, pLand τ = .inr P ∧ x.2 = some (0, P 0 3) ∧ x.1 10 9 = (0, 0) ∧ x.1 10 10 = (0, -1) ∧ x.1 0 7 = (2, (r : Int)) ∧ x.1 0 8 = (2, (c : Int)) ∧ cP r P x.1 ∧ lB P ∧ x.1 (r + 10) 0 = (0, -1) ∧ x.1 (r + 10) 1 = (0, 0))))
theorem qc_land_24 {D : zD} {T : zT} (hT : hTab T) (hO : vOK T) {N : Nat} {h : zH} {Q : zR → Prop} {B : Nat → Int} {n : Nat} (hv0 : zHv h) (hB : TXc B n h) (e7 : h 0 7 = (2, 39)) (e8 : h 0 8 = (2, 24))
    (k0 : ((n : Int) < 0) → Q (zset h 0 0 (0, 5), some (0, -1)))
    (k1 : (0 ≤ (n : Int)) → ((h 10 1).2 < (n : Int)) → Q (zset h 0 0 (0, 5), some (0, -1)))
    (k2 : (0 ≤ (n : Int)) → ((n : Int) ≤ (h 10 1).2) → ∀ (g5 : zH) (m : Nat) (τ : PT) (P5 : PT), (xFr 24 h g5) → (Tks B n m τ) → (pLand τ = .inr P5) → (cP 24 P5 g5) → (lB P5) → (g5 10 7 = (0, 0)) → (g5 10 8 = (0, -1)) → (g5 34 0 = (0, -1)) → (g5 34 1 = (0, 0)) → Q (zset (zset (zset (zset (zset (zset g5 10 1 (0, 0)) 10 9 (0, 0)) 10 10 (0, -1)) 0 7 (2, 24)) 0 8 (2, 39)) 0 0 (0, 0), some (0, (P5 0 3))))
    (k3 : (0 ≤ (n : Int)) → ((n : Int) ≤ (h 10 1).2) → ∀ (g6 : zH) (m : Nat) (τ : PT) (e6 : Er), (xFr 24 h g6) → (Tks B n m τ) → (pLand τ = .inl e6) → (cB e6 g6) → Q (zset (zset (zset (zset g6 10 1 (0, 0)) 10 9 (0, e6.1)) 10 10 (0, e6.2)) 0 0 (0, 10), some (0, -1))) :
    vP D T N 162 0 h [some (2, 0), some (0, (n : Int)), none, none] [] Q := by
  refine v_load (v := (0, (n : Int))) (hz_X11_land hT _ _ rfl) rfl rfl ?_
  refine v_if (hz_X11_land hT _ _ rfl) (fun hc1 => ?_) (fun hc1 => ?_)
  · have hc1 : (n : Int) < 0 := hc1
    refine v_load (v := (2, 0)) (hz_X11_land hT _ _ rfl) rfl rfl ?_
    refine v_push (5) (hz_X11_land hT _ _ rfl) rfl ?_
    refine v_call (w := 2) [some (2, 0), some (0, 5)] hO (hz_X11_land hT _ _ rfl) rfl rfl ?_
    refine v_load (v := (2, 0)) (hz_X11_refused hT _ _ rfl) rfl rfl ?_
    refine v_load (v := (0, 5)) (hz_X11_refused hT _ _ rfl) rfl rfl ?_
    refine v_putf (r := 0) hO (hz_X11_refused hT _ _ rfl) rfl (fun hf2 => ?_)
    refine v_push (-1) (hz_X11_refused hT _ _ rfl) rfl ?_
    refine v_ret (hz_X11_refused hT _ _ rfl) (Or.inl rfl) ?_
    show vP D T N 162 20 (zset h 0 0 (0, 5)) [some (2, 0), some (0, (n : Int)), none, none] [(0, -1)] _
    refine v_ret (hz_X11_land hT _ _ rfl) (Or.inl rfl) ?_
    exact k0 hc1
  · have hc1 : 0 ≤ (n : Int) := Int.not_lt.mp hc1
    refine v_load (v := (0, (n : Int))) (hz_X11_land hT _ _ rfl) rfl rfl ?_
    refine v_load (v := (2, 0)) (hz_X11_land hT _ _ rfl) rfl rfl ?_
    refine v_getR (c := 10) (r := 0) (hz_X11_land hT _ _ rfl) rfl rfl rfl ?_
    refine v_getI (t := 0) (r := 10) (hz_X11_land hT _ _ rfl) rfl rfl rfl ?_
    refine v_ic (hz_X11_land hT _ _ rfl) (fun hc3 => ?_) (fun hc3 => ?_)
    · have hc3 : (h 10 1).2 < (n : Int) := hc3
      refine v_load (v := (2, 0)) (hz_X11_land hT _ _ rfl) rfl rfl ?_
      refine v_push (5) (hz_X11_land hT _ _ rfl) rfl ?_
      refine v_call (w := 2) [some (2, 0), some (0, 5)] hO (hz_X11_land hT _ _ rfl) rfl rfl ?_
      refine v_load (v := (2, 0)) (hz_X11_refused hT _ _ rfl) rfl rfl ?_
      refine v_load (v := (0, 5)) (hz_X11_refused hT _ _ rfl) rfl rfl ?_
      refine v_putf (r := 0) hO (hz_X11_refused hT _ _ rfl) rfl (fun hf4 => ?_)
      refine v_push (-1) (hz_X11_refused hT _ _ rfl) rfl ?_
      refine v_ret (hz_X11_refused hT _ _ rfl) (Or.inl rfl) ?_
      show vP D T N 162 20 (zset h 0 0 (0, 5)) [some (2, 0), some (0, (n : Int)), none, none] [(0, -1)] _
      refine v_ret (hz_X11_land hT _ _ rfl) (Or.inl rfl) ?_
      exact k1 hc1 hc3
    · have hc3 : (n : Int) ≤ (h 10 1).2 := Int.not_lt.mp hc3
      refine v_load (v := (2, 0)) (hz_X11_land hT _ _ rfl) rfl rfl ?_
      refine v_getR (c := 16) (r := 0) (hz_X11_land hT _ _ rfl) rfl rfl rfl ?_
      refine v_load (v := (2, 0)) (hz_X11_land hT _ _ rfl) rfl rfl ?_
      refine v_getf (v := (2, 24)) (r := 0) (hz_X11_land hT _ _ rfl) rfl rfl (fun _ => e8) ?_
      refine v_load (v := (0, (n : Int))) (hz_X11_land hT _ _ rfl) rfl rfl ?_
      refine v_call (w := 4) [some (2, 16), some (2, 24), some (0, (n : Int)), none] hO (hz_X11_land hT _ _ rfl) rfl rfl (cTx_k (cx_text_24 hT hO hB (by omega)) (fun g5 m τ P5 xf5 hK5 q5 cp5 lb5 da5 db5 oa5 ob5 => ?_) (fun g6 m τ e6 xf6 hK6 q6 c6 => ?_))
      · show vP D T N 162 33 g5 [some (2, 0), some (0, (n : Int)), none, none] [(0, 1)] _
        refine vP_hv (fun hv5 => ?_)
        refine v_store1 [some (2, 0), some (0, (n : Int)), some (0, 1), none] (hz_X11_land hT _ _ rfl) ⟨rfl, Nat.ne_of_beq_eq_false rfl⟩ (Nat.le_of_ble_eq_true rfl) rfl ?_
        refine v_load (v := (2, 0)) (hz_X11_land hT _ _ rfl) rfl rfl ?_
        refine v_getR (c := 10) (r := 0) (hz_X11_land hT _ _ rfl) rfl rfl rfl ?_
        refine v_call (w := 1) [some (2, 10)] hO (hz_X11_land hT _ _ rfl) rfl rfl ?_
        refine v_load (v := (2, 10)) (hz_X8_finishText hT _ _ rfl) rfl rfl ?_
        refine v_push (0) (hz_X8_finishText hT _ _ rfl) rfl ?_
        refine v_putf (r := 10) hO (hz_X8_finishText hT _ _ rfl) rfl (fun hf7 => ?_)
        refine v_load (v := (2, 10)) (hz_X8_finishText hT _ _ rfl) rfl rfl ?_
        refine v_load (v := (2, 10)) (hz_X8_finishText hT _ _ rfl) rfl rfl ?_
        refine v_getf (v := (0, 0)) (r := 10) (hz_X8_finishText hT _ _ rfl) rfl rfl (fun _ => Eq.trans (zset_ne (fun c => absurd c.2 (by decide))) (da5)) ?_
        refine v_putf (r := 10) hO (hz_X8_finishText hT _ _ rfl) rfl (fun hf8 => ?_)
        refine v_load (v := (2, 10)) (hz_X8_finishText hT _ _ rfl) rfl rfl ?_
        refine v_load (v := (2, 10)) (hz_X8_finishText hT _ _ rfl) rfl rfl ?_
        refine v_getf (v := (0, -1)) (r := 10) (hz_X8_finishText hT _ _ rfl) rfl rfl (fun _ => Eq.trans (Eq.trans (zset_ne (fun c => absurd c.2 (by decide))) (zset_ne (fun c => absurd c.2 (by decide)))) (db5)) ?_
        refine v_putf (r := 10) hO (hz_X8_finishText hT _ _ rfl) rfl (fun hf9 => ?_)
        refine v_ret0 (hz_X8_finishText hT _ _ rfl) ?_
        show vP D T N 162 41 (zset (zset (zset g5 10 1 (0, 0)) 10 9 (0, 0)) 10 10 (0, -1)) [some (2, 0), some (0, (n : Int)), some (0, 1), none] [] _
        refine v_load (v := (0, 1)) (hz_X11_land hT _ _ rfl) rfl rfl ?_
        refine v_if (hz_X11_land hT _ _ rfl) (fun hc10 => absurd (show (1 : Int) = 0 from hc10) (by omega)) (fun _ => ?_)
        refine v_load (v := (2, 0)) (hz_X11_land hT _ _ rfl) rfl rfl ?_
        refine v_getf (v := (2, 39)) (r := 0) (hz_X11_land hT _ _ rfl) rfl rfl (fun _ => Eq.trans (Eq.trans (zset_ne (fun c => absurd c.1 (by decide))) (Eq.trans (zset_ne (fun c => absurd c.1 (by decide))) (zset_ne (fun c => absurd c.1 (by decide))))) ((Eq.trans (xf5 0 7 (fun c => by omega)) e7))) ?_
        refine v_store1 [some (2, 0), some (0, (n : Int)), some (0, 1), some (2, 39)] (hz_X11_land hT _ _ rfl) ⟨rfl, Nat.ne_of_beq_eq_false rfl⟩ (Nat.le_of_ble_eq_true rfl) rfl ?_
        refine v_load (v := (2, 0)) (hz_X11_land hT _ _ rfl) rfl rfl ?_
        refine v_load (v := (2, 0)) (hz_X11_land hT _ _ rfl) rfl rfl ?_
        refine v_getf (v := (2, 24)) (r := 0) (hz_X11_land hT _ _ rfl) rfl rfl (fun _ => Eq.trans (Eq.trans (zset_ne (fun c => absurd c.1 (by decide))) (Eq.trans (zset_ne (fun c => absurd c.1 (by decide))) (zset_ne (fun c => absurd c.1 (by decide))))) ((Eq.trans (xf5 0 8 (fun c => by omega)) e8))) ?_
        refine v_putf (r := 0) hO (hz_X11_land hT _ _ rfl) rfl (fun hf11 => ?_)
        refine v_load (v := (2, 0)) (hz_X11_land hT _ _ rfl) rfl rfl ?_
        refine v_load (v := (2, 39)) (hz_X11_land hT _ _ rfl) rfl rfl ?_
        refine v_putf (r := 0) hO (hz_X11_land hT _ _ rfl) rfl (fun hf12 => ?_)
        refine v_load (v := (2, 0)) (hz_X11_land hT _ _ rfl) rfl rfl ?_
        refine v_load (v := (2, 0)) (hz_X11_land hT _ _ rfl) rfl rfl ?_
        refine v_getf (v := (2, 24)) (r := 0) (hz_X11_land hT _ _ rfl) rfl rfl (fun _ => Eq.trans (zset_ne (fun c => absurd c.2 (by decide))) zset_same) ?_
        refine v_getf (v := (0, (P5 0 3))) (r := 24) (hz_X11_land hT _ _ rfl) rfl rfl (fun _ => Eq.trans (Eq.trans (zset_ne (fun c => absurd c.1 (by decide))) (Eq.trans (zset_ne (fun c => absurd c.1 (by decide))) (Eq.trans (zset_ne (fun c => absurd c.1 (by decide))) (Eq.trans (zset_ne (fun c => absurd c.1 (by decide))) (zset_ne (fun c => absurd c.1 (by decide))))))) (cp5.m)) ?_
        refine v_call (w := 2) [some (2, 0), some (0, (P5 0 3))] hO (hz_X11_land hT _ _ rfl) rfl rfl ?_
        refine v_load (v := (2, 0)) (hz_X11_answer hT _ _ rfl) rfl rfl ?_
        refine v_push (0) (hz_X11_answer hT _ _ rfl) rfl ?_
        refine v_putf (r := 0) hO (hz_X11_answer hT _ _ rfl) rfl (fun hf13 => ?_)
        refine v_load (v := (0, (P5 0 3))) (hz_X11_answer hT _ _ rfl) rfl rfl ?_
        refine v_ret (hz_X11_answer hT _ _ rfl) (Or.inl rfl) ?_
        show vP D T N 162 81 (zset (zset (zset (zset (zset (zset g5 10 1 (0, 0)) 10 9 (0, 0)) 10 10 (0, -1)) 0 7 (2, 24)) 0 8 (2, 39)) 0 0 (0, 0)) [some (2, 0), some (0, (n : Int)), some (0, 1), some (2, 39)] [(0, (P5 0 3))] _
        refine v_ret (hz_X11_land hT _ _ rfl) (Or.inl rfl) ?_
        exact k2 hc1 hc3 g5 m τ P5 xf5 hK5 q5 cp5 lb5 da5 db5 oa5 ob5
      · show vP D T N 162 33 g6 [some (2, 0), some (0, (n : Int)), none, none] [(0, 0)] _
        refine vP_hv (fun hv6 => ?_)
        refine v_store1 [some (2, 0), some (0, (n : Int)), some (0, 0), none] (hz_X11_land hT _ _ rfl) ⟨rfl, Nat.ne_of_beq_eq_false rfl⟩ (Nat.le_of_ble_eq_true rfl) rfl ?_
        refine v_load (v := (2, 0)) (hz_X11_land hT _ _ rfl) rfl rfl ?_
        refine v_getR (c := 10) (r := 0) (hz_X11_land hT _ _ rfl) rfl rfl rfl ?_
        refine v_call (w := 1) [some (2, 10)] hO (hz_X11_land hT _ _ rfl) rfl rfl ?_
        refine v_load (v := (2, 10)) (hz_X8_finishText hT _ _ rfl) rfl rfl ?_
        refine v_push (0) (hz_X8_finishText hT _ _ rfl) rfl ?_
        refine v_putf (r := 10) hO (hz_X8_finishText hT _ _ rfl) rfl (fun hf14 => ?_)
        refine v_load (v := (2, 10)) (hz_X8_finishText hT _ _ rfl) rfl rfl ?_
        refine v_load (v := (2, 10)) (hz_X8_finishText hT _ _ rfl) rfl rfl ?_
        refine v_getf (v := (0, e6.1)) (r := 10) (hz_X8_finishText hT _ _ rfl) rfl rfl (fun _ => Eq.trans (zset_ne (fun c => absurd c.2 (by decide))) (c6.1)) ?_
        refine v_putf (r := 10) hO (hz_X8_finishText hT _ _ rfl) rfl (fun hf15 => ?_)
        refine v_load (v := (2, 10)) (hz_X8_finishText hT _ _ rfl) rfl rfl ?_
        refine v_load (v := (2, 10)) (hz_X8_finishText hT _ _ rfl) rfl rfl ?_
        refine v_getf (v := (0, e6.2)) (r := 10) (hz_X8_finishText hT _ _ rfl) rfl rfl (fun _ => Eq.trans (Eq.trans (zset_ne (fun c => absurd c.2 (by decide))) (zset_ne (fun c => absurd c.2 (by decide)))) (c6.2)) ?_
        refine v_putf (r := 10) hO (hz_X8_finishText hT _ _ rfl) rfl (fun hf16 => ?_)
        refine v_ret0 (hz_X8_finishText hT _ _ rfl) ?_
        show vP D T N 162 41 (zset (zset (zset g6 10 1 (0, 0)) 10 9 (0, e6.1)) 10 10 (0, e6.2)) [some (2, 0), some (0, (n : Int)), some (0, 0), none] [] _
        refine v_load (v := (0, 0)) (hz_X11_land hT _ _ rfl) rfl rfl ?_
        refine v_if (hz_X11_land hT _ _ rfl) (fun _ => ?_) (fun hc17 => absurd (show (0 : Int) = 0 from (by omega)) hc17)
        refine v_load (v := (2, 0)) (hz_X11_land hT _ _ rfl) rfl rfl ?_
        refine v_push (10) (hz_X11_land hT _ _ rfl) rfl ?_
        refine v_call (w := 2) [some (2, 0), some (0, 10)] hO (hz_X11_land hT _ _ rfl) rfl rfl ?_
        refine v_load (v := (2, 0)) (hz_X11_refused hT _ _ rfl) rfl rfl ?_
        refine v_load (v := (0, 10)) (hz_X11_refused hT _ _ rfl) rfl rfl ?_
        refine v_putf (r := 0) hO (hz_X11_refused hT _ _ rfl) rfl (fun hf18 => ?_)
        refine v_push (-1) (hz_X11_refused hT _ _ rfl) rfl ?_
        refine v_ret (hz_X11_refused hT _ _ rfl) (Or.inl rfl) ?_
        show vP D T N 162 51 (zset (zset (zset (zset g6 10 1 (0, 0)) 10 9 (0, e6.1)) 10 10 (0, e6.2)) 0 0 (0, 10)) [some (2, 0), some (0, (n : Int)), some (0, 0), none] [(0, -1)] _
        refine v_ret (hz_X11_land hT _ _ rfl) (Or.inl rfl) ?_
        exact k3 hc1 hc3 g6 m τ e6 xf6 hK6 q6 c6
theorem qc_land_39 {D : zD} {T : zT} (hT : hTab T) (hO : vOK T) {N : Nat} {h : zH} {Q : zR → Prop} {B : Nat → Int} {n : Nat} (hv0 : zHv h) (hB : TXc B n h) (e7 : h 0 7 = (2, 24)) (e8 : h 0 8 = (2, 39))
    (k0 : ((n : Int) < 0) → Q (zset h 0 0 (0, 5), some (0, -1)))
    (k1 : (0 ≤ (n : Int)) → ((h 10 1).2 < (n : Int)) → Q (zset h 0 0 (0, 5), some (0, -1)))
    (k2 : (0 ≤ (n : Int)) → ((n : Int) ≤ (h 10 1).2) → ∀ (g5 : zH) (m : Nat) (τ : PT) (P5 : PT), (xFr 39 h g5) → (Tks B n m τ) → (pLand τ = .inr P5) → (cP 39 P5 g5) → (lB P5) → (g5 10 7 = (0, 0)) → (g5 10 8 = (0, -1)) → (g5 49 0 = (0, -1)) → (g5 49 1 = (0, 0)) → Q (zset (zset (zset (zset (zset (zset g5 10 1 (0, 0)) 10 9 (0, 0)) 10 10 (0, -1)) 0 7 (2, 39)) 0 8 (2, 24)) 0 0 (0, 0), some (0, (P5 0 3))))
    (k3 : (0 ≤ (n : Int)) → ((n : Int) ≤ (h 10 1).2) → ∀ (g6 : zH) (m : Nat) (τ : PT) (e6 : Er), (xFr 39 h g6) → (Tks B n m τ) → (pLand τ = .inl e6) → (cB e6 g6) → Q (zset (zset (zset (zset g6 10 1 (0, 0)) 10 9 (0, e6.1)) 10 10 (0, e6.2)) 0 0 (0, 10), some (0, -1))) :
    vP D T N 162 0 h [some (2, 0), some (0, (n : Int)), none, none] [] Q := by
  refine v_load (v := (0, (n : Int))) (hz_X11_land hT _ _ rfl) rfl rfl ?_
  refine v_if (hz_X11_land hT _ _ rfl) (fun hc1 => ?_) (fun hc1 => ?_)
  · have hc1 : (n : Int) < 0 := hc1
    refine v_load (v := (2, 0)) (hz_X11_land hT _ _ rfl) rfl rfl ?_
    refine v_push (5) (hz_X11_land hT _ _ rfl) rfl ?_
    refine v_call (w := 2) [some (2, 0), some (0, 5)] hO (hz_X11_land hT _ _ rfl) rfl rfl ?_
    refine v_load (v := (2, 0)) (hz_X11_refused hT _ _ rfl) rfl rfl ?_
    refine v_load (v := (0, 5)) (hz_X11_refused hT _ _ rfl) rfl rfl ?_
    refine v_putf (r := 0) hO (hz_X11_refused hT _ _ rfl) rfl (fun hf2 => ?_)
    refine v_push (-1) (hz_X11_refused hT _ _ rfl) rfl ?_
    refine v_ret (hz_X11_refused hT _ _ rfl) (Or.inl rfl) ?_
    show vP D T N 162 20 (zset h 0 0 (0, 5)) [some (2, 0), some (0, (n : Int)), none, none] [(0, -1)] _
    refine v_ret (hz_X11_land hT _ _ rfl) (Or.inl rfl) ?_
    exact k0 hc1
  · have hc1 : 0 ≤ (n : Int) := Int.not_lt.mp hc1
    refine v_load (v := (0, (n : Int))) (hz_X11_land hT _ _ rfl) rfl rfl ?_
    refine v_load (v := (2, 0)) (hz_X11_land hT _ _ rfl) rfl rfl ?_
    refine v_getR (c := 10) (r := 0) (hz_X11_land hT _ _ rfl) rfl rfl rfl ?_
    refine v_getI (t := 0) (r := 10) (hz_X11_land hT _ _ rfl) rfl rfl rfl ?_
    refine v_ic (hz_X11_land hT _ _ rfl) (fun hc3 => ?_) (fun hc3 => ?_)
    · have hc3 : (h 10 1).2 < (n : Int) := hc3
      refine v_load (v := (2, 0)) (hz_X11_land hT _ _ rfl) rfl rfl ?_
      refine v_push (5) (hz_X11_land hT _ _ rfl) rfl ?_
      refine v_call (w := 2) [some (2, 0), some (0, 5)] hO (hz_X11_land hT _ _ rfl) rfl rfl ?_
      refine v_load (v := (2, 0)) (hz_X11_refused hT _ _ rfl) rfl rfl ?_
      refine v_load (v := (0, 5)) (hz_X11_refused hT _ _ rfl) rfl rfl ?_
      refine v_putf (r := 0) hO (hz_X11_refused hT _ _ rfl) rfl (fun hf4 => ?_)
      refine v_push (-1) (hz_X11_refused hT _ _ rfl) rfl ?_
      refine v_ret (hz_X11_refused hT _ _ rfl) (Or.inl rfl) ?_
      show vP D T N 162 20 (zset h 0 0 (0, 5)) [some (2, 0), some (0, (n : Int)), none, none] [(0, -1)] _
      refine v_ret (hz_X11_land hT _ _ rfl) (Or.inl rfl) ?_
      exact k1 hc1 hc3
    · have hc3 : (n : Int) ≤ (h 10 1).2 := Int.not_lt.mp hc3
      refine v_load (v := (2, 0)) (hz_X11_land hT _ _ rfl) rfl rfl ?_
      refine v_getR (c := 16) (r := 0) (hz_X11_land hT _ _ rfl) rfl rfl rfl ?_
      refine v_load (v := (2, 0)) (hz_X11_land hT _ _ rfl) rfl rfl ?_
      refine v_getf (v := (2, 39)) (r := 0) (hz_X11_land hT _ _ rfl) rfl rfl (fun _ => e8) ?_
      refine v_load (v := (0, (n : Int))) (hz_X11_land hT _ _ rfl) rfl rfl ?_
      refine v_call (w := 4) [some (2, 16), some (2, 39), some (0, (n : Int)), none] hO (hz_X11_land hT _ _ rfl) rfl rfl (cTx_k (cx_text_39 hT hO hB (by omega)) (fun g5 m τ P5 xf5 hK5 q5 cp5 lb5 da5 db5 oa5 ob5 => ?_) (fun g6 m τ e6 xf6 hK6 q6 c6 => ?_))
      · show vP D T N 162 33 g5 [some (2, 0), some (0, (n : Int)), none, none] [(0, 1)] _
        refine vP_hv (fun hv5 => ?_)
        refine v_store1 [some (2, 0), some (0, (n : Int)), some (0, 1), none] (hz_X11_land hT _ _ rfl) ⟨rfl, Nat.ne_of_beq_eq_false rfl⟩ (Nat.le_of_ble_eq_true rfl) rfl ?_
        refine v_load (v := (2, 0)) (hz_X11_land hT _ _ rfl) rfl rfl ?_
        refine v_getR (c := 10) (r := 0) (hz_X11_land hT _ _ rfl) rfl rfl rfl ?_
        refine v_call (w := 1) [some (2, 10)] hO (hz_X11_land hT _ _ rfl) rfl rfl ?_
        refine v_load (v := (2, 10)) (hz_X8_finishText hT _ _ rfl) rfl rfl ?_
        refine v_push (0) (hz_X8_finishText hT _ _ rfl) rfl ?_
        refine v_putf (r := 10) hO (hz_X8_finishText hT _ _ rfl) rfl (fun hf7 => ?_)
        refine v_load (v := (2, 10)) (hz_X8_finishText hT _ _ rfl) rfl rfl ?_
        refine v_load (v := (2, 10)) (hz_X8_finishText hT _ _ rfl) rfl rfl ?_
        refine v_getf (v := (0, 0)) (r := 10) (hz_X8_finishText hT _ _ rfl) rfl rfl (fun _ => Eq.trans (zset_ne (fun c => absurd c.2 (by decide))) (da5)) ?_
        refine v_putf (r := 10) hO (hz_X8_finishText hT _ _ rfl) rfl (fun hf8 => ?_)
        refine v_load (v := (2, 10)) (hz_X8_finishText hT _ _ rfl) rfl rfl ?_
        refine v_load (v := (2, 10)) (hz_X8_finishText hT _ _ rfl) rfl rfl ?_
        refine v_getf (v := (0, -1)) (r := 10) (hz_X8_finishText hT _ _ rfl) rfl rfl (fun _ => Eq.trans (Eq.trans (zset_ne (fun c => absurd c.2 (by decide))) (zset_ne (fun c => absurd c.2 (by decide)))) (db5)) ?_
        refine v_putf (r := 10) hO (hz_X8_finishText hT _ _ rfl) rfl (fun hf9 => ?_)
        refine v_ret0 (hz_X8_finishText hT _ _ rfl) ?_
        show vP D T N 162 41 (zset (zset (zset g5 10 1 (0, 0)) 10 9 (0, 0)) 10 10 (0, -1)) [some (2, 0), some (0, (n : Int)), some (0, 1), none] [] _
        refine v_load (v := (0, 1)) (hz_X11_land hT _ _ rfl) rfl rfl ?_
        refine v_if (hz_X11_land hT _ _ rfl) (fun hc10 => absurd (show (1 : Int) = 0 from hc10) (by omega)) (fun _ => ?_)
        refine v_load (v := (2, 0)) (hz_X11_land hT _ _ rfl) rfl rfl ?_
        refine v_getf (v := (2, 24)) (r := 0) (hz_X11_land hT _ _ rfl) rfl rfl (fun _ => Eq.trans (Eq.trans (zset_ne (fun c => absurd c.1 (by decide))) (Eq.trans (zset_ne (fun c => absurd c.1 (by decide))) (zset_ne (fun c => absurd c.1 (by decide))))) ((Eq.trans (xf5 0 7 (fun c => by omega)) e7))) ?_
        refine v_store1 [some (2, 0), some (0, (n : Int)), some (0, 1), some (2, 24)] (hz_X11_land hT _ _ rfl) ⟨rfl, Nat.ne_of_beq_eq_false rfl⟩ (Nat.le_of_ble_eq_true rfl) rfl ?_
        refine v_load (v := (2, 0)) (hz_X11_land hT _ _ rfl) rfl rfl ?_
        refine v_load (v := (2, 0)) (hz_X11_land hT _ _ rfl) rfl rfl ?_
        refine v_getf (v := (2, 39)) (r := 0) (hz_X11_land hT _ _ rfl) rfl rfl (fun _ => Eq.trans (Eq.trans (zset_ne (fun c => absurd c.1 (by decide))) (Eq.trans (zset_ne (fun c => absurd c.1 (by decide))) (zset_ne (fun c => absurd c.1 (by decide))))) ((Eq.trans (xf5 0 8 (fun c => by omega)) e8))) ?_
        refine v_putf (r := 0) hO (hz_X11_land hT _ _ rfl) rfl (fun hf11 => ?_)
        refine v_load (v := (2, 0)) (hz_X11_land hT _ _ rfl) rfl rfl ?_
        refine v_load (v := (2, 24)) (hz_X11_land hT _ _ rfl) rfl rfl ?_
        refine v_putf (r := 0) hO (hz_X11_land hT _ _ rfl) rfl (fun hf12 => ?_)
        refine v_load (v := (2, 0)) (hz_X11_land hT _ _ rfl) rfl rfl ?_
        refine v_load (v := (2, 0)) (hz_X11_land hT _ _ rfl) rfl rfl ?_
        refine v_getf (v := (2, 39)) (r := 0) (hz_X11_land hT _ _ rfl) rfl rfl (fun _ => Eq.trans (zset_ne (fun c => absurd c.2 (by decide))) zset_same) ?_
        refine v_getf (v := (0, (P5 0 3))) (r := 39) (hz_X11_land hT _ _ rfl) rfl rfl (fun _ => Eq.trans (Eq.trans (zset_ne (fun c => absurd c.1 (by decide))) (Eq.trans (zset_ne (fun c => absurd c.1 (by decide))) (Eq.trans (zset_ne (fun c => absurd c.1 (by decide))) (Eq.trans (zset_ne (fun c => absurd c.1 (by decide))) (zset_ne (fun c => absurd c.1 (by decide))))))) (cp5.m)) ?_
        refine v_call (w := 2) [some (2, 0), some (0, (P5 0 3))] hO (hz_X11_land hT _ _ rfl) rfl rfl ?_
        refine v_load (v := (2, 0)) (hz_X11_answer hT _ _ rfl) rfl rfl ?_
        refine v_push (0) (hz_X11_answer hT _ _ rfl) rfl ?_
        refine v_putf (r := 0) hO (hz_X11_answer hT _ _ rfl) rfl (fun hf13 => ?_)
        refine v_load (v := (0, (P5 0 3))) (hz_X11_answer hT _ _ rfl) rfl rfl ?_
        refine v_ret (hz_X11_answer hT _ _ rfl) (Or.inl rfl) ?_
        show vP D T N 162 81 (zset (zset (zset (zset (zset (zset g5 10 1 (0, 0)) 10 9 (0, 0)) 10 10 (0, -1)) 0 7 (2, 39)) 0 8 (2, 24)) 0 0 (0, 0)) [some (2, 0), some (0, (n : Int)), some (0, 1), some (2, 24)] [(0, (P5 0 3))] _
        refine v_ret (hz_X11_land hT _ _ rfl) (Or.inl rfl) ?_
        exact k2 hc1 hc3 g5 m τ P5 xf5 hK5 q5 cp5 lb5 da5 db5 oa5 ob5
      · show vP D T N 162 33 g6 [some (2, 0), some (0, (n : Int)), none, none] [(0, 0)] _
        refine vP_hv (fun hv6 => ?_)
        refine v_store1 [some (2, 0), some (0, (n : Int)), some (0, 0), none] (hz_X11_land hT _ _ rfl) ⟨rfl, Nat.ne_of_beq_eq_false rfl⟩ (Nat.le_of_ble_eq_true rfl) rfl ?_
        refine v_load (v := (2, 0)) (hz_X11_land hT _ _ rfl) rfl rfl ?_
        refine v_getR (c := 10) (r := 0) (hz_X11_land hT _ _ rfl) rfl rfl rfl ?_
        refine v_call (w := 1) [some (2, 10)] hO (hz_X11_land hT _ _ rfl) rfl rfl ?_
        refine v_load (v := (2, 10)) (hz_X8_finishText hT _ _ rfl) rfl rfl ?_
        refine v_push (0) (hz_X8_finishText hT _ _ rfl) rfl ?_
        refine v_putf (r := 10) hO (hz_X8_finishText hT _ _ rfl) rfl (fun hf14 => ?_)
        refine v_load (v := (2, 10)) (hz_X8_finishText hT _ _ rfl) rfl rfl ?_
        refine v_load (v := (2, 10)) (hz_X8_finishText hT _ _ rfl) rfl rfl ?_
        refine v_getf (v := (0, e6.1)) (r := 10) (hz_X8_finishText hT _ _ rfl) rfl rfl (fun _ => Eq.trans (zset_ne (fun c => absurd c.2 (by decide))) (c6.1)) ?_
        refine v_putf (r := 10) hO (hz_X8_finishText hT _ _ rfl) rfl (fun hf15 => ?_)
        refine v_load (v := (2, 10)) (hz_X8_finishText hT _ _ rfl) rfl rfl ?_
        refine v_load (v := (2, 10)) (hz_X8_finishText hT _ _ rfl) rfl rfl ?_
        refine v_getf (v := (0, e6.2)) (r := 10) (hz_X8_finishText hT _ _ rfl) rfl rfl (fun _ => Eq.trans (Eq.trans (zset_ne (fun c => absurd c.2 (by decide))) (zset_ne (fun c => absurd c.2 (by decide)))) (c6.2)) ?_
        refine v_putf (r := 10) hO (hz_X8_finishText hT _ _ rfl) rfl (fun hf16 => ?_)
        refine v_ret0 (hz_X8_finishText hT _ _ rfl) ?_
        show vP D T N 162 41 (zset (zset (zset g6 10 1 (0, 0)) 10 9 (0, e6.1)) 10 10 (0, e6.2)) [some (2, 0), some (0, (n : Int)), some (0, 0), none] [] _
        refine v_load (v := (0, 0)) (hz_X11_land hT _ _ rfl) rfl rfl ?_
        refine v_if (hz_X11_land hT _ _ rfl) (fun _ => ?_) (fun hc17 => absurd (show (0 : Int) = 0 from (by omega)) hc17)
        refine v_load (v := (2, 0)) (hz_X11_land hT _ _ rfl) rfl rfl ?_
        refine v_push (10) (hz_X11_land hT _ _ rfl) rfl ?_
        refine v_call (w := 2) [some (2, 0), some (0, 10)] hO (hz_X11_land hT _ _ rfl) rfl rfl ?_
        refine v_load (v := (2, 0)) (hz_X11_refused hT _ _ rfl) rfl rfl ?_
        refine v_load (v := (0, 10)) (hz_X11_refused hT _ _ rfl) rfl rfl ?_
        refine v_putf (r := 0) hO (hz_X11_refused hT _ _ rfl) rfl (fun hf18 => ?_)
        refine v_push (-1) (hz_X11_refused hT _ _ rfl) rfl ?_
        refine v_ret (hz_X11_refused hT _ _ rfl) (Or.inl rfl) ?_
        show vP D T N 162 51 (zset (zset (zset (zset g6 10 1 (0, 0)) 10 9 (0, e6.1)) 10 10 (0, e6.2)) 0 0 (0, 10)) [some (2, 0), some (0, (n : Int)), some (0, 0), none] [(0, -1)] _
        refine v_ret (hz_X11_land hT _ _ rfl) (Or.inl rfl) ?_
        exact k3 hc1 hc3 g6 m τ e6 xf6 hK6 q6 c6
theorem qc_landH {D : zD} {T : zT} (hT : hTab T) (hO : vOK T) {N : Nat} {h : zH} {Q : zR → Prop} (n : Nat) (hv0 : zHv h) (hn : (h 10 1).2 < (n : Int))
    (k0 : Q (zset h 0 0 (0, 5), some (0, -1))) :
    vP D T N 162 0 h [some (2, 0), some (0, (n : Int)), none, none] [] Q := by
  refine v_load (v := (0, (n : Int))) (hz_X11_land hT _ _ rfl) rfl rfl ?_
  refine v_if (hz_X11_land hT _ _ rfl) (fun hc1 => absurd (show (n : Int) < 0 from hc1) (by omega)) (fun _ => ?_)
  refine v_load (v := (0, (n : Int))) (hz_X11_land hT _ _ rfl) rfl rfl ?_
  refine v_load (v := (2, 0)) (hz_X11_land hT _ _ rfl) rfl rfl ?_
  refine v_getR (c := 10) (r := 0) (hz_X11_land hT _ _ rfl) rfl rfl rfl ?_
  refine v_getI (t := 0) (r := 10) (hz_X11_land hT _ _ rfl) rfl rfl rfl ?_
  refine v_ic (hz_X11_land hT _ _ rfl) (fun _ => ?_) (fun hc2 => absurd (show (h 10 1).2 < (n : Int) from hn) hc2)
  refine v_load (v := (2, 0)) (hz_X11_land hT _ _ rfl) rfl rfl ?_
  refine v_push (5) (hz_X11_land hT _ _ rfl) rfl ?_
  refine v_call (w := 2) [some (2, 0), some (0, 5)] hO (hz_X11_land hT _ _ rfl) rfl rfl ?_
  refine v_load (v := (2, 0)) (hz_X11_refused hT _ _ rfl) rfl rfl ?_
  refine v_load (v := (0, 5)) (hz_X11_refused hT _ _ rfl) rfl rfl ?_
  refine v_putf (r := 0) hO (hz_X11_refused hT _ _ rfl) rfl (fun hf3 => ?_)
  refine v_push (-1) (hz_X11_refused hT _ _ rfl) rfl ?_
  refine v_ret (hz_X11_refused hT _ _ rfl) (Or.inl rfl) ?_
  show vP D T N 162 20 (zset h 0 0 (0, 5)) [some (2, 0), some (0, (n : Int)), none, none] [(0, -1)] _
  refine v_ret (hz_X11_land hT _ _ rfl) (Or.inl rfl) ?_
  exact k0 
theorem qr_landH {D : zD} {T : zT} (hT : hTab T) (hO : vOK T) {N : Nat} {h : zH} {Q : zR → Prop} (n : Nat) (hv0 : zHv h) (hn : (h 121 8).2 < (n : Int))
    (k0 : Q (zset (zset (zset h 121 1 (0, 0)) 121 0 (0, 0)) 121 0 (0, 5), some (0, -1))) :
    vP D T N 268 0 h [some (2, 121), some (0, (n : Int)), none] [] Q := by
  refine v_load (v := (2, 121)) (hz_X12_land hT _ _ rfl) rfl rfl ?_
  refine v_push (0) (hz_X12_land hT _ _ rfl) rfl ?_
  refine v_putf (r := 121) hO (hz_X12_land hT _ _ rfl) rfl (fun hf1 => ?_)
  refine v_load (v := (2, 121)) (hz_X12_land hT _ _ rfl) rfl rfl ?_
  refine v_push (0) (hz_X12_land hT _ _ rfl) rfl ?_
  refine v_putf (r := 121) hO (hz_X12_land hT _ _ rfl) rfl (fun hf2 => ?_)
  refine v_load (v := (2, 121)) (hz_X12_land hT _ _ rfl) rfl rfl ?_
  refine v_load (v := (0, (n : Int))) (hz_X12_land hT _ _ rfl) rfl rfl ?_
  refine v_push (900) (hz_X12_land hT _ _ rfl) rfl ?_
  refine v_call (w := 3) [some (2, 121), some (0, (n : Int)), some (0, 900)] hO (hz_X12_land hT _ _ rfl) rfl rfl ?_
  refine v_load (v := (0, (n : Int))) (hz_X12_opens hT _ _ rfl) rfl rfl ?_
  refine v_if (hz_X12_opens hT _ _ rfl) (fun hc3 => absurd (show (n : Int) < 0 from hc3) (by omega)) (fun _ => ?_)
  refine v_load (v := (0, (n : Int))) (hz_X12_opens hT _ _ rfl) rfl rfl ?_
  refine v_load (v := (2, 121)) (hz_X12_opens hT _ _ rfl) rfl rfl ?_
  refine v_getf (v := (0, (h 121 8).2)) (r := 121) (hz_X12_opens hT _ _ rfl) rfl rfl (fun hv_ => Eq.trans (Eq.trans (zset_ne (fun c => absurd c.2 (by decide))) (zset_ne (fun c => absurd c.2 (by decide)))) (hv0.at rfl)) ?_
  refine v_ic (hz_X12_opens hT _ _ rfl) (fun _ => ?_) (fun hc4 => absurd (show (h 121 8).2 < (n : Int) from hn) hc4)
  refine v_load (v := (2, 121)) (hz_X12_opens hT _ _ rfl) rfl rfl ?_
  refine v_push (5) (hz_X12_opens hT _ _ rfl) rfl ?_
  refine v_call (w := 2) [some (2, 121), some (0, 5)] hO (hz_X12_opens hT _ _ rfl) rfl rfl ?_
  refine v_load (v := (2, 121)) (hz_X12_no hT _ _ rfl) rfl rfl ?_
  refine v_load (v := (0, 5)) (hz_X12_no hT _ _ rfl) rfl rfl ?_
  refine v_putf (r := 121) hO (hz_X12_no hT _ _ rfl) rfl (fun hf5 => ?_)
  refine v_push (0) (hz_X12_no hT _ _ rfl) rfl ?_
  refine v_ret (hz_X12_no hT _ _ rfl) (Or.inl rfl) ?_
  show vP D T N 288 22 (zset (zset (zset h 121 1 (0, 0)) 121 0 (0, 0)) 121 0 (0, 5)) [some (2, 121), some (0, (n : Int)), some (0, 900)] [(0, 0)] _
  refine v_ret (hz_X12_opens hT _ _ rfl) (Or.inl rfl) ?_
  show vP D T N 268 18 (zset (zset (zset h 121 1 (0, 0)) 121 0 (0, 0)) 121 0 (0, 5)) [some (2, 121), some (0, (n : Int)), none] [(0, 0)] _
  refine v_if (hz_X12_land hT _ _ rfl) (fun _ => ?_) (fun hc6 => absurd (show (0 : Int) = 0 from (by omega)) hc6)
  refine v_push (-1) (hz_X12_land hT _ _ rfl) rfl ?_
  refine v_ret (hz_X12_land hT _ _ rfl) (Or.inl rfl) ?_
  exact k0 
theorem qc_landn {D : zD} {T : zT} (hT : hTab T) (hO : vOK T) {N : Nat} {h : zH} {Q : zR → Prop} (n : Int) (hv0 : zHv h) (hn : n < 0)
    (k0 : Q (zset h 0 0 (0, 5), some (0, -1))) :
    vP D T N 162 0 h [some (2, 0), some (0, n), none, none] [] Q := by
  refine v_load (v := (0, n)) (hz_X11_land hT _ _ rfl) rfl rfl ?_
  refine v_if (hz_X11_land hT _ _ rfl) (fun _ => ?_) (fun hc1 => absurd (show n < 0 from hn) hc1)
  refine v_load (v := (2, 0)) (hz_X11_land hT _ _ rfl) rfl rfl ?_
  refine v_push (5) (hz_X11_land hT _ _ rfl) rfl ?_
  refine v_call (w := 2) [some (2, 0), some (0, 5)] hO (hz_X11_land hT _ _ rfl) rfl rfl ?_
  refine v_load (v := (2, 0)) (hz_X11_refused hT _ _ rfl) rfl rfl ?_
  refine v_load (v := (0, 5)) (hz_X11_refused hT _ _ rfl) rfl rfl ?_
  refine v_putf (r := 0) hO (hz_X11_refused hT _ _ rfl) rfl (fun hf2 => ?_)
  refine v_push (-1) (hz_X11_refused hT _ _ rfl) rfl ?_
  refine v_ret (hz_X11_refused hT _ _ rfl) (Or.inl rfl) ?_
  show vP D T N 162 20 (zset h 0 0 (0, 5)) [some (2, 0), some (0, n), none, none] [(0, -1)] _
  refine v_ret (hz_X11_land hT _ _ rfl) (Or.inl rfl) ?_
  exact k0 
theorem qr_landn {D : zD} {T : zT} (hT : hTab T) (hO : vOK T) {N : Nat} {h : zH} {Q : zR → Prop} (n : Int) (hv0 : zHv h) (hn : n < 0)
    (k0 : Q (zset (zset (zset h 121 1 (0, 0)) 121 0 (0, 0)) 121 0 (0, 5), some (0, -1))) :
    vP D T N 268 0 h [some (2, 121), some (0, n), none] [] Q := by
  refine v_load (v := (2, 121)) (hz_X12_land hT _ _ rfl) rfl rfl ?_
  refine v_push (0) (hz_X12_land hT _ _ rfl) rfl ?_
  refine v_putf (r := 121) hO (hz_X12_land hT _ _ rfl) rfl (fun hf1 => ?_)
  refine v_load (v := (2, 121)) (hz_X12_land hT _ _ rfl) rfl rfl ?_
  refine v_push (0) (hz_X12_land hT _ _ rfl) rfl ?_
  refine v_putf (r := 121) hO (hz_X12_land hT _ _ rfl) rfl (fun hf2 => ?_)
  refine v_load (v := (2, 121)) (hz_X12_land hT _ _ rfl) rfl rfl ?_
  refine v_load (v := (0, n)) (hz_X12_land hT _ _ rfl) rfl rfl ?_
  refine v_push (900) (hz_X12_land hT _ _ rfl) rfl ?_
  refine v_call (w := 3) [some (2, 121), some (0, n), some (0, 900)] hO (hz_X12_land hT _ _ rfl) rfl rfl ?_
  refine v_load (v := (0, n)) (hz_X12_opens hT _ _ rfl) rfl rfl ?_
  refine v_if (hz_X12_opens hT _ _ rfl) (fun _ => ?_) (fun hc3 => absurd (show n < 0 from hn) hc3)
  refine v_load (v := (2, 121)) (hz_X12_opens hT _ _ rfl) rfl rfl ?_
  refine v_push (5) (hz_X12_opens hT _ _ rfl) rfl ?_
  refine v_call (w := 2) [some (2, 121), some (0, 5)] hO (hz_X12_opens hT _ _ rfl) rfl rfl ?_
  refine v_load (v := (2, 121)) (hz_X12_no hT _ _ rfl) rfl rfl ?_
  refine v_load (v := (0, 5)) (hz_X12_no hT _ _ rfl) rfl rfl ?_
  refine v_putf (r := 121) hO (hz_X12_no hT _ _ rfl) rfl (fun hf4 => ?_)
  refine v_push (0) (hz_X12_no hT _ _ rfl) rfl ?_
  refine v_ret (hz_X12_no hT _ _ rfl) (Or.inl rfl) ?_
  show vP D T N 288 22 (zset (zset (zset h 121 1 (0, 0)) 121 0 (0, 0)) 121 0 (0, 5)) [some (2, 121), some (0, n), some (0, 900)] [(0, 0)] _
  refine v_ret (hz_X12_opens hT _ _ rfl) (Or.inl rfl) ?_
  show vP D T N 268 18 (zset (zset (zset h 121 1 (0, 0)) 121 0 (0, 0)) 121 0 (0, 5)) [some (2, 121), some (0, n), none] [(0, 0)] _
  refine v_if (hz_X12_land hT _ _ rfl) (fun _ => ?_) (fun hc5 => absurd (show (0 : Int) = 0 from (by omega)) hc5)
  refine v_push (-1) (hz_X12_land hT _ _ rfl) rfl ?_
  refine v_ret (hz_X12_land hT _ _ rfl) (Or.inl rfl) ?_
  exact k0 
theorem cx_land_24 {D : zD} {T : zT} (hT : hTab T) (hO : vOK T) {N : Nat} {h : zH} {B : Nat → Int} {n : Nat} (hB : TXc B n h) (e7 : h 0 7 = (2, 39)) (e8 : h 0 8 = (2, 24)) : vP D T N 162 0 h [some (2, 0), some (0, (n : Int)), none, none] [] (cLd 24 39 B n h) := by
  refine vP_hv (fun hv => qc_land_24 hT hO hv hB e7 e8 ?_ ?_ ?_ ?_)
  · intros; omega
  · intro _ c
    exact Or.inl ⟨c, rfl⟩
  · intro _ c g m τ P xf hK q cp lb d7 d8 o0 o1
    refine Or.inr ⟨c, fun a b hn => ?_, ?_, m, τ, hK, Or.inr ⟨P, q, rfl, ?_, ?_, ?_, ?_, ?_, lb, ?_, ?_⟩⟩
    · show zset (zset (zset (zset (zset (zset g 10 1 (0, 0)) 10 9 (0, 0)) 10 10 (0, -1)) 0 7 (2, 24)) 0 8 (2, 39)) 0 0 (0, 0) a b = h a b
      rw [zset_ne (fun c => hn (by omega)), zset_ne (fun c => hn (by omega)), zset_ne (fun c => hn (by omega)), zset_ne (fun c => hn (by omega)), zset_ne (fun c => hn (by omega)), zset_ne (fun c => hn (by omega))]
      exact xf a b (fun c => hn (by omega))
    · show zset (zset (zset (zset (zset (zset g 10 1 (0, 0)) 10 9 (0, 0)) 10 10 (0, -1)) 0 7 (2, 24)) 0 8 (2, 39)) 0 0 (0, 0) 0 10 = h 0 10
      rw [zset_ne (by decide), zset_ne (by decide), zset_ne (by decide), zset_ne (by decide), zset_ne (by decide), zset_ne (by decide)]
      exact xf 0 10 (fun c => by omega)
    · dsimp only
      exact (zset_ne (by decide)).trans ((zset_ne (by decide)).trans ((zset_ne (by decide)).trans ((zset_ne (by decide)).trans zset_same)))
    · dsimp only
      exact (zset_ne (by decide)).trans ((zset_ne (by decide)).trans ((zset_ne (by decide)).trans zset_same))
    · dsimp only
      exact (zset_ne (by decide)).trans ((zset_ne (by decide)).trans zset_same)
    · dsimp only
      exact (zset_ne (by decide)).trans zset_same
    · exact cp.eq (fun a b h1 h2 => (zset_ne (fun c => by omega)).trans ((zset_ne (fun c => by omega)).trans ((zset_ne (fun c => by omega)).trans ((zset_ne (fun c => by omega)).trans ((zset_ne (fun c => by omega)).trans (zset_ne (fun c => by omega)))))))
    · dsimp only
      exact (zset_ne (by decide)).trans ((zset_ne (by decide)).trans ((zset_ne (by decide)).trans ((zset_ne (by decide)).trans ((zset_ne (by decide)).trans ((zset_ne (by decide)).trans o0)))))
    · dsimp only
      exact (zset_ne (by decide)).trans ((zset_ne (by decide)).trans ((zset_ne (by decide)).trans ((zset_ne (by decide)).trans ((zset_ne (by decide)).trans ((zset_ne (by decide)).trans o1)))))
  · intro _ c g m τ e xf hK q cb
    refine Or.inr ⟨c, fun a b hn => ?_, ?_, m, τ, hK, Or.inl ⟨e, q, rfl, ?_, ?_, ?_, ?_⟩⟩
    · show zset (zset (zset (zset g 10 1 (0, 0)) 10 9 (0, e.1)) 10 10 (0, e.2)) 0 0 (0, 10) a b = h a b
      rw [zset_ne (fun c => hn (by omega)), zset_ne (fun c => hn (by omega)), zset_ne (fun c => hn (by omega)), zset_ne (fun c => hn (by omega))]
      exact xf a b (fun c => hn (by omega))
    · show zset (zset (zset (zset g 10 1 (0, 0)) 10 9 (0, e.1)) 10 10 (0, e.2)) 0 0 (0, 10) 0 10 = h 0 10
      rw [zset_ne (by decide), zset_ne (by decide), zset_ne (by decide), zset_ne (by decide)]
      exact xf 0 10 (fun c => by omega)
    · dsimp only
      exact (zset_ne (by decide)).trans ((zset_ne (by decide)).trans zset_same)
    · dsimp only
      exact (zset_ne (by decide)).trans zset_same
    · dsimp only
      exact (zset_ne (by decide)).trans ((zset_ne (by decide)).trans ((zset_ne (by decide)).trans ((zset_ne (by decide)).trans ((xf 0 7 (fun c => by omega)).trans e7))))
    · dsimp only
      exact (zset_ne (by decide)).trans ((zset_ne (by decide)).trans ((zset_ne (by decide)).trans ((zset_ne (by decide)).trans ((xf 0 8 (fun c => by omega)).trans e8))))
theorem cx_land_39 {D : zD} {T : zT} (hT : hTab T) (hO : vOK T) {N : Nat} {h : zH} {B : Nat → Int} {n : Nat} (hB : TXc B n h) (e7 : h 0 7 = (2, 24)) (e8 : h 0 8 = (2, 39)) : vP D T N 162 0 h [some (2, 0), some (0, (n : Int)), none, none] [] (cLd 39 24 B n h) := by
  refine vP_hv (fun hv => qc_land_39 hT hO hv hB e7 e8 ?_ ?_ ?_ ?_)
  · intros; omega
  · intro _ c
    exact Or.inl ⟨c, rfl⟩
  · intro _ c g m τ P xf hK q cp lb d7 d8 o0 o1
    refine Or.inr ⟨c, fun a b hn => ?_, ?_, m, τ, hK, Or.inr ⟨P, q, rfl, ?_, ?_, ?_, ?_, ?_, lb, ?_, ?_⟩⟩
    · show zset (zset (zset (zset (zset (zset g 10 1 (0, 0)) 10 9 (0, 0)) 10 10 (0, -1)) 0 7 (2, 39)) 0 8 (2, 24)) 0 0 (0, 0) a b = h a b
      rw [zset_ne (fun c => hn (by omega)), zset_ne (fun c => hn (by omega)), zset_ne (fun c => hn (by omega)), zset_ne (fun c => hn (by omega)), zset_ne (fun c => hn (by omega)), zset_ne (fun c => hn (by omega))]
      exact xf a b (fun c => hn (by omega))
    · show zset (zset (zset (zset (zset (zset g 10 1 (0, 0)) 10 9 (0, 0)) 10 10 (0, -1)) 0 7 (2, 39)) 0 8 (2, 24)) 0 0 (0, 0) 0 10 = h 0 10
      rw [zset_ne (by decide), zset_ne (by decide), zset_ne (by decide), zset_ne (by decide), zset_ne (by decide), zset_ne (by decide)]
      exact xf 0 10 (fun c => by omega)
    · dsimp only
      exact (zset_ne (by decide)).trans ((zset_ne (by decide)).trans ((zset_ne (by decide)).trans ((zset_ne (by decide)).trans zset_same)))
    · dsimp only
      exact (zset_ne (by decide)).trans ((zset_ne (by decide)).trans ((zset_ne (by decide)).trans zset_same))
    · dsimp only
      exact (zset_ne (by decide)).trans ((zset_ne (by decide)).trans zset_same)
    · dsimp only
      exact (zset_ne (by decide)).trans zset_same
    · exact cp.eq (fun a b h1 h2 => (zset_ne (fun c => by omega)).trans ((zset_ne (fun c => by omega)).trans ((zset_ne (fun c => by omega)).trans ((zset_ne (fun c => by omega)).trans ((zset_ne (fun c => by omega)).trans (zset_ne (fun c => by omega)))))))
    · dsimp only
      exact (zset_ne (by decide)).trans ((zset_ne (by decide)).trans ((zset_ne (by decide)).trans ((zset_ne (by decide)).trans ((zset_ne (by decide)).trans ((zset_ne (by decide)).trans o0)))))
    · dsimp only
      exact (zset_ne (by decide)).trans ((zset_ne (by decide)).trans ((zset_ne (by decide)).trans ((zset_ne (by decide)).trans ((zset_ne (by decide)).trans ((zset_ne (by decide)).trans o1)))))
  · intro _ c g m τ e xf hK q cb
    refine Or.inr ⟨c, fun a b hn => ?_, ?_, m, τ, hK, Or.inl ⟨e, q, rfl, ?_, ?_, ?_, ?_⟩⟩
    · show zset (zset (zset (zset g 10 1 (0, 0)) 10 9 (0, e.1)) 10 10 (0, e.2)) 0 0 (0, 10) a b = h a b
      rw [zset_ne (fun c => hn (by omega)), zset_ne (fun c => hn (by omega)), zset_ne (fun c => hn (by omega)), zset_ne (fun c => hn (by omega))]
      exact xf a b (fun c => hn (by omega))
    · show zset (zset (zset (zset g 10 1 (0, 0)) 10 9 (0, e.1)) 10 10 (0, e.2)) 0 0 (0, 10) 0 10 = h 0 10
      rw [zset_ne (by decide), zset_ne (by decide), zset_ne (by decide), zset_ne (by decide)]
      exact xf 0 10 (fun c => by omega)
    · dsimp only
      exact (zset_ne (by decide)).trans ((zset_ne (by decide)).trans zset_same)
    · dsimp only
      exact (zset_ne (by decide)).trans zset_same
    · dsimp only
      exact (zset_ne (by decide)).trans ((zset_ne (by decide)).trans ((zset_ne (by decide)).trans ((zset_ne (by decide)).trans ((xf 0 7 (fun c => by omega)).trans e7))))
    · dsimp only
      exact (zset_ne (by decide)).trans ((zset_ne (by decide)).trans ((zset_ne (by decide)).trans ((zset_ne (by decide)).trans ((xf 0 8 (fun c => by omega)).trans e8))))
theorem lZ.by {D : zD} {h : zH} (hZ : lZ D h) (q : Nat) (hq : q ≤ 899) : h 11 q = (0, (h 11 q).2) ∧ -128 ≤ (h 11 q).2 ∧ (h 11 q).2 ≤ 127 := by
  have b := hZ.bd (r := 11) (lo := 0) (hi := 899) (k := 0) (a := -128) (b := 127) ty_11 rfl (by decide +kernel) q (Nat.zero_le _) hq
  exact ⟨Prod.ext b.1 rfl, b.2⟩
theorem lZ.bt {D : zD} {h : zH} (hZ : lZ D h) (q : Nat) (hq : q ≤ 899) : h 125 q = (0, (h 125 q).2) := Prod.ext (hZ.bd (r := 125) (lo := 0) (hi := 899) (k := 0) (a := -128) (b := 127) ty_125 rfl (by decide +kernel) q (Nat.zero_le _) hq).1 rfl
def lB2 (h : zH) : Nat → Int := fun q => (h 11 q).2
theorem lZ.tx {D : zD} {h : zH} (hZ : lZ D h) {n : Nat} (hn : n ≤ 900) : TXc (lB2 h) n h := ⟨⟨hn, fun q hq => (hZ.by q (by omega)).2⟩, fun q hq => (hZ.by q (by omega)).1⟩
/-- what land(n) comes to on both sides (h: ahead of it, h1: between, h2: behind) -/
theorem land_both {D : zD} {h h1 h2 : zH} {n v1 v2 : Int} {r c : Nat} (hrc : lSw r c) (e7 : h 0 7 = (2, (c : Int))) (e8 : h 0 8 = (2, (r : Int))) (hZ : lZ D h) (hZ1 : lZ D h1) (hR : lT h) (z1 : zRun D TLw 614 162 0 (h, zargs 0 [(2, 0), (0, n)], []) (h1, some (0, v1))) (f1 : aFr lM_162 h h1) (z2 : zRun D TLw 614 268 0 (h1, zargs 0 [(2, 121), (0, n)], []) (h2, some (0, v2))) (f2 : aFr lM_268 h1 h2) : (v1 = -1 ∧ v2 = -1 ∧ h1 = zset h 0 0 (0, 5) ∧ (∀ a b, ¬ (a = 121 ∧ b ≤ 1) → h2 a b = h1 a b)) ∨ (cLf r h h1 ∧ h1 0 10 = h 0 10 ∧ ((∃ e : Er, v1 = -1 ∧ v2 = -1 ∧ h1 10 9 = (0, e.1) ∧ h1 10 10 = (0, e.2) ∧ h1 0 7 = (2, (c : Int)) ∧ h1 0 8 = (2, (r : Int)) ∧ h2 121 10 = (0, e.1) ∧ h2 121 11 = (0, e.2) ∧ rG 0 h1 h2) ∨ (∃ P, v1 = P 0 3 ∧ v2 = P 0 3 ∧ h1 10 9 = (0, 0) ∧ h1 10 10 = (0, -1) ∧ h1 0 7 = (2, (r : Int)) ∧ h1 0 8 = (2, (c : Int)) ∧ cP r P h1 ∧ lB P ∧ h1 (r + 10) 0 = (0, -1) ∧ h1 (r + 10) 1 = (0, 0) ∧ h2 121 10 = (0, 0) ∧ h2 121 11 = (0, -1) ∧ rP 0 P h2 ∧ rD 0 P h2 ∧ rG 1 h1 h2))) := by
  have b10 := hZ.b10
  have k1 : h1 121 8 = h 121 8 := f1.keep (S := tpR) (by decide +kernel) tpR_in
  have kr : tK (tR h1) (tR h) := tK_r f1 (by decide +kernel)
  have hR1 : (h 10 1).2 = (h 121 8).2 := hR.1
  by_cases hn : n < 0
  · have a1 := hZ.run 4 z1 (Q := fun x => x = (zset h 0 0 (0, 5), some (0, -1))) (fun N => vP_hv (fun hv => qc_landn TLw_T vOK_T n hv hn rfl))
    have a2 := hZ1.run 3 z2 (Q := fun x => x = (zset (zset (zset h1 121 1 (0, 0)) 121 0 (0, 0)) 121 0 (0, 5), some (0, -1))) (fun N => vP_hv (fun hv => qr_landn TLw_T vOK_T n hv hn rfl))
    refine Or.inl ⟨?_, ?_, congrArg Prod.fst a1, fun a b hab => ?_⟩
    · cases (congrArg Prod.snd a1 : some ((0, v1) : zV) = some (0, -1)); rfl
    · cases (congrArg Prod.snd a2 : some ((0, v2) : zV) = some (0, -1)); rfl
    · have a2' : h2 = zset (zset (zset h1 121 1 (0, 0)) 121 0 (0, 0)) 121 0 (0, 5) := congrArg Prod.fst a2
      rw [a2', zset_ne (fun c => hab (by omega)), zset_ne (fun c => hab (by omega)), zset_ne (fun c => hab (by omega))]
  · obtain ⟨m', rfl⟩ : ∃ m' : Nat, n = (m' : Int) := ⟨n.toNat, by omega⟩
    by_cases hl : (h 10 1).2 < (m' : Int)
    · have q0 : vP D TLw 1 0 0 h [] [] (fun _ => True) := fun _ _ _ _ _ => trivial
      have a1 : (h1, some ((0, v1) : zV)) = (zset h 0 0 (0, 5), some (0, -1)) := by
        rcases hrc with ⟨rfl, rfl⟩ | ⟨rfl, rfl⟩
        · exact hZ.run 4 z1 (Q := fun x => x = (zset h 0 0 (0, 5), some (0, -1))) (fun N => vP_hv (fun hv => qc_landH TLw_T vOK_T m' hv hl rfl))
        · exact hZ.run 4 z1 (Q := fun x => x = (zset h 0 0 (0, 5), some (0, -1))) (fun N => vP_hv (fun hv => qc_landH TLw_T vOK_T m' hv hl rfl))
      have a2 := hZ1.run 3 z2 (Q := fun x => x = (zset (zset (zset h1 121 1 (0, 0)) 121 0 (0, 0)) 121 0 (0, 5), some (0, -1))) (fun N => vP_hv (fun hv => qr_landH TLw_T vOK_T m' hv (by rw [k1, ← hR1]; exact hl) rfl))
      refine Or.inl ⟨?_, ?_, congrArg Prod.fst a1, fun a b hab => ?_⟩
      · cases (congrArg Prod.snd a1 : some ((0, v1) : zV) = some (0, -1)); rfl
      · cases (congrArg Prod.snd a2 : some ((0, v2) : zV) = some (0, -1)); rfl
      · have a2' : h2 = zset (zset (zset h1 121 1 (0, 0)) 121 0 (0, 0)) 121 0 (0, 5) := congrArg Prod.fst a2
        rw [a2', zset_ne (fun c => hab (by omega)), zset_ne (fun c => hab (by omega)), zset_ne (fun c => hab (by omega))]
    · have hn9 : m' ≤ 900 := by omega
      have a1 : cLd r c (lB2 h) m' h (h1, some (0, v1)) := by
        rcases hrc with ⟨rfl, rfl⟩ | ⟨rfl, rfl⟩
        · exact hZ.run 4 z1 (Q := cLd 24 39 (lB2 h) m' h) (fun N => cx_land_24 TLw_T vOK_T (hZ.tx hn9) e7 e8)
        · exact hZ.run 4 z1 (Q := cLd 39 24 (lB2 h) m' h) (fun N => cx_land_39 TLw_T vOK_T (hZ.tx hn9) e7 e8)
      rcases a1 with ⟨d, _⟩ | ⟨_, lf, e10, m, τ, hK, hh⟩
      · exact absurd d hl
      · have a2 := hZ1.run 3 z2 (Q := rLr τ h1) (fun N => rx_land TLw_T vOK_T hK (hZ.tx hn9).1 (fun q hq => by
          rw [hZ1.bt q (by omega)]
          refine congrArg (Prod.mk (0 : Nat)) ?_
          have w := kr.2 q (by omega)
          exact w.trans (hR.2 q (by omega) (by show (q : Int) < (h 10 1).2; omega)).symm) (by rw [k1, ← hR1]; omega))
        refine Or.inr ⟨lf, e10, ?_⟩
        rcases hh with ⟨e, q1, q2, q3, q4, q5, q6⟩ | ⟨P, q1, q2, q3, q4, q5, q6, q7, q8, q9, q10⟩
        · rcases a2 with ⟨e', p1, p2, p3, p4, p5⟩ | ⟨P', p1, _⟩
          · rw [q1] at p1
            cases p1
            refine Or.inl ⟨e, ?_, ?_, q3, q4, q5, q6, p3, p4, p5⟩
            · cases (q2 : some ((0, v1) : zV) = some (0, -1)); rfl
            · cases (p2 : some ((0, v2) : zV) = some (0, -1)); rfl
          · rw [q1] at p1; cases p1
        · rcases a2 with ⟨e', p1, _⟩ | ⟨P', p1, p2, p3, p4, p5, p6, p7, p8⟩
          · rw [q1] at p1; cases p1
          · rw [q1] at p1
            cases p1
            refine Or.inr ⟨P, ?_, ?_, q3, q4, q5, q6, q7, q8, q9, q10, p3, p4, p5, p6, p8⟩
            · cases (q2 : some ((0, v1) : zV) = some (0, P 0 3)); rfl
            · cases (p2 : some ((0, v2) : zV) = some (0, P 0 3)); rfl
theorem lSw.symm {r c : Nat} (h : lSw r c) : lSw c r := by
  rcases h with ⟨a, b⟩ | ⟨a, b⟩
  · exact Or.inr ⟨b, a⟩
  · exact Or.inl ⟨b, a⟩
theorem lT_feed {D : zD} {h h1 h2 : zH} {a b c d e v1 v2 : Int} (hZ : lZ D h) (hZ1 : lZ D h1) (hR : lT h) (z1 : zRun D TLw 614 155 0 (h, zargs 0 [(2, 0), (0, a), (0, b), (0, c), (0, d), (0, e)], []) (h1, some (0, v1))) (f1 : aFr lM_155 h h1) (z2 : zRun D TLw 614 227 0 (h1, zargs 0 [(2, 121), (0, a), (0, b), (0, c), (0, d), (0, e)], []) (h2, some (0, v2))) (f2 : aFr lM_227 h1 h2) : lT h2 ∧ v1 = v2 := by
  have c1 := hZ.run 6 z1 (Q := cFdB a b c d e h) (fun N => cFdB_ok TLw_T vOK_T a b c d e hZ.b10)
  have c2 := hZ1.run 6 z2 (Q := rFdB a b c d e h1) (fun N => rFdB_ok TLw_T vOK_T a b c d e hZ1.b121)
  have k1 : tK (tR h1) (tR h) := tK_r f1 (by decide +kernel)
  have k2 : tK (tC h2) (tC h1) := tK_c f2 (by decide +kernel)
  have hR1 : (h 10 1).2 = (h 121 8).2 := hR.1
  have l1 : (h1 121 8).2 = (h 121 8).2 := k1.1
  have hb := hZ.b10
  have hE : tEq (tC h) (tR h1) := tEq.k hR ⟨rfl, fun _ _ => rfl⟩ k1
  unfold cFdB at c1
  unfold rFdB at c2
  dsimp only at c1 c2
  rcases c1 with ⟨x1, x2, x3⟩ | ⟨x1, x2, x3⟩ <;> rcases c2 with ⟨y1, y2, y3⟩ | ⟨y1, y2, y3⟩
  · refine ⟨?_, by cases x2; cases y2; rfl⟩
    have e1 : tEq (tC h1) (tR h2) := by rw [x3, y3]; exact hE
    exact tEq.k e1 k2 ⟨rfl, fun _ _ => rfl⟩
  · omega
  · omega
  · have x2 : v1 = (h 10 1).2 + 20 := by cases x2; rfl
    have y2 : v2 = (h1 121 8).2 + 20 := by cases y2; rfl
    refine ⟨?_, by omega⟩
    have e1 : tEq (tC h1) (tR h2) := by rw [x3, y3]; exact tEq.fd hb.1 hE
    exact tEq.k e1 k2 ⟨rfl, fun _ _ => rfl⟩
/-- behind land(n), orders(n): the tape as it was, or empty -/
theorem lT_len {h h1 h2 : zH} {m n : Int} {v1 v2 : Option zV} (hR : lT h) (c1 : cLn m n h (h1, v1)) (c2 : rLn m n h1 (h2, v2)) (k1 : tK (tR h1) (tR h)) (k2 : tK (tC h2) (tC h1)) (kb : ∀ q, q ≤ 899 → (h1 11 q).2 = (h 11 q).2) (kb2 : ∀ q, q ≤ 899 → (h2 125 q).2 = (h1 125 q).2) : lT h2 := by
  have hR1 : (h 10 1).2 = (h 121 8).2 := hR.1
  have l1 : (h1 121 8).2 = (h 121 8).2 := k1.1
  have l2 : (h2 10 1).2 = (h1 10 1).2 := k2.1
  have w1 : ∀ q, q ≤ 899 → (h1 125 q).2 = (h 125 q).2 := k1.2
  have w2 : ∀ q, q ≤ 899 → (h2 11 q).2 = (h1 11 q).2 := k2.2
  unfold cLn at c1
  unfold rLn at c2
  dsimp only at c1 c2
  refine ⟨?_, fun q hq9 hq => ?_⟩
  · show (h2 10 1).2 = (h2 121 8).2
    omega
  · have hq : (q : Int) < (h2 10 1).2 := hq
    show (h2 11 q).2 = (h2 125 q).2
    rw [w2 q hq9, kb q hq9, kb2 q hq9, w1 q hq9]
    exact hR.2 q hq9 (by show (q : Int) < (h 10 1).2; omega)
theorem kb_c {M : aM} {h g : zH} (f : aFr M h g) (hf : lFree [(11, 0, 899)] M = true) : ∀ q, q ≤ 899 → (g 11 q).2 = (h 11 q).2 := fun q hq => congrArg Prod.snd (f.keep (S := [(11, 0, 899)]) hf ⟨_, List.mem_cons_self, rfl, Nat.zero_le _, hq⟩)
theorem kb_r {M : aM} {h g : zH} (f : aFr M h g) (hf : lFree [(125, 0, 899)] M = true) : ∀ q, q ≤ 899 → (g 125 q).2 = (h 125 q).2 := fun q hq => congrArg Prod.snd (f.keep (S := [(125, 0, 899)]) hf ⟨_, List.mem_cons_self, rfl, Nat.zero_le _, hq⟩)
theorem lT_land {D : zD} {h h1 h2 : zH} {n v1 v2 : Int} (hZ : lZ D h) (hZ1 : lZ D h1) (hR : lT h) (z1 : zRun D TLw 614 162 0 (h, zargs 0 [(2, 0), (0, n)], []) (h1, some (0, v1))) (f1 : aFr lM_162 h h1) (z2 : zRun D TLw 614 268 0 (h1, zargs 0 [(2, 121), (0, n)], []) (h2, some (0, v2))) (f2 : aFr lM_268 h1 h2) : lT h2 :=
  lT_len hR (hZ.run 4 z1 (Q := cLn 900 n h) (fun N => cLd_ok n hZ.b10.2 hZ.r8)) (hZ1.run 3 z2 (Q := rLn 900 n h1) (fun N => rLd_ok n)) (tK_r f1 (by decide +kernel)) (tK_c f2 (by decide +kernel)) (kb_c f1 (by decide +kernel)) (kb_r f2 (by decide +kernel))
theorem lT_orders {D : zD} {h h1 h2 : zH} {n v1 v2 : Int} (hZ : lZ D h) (hZ1 : lZ D h1) (hR : lT h) (z1 : zRun D TLw 614 170 0 (h, zargs 0 [(2, 0), (0, n)], []) (h1, some (0, v1))) (f1 : aFr lM_170 h h1) (z2 : zRun D TLw 614 289 0 (h1, zargs 0 [(2, 121), (0, n)], []) (h2, some (0, v2))) (f2 : aFr lM_289 h1 h2) : lT h2 :=
  lT_len hR (hZ.run 3 z1 (Q := cLn 300 n h) (fun N => cOr_ok n hZ.r7)) (hZ1.run 3 z2 (Q := rLn 300 n h1) (fun N => rOr_ok n)) (tK_r f1 (by decide +kernel)) (tK_c f2 (by decide +kernel)) (kb_c f1 (by decide +kernel)) (kb_r f2 (by decide +kernel))
