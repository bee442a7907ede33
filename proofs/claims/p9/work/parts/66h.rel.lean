/-! THE TAPE OF BOTH SIDES: how long it is behind feed(), land(), orders() -/
theorem c_append {D : zD} {T : zT} (hT : hTab T) (hO : vOK T) {N : Nat} {h : zH} {Q : zR → Prop} (x : Int) (hL : 0 ≤ (h 10 1).2 ∧ (h 10 1).2 ≤ 896) (k : ∀ h' : zH, (h' 10 1).2 = (h 10 1).2 + 4 → Q (h', none)) : vP D T N 101 0 h [some (2, 10), some (0, x), none] [] Q := by
  refine vP_hv (fun hv => y_X8_append hT hO x hv hL ?_ ?_ ?_ ?_ ?_)
  · intro _ _ _ _ _ _ _ _ _ _ _ _
    refine k _ ?_
    rw [zset_same]
    show (h 10 1).2 + 1 + 1 + 1 + 1 = _
    omega
  · intros; omega
  · intros; omega
  · intros; omega
  · intros; omega
theorem r_lay {D : zD} {T : zT} (hT : hTab T) (hO : vOK T) {N : Nat} {h : zH} {Q : zR → Prop} (x : Int) (hL : 0 ≤ (h 121 8).2 ∧ (h 121 8).2 ≤ 896) (k : ∀ h' : zH, (h' 121 8).2 = (h 121 8).2 + 4 → Q (h', none)) : vP D T N 269 0 h [some (2, 121), some (0, x), none] [] Q := by
  refine vP_hv (fun hv => y_X12_lay hT hO x hv hL ?_)
  intro _ _ _ _ _ _ _ _ _ _ _ _
  refine k _ ?_
  rw [zset_same]
  show (h 121 8).2 + 1 + 1 + 1 + 1 = _
  omega
def cFd (h : zH) (r : zR) : Prop := (900 < (h 10 1).2 + 20 ∧ r.2 = some (0, -1) ∧ (r.1 10 1).2 = (h 10 1).2) ∨ ((h 10 1).2 + 20 ≤ 900 ∧ r.2 = some (0, (h 10 1).2 + 20) ∧ (r.1 10 1).2 = (h 10 1).2 + 20)
def rFd (h : zH) (r : zR) : Prop := (900 < (h 121 8).2 + 20 ∧ r.2 = some (0, -1) ∧ (r.1 121 8).2 = (h 121 8).2) ∨ ((h 121 8).2 + 20 ≤ 900 ∧ r.2 = some (0, (h 121 8).2 + 20) ∧ (r.1 121 8).2 = (h 121 8).2 + 20)
theorem cFd_ok {D : zD} {T : zT} (hT : hTab T) (hO : vOK T) {N : Nat} {h : zH} (a b c d e : Int) (hL : 0 ≤ (h 10 1).2 ∧ (h 10 1).2 ≤ 900) : vP D T N 155 0 h [some (2, 0), some (0, a), some (0, b), some (0, c), some (0, d), some (0, e)] [] (cFd h) := by
  refine vP_hv (fun hv => y_X11_feed hT hO a b c d e hv hL (fun c1 => Or.inl ⟨c1, rfl, rfl⟩) (fun c1 => ?_))
  refine c_append hT hO a ⟨hL.1, by omega⟩ (fun h1 e1 => vP_hv (fun hv1 => y_X11_feed_1 hT hO a b c d e hv1 ?_))
  have e1 : (h1 10 1).2 = (h 10 1).2 + 4 := e1
  refine c_append hT hO b ⟨by show 0 ≤ (h1 10 1).2; omega, by show (h1 10 1).2 ≤ 896; omega⟩ (fun h2 e2 => vP_hv (fun hv2 => y_X11_feed_2 hT hO a b c d e hv2 ?_))
  have e2 : (h2 10 1).2 = (h1 10 1).2 + 4 := e2
  refine c_append hT hO c ⟨by show 0 ≤ (h2 10 1).2; omega, by show (h2 10 1).2 ≤ 896; omega⟩ (fun h3 e3 => vP_hv (fun hv3 => y_X11_feed_3 hT hO a b c d e hv3 ?_))
  have e3 : (h3 10 1).2 = (h2 10 1).2 + 4 := e3
  refine c_append hT hO d ⟨by show 0 ≤ (h3 10 1).2; omega, by show (h3 10 1).2 ≤ 896; omega⟩ (fun h4 e4 => vP_hv (fun hv4 => y_X11_feed_4 hT hO a b c d e hv4 ?_))
  have e4 : (h4 10 1).2 = (h3 10 1).2 + 4 := e4
  refine c_append hT hO e ⟨by show 0 ≤ (h4 10 1).2; omega, by show (h4 10 1).2 ≤ 896; omega⟩ (fun h5 e5 => vP_hv (fun hv5 => y_X11_feed_5 hT hO a b c d e hv5 ?_))
  have e5 : (h5 10 1).2 = (h4 10 1).2 + 4 := e5
  have e6 : (h5 10 1).2 = (h 10 1).2 + 20 := by omega
  refine Or.inr ⟨c1, ?_, e6⟩
  show some ((0, (h5 10 1).2) : zV) = _
  rw [e6]
theorem rFd_ok {D : zD} {T : zT} (hT : hTab T) (hO : vOK T) {N : Nat} {h : zH} (a b c d e : Int) (hL : 0 ≤ (h 121 8).2 ∧ (h 121 8).2 ≤ 900) : vP D T N 227 0 h [some (2, 121), some (0, a), some (0, b), some (0, c), some (0, d), some (0, e)] [] (rFd h) := by
  refine vP_hv (fun hv => y_X12_feed hT hO a b c d e hv hL (fun c1 => Or.inl ⟨c1, rfl, ?_⟩) (fun c1 => ?_))
  · show (zset h 121 1 (0, 0) 121 8).2 = _
    rw [zset_ne (by omega)]
  have e0 : (zset h 121 1 (0, 0) 121 8).2 = (h 121 8).2 := by rw [zset_ne (by omega)]
  refine r_lay hT hO a ⟨by rw [e0]; omega, by rw [e0]; omega⟩ (fun h1 e1 => vP_hv (fun hv1 => y_X12_feed_1 hT hO a b c d e hv1 ?_))
  rw [e0] at e1
  have e1 : (h1 121 8).2 = (h 121 8).2 + 4 := e1
  refine r_lay hT hO b ⟨by show 0 ≤ (h1 121 8).2; omega, by show (h1 121 8).2 ≤ 896; omega⟩ (fun h2 e2 => vP_hv (fun hv2 => y_X12_feed_2 hT hO a b c d e hv2 ?_))
  have e2 : (h2 121 8).2 = (h1 121 8).2 + 4 := e2
  refine r_lay hT hO c ⟨by show 0 ≤ (h2 121 8).2; omega, by show (h2 121 8).2 ≤ 896; omega⟩ (fun h3 e3 => vP_hv (fun hv3 => y_X12_feed_3 hT hO a b c d e hv3 ?_))
  have e3 : (h3 121 8).2 = (h2 121 8).2 + 4 := e3
  refine r_lay hT hO d ⟨by show 0 ≤ (h3 121 8).2; omega, by show (h3 121 8).2 ≤ 896; omega⟩ (fun h4 e4 => vP_hv (fun hv4 => y_X12_feed_4 hT hO a b c d e hv4 ?_))
  have e4 : (h4 121 8).2 = (h3 121 8).2 + 4 := e4
  refine r_lay hT hO e ⟨by show 0 ≤ (h4 121 8).2; omega, by show (h4 121 8).2 ≤ 896; omega⟩ (fun h5 e5 => vP_hv (fun hv5 => y_X12_feed_5 hT hO a b c d e hv5 ?_))
  have e5 : (h5 121 8).2 = (h4 121 8).2 + 4 := e5
  have e6 : (h5 121 8).2 = (h 121 8).2 + 20 := by omega
  refine Or.inr ⟨c1, ?_, e6⟩
  show some ((0, (h5 121 8).2) : zV) = _
  rw [e6]
-- behind land(n), orders(n): as it was, or empty
def cLn (m n : Int) (h : zH) (r : zR) : Prop := ((n < 0 ∨ (h 10 1).2 < n ∨ m < n) ∧ (r.1 10 1).2 = (h 10 1).2) ∨ ((0 ≤ n ∧ n ≤ (h 10 1).2 ∧ n ≤ m) ∧ (r.1 10 1).2 = 0)
def rLn (m n : Int) (h : zH) (r : zR) : Prop := ((n < 0 ∨ (h 121 8).2 < n ∨ m < n) ∧ (r.1 121 8).2 = (h 121 8).2) ∨ ((0 ≤ n ∧ n ≤ (h 121 8).2 ∧ n ≤ m) ∧ (r.1 121 8).2 = 0)
theorem c10_z {h : zH} {v : zV} {k : Nat} : (zset h 0 k v 10 1).2 = (h 10 1).2 := by rw [zset_ne (by omega)]
theorem c_land33 {D : zD} {N : Nat} {h : zH} {n z : Int} (hn : 0 ≤ n) {g : zH} (hg : n ≤ (g 10 1).2) (h9 : n ≤ 900) : vP D TLw N 162 33 h [some (2, 0), some (0, n), none, none] [(0, z)] (cLn 900 n g) := by
  refine vP_hv (fun hv => y_X11_land33 TLw_T vOK_T n z hv ?_)
  refine vP_Q (fun r hr => Or.inr ⟨⟨hn, hg, h9⟩, ?_⟩) (vP_fr (r0 := 10) (w := 11) rfl (fwOK_of fs_cland_ok) (by decide))
  rw [hr, zset_ne (by omega), zset_ne (by omega), zset_same]
theorem c_orders40 {D : zD} {N : Nat} {h : zH} {n z : Int} (hn : 0 ≤ n) {g : zH} (hg : n ≤ (g 10 1).2) (h9 : n ≤ 300) : vP D TLw N 170 40 h [some (2, 0), some (0, n), none] [(0, z)] (cLn 300 n g) := by
  refine vP_hv (fun hv => y_X11_orders40 TLw_T vOK_T n z hv ?_)
  refine vP_Q (fun r hr => Or.inr ⟨⟨hn, hg, h9⟩, ?_⟩) (vP_fr (r0 := 10) (w := 11) rfl (fwOK_of fs_corders_ok) (by decide))
  rw [hr, zset_ne (by omega), zset_ne (by omega), zset_same]
/-- a call that answers a number or a truth, then what its answer comes to -/
theorem vP_int {D : zD} {mi : Nat} (t : List (List (Option zX))) (ht : x_nth zMT mi = some t) (hb : rtT 1 t = true) {N pc : Nat} {h : zH} {l : List (Option zV)} {S : List zV} {Q : zR → Prop} (k : ∀ (h' : zH) (z : Int), Q (h', some (0, z))) : vP D TLw N mi pc h l S Q := vP_Q (fun r hr => by
  obtain ⟨h', v⟩ := r
  obtain ⟨z, hz⟩ := hr
  have hz : v = some (0, z) := hz
  rw [hz]
  exact k h' z) (vP_rt t ht hb (by decide))
theorem cLd_ok {D : zD} {N : Nat} {h : zH} (n : Int) (hL : (h 10 1).2 ≤ 900) (h8 : h 0 8 = (2, 24) ∨ h 0 8 = (2, 39)) : vP D TLw N 162 0 h [some (2, 0), some (0, n), none, none] [] (cLn 900 n h) := by
  refine vP_hv (fun hv => ?_)
  rcases h8 with e | e
  · exact y_X11_land_24 TLw_T vOK_T n hv e (fun c => Or.inl ⟨Or.inl c, rfl⟩) (fun _ c => Or.inl ⟨Or.inr (Or.inl c), rfl⟩) (fun c1 c2 => vP_int zt_X3_readText rfl (by decide +kernel) (fun h' z => c_land33 c1 c2 (by omega)))
  · exact y_X11_land_39 TLw_T vOK_T n hv e (fun c => Or.inl ⟨Or.inl c, rfl⟩) (fun _ c => Or.inl ⟨Or.inr (Or.inl c), rfl⟩) (fun c1 c2 => vP_int zt_X3_readText rfl (by decide +kernel) (fun h' z => c_land33 c1 c2 (by omega)))
theorem cOr_ok {D : zD} {N : Nat} {h : zH} (n : Int) (h7 : h 0 7 = (2, 24) ∨ h 0 7 = (2, 39)) : vP D TLw N 170 0 h [some (2, 0), some (0, n), none] [] (cLn 300 n h) := by
  refine vP_hv (fun hv => ?_)
  rcases h7 with e | e
  · exact y_X11_orders_24 TLw_T vOK_T n hv e (fun c => Or.inl ⟨Or.inl c, rfl⟩) (fun _ c => Or.inl ⟨Or.inr (Or.inl c), rfl⟩) (fun _ _ c => Or.inl ⟨Or.inr (Or.inr c), rfl⟩) (fun c1 c2 c3 => vP_int zt_X6_readText rfl (by decide +kernel) (fun h' z => c_orders40 c1 c2 c3))
  · exact y_X11_orders_39 TLw_T vOK_T n hv e (fun c => Or.inl ⟨Or.inl c, rfl⟩) (fun _ c => Or.inl ⟨Or.inr (Or.inl c), rfl⟩) (fun _ _ c => Or.inl ⟨Or.inr (Or.inr c), rfl⟩) (fun c1 c2 c3 => vP_int zt_X6_readText rfl (by decide +kernel) (fun h' z => c_orders40 c1 c2 c3))
theorem r8_z {h : zH} {v w u : zV} : (zset (zset (zset h 121 1 v) 121 0 w) 121 0 u 121 8).2 = (h 121 8).2 := by rw [zset_ne (by omega), zset_ne (by omega), zset_ne (by omega)]
theorem r8_o {h : zH} {n : Int} : zset (zset (zset (zset (zset (zset h 121 1 (0, 0)) 121 0 (0, 0)) 121 9 (0, n)) 121 8 (0, 0)) 121 16 (0, 0)) 121 12 (0, 0) 121 8 = (0, 0) := by rw [zset_ne (by omega), zset_ne (by omega), zset_same]
theorem rLd_ok {D : zD} {N : Nat} {h : zH} (n : Int) : vP D TLw N 268 0 h [some (2, 121), some (0, n), none] [] (rLn 900 n h) := by
  refine vP_hv (fun hv => y_X12_land TLw_T vOK_T n hv (fun c => Or.inl ⟨Or.inl c, rfl⟩) (fun _ c => Or.inl ⟨Or.inr (Or.inl c), rfl⟩) (fun _ _ c => Or.inl ⟨Or.inr (Or.inr c), rfl⟩) (fun c1 c2 c3 => ?_))
  refine vP_Q (fun r1 e1 => ?_) (vP_fr (r0 := 121) (w := 48) rfl (fwOK_of fs_next_ok) (by decide))
  refine vP_Q (fun r2 e2 => ?_) (vP_fr (r0 := 121) (w := 48) rfl (fwOK_of fs_opens_ok) (by decide))
  refine vP_Q (fun r3 e3 => Or.inr ⟨⟨c1, c2, c3⟩, ?_⟩) (vP_fr (r0 := 121) (w := 48) rfl (fwOK_of fs_rland_ok) (by decide))
  rw [e3, e2, e1, r8_o]
theorem rOr_ok {D : zD} {N : Nat} {h : zH} (n : Int) : vP D TLw N 289 0 h [some (2, 121), some (0, n), none] [] (rLn 300 n h) := by
  refine vP_hv (fun hv => y_X12_orders TLw_T vOK_T n hv (fun c => Or.inl ⟨Or.inl c, rfl⟩) (fun _ c => Or.inl ⟨Or.inr (Or.inl c), rfl⟩) (fun _ _ c => Or.inl ⟨Or.inr (Or.inr c), rfl⟩) (fun c1 c2 c3 => ?_))
  refine vP_Q (fun r1 e1 => ?_) (vP_fr (r0 := 121) (w := 48) rfl (fwOK_of fs_next_ok) (by decide))
  refine vP_Q (fun r2 e2 => ?_) (vP_fr (r0 := 121) (w := 48) rfl (fwOK_of fs_opens_ok) (by decide))
  refine vP_Q (fun r3 e3 => Or.inr ⟨⟨c1, c2, c3⟩, ?_⟩) (vP_fr (r0 := 121) (w := 48) rfl (fwOK_of fs_rorders_ok) (by decide))
  rw [e3, e2, e1, r8_o]
/-! p9: the tape is as long in both -/
def lR (h : zH) : Prop := (h 10 1).2 = (h 121 8).2
abbrev tpC : aM := [(10, 1, 1)]
abbrev tpR : aM := [(121, 8, 8)]
abbrev tpS : aM := [(10, 1, 1), (121, 8, 8)]
theorem tpC_in : aIn tpC 10 1 := ⟨_, List.mem_cons_self, rfl, Nat.le_refl _, Nat.le_refl _⟩
theorem tpR_in : aIn tpR 121 8 := ⟨_, List.mem_cons_self, rfl, Nat.le_refl _, Nat.le_refl _⟩
theorem lR_S : lRs tpS lR := fun h h' he hR => by
  have hR : (h 10 1).2 = (h 121 8).2 := hR
  show (h' 10 1).2 = (h' 121 8).2
  rw [he 10 1 ⟨_, List.mem_cons_self, rfl, Nat.le_refl _, Nat.le_refl _⟩, he 121 8 ⟨_, List.mem_cons_of_mem _ List.mem_cons_self, rfl, Nat.le_refl _, Nat.le_refl _⟩]
  exact hR
theorem lR_ini : lR hIni := (by decide +kernel : (hIni 10 1).2 = (hIni 121 8).2)
theorem lZ.b10 {D : zD} {h : zH} (hZ : lZ D h) : 0 ≤ (h 10 1).2 ∧ (h 10 1).2 ≤ 900 := (hZ.bd (lo := 1) (hi := 1) (k := 0) (a := 0) (b := 900) ty_10 rfl (by decide +kernel) 1 (Nat.le_refl _) (Nat.le_refl _)).2
theorem lZ.b121 {D : zD} {h : zH} (hZ : lZ D h) : 0 ≤ (h 121 8).2 ∧ (h 121 8).2 ≤ 900 := (hZ.bd (lo := 8) (hi := 8) (k := 0) (a := 0) (b := 900) ty_121 rfl (by decide +kernel) 8 (Nat.le_refl _) (Nat.le_refl _)).2
theorem lZ.r7 {D : zD} {h : zH} (hZ : lZ D h) : h 0 7 = (2, 24) ∨ h 0 7 = (2, 39) := by
  obtain ⟨c, hc, e⟩ := hZ.ref (r := 0) (k := 7) (ks := [24, 39]) (by decide +kernel)
  rcases (by simpa using hc : c = 24 ∨ c = 39) with rfl | rfl
  · exact Or.inl e
  · exact Or.inr e
theorem lZ.r8 {D : zD} {h : zH} (hZ : lZ D h) : h 0 8 = (2, 24) ∨ h 0 8 = (2, 39) := by
  obtain ⟨c, hc, e⟩ := hZ.ref (r := 0) (k := 8) (ks := [24, 39]) (by decide +kernel)
  rcases (by simpa using hc : c = 24 ∨ c = 39) with rfl | rfl
  · exact Or.inl e
  · exact Or.inr e
theorem lRk_feed {D : zD} (_ : ∀ i, -2147483648 ≤ D.2 i ∧ D.2 i ≤ 2147483647) {h h1 h2 : zH} {a b c d e v1 v2 : Int} (hZ : lZ D h) (hZ1 : lZ D h1) (hR : lR h) (z1 : zRun D TLw 614 155 0 (h, zargs 0 [(2, 0), (0, a), (0, b), (0, c), (0, d), (0, e)], []) (h1, some (0, v1))) (f1 : aFr lM_155 h h1) (z2 : zRun D TLw 614 227 0 (h1, zargs 0 [(2, 121), (0, a), (0, b), (0, c), (0, d), (0, e)], []) (h2, some (0, v2))) (f2 : aFr lM_227 h1 h2) : lR h2 ∧ v1 = v2 := by
  have c1 := hZ.run 6 z1 (Q := cFd h) (fun N => cFd_ok TLw_T vOK_T a b c d e hZ.b10)
  have c2 := hZ1.run 6 z2 (Q := rFd h1) (fun N => rFd_ok TLw_T vOK_T a b c d e hZ1.b121)
  have k1 : h1 121 8 = h 121 8 := f1.keep (S := tpR) (by decide +kernel) tpR_in
  have k2 : h2 10 1 = h1 10 1 := f2.keep (S := tpC) (by decide +kernel) tpC_in
  have hR : (h 10 1).2 = (h 121 8).2 := hR
  show (h2 10 1).2 = (h2 121 8).2 ∧ v1 = v2
  rw [k2]
  unfold cFd at c1
  unfold rFd at c2
  rw [k1] at c2
  dsimp only at c1 c2
  rcases c1 with ⟨x1, x2, x3⟩ | ⟨x1, x2, x3⟩ <;> rcases c2 with ⟨y1, y2, y3⟩ | ⟨y1, y2, y3⟩
  · cases x2; cases y2; exact ⟨by omega, rfl⟩
  · omega
  · omega
  · have x2 : v1 = (h 10 1).2 + 20 := by cases x2; rfl
    have y2 : v2 = (h 121 8).2 + 20 := by cases y2; rfl
    exact ⟨by omega, by omega⟩
theorem lRk_len {h h1 h2 : zH} {m n : Int} {v1 v2 : Option zV} (hR : lR h) (c1 : cLn m n h (h1, v1)) (c2 : rLn m n h1 (h2, v2)) (k1 : h1 121 8 = h 121 8) (k2 : h2 10 1 = h1 10 1) : lR h2 := by
  have hR : (h 10 1).2 = (h 121 8).2 := hR
  show (h2 10 1).2 = (h2 121 8).2
  rw [k2]
  unfold cLn at c1
  unfold rLn at c2
  rw [k1] at c2
  dsimp only at c1 c2
  omega
theorem lRk_land {D : zD} (_ : ∀ i, -2147483648 ≤ D.2 i ∧ D.2 i ≤ 2147483647) {h h1 h2 : zH} {n v1 v2 : Int} (hZ : lZ D h) (hZ1 : lZ D h1) (hR : lR h) (z1 : zRun D TLw 614 162 0 (h, zargs 0 [(2, 0), (0, n)], []) (h1, some (0, v1))) (f1 : aFr lM_162 h h1) (z2 : zRun D TLw 614 268 0 (h1, zargs 0 [(2, 121), (0, n)], []) (h2, some (0, v2))) (f2 : aFr lM_268 h1 h2) : lR h2 ∧ True :=
  ⟨lRk_len hR (hZ.run 4 z1 (Q := cLn 900 n h) (fun N => cLd_ok n hZ.b10.2 hZ.r8)) (hZ1.run 3 z2 (Q := rLn 900 n h1) (fun N => rLd_ok n)) (f1.keep (S := tpR) (by decide +kernel) tpR_in) (f2.keep (S := tpC) (by decide +kernel) tpC_in), trivial⟩
theorem lRk_orders {D : zD} (_ : ∀ i, -2147483648 ≤ D.2 i ∧ D.2 i ≤ 2147483647) {h h1 h2 : zH} {n v1 v2 : Int} (hZ : lZ D h) (hZ1 : lZ D h1) (hR : lR h) (z1 : zRun D TLw 614 170 0 (h, zargs 0 [(2, 0), (0, n)], []) (h1, some (0, v1))) (f1 : aFr lM_170 h h1) (z2 : zRun D TLw 614 289 0 (h1, zargs 0 [(2, 121), (0, n)], []) (h2, some (0, v2))) (f2 : aFr lM_289 h1 h2) : lR h2 ∧ True :=
  ⟨lRk_len hR (hZ.run 3 z1 (Q := cLn 300 n h) (fun N => cOr_ok n hZ.r7)) (hZ1.run 3 z2 (Q := rLn 300 n h1) (fun N => rOr_ok n)) (f1.keep (S := tpR) (by decide +kernel) tpR_in) (f2.keep (S := tpC) (by decide +kernel) tpC_in), trivial⟩
