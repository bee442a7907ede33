/-! LANDS AND ALL THAT BECOMES OF THEM: what both sides come to (P 0: wide, rows, copies, companies, eaten; 1 letters, 2 rises, 3 states, 4 names, 5 home, 6 at, 7 goal, 8 by, 9 spent) -/
theorem v_aldB {D : zD} {T : zT} {N mi pc nx a b : Nat} {z : Int} {cs : List (Int × Nat)} {h : zH} {l : List (Option zV)} {S : List zV} {Q : zR → Prop} {t r n : Nat} {x i w : Int} {ty : FieldType} (hi : T mi pc = some (22, nx, a, b, z, cs)) (hx : x.toNat = r) (hs : zShape[r]? = some (.inl (ty, n))) (hc : (zcode ty != 4 && vTag (zcode ty) == t) = true) (he : 0 ≤ i → i < (n : Int) → (h r i.toNat).2 = w) (k : 0 ≤ i → i < (n : Int) → vP D T N mi nx h l ((t, w) :: S) Q) : vP D T N mi pc h l ((0, i) :: (2, x) :: S) Q := v_aldV hi hx hs (fun hv h1 h2 => (hv.at (by
  unfold vCode
  rw [hs]
  show (match (if i.toNat < n then some (zcode ty) else none) with
    | some c => c != 4 && vTag c == t
    | none => false) = true
  rw [if_pos (by omega)]
  exact hc)).trans (congrArg (Prod.mk t) (he h1 h2))) k
def gIn (P : PT) (q : Nat) : Prop := q < 48 ∧ ((q % 8 : Nat) : Int) < P 0 0 ∧ ((q / 8 : Nat) : Int) < P 0 1
def gIx (P : PT) (q : Nat) : Int := if ((q % 8 : Nat) : Int) < P 0 0 ∧ ((q / 8 : Nat) : Int) < P 0 1 then 1 else 0
theorem gIx_y {P : PT} {q : Nat} (h : gIn P q) : gIx P q = 1 := if_pos h.2
theorem gIx_n {P : PT} {q : Nat} (hq : q < 48) (h : ¬ gIn P q) : gIx P q = 0 := if_neg (fun c => h ⟨hq, c⟩)
theorem gIx_i {P : PT} {q : Nat} (hq : q < 48) (h : gIx P q ≠ 0) : gIn P q := by
  by_cases c : gIn P q
  · exact c
  · exact absurd (gIx_n hq c) h
def cBs (w r : Int) (q d : Nat) : Int := if d = 0 then (if ((q % 8 : Nat) : Int) + 1 < w then (q : Int) + 1 else -1) else if d = 1 then (if (q : Int) + 8 < r * 8 then (q : Int) + 8 else -1) else if d = 2 then (if 0 < q % 8 then (q : Int) - 1 else -1) else (if 8 ≤ q then (q : Int) - 8 else -1)
def gNb (P : PT) : Nat → Nat → Int := cBs (P 0 0) (P 0 1)
def gCr (P : PT) (q : Nat) : Int := crw (P 1 q) + P 2 q
def gGr (P : PT) (q : Nat) : Int := if P 1 q = 3 then 0 else gCr P q
def gSh (P : PT) (k q : Nat) : Int := if P 3 (48 * k + q) = 0 then gGr P q else if P 3 (48 * k + q) = 2 then 5 + P 2 q else 0
def gCo (P : PT) (k q : Nat) : Int := if gIx P q = 0 then 0 else gSh P k q
def gCg (P : PT) (q : Nat) : Int := if gIx P q = 0 then 0 else gGr P q
/-- what holds of every LAND: bounds -/
def fB (P : PT) : Prop := lB P ∧ (∀ q, q < 48 → (0 ≤ P 1 q ∧ P 1 q ≤ 4) ∧ (0 ≤ P 2 q ∧ P 2 q ≤ 9)) ∧ (∀ i, i < 144 → 0 ≤ P 3 i ∧ P 3 i ≤ 3) ∧ ∀ k : Nat, (k : Int) < P 0 3 → (0 ≤ P 5 k ∧ gIn P (P 5 k).toNat) ∧ (0 ≤ P 6 k ∧ gIn P (P 6 k).toNat) ∧ (0 ≤ P 7 k ∧ gIn P (P 7 k).toNat) ∧ (0 ≤ P 8 k ∧ P 8 k < P 0 2)
theorem crw_b {L : Int} : 1 ≤ crw L ∧ crw L ≤ 5 := by unfold crw; omega
theorem crw_e {L : Int} (h : L ≠ 3) : 1 ≤ crw L ∧ crw L ≤ 4 := by unfold crw; omega
theorem gCr_b {P : PT} (hb : fB P) {q : Nat} (hq : q < 48) : 1 ≤ gCr P q ∧ gCr P q ≤ 14 := by
  have := (hb.2.1 q hq).2
  have := crw_b (L := P 1 q)
  unfold gCr
  omega
theorem gGr_b {P : PT} (hb : fB P) {q : Nat} (hq : q < 48) : 0 ≤ gGr P q ∧ gGr P q ≤ 13 := by
  have := (hb.2.1 q hq).2
  unfold gGr gCr
  by_cases c : P 1 q = 3
  · rw [if_pos c]; omega
  · rw [if_neg c]
    have := crw_e c
    omega
theorem gSh_b {P : PT} (hb : fB P) {k q : Nat} (hq : q < 48) : 0 ≤ gSh P k q ∧ gSh P k q ≤ 14 := by
  have a := (hb.2.1 q hq).2
  have b := gGr_b hb hq
  unfold gSh
  split
  · omega
  · split <;> omega
theorem gCo_b {P : PT} (hb : fB P) {k q : Nat} (hq : q < 48) : 0 ≤ gCo P k q ∧ gCo P k q ≤ 14 := by
  have b := gSh_b hb (k := k) hq
  unfold gCo
  split <;> omega
theorem gCg_b {P : PT} (hb : fB P) {q : Nat} (hq : q < 48) : 0 ≤ gCg P q ∧ gCg P q ≤ 14 := by
  have b := gGr_b hb hq
  unfold gCg
  split <;> omega
theorem gOk {P : PT} (hb : lB P) : wOk (gIn P) (gNb P) := by
  obtain ⟨⟨w0, w8⟩, ⟨r0, r6⟩, _⟩ := hb
  refine ⟨fun a h => h.1, fun a d h hd => ?_⟩
  obtain ⟨h0, h1, h2⟩ := h
  have : d = 0 ∨ d = 1 ∨ d = 2 ∨ d = 3 := by omega
  rcases this with rfl | rfl | rfl | rfl
  · by_cases c : ((a % 8 : Nat) : Int) + 1 < P 0 0
    · refine Or.inr ⟨a + 1, ⟨by omega, by omega, by omega⟩, ?_, 2, by decide, ?_⟩
      · show cBs (P 0 0) (P 0 1) a 0 = _
        unfold cBs; rw [if_pos rfl, if_pos c]; omega
      · show cBs (P 0 0) (P 0 1) (a + 1) 2 = _
        unfold cBs; rw [if_neg (by decide), if_neg (by decide), if_pos rfl, if_pos (by omega)]; omega
    · refine Or.inl ?_
      show cBs (P 0 0) (P 0 1) a 0 = _
      unfold cBs; rw [if_pos rfl, if_neg c]
  · by_cases c : (a : Int) + 8 < P 0 1 * 8
    · refine Or.inr ⟨a + 8, ⟨by omega, by omega, by omega⟩, ?_, 3, by decide, ?_⟩
      · show cBs (P 0 0) (P 0 1) a 1 = _
        unfold cBs; rw [if_neg (by decide), if_pos rfl, if_pos c]; omega
      · show cBs (P 0 0) (P 0 1) (a + 8) 3 = _
        unfold cBs; rw [if_neg (by decide), if_neg (by decide), if_neg (by decide), if_pos (by omega)]; omega
    · refine Or.inl ?_
      show cBs (P 0 0) (P 0 1) a 1 = _
      unfold cBs; rw [if_neg (by decide), if_pos rfl, if_neg c]
  · by_cases c : 0 < a % 8
    · refine Or.inr ⟨a - 1, ⟨by omega, by omega, by omega⟩, ?_, 0, by decide, ?_⟩
      · show cBs (P 0 0) (P 0 1) a 2 = _
        unfold cBs; rw [if_neg (by decide), if_neg (by decide), if_pos rfl, if_pos c]; omega
      · show cBs (P 0 0) (P 0 1) (a - 1) 0 = _
        unfold cBs; rw [if_pos rfl, if_pos (by omega)]; omega
    · refine Or.inl ?_
      show cBs (P 0 0) (P 0 1) a 2 = _
      unfold cBs; rw [if_neg (by decide), if_neg (by decide), if_pos rfl, if_neg c]
  · by_cases c : 8 ≤ a
    · refine Or.inr ⟨a - 8, ⟨by omega, by omega, by omega⟩, ?_, 1, by decide, ?_⟩
      · show cBs (P 0 0) (P 0 1) a 3 = _
        unfold cBs; rw [if_neg (by decide), if_neg (by decide), if_neg (by decide), if_pos c]; omega
      · show cBs (P 0 0) (P 0 1) (a - 8) 1 = _
        unfold cBs; rw [if_neg (by decide), if_pos rfl, if_pos (by omega)]; omega
    · refine Or.inl ?_
      show cBs (P 0 0) (P 0 1) a 3 = _
      unfold cBs; rw [if_neg (by decide), if_neg (by decide), if_neg (by decide), if_neg c]
/-! THE QUEUE'S LOOPS, PURE -/
def wOS (C : Nat → Prop) (nb : Nat → Nat → Int) (co d : Nat → Int) (to fr tk : Nat) (f : Nat → Int) (q : List Nat) : Prop := wQ C nb co to f q ∧ wRx C nb co fr f q (fun _ _ => True) ∧ wPh C (wEe d) fr tk f q ∧ ∀ i, i < 48 → 0 ≤ f i ∧ f i ≤ wFar
def wIS (C : Nat → Prop) (nb : Nat → Nat → Int) (co d : Nat → Int) (to fr tk b m : Nat) (f : Nat → Int) (q : List Nat) : Prop := wQ C nb co to f q ∧ (C b ∧ b ∉ q ∧ f b < wFar) ∧ wRx C nb co fr f q (fun x k => x ≠ b ∨ k < m) ∧ wPh C (wEe d) fr (tk + 1) f q ∧ ∀ i, i < 48 → 0 ≤ f i ∧ f i ≤ wFar
section W5
variable {C : Nat → Prop} {nb : Nat → Nat → Int} {co d : Nat → Int} {to fr tk b m : Nat} {f : Nat → Int} {q : List Nat}
theorem wLow (hok : wOk C nb) (hco : ∀ a, C a → co a ≤ 14) (hD : wD C nb co g100 to d) (hq : wQ C nb co to f q) : ∀ a, C a → wEe d a ≤ f a := fun a ca => wlow g64_p (wE_D hok.1 hco hD) hq.2.1 _ a ca rfl
theorem wOS_ini (hok : wOk C nb) (hco : ∀ a, C a → co a ≤ 14) (hD : wD C nb co g100 to d) (ct : C to) : wOS C nb co d to fr 0 (fun x => if x = to then 0 else wFar) [to] := by
  refine ⟨wIni_q ct, wIni_r, wIni_p (wE_D hok.1 hco hD) (wE_n1 hok.1 hco hD) wE_0, fun i _ => ?_⟩
  show 0 ≤ (if i = to then (0 : Int) else wFar) ∧ (if i = to then (0 : Int) else wFar) ≤ wFar
  unfold wFar
  split <;> omega
theorem wOS_pop (hok : wOk C nb) (hco : ∀ a, C a → co a ≤ 14) (hD : wD C nb co g100 to d) (hf : C fr) (h : wOS C nb co d to fr tk f (b :: q)) : wIS C nb co d to fr tk b 0 f q := by
  obtain ⟨hq, hr, hp, hb⟩ := h
  have hnd := List.nodup_cons.mp hq.2.2.1
  have hm := hq.2.2.2 b List.mem_cons_self
  refine ⟨⟨hq.1, hq.2.1, hnd.2, fun x hx => hq.2.2.2 x (List.mem_cons_of_mem _ hx)⟩, ⟨hm.1, hnd.1, hm.2⟩, fun x k a cx hx hk hR px fx hn => ?_, ?_, hb⟩
  · rcases hR with c | c
    · exact hr x k a cx (fun g => by
        rcases List.mem_cons.mp g with e | e
        · exact c e
        · exact hx e) hk trivial px fx hn
    · exact absurd c (Nat.not_lt_zero _)
  · exact wPop_p hok (wE_D hok.1 hco hD) (wE_n1 hok.1 hco hD) wE_0 hf (wLow hok hco hD hq) hq hr hp
theorem wIS_end (h : wIS C nb co d to fr tk b m f q) (he : 4 ≤ m ∨ co b ≤ 0) : wOS C nb co d to fr (tk + 1) f q := by
  obtain ⟨hq, hb, hr, hp, hbd⟩ := h
  refine ⟨hq, fun x k a cx hx hk _ px fx hn => ?_, hp, hbd⟩
  refine hr x k a cx hx hk ?_ px fx hn
  by_cases c : x = b
  · rcases he with e | e
    · exact Or.inr (by omega)
    · rw [c] at px; omega
  · exact Or.inl c
theorem wIS_stay (h : wIS C nb co d to fr tk b m f q) (hs : ∀ a : Nat, nb b m = (a : Int) → f a ≤ g64 (co b) + f b ∨ f fr ≤ g64 (co b) + f b) : wIS C nb co d to fr tk b (m + 1) f q := by
  obtain ⟨hq, hb, hr, hp, hbd⟩ := h
  refine ⟨hq, hb, fun x k a cx hx hk hR px fx hn => ?_, hp, hbd⟩
  by_cases c : x = b
  · by_cases c2 : k < m
    · exact hr x k a cx hx hk (Or.inr c2) px fx hn
    · have : k = m := by
        rcases hR with e | e
        · exact absurd c e
        · omega
      subst this
      subst c
      exact hs a hn
  · exact hr x k a cx hx hk (Or.inl c) px fx hn
theorem wIS_push (hok : wOk C nb) (hco : ∀ a, C a → co a ≤ 14) (hD : wD C nb co g100 to d) (hf : C fr) (hm : m < 4) (h : wIS C nb co d to fr tk b m f q) {near : Nat} (cn : C near) (pb : 0 < co b) (hn : nb b m = (near : Int)) {w : Int} (hw : w = g64 (co b) + f b) (h1 : w < f near) (h2 : w < f fr) : wIS C nb co d to fr tk b (m + 1) (wPush near w (f, q)).1 (wPush near w (f, q)).2 := by
  obtain ⟨hq, hb, hr, hp, hbd⟩ := h
  have gp := g64_p _ pb
  have bb := hq.2.1.1 b hb.1
  have hE := wE_D hok.1 hco hD
  have lo := wLow hok hco hD hq
  have hbn : b ≠ near := fun c => by rw [c] at hw gp; omega
  have fb : (wPush near w (f, q)).1 b = f b := if_neg hbn
  refine ⟨wPush_q hq hok hb.1 cn hm hn pb hb.2.2 hw h1, ⟨hb.1, ?_, by rw [fb]; exact hb.2.2⟩, ?_, ?_, fun i hi => ?_⟩
  · show b ∉ (if near ∈ q then q else q ++ [near])
    by_cases c : near ∈ q
    · rw [if_pos c]; exact hb.2.1
    · rw [if_neg c]
      intro g
      rcases List.mem_append.mp g with e | e
      · exact hb.2.1 e
      · exact hbn (List.mem_singleton.mp e)
  · intro x k a cx hx hk hR px fx hn'
    by_cases c : x = b
    · by_cases c2 : k < m
      · exact wPush_r hr h1 x k a cx hx hk (Or.inr c2) px fx hn'
      · have : k = m := by
          rcases hR with e | e
          · exact absurd c e
          · omega
        subst this
        subst c
        have : a = near := by rw [hn] at hn'; omega
        subst this
        rw [fb]
        refine Or.inl ?_
        show (if a = a then w else f a) ≤ _
        rw [if_pos rfl]
        omega
    · exact wPush_r hr h1 x k a cx hx hk (Or.inl c) px fx hn'
  · refine wPush_p hf lo (fun a ca => wE_47 hok.1 hco hD a ca) (hE.2.1.1 fr hf).2 hp cn ?_ h1 h2
    have l := hE.2.2 near b cn hb.1 (hok.sym hb.1 ⟨m, hm, hn⟩).1 pb (by have := lo b hb.1; omega)
    have := lo b hb.1
    omega
  · show 0 ≤ (if i = near then w else f i) ∧ (if i = near then w else f i) ≤ wFar
    have := hbd i hi
    by_cases c : i = near
    · have bn := hq.2.1.1 near cn
      rw [if_pos c]
      omega
    · rw [if_neg c]; exact this
theorem wOS_end (hok : wOk C nb) (hco : ∀ a, C a → co a ≤ 14) (hD : wD C nb co g100 to d) (hf : C fr) (h : wOS C nb co d to fr tk f []) : ∀ a, wGd C (wEe d) fr a → f a = wEe d a := by
  obtain ⟨hq, hr, hp, hb⟩ := h
  exact wEnd_p hok (wE_D hok.1 hco hD) (wE_n1 hok.1 hco hD) wE_0 (wE_47 hok.1 hco hD) hf hq.1 (wLow hok hco hD hq) hr hp
theorem wOS_full (hok : wOk C nb) (h : wOS C nb co d to fr 2304 f (b :: q)) : False := wFull_p hok h.1 h.2.2.1
end W5
/-! THE QUEUE IN THE HEAP -/
def wHp (h : zH) (f : Nat → Int) (q : List Nat) : Prop := (∀ i, i < 48 → h 102 i = (0, f i)) ∧ ∃ (hd : Nat) (z : Int), h 100 3 = (1, z) ∧ h 100 4 = (0, (hd : Int)) ∧ h 100 5 = (0, (((hd + q.length) % 64 : Nat) : Int)) ∧ hd < 64 ∧ (∀ i, i < q.length → h 103 ((hd + i) % 64) = (0, ((q.getD i 0 : Nat) : Int))) ∧ ∀ x, x < 48 → wB z x = decide (x ∈ q)
def mFr (h0 h : zH) : Prop := ∀ a b, ¬ ((a = 100 ∧ 3 ≤ b ∧ b ≤ 5) ∨ a = 102 ∨ a = 103) → h a b = h0 a b
theorem mFr.z {h0 h : zH} {a b : Nat} {v : zV} (ha : (a = 100 ∧ 3 ≤ b ∧ b ≤ 5) ∨ a = 102 ∨ a = 103) (g : mFr h0 h) : mFr h0 (zset h a b v) := fun x y hn => (zset_ne (fun c => hn (by omega))).trans (g x y hn)
theorem wHp_pop {h : zH} {f : Nat → Int} {b hd : Nat} {q : List Nat} {z : Int} (hb : b < 48) (hnd : b ∉ q) (g : wHp h f (b :: q)) (e3 : h 100 3 = (1, z)) (e4 : h 100 4 = (0, (hd : Int))) : wHp (zset (zset h 100 4 (0, (((hd : Int) + 1) % 64))) 100 3 (1, (v64 3 z ((v64 5 ((vS 0 1 ((b : Int)))) (-1)))))) f q := by
  obtain ⟨g1, hd', z', a3, a4, a5, a6, a7, a8⟩ := g
  have ez : z' = z := by rw [e3] at a3; exact (congrArg Prod.snd a3).symm
  have eh : hd' = hd := by
    rw [e4] at a4
    have : (hd : Int) = (hd' : Int) := congrArg Prod.snd a4
    omega
  subst ez eh
  have l : (b :: q).length = q.length + 1 := rfl
  rw [l] at a5 a7
  refine ⟨fun i hi => (zset_ne (by omega)).trans ((zset_ne (by omega)).trans (g1 i hi)), (hd' + 1) % 64, _, zset_same, ?_, ?_, by omega, fun i hi => ?_, fun x hx => ?_⟩
  · refine (zset_ne (by omega)).trans (zset_same.trans ?_)
    rw [show (((hd' + 1) % 64 : Nat) : Int) = ((hd' : Int) + 1) % 64 by omega]
  · refine (zset_ne (by omega)).trans ((zset_ne (by omega)).trans (a5.trans ?_))
    rw [show ((hd' + 1) % 64 + q.length) % 64 = (hd' + (q.length + 1)) % 64 by omega]
  · refine (zset_ne (by omega)).trans ((zset_ne (by omega)).trans ?_)
    rw [show ((hd' + 1) % 64 + i) % 64 = (hd' + (i + 1)) % 64 by omega]
    exact a7 (i + 1) (by omega)
  · rw [wB_clr hb hx, a8 x hx]
    by_cases c : x = b
    · rw [c]
      simp [hnd]
    · simp [c]
theorem wHp_far {h : zH} {f : Nat → Int} {q : List Nat} {near : Nat} {w : Int} (hm : near ∈ q) (g : wHp h f q) : wHp (zset h 102 near (0, w)) (wPush near w (f, q)).1 (wPush near w (f, q)).2 := by
  obtain ⟨g1, hd, z, a3, a4, a5, a6, a7, a8⟩ := g
  have e : (wPush near w (f, q)).2 = q := if_pos hm
  rw [e]
  refine ⟨fun i hi => ?_, hd, z, (zset_ne (by omega)).trans a3, (zset_ne (by omega)).trans a4, (zset_ne (by omega)).trans a5, a6, fun i hi => (zset_ne (by omega)).trans (a7 i hi), a8⟩
  show zset h 102 near (0, w) 102 i = (0, if i = near then w else f i)
  by_cases c : i = near
  · rw [c, if_pos rfl]; exact zset_same
  · rw [if_neg c]; exact (zset_ne (fun e => c e.2)).trans (g1 i hi)
theorem getD_app {q : List Nat} {x i : Nat} (hi : i < q.length) : (q ++ [x]).getD i 0 = q.getD i 0 := by
  simp [List.getD_eq_getElem?_getD, List.getElem?_append_left hi]
theorem getD_app2 {q : List Nat} {x : Nat} : (q ++ [x]).getD q.length 0 = x := by
  simp [List.getD_eq_getElem?_getD]
theorem wHp_push {h : zH} {f : Nat → Int} {q : List Nat} {near tl : Nat} {w z : Int} (hn : near < 48) (hm : near ∉ q) (hl : q.length < 63) (g : wHp h f q) (e3 : h 100 3 = (1, z)) (e5 : h 100 5 = (0, (tl : Int))) : wHp (zset (zset (zset (zset h 102 near (0, w)) 100 3 (1, (v64 4 z ((vS 0 1 ((near : Int))))))) 103 tl (0, (near : Int))) 100 5 (0, (((tl : Int) + 1) % 64))) (wPush near w (f, q)).1 (wPush near w (f, q)).2 := by
  obtain ⟨g1, hd, z', a3, a4, a5, a6, a7, a8⟩ := g
  have ez : z' = z := by rw [e3] at a3; exact (congrArg Prod.snd a3).symm
  have et : tl = (hd + q.length) % 64 := by
    rw [e5] at a5
    have : (tl : Int) = (((hd + q.length) % 64 : Nat) : Int) := congrArg Prod.snd a5
    omega
  subst ez
  have e : (wPush near w (f, q)).2 = q ++ [near] := if_neg hm
  have l : (q ++ [near]).length = q.length + 1 := by simp
  rw [e]
  refine ⟨fun i hi => ?_, hd, _, (zset_ne (by omega)).trans ((zset_ne (by omega)).trans zset_same), (zset_ne (by omega)).trans ((zset_ne (by omega)).trans ((zset_ne (by omega)).trans ((zset_ne (by omega)).trans a4))), zset_same.trans ?_, a6, fun i hi => ?_, fun x hx => ?_⟩
  · refine (zset_ne (by omega)).trans ((zset_ne (by omega)).trans ((zset_ne (by omega)).trans ?_))
    show zset h 102 near (0, w) 102 i = (0, if i = near then w else f i)
    by_cases c : i = near
    · rw [c, if_pos rfl]; exact zset_same
    · rw [if_neg c]; exact (zset_ne (fun e => c e.2)).trans (g1 i hi)
  · rw [l, show (((hd + (q.length + 1)) % 64 : Nat) : Int) = ((tl : Int) + 1) % 64 by omega]
  · rw [l] at hi
    refine (zset_ne (by omega)).trans ?_
    by_cases c : i = q.length
    · rw [c, getD_app2, ← et]
      exact zset_same
    · rw [getD_app (by omega)]
      exact (zset_ne (by omega)).trans ((zset_ne (by omega)).trans ((zset_ne (by omega)).trans (a7 i (by omega))))
  · rw [wB_set hn hx, a8 x hx]
    by_cases c : x = near
    · simp [c]
    · simp [c]
/-! THE ROW IN THE HEAP -/
def tFr (h0 h : zH) : Prop := ∀ a b, ¬ ((a = 100 ∧ 7 ≤ b ∧ b ≤ 8) ∨ a = 104) → h a b = h0 a b
theorem tFr.z {h0 h : zH} {a b : Nat} {v : zV} (ha : (a = 100 ∧ 7 ≤ b ∧ b ≤ 8) ∨ a = 104) (g : tFr h0 h) : tFr h0 (zset h a b v) := fun x y hn => (zset_ne (fun c => hn (by omega))).trans (g x y hn)
theorem tFr.rf {h : zH} : tFr h h := fun _ _ _ => rfl
def tHp (p : Nat → Nat) (n : Nat) (h : zH) : Prop := (∀ i, i ≤ n → h 104 i = (0, ((p i : Nat) : Int))) ∧ h 100 7 = (0, (n : Int)) ∧ ∃ z : Int, h 100 8 = (1, z) ∧ ∀ x, x < 48 → (wB z x = true ↔ ∃ i, 1 ≤ i ∧ i ≤ n ∧ p i = x)
theorem tHp_0 {h : zH} {fr : Nat} {p : Nat → Nat} (hp : p 0 = fr) : tHp p 0 (zset (zset (zset h 100 7 (0, 0)) 104 0 (0, (fr : Int))) 100 8 (1, 0)) := by
  refine ⟨fun i hi => ?_, (zset_ne (by omega)).trans ((zset_ne (by omega)).trans zset_same), 0, zset_same, fun x hx => ?_⟩
  · have : i = 0 := by omega
    subst this
    rw [hp]
    exact (zset_ne (by omega)).trans zset_same
  · rw [wB_0 x hx]
    exact ⟨fun c => absurd c (by decide), fun ⟨i, h1, h2, _⟩ => by omega⟩
theorem tHp_s {h : zH} {p : Nat → Nat} {n : Nat} {z : Int} (hp : p (n + 1) < 48) (g : tHp p n h) (e8 : h 100 8 = (1, z)) : tHp p (n + 1) (zset (zset (zset h 104 (n + 1) (0, ((p (n + 1) : Nat) : Int))) 100 7 (0, ((n + 1 : Nat) : Int))) 100 8 (1, (v64 4 z ((vS 0 1 ((p (n + 1) : Nat) : Int)))))) := by
  obtain ⟨g1, g2, z', g3, g4⟩ := g
  have ez : z' = z := by rw [e8] at g3; exact (congrArg Prod.snd g3).symm
  subst ez
  refine ⟨fun i hi => ?_, (zset_ne (by omega)).trans zset_same, _, zset_same, fun x hx => ?_⟩
  · refine (zset_ne (by omega)).trans ((zset_ne (by omega)).trans ?_)
    by_cases c : i = n + 1
    · rw [c]; exact zset_same
    · exact (zset_ne (fun e => c e.2)).trans (g1 i (by omega))
  · rw [wB_set hp hx, Bool.or_eq_true, decide_eq_true_iff, g4 x hx]
    constructor
    · rintro (⟨i, h1, h2, h3⟩ | c)
      · exact ⟨i, h1, by omega, h3⟩
      · exact ⟨n + 1, by omega, Nat.le_refl _, c.symm⟩
    · rintro ⟨i, h1, h2, h3⟩
      by_cases c : i = n + 1
      · subst c; exact Or.inr h3.symm
      · exact Or.inl ⟨i, h1, by omega, h3⟩
/-! THE TRUE WEIGHTS OF A LAND -/
noncomputable def dW (P : PT) (co : Nat → Int) (to : Nat) : Nat → Int := Classical.choose (wD_ex (C := gIn P) (nb := gNb P) (co := co) (g := g100) (to := to) g100_p (fun _ h => h.1))
theorem dW_ok {P : PT} {co : Nat → Int} {to : Nat} : wD (gIn P) (gNb P) co g100 to (dW P co to) := Classical.choose_spec (wD_ex (C := gIn P) (nb := gNb P) (co := co) (g := g100) (to := to) g100_p (fun _ h => h.1))
noncomputable def yCost (P : PT) (co : Nat → Int) (fr to : Nat) : Int := if dW P co to fr < wFar then dW P co to fr / 100 else -1
noncomputable def yN (P : PT) (co : Nat → Int) (fr to : Nat) : Nat := (dW P co to fr % 100).toNat
noncomputable def yPt (P : PT) (co : Nat → Int) (fr to : Nat) : Nat → Nat := wPt (gNb P) co (dW P co to) fr
def yOK (P : PT) (co : Nat → Int) (fr to : Nat) (g : zH) : Prop := (yCost P co fr to = -1 → g 100 8 = (1, 0)) ∧ (dW P co to fr < wFar → tHp (yPt P co fr to) (yN P co fr to) g)
def wFr (h0 h : zH) : Prop := ∀ a b, ¬ ((a = 100 ∧ 3 ≤ b) ∨ (102 ≤ a ∧ a ≤ 104)) → h a b = h0 a b
def wFr1 (h0 h : zH) : Prop := ∀ a b, ¬ ((a = 100 ∧ 3 ≤ b) ∨ (101 ≤ a ∧ a ≤ 104)) → h a b = h0 a b
theorem yCost_f {P : PT} {co : Nat → Int} {fr to : Nat} (g : gIn P fr) : 0 ≤ yCost P co fr to ↔ dW P co to fr < wFar := by
  unfold yCost
  have b := (dW_ok (P := P) (co := co) (to := to)).2.1.1 fr g
  by_cases c : dW P co to fr < wFar
  · rw [if_pos c]; omega
  · rw [if_neg c]; omega
theorem yCost_n {P : PT} {co : Nat → Int} {fr to : Nat} (g : gIn P fr) : yCost P co fr to = -1 ↔ ¬ 0 ≤ yCost P co fr to := by
  unfold yCost
  have b := (dW_ok (P := P) (co := co) (to := to)).2.1.1 fr g
  by_cases c : dW P co to fr < wFar
  · rw [if_pos c]; omega
  · rw [if_neg c]; omega
/-- the row lies in cells, and is short -/
theorem yPt_ok {P : PT} {j fr to : Nat} (hb : fB P) (g : gIn P fr) (hc : 0 ≤ yCost P (gCo P j) fr to) : yN P (gCo P j) fr to ≤ 47 ∧ ∀ i, i ≤ yN P (gCo P j) fr to → gIn P (yPt P (gCo P j) fr to i) := by
  have ff := (yCost_f g).mp hc
  have hok := gOk hb.1
  have hco : ∀ a, gIn P a → gCo P j a ≤ 14 := fun a ga => (gCo_b hb ga.1).2
  have r := wrank2 hok.1 hco dW_ok g ff
  have e : ((yN P (gCo P j) fr to : Nat) : Int) = dW P (gCo P j) to fr % 100 := by
    unfold yN
    omega
  refine ⟨by omega, fun i hi => (wPt_ok hok hco dW_ok g ff i (by omega)).1⟩
