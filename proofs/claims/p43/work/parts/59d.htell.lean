/-! tellWay, tellCompany BY HAND -/
-- all that matters to ways is as it was
def hSm (h h' : zH) : Prop := ∀ r k, ¬ (r = 132 ∧ k < 49) → ¬ (r = 121 ∧ k = 31) → h' r k = h r k
theorem hSm.hHp {h h' : zH} (e : hSm h h') (hp : hHp h) : hHp h' := by
  obtain ⟨⟨a1, a2, a3⟩, a4, a5, a6, a7, a8, a9⟩ := hp
  have q : ∀ k, hc h' k = hc h k := fun k => by show (h' 126 k).2 = (h 126 k).2; rw [e 126 k (fun c => by omega) (fun c => by omega)]
  have w : ∀ k, hout h' k = hout h k := fun k => by show (h' 130 k).2 = (h 130 k).2; rw [e 130 k (fun c => by omega) (fun c => by omega)]
  refine ⟨⟨?_, ?_, ?_⟩, fun j hj => ?_, fun j hj => ?_, ?_, ?_, fun j hj => ?_, fun j hj => ?_⟩
  · rw [e _ _ (fun c => by omega) (fun c => by omega)]; exact a1
  · rw [e _ _ (fun c => by omega) (fun c => by omega)]; exact a2
  · rw [e _ _ (fun c => by omega) (fun c => by omega)]; exact a3
  · rw [e _ _ (fun c => by omega) (fun c => by omega)]; exact a4 j hj
  · rw [e _ _ (fun c => by omega) (fun c => by omega), w]; exact a5 j hj
  · rw [q]; exact a6
  · rw [q]; exact a7
  · rw [q, q]; exact a8 j hj
  · rw [q]; exact a9 j hj
theorem hsm_hc {h h' : zH} (e : hSm h h') (k : Nat) : hc h' k = hc h k := by show (h' 126 k).2 = (h 126 k).2; rw [e 126 k (fun c => by omega) (fun c => by omega)]
theorem hsm_out {h h' : zH} (e : hSm h h') (k : Nat) : hout h' k = hout h k := by show (h' 130 k).2 = (h 130 k).2; rw [e 130 k (fun c => by omega) (fun c => by omega)]
theorem hsm_gE {h h' : zH} (e : hSm h h') (copy cell way : Int) : gE h' copy cell way = gE h copy cell way ∧ bE h' cell way = bE h cell way := by
  have b : bE h' cell way = bE h cell way := by unfold bE bX bY; simp only [hsm_hc e]
  refine ⟨?_, b⟩
  unfold gE
  rw [b]
  unfold cE cS cR
  simp only [hsm_hc e, hsm_out e]
theorem hSm.trans {a b c : zH} (h1 : hSm a b) (h2 : hSm b c) : hSm a c := fun r k x y => (h2 r k x y).trans (h1 r k x y)
def hcnt (h : zH) (x : Int) : Nat → Nat
  | 0 => 0
  | n + 1 => hcnt h x n + if hout h n < x then 1 else 0
theorem hcnt_le {h : zH} {x : Int} : ∀ n, hcnt h x n ≤ n
  | 0 => Nat.le_refl 0
  | n + 1 => by
    have := hcnt_le (h := h) (x := x) n
    show hcnt h x n + (if hout h n < x then 1 else 0) ≤ n + 1
    split <;> omega
theorem hcnt_lt {h : zH} {x y : Int} (hxy : x ≤ y) {k : Nat} (h1 : x ≤ hout h k) (h2 : hout h k < y) : ∀ n, hcnt h x n + (if k < n then 1 else 0) ≤ hcnt h y n
  | 0 => by rw [if_neg (by omega)]; exact Nat.le_refl 0
  | n + 1 => by
    have ih := hcnt_lt hxy h1 h2 n
    show hcnt h x n + (if hout h n < x then 1 else 0) + _ ≤ hcnt h y n + (if hout h n < y then 1 else 0)
    by_cases c : k < n
    · rw [if_pos c] at ih
      rw [if_pos (show k < n + 1 by omega)]
      by_cases c2 : hout h n < x
      · rw [if_pos c2, if_pos (by omega)]; omega
      · rw [if_neg c2]
        split <;> omega
    · rw [if_neg c] at ih
      by_cases c3 : k = n
      · subst c3
        rw [if_pos (show k < k + 1 by omega), if_neg (by omega), if_pos h2]; omega
      · rw [if_neg (show ¬ k < n + 1 by omega)]
        by_cases c2 : hout h n < x
        · rw [if_pos c2, if_pos (by omega)]; omega
        · rw [if_neg c2]
          split <;> omega
theorem hcnt_self {h : zH} {k : Nat} : ∀ n, hcnt h (hout h k) n + (if k < n then 1 else 0) ≤ n
  | 0 => by rw [if_neg (by omega)]; exact Nat.le_refl 0
  | n + 1 => by
    have ih := hcnt_self (h := h) (k := k) n
    show hcnt h (hout h k) n + (if hout h n < hout h k then 1 else 0) + _ ≤ n + 1
    by_cases c : k < n
    · rw [if_pos c] at ih
      rw [if_pos (show k < n + 1 by omega)]
      split <;> omega
    · by_cases c3 : k = n
      · subst c3
        rw [if_pos (show k < k + 1 by omega), if_neg (by omega)]
        have := hcnt_le (h := h) (x := hout h k) k
        omega
      · rw [if_neg c] at ih
        rw [if_neg (show ¬ k < n + 1 by omega)]
        split <;> omega
-- the row: its numbers, its cells
def tRow (h : zH) (n : Int) : Prop := h 121 31 = (0, n) ∧ (∀ i, i < 49 → (h 132 i).1 = 0 ∧ 0 ≤ (h 132 i).2 ∧ (h 132 i).2 ≤ 47) ∧ ∀ i : Nat, (i : Int) < n → i < 49 → (h 132 i).2 < hc h 0 * hc h 1
def tIn (h : zH) : Prop := ∀ i, i < 49 → (h 132 i).1 = 0 ∧ 0 ≤ (h 132 i).2 ∧ (h 132 i).2 ≤ 47
theorem tRow_add {h : zH} (hp : hHp h) {n b : Int} (ht : tRow h n) (n0 : 0 ≤ n) (n1 : n < 49) (b0 : 0 ≤ b) (b1 : b < hc h 0 * hc h 1) (b2 : b < 48) : tRow (zset (zset h 132 n.toNat (0, b)) 121 31 (0, n + 1)) (n + 1) ∧ hSm h (zset (zset h 132 n.toNat (0, b)) 121 31 (0, n + 1)) := by
  have e : hSm h (zset (zset h 132 n.toNat (0, b)) 121 31 (0, n + 1)) := fun r k x y => by
    show (if r = 121 ∧ k = 31 then _ else if r = 132 ∧ k = n.toNat then _ else h r k) = h r k
    rw [if_neg y, if_neg (fun c => x ⟨c.1, by omega⟩)]
  have v : ∀ i, zset (zset h 132 n.toNat (0, b)) 121 31 (0, n + 1) 132 i = if i = n.toNat then (0, b) else h 132 i := fun i => by
    show (if (132 : Nat) = 121 ∧ i = 31 then _ else if (132 : Nat) = 132 ∧ i = n.toNat then ((0, b) : zV) else h 132 i) = _
    rw [if_neg (fun c => absurd c.1 (by decide))]
    by_cases c : i = n.toNat
    · rw [if_pos ⟨rfl, c⟩, if_pos c]
    · rw [if_neg (fun x => c x.2), if_neg c]
  refine ⟨⟨if_pos ⟨rfl, rfl⟩, fun i hi => ?_, fun i h1 h2 => ?_⟩, e⟩
  · rw [v]
    by_cases c : i = n.toNat
    · rw [if_pos c]; exact ⟨rfl, b0, by show b ≤ 47; omega⟩
    · rw [if_neg c]; exact ht.2.1 i hi
  · rw [v, hsm_hc e, hsm_hc e]
    by_cases c : i = n.toNat
    · rw [if_pos c]; exact b1
    · rw [if_neg c]; exact ht.2.2 i (by omega) h2
section TW
variable {D : zD} {T : zT} {d : Nat} {copy from_ to : Int}
-- which way it goes on
theorem t_way (hT : hTab T) {h : zH} (hp : hHp h) (c0 : -1 ≤ copy ∧ copy ≤ 2) {cost at_ : Int} (a1 : 0 ≤ at_) (a2 : at_ < 48) {w0 : Int} (e0 : gE h copy at_ w0 = hout h at_.toNat) (w4 : w0 < 4) : ∀ (n : Nat) (way : Int), w0 - way = (n : Int) → 0 ≤ way → ∃ w1, gE h copy at_ w1 = hout h at_.toNat ∧ ∀ zr, zRun D T (d + 5) 324 75 (h, hw copy from_ to (some cost) (some at_) (some w1) none, []) zr → zRun D T (d + 5) 324 50 (h, hw copy from_ to (some cost) (some at_) (some way) none, []) zr := by
  intro n
  induction n with
  | zero =>
    intro way hn hw0
    have hm := hm_tellWay (T := T) hT
    have ew : way = w0 := by omega
    subst ew
    refine ⟨way, e0, fun zr k => ?_⟩
    refine hq_load (hm _ _ rfl) rfl rfl ?_
    refine hq_load (hm _ _ rfl) rfl rfl ?_
    refine hq_load (hm _ _ rfl) rfl rfl ?_
    refine hq_load (hm _ _ rfl) rfl rfl ?_
    refine hq_call (hm _ _ rfl) rfl ⟨Nat.le_of_ble_eq_true rfl, Nat.le_of_ble_eq_true rfl, fun _ => rfl⟩ (r_goesBy (d := d + 1) hT hp c0 a1 a2) ?_
    refine hq_load (hm _ _ rfl) rfl rfl ?_
    refine hq_getf (hm _ _ rfl) rfl hp.o ?_
    refine hq_load (hm _ _ rfl) rfl rfl ?_
    refine hq_ald (hm _ _ rfl) (za130 (by omega) (by omega)) (hKo hp (by omega)) ?_
    refine hq_icT (hm _ _ rfl) (zr2T e0) ?_
    exact k
  | succ n ih =>
    intro way hn hw0
    have hm := hm_tellWay (T := T) hT
    by_cases e : gE h copy at_ way = hout h at_.toNat
    · refine ⟨way, e, fun zr k => ?_⟩
      refine hq_load (hm _ _ rfl) rfl rfl ?_
      refine hq_load (hm _ _ rfl) rfl rfl ?_
      refine hq_load (hm _ _ rfl) rfl rfl ?_
      refine hq_load (hm _ _ rfl) rfl rfl ?_
      refine hq_call (hm _ _ rfl) rfl ⟨Nat.le_of_ble_eq_true rfl, Nat.le_of_ble_eq_true rfl, fun _ => rfl⟩ (r_goesBy (d := d + 1) hT hp c0 a1 a2) ?_
      refine hq_load (hm _ _ rfl) rfl rfl ?_
      refine hq_getf (hm _ _ rfl) rfl hp.o ?_
      refine hq_load (hm _ _ rfl) rfl rfl ?_
      refine hq_ald (hm _ _ rfl) (za130 (by omega) (by omega)) (hKo hp (by omega)) ?_
      refine hq_icT (hm _ _ rfl) (zr2T e) ?_
      exact k
    · obtain ⟨w1, g1, g2⟩ := ih (way + 1) (by omega) (by omega)
      refine ⟨w1, g1, fun zr k => ?_⟩
      have k := g2 zr k
      refine hq_load (hm _ _ rfl) rfl rfl ?_
      refine hq_load (hm _ _ rfl) rfl rfl ?_
      refine hq_load (hm _ _ rfl) rfl rfl ?_
      refine hq_load (hm _ _ rfl) rfl rfl ?_
      refine hq_call (hm _ _ rfl) rfl ⟨Nat.le_of_ble_eq_true rfl, Nat.le_of_ble_eq_true rfl, fun _ => rfl⟩ (r_goesBy (d := d + 1) hT hp c0 a1 a2) ?_
      refine hq_load (hm _ _ rfl) rfl rfl ?_
      refine hq_getf (hm _ _ rfl) rfl hp.o ?_
      refine hq_load (hm _ _ rfl) rfl rfl ?_
      refine hq_ald (hm _ _ rfl) (za130 (by omega) (by omega)) (hKo hp (by omega)) ?_
      refine hq_icF (hm _ _ rfl) (zr2F e) ?_
      refine hq_iincZ (u := 1) (hm _ _ rfl) rfl rfl (hq_inc (by omega) (by omega)) ?_
      rw [hw_p6]
      refine hq_goto (hm _ _ rfl) ?_
      exact k
theorem t_loop (hT : hTab T) (c0 : -1 ≤ copy ∧ copy ≤ 2) {cost : Int} : ∀ (m : Nat) (h : zH) (n at_ : Int) (w : Option Int), hHp h → hInv copy to h → hStb copy h → tRow h n → 1 ≤ n → 0 ≤ at_ → at_ < 48 → (at_ ≠ to → at_ < hc h 0 * hc h 1 ∧ hout h at_.toNat < 1000000) → hcnt h (hout h at_.toNat) 48 = m → n + (m : Int) ≤ 48 → ∃ h' n', hSm h h' ∧ tRow h' n' ∧ 1 ≤ n' ∧ n' ≤ 48 ∧ zRun D T (d + 5) 324 41 (h, hw copy from_ to (some cost) (some at_) w none, []) (h', some (0, cost)) := by
  intro m
  induction m using Nat.strongRecOn with
  | ind m ih =>
    intro h n at_ w hp hi hs ht n1 a1 a2 ha hm_ hn
    have hm := hm_tellWay (T := T) hT
    by_cases e : at_ = to
    · refine ⟨h, n, fun _ _ _ _ => rfl, ht, n1, by omega, ?_⟩
      refine hq_load (hm _ _ rfl) rfl rfl ?_
      refine hq_load (hm _ _ rfl) rfl rfl ?_
      refine hq_icT (hm _ _ rfl) (zr2T e) ?_
      refine hq_load (hm _ _ rfl) rfl rfl ?_
      exact hq_ret (hm _ _ rfl) ⟨rfl, rfl⟩
    · obtain ⟨b1, b2⟩ := ha e
      obtain ⟨w0, x1, x2, x3⟩ := hi at_ a1 b1 e b2
      have x4 : gE h copy at_ w0 = hout h at_.toNat := Int.le_antisymm x3 (hs at_ w0 a1 b1 x1 x2)
      obtain ⟨w1, y1, y2⟩ := t_way (D := D) (d := d) (from_ := from_) (to := to) (cost := cost) hT hp c0 a1 a2 x4 x2 w0.toNat 0 (by omega) (Int.le_refl 0)
      obtain ⟨z1, z2, z3, z4, z5, -⟩ := (gE_low hp (copy := copy) (cell := at_) (way := w1)).resolve_left (by omega)
      obtain ⟨t1, t2⟩ := tRow_add hp ht (by omega) (by omega) z1 z2 z3
      have hp' := t2.hHp hp
      have cl := hcnt_lt (h := h) (x := hout h (bE h at_ w1).toNat) (y := hout h at_.toNat) (by omega) (Int.le_refl _) (by omega) 48
      rw [if_pos (by omega)] at cl
      have ec : hcnt (zset (zset h 132 n.toNat (0, bE h at_ w1)) 121 31 (0, n + 1)) (hout (zset (zset h 132 n.toNat (0, bE h at_ w1)) 121 31 (0, n + 1)) (bE h at_ w1).toNat) 48 = hcnt h (hout h (bE h at_ w1).toNat) 48 := by
        rw [hsm_out t2]
        have : ∀ x j, hcnt (zset (zset h 132 n.toNat (0, bE h at_ w1)) 121 31 (0, n + 1)) x j = hcnt h x j := fun x j => by
          induction j with
          | zero => rfl
          | succ j ih =>
            show hcnt _ x j + (if hout _ j < x then 1 else 0) = hcnt h x j + _
            rw [ih, hsm_out t2]
        exact this _ _
      obtain ⟨h', n', g1, g2, g3, g4, g5⟩ := ih (hcnt h (hout h (bE h at_ w1).toNat) 48) (by omega) (zset (zset h 132 n.toNat (0, bE h at_ w1)) 121 31 (0, n + 1)) (n + 1) (bE h at_ w1) (some w1) hp'
        (fun cell q1 q2 q3 q4 => by
          rw [hsm_hc t2, hsm_hc t2] at q2
          rw [hsm_out t2] at q4 ⊢
          obtain ⟨w, r1, r2, r3⟩ := hi cell q1 q2 q3 q4
          exact ⟨w, r1, r2, by rw [(hsm_gE t2 copy cell w).1]; exact r3⟩)
        (fun cell way q1 q2 q3 q4 => by
          rw [hsm_hc t2, hsm_hc t2] at q2
          rw [hsm_out t2, (hsm_gE t2 copy cell way).1]
          exact hs cell way q1 q2 q3 q4)
        t1 (by omega) z1 z3 (fun _ => by rw [hsm_hc t2, hsm_hc t2, hsm_out t2]; exact ⟨z2, z5⟩) ec (by omega)
      refine ⟨h', n', t2.trans g1, g2, g3, g4, ?_⟩
      refine hq_load (hm _ _ rfl) rfl rfl ?_
      refine hq_load (hm _ _ rfl) rfl rfl ?_
      refine hq_icF (hm _ _ rfl) (zr2F e) ?_
      refine hq_pushZ (w := 0) (hm _ _ rfl) rfl ?_
      refine hq_store (hm _ _ rfl) ⟨rfl, Nat.ne_of_beq_eq_false rfl⟩ ?_
      rw [hw_p6]
      refine y2 _ ?_
      refine hq_load (hm _ _ rfl) rfl rfl ?_
      refine hq_load (hm _ _ rfl) rfl rfl ?_
      refine hq_load (hm _ _ rfl) rfl rfl ?_
      refine hq_call (hm _ _ rfl) rfl ⟨Nat.le_of_ble_eq_true rfl, Nat.le_of_ble_eq_true rfl, fun _ => rfl⟩ (r_beside (d := d + 2) hT hp a1 a2) ?_
      refine hq_store (hm _ _ rfl) ⟨rfl, Nat.ne_of_beq_eq_false rfl⟩ ?_
      show zRun _ _ _ _ _ (h, zput1 (hw copy from_ to (some cost) (some at_) (some w1) none) 5 (0, bE h at_ w1), []) _
      rw [hw_p5]
      refine hq_load (hm _ _ rfl) rfl rfl ?_
      refine hq_getf (hm _ _ rfl) rfl hp.w ?_
      refine hq_load (hm _ _ rfl) rfl rfl ?_
      refine hq_getf (hm _ _ rfl) rfl ht.1 ?_
      refine hq_load (hm _ _ rfl) rfl rfl ?_
      refine hq_ast (hm _ _ rfl) ⟨za132 (by omega) (by omega), rfl, by decide⟩ ?_
      refine hq_load (hm _ _ rfl) rfl rfl ?_
      refine hq_dup (hm _ _ rfl) rfl ?_
      refine hq_getf (hm _ _ rfl) rfl ht.1 ?_
      refine hq_pushZ (w := 1) (hm _ _ rfl) rfl ?_
      refine hq_bin (hm _ _ rfl) (hq_add (by omega) (by omega)) ?_
      refine hq_putf (hm _ _ rfl) ⟨rfl, rfl⟩ ?_
      refine hq_goto (hm _ _ rfl) ?_
      exact g5
theorem wE_b {h : zH} (hp : hHp h) (c1 : 0 ≤ from_ ∧ from_ < 48) : 0 ≤ wE h from_ ∧ wE h from_ ≤ 1000000 := by
  have o1 := (hp.2.2.1 from_.toNat (by omega)).2
  unfold wE
  split <;> omega
theorem r_tellWay (hT : hTab T) {h : zH} (hp : hHp h) (ht : tIn h) (c0 : -1 ≤ copy ∧ copy ≤ 2) (c1 : 0 ≤ from_ ∧ from_ < 48) (c3 : from_ < hc h 0 * hc h 1) (c2 : 0 ≤ to ∧ to < 48) : ∃ h1 h' n' v, hHp h1 ∧ hEq h h1 ∧ hSm h1 h' ∧ tRow h' n' ∧ 0 ≤ n' ∧ n' ≤ 48 ∧ 0 ≤ v ∧ v ≤ 1000000 ∧ zRun D T (d + 5) 324 0 (h, zargs 0 [(2, 121), (0, copy), (0, from_), (0, to)], []) (h', some (0, v)) := by
  have hm := hm_tellWay (T := T) hT
  obtain ⟨h1, w1, w2, w3, w4, w5⟩ := r_wayOf (D := D) (d := d) hT hp c0 c1 c2
  have wb := wE_b w1 c1
  have s1 : hSm h1 (zset h1 121 31 (0, 0)) := fun r k _ y => if_neg y
  have t1 : tIn (zset h1 121 31 (0, 0)) := fun i hi => by
    have e : zset h1 121 31 (0, 0) 132 i = h 132 i := (if_neg (fun c => absurd c.1 (by decide))).trans (w2 132 i (fun c => by omega))
    rw [e]; exact ht i hi
  by_cases e : wE h1 from_ = 1000000
  · refine ⟨h1, zset h1 121 31 (0, 0), 0, 1000000, w1, w2, s1, ⟨if_pos ⟨rfl, rfl⟩, t1, fun i hi _ => by omega⟩, Int.le_refl 0, by omega, by omega, Int.le_refl _, ?_⟩
    rw [hw_args]
    refine hq_load (hm _ _ rfl) rfl rfl ?_
    refine hq_load (hm _ _ rfl) rfl rfl ?_
    refine hq_load (hm _ _ rfl) rfl rfl ?_
    refine hq_load (hm _ _ rfl) rfl rfl ?_
    refine hq_call (hm _ _ rfl) rfl ⟨Nat.le_of_ble_eq_true rfl, Nat.le_of_ble_eq_true rfl, fun _ => rfl⟩ w5 ?_
    refine hq_store (hm _ _ rfl) ⟨rfl, Nat.ne_of_beq_eq_false rfl⟩ ?_
    show zRun _ _ _ _ _ (h1, zput1 (hw copy from_ to none none none none) 4 (0, wE h1 from_), []) _
    rw [hw_p4]
    refine hq_load (hm _ _ rfl) rfl rfl ?_
    refine hq_pushZ (w := 0) (hm _ _ rfl) rfl ?_
    refine hq_putf (hm _ _ rfl) ⟨rfl, rfl⟩ ?_
    refine hq_load (hm _ _ rfl) rfl rfl ?_
    refine hq_pushZ (w := 1000000) (hm _ _ rfl) rfl ?_
    refine hq_icT (hm _ _ rfl) (zr2T e) ?_
    refine hq_pushZ (w := 1000000) (hm _ _ rfl) rfl ?_
    exact hq_ret (hm _ _ rfl) ⟨rfl, rfl⟩
  · have s2 := s1.hHp w1
    have ob := (w1.2.2.1 from_.toNat (by omega)).2
    have of : hout h1 from_.toNat < 1000000 := by
      unfold wE at e
      split at e
      · exact absurd rfl e
      · omega
    have q0 : hc h1 0 * hc h1 1 = hc h 0 * hc h 1 := by rw [heq_hc w2, heq_hc w2]
    obtain ⟨t3, t4⟩ := tRow_add (n := 0) (b := from_) s2 (⟨if_pos ⟨rfl, rfl⟩, t1, fun i hi _ => by omega⟩ : tRow (zset h1 121 31 (0, 0)) 0) (Int.le_refl 0) (by omega) c1.1 (by rw [hsm_hc s1, hsm_hc s1, q0]; exact c3) c1.2
    have s3 := s1.trans t4
    have hp3 := t4.hHp s2
    have cs := hcnt_self (h := zset (zset (zset h1 121 31 (0, 0)) 132 (0 : Int).toNat (0, from_)) 121 31 (0, 0 + 1)) (k := from_.toNat) 48
    rw [if_pos (by omega)] at cs
    obtain ⟨h', n', g1, g2, g3, g4, g5⟩ := t_loop (D := D) (T := T) (d := d) (copy := copy) (from_ := from_) (to := to) (cost := wE h1 from_) hT c0 _ _ (0 + 1) from_ none hp3
      (fun cell q1 q2 q3 q4 => by
        rw [hsm_hc s3, hsm_hc s3] at q2
        rw [hsm_out s3] at q4 ⊢
        obtain ⟨w, r1, r2, r3⟩ := w3 cell q1 q2 q3 q4
        exact ⟨w, r1, r2, by rw [(hsm_gE s3 copy cell w).1]; exact r3⟩)
      (fun cell way q1 q2 q3 q4 => by
        rw [hsm_hc s3, hsm_hc s3] at q2
        rw [hsm_out s3, (hsm_gE s3 copy cell way).1]
        exact w4 cell way q1 q2 q3 q4)
      t3 (by omega) c1.1 c1.2 (fun _ => by rw [hsm_hc s3, hsm_hc s3, hsm_out s3, q0]; exact ⟨c3, of⟩) rfl (by omega)
    refine ⟨h1, h', n', wE h1 from_, w1, w2, s3.trans g1, g2, by omega, g4, wb.1, wb.2, ?_⟩
    rw [hw_args]
    refine hq_load (hm _ _ rfl) rfl rfl ?_
    refine hq_load (hm _ _ rfl) rfl rfl ?_
    refine hq_load (hm _ _ rfl) rfl rfl ?_
    refine hq_load (hm _ _ rfl) rfl rfl ?_
    refine hq_call (hm _ _ rfl) rfl ⟨Nat.le_of_ble_eq_true rfl, Nat.le_of_ble_eq_true rfl, fun _ => rfl⟩ w5 ?_
    refine hq_store (hm _ _ rfl) ⟨rfl, Nat.ne_of_beq_eq_false rfl⟩ ?_
    show zRun _ _ _ _ _ (h1, zput1 (hw copy from_ to none none none none) 4 (0, wE h1 from_), []) _
    rw [hw_p4]
    refine hq_load (hm _ _ rfl) rfl rfl ?_
    refine hq_pushZ (w := 0) (hm _ _ rfl) rfl ?_
    refine hq_putf (hm _ _ rfl) ⟨rfl, rfl⟩ ?_
    refine hq_load (hm _ _ rfl) rfl rfl ?_
    refine hq_pushZ (w := 1000000) (hm _ _ rfl) rfl ?_
    refine hq_icF (hm _ _ rfl) (zr2F e) ?_
    refine hq_load (hm _ _ rfl) rfl rfl ?_
    refine hq_store (hm _ _ rfl) ⟨rfl, Nat.ne_of_beq_eq_false rfl⟩ ?_
    rw [hw_p5]
    clear hp
    have hp := s2
    refine hq_load (hm _ _ rfl) rfl rfl ?_
    refine hq_getf (hm _ _ rfl) rfl hp.w ?_
    refine hq_pushZ (w := 0) (hm _ _ rfl) rfl ?_
    refine hq_load (hm _ _ rfl) rfl rfl ?_
    refine hq_ast (hm _ _ rfl) ⟨za132 (Int.le_refl 0) (by omega), rfl, by decide⟩ ?_
    refine hq_load (hm _ _ rfl) rfl rfl ?_
    refine hq_pushZ (w := 1) (hm _ _ rfl) rfl ?_
    refine hq_putf (hm _ _ rfl) ⟨rfl, rfl⟩ ?_
    exact g5
theorem r_tellCompany (hT : hTab T) {h : zH} (hp : hHp h) (ht : tIn h) {k : Int} (k0 : 0 ≤ k) (k1 : k ≤ 5) (b1 : 0 ≤ hc h (263 + k).toNat ∧ hc h (263 + k).toNat ≤ 2) (b2 : 0 ≤ hc h (245 + k).toNat ∧ hc h (245 + k).toNat < 48) (b3 : 0 ≤ hc h (251 + k).toNat ∧ hc h (251 + k).toNat < 48) (b4 : hc h (245 + k).toNat < hc h 0 * hc h 1) : ∃ h1 h' n' v, hHp h1 ∧ hEq h h1 ∧ hSm h1 h' ∧ tRow h' n' ∧ 0 ≤ n' ∧ n' ≤ 48 ∧ 0 ≤ v ∧ v ≤ 1000000 ∧ zRun D T (d + 6) 323 0 (h, zargs 0 [(2, 121), (0, k)], []) (h', some (0, v)) := by
  have hm := hm_tellCompany (T := T) hT
  obtain ⟨h1, h', n', v, g1, g2, g3, g4, g5, g6, g7, g8, g9⟩ := r_tellWay (D := D) (d := d) hT hp ht (copy := hc h (263 + k).toNat) (from_ := hc h (245 + k).toNat) (to := hc h (251 + k).toNat) ⟨by omega, b1.2⟩ b2 b4 b3
  refine ⟨h1, h', n', v, g1, g2, g3, g4, g5, g6, g7, g8, ?_⟩
  refine hq_load (hm _ _ rfl) rfl rfl ?_
  refine hq_load (hm _ _ rfl) rfl rfl ?_
  refine hq_getf (hm _ _ rfl) rfl hp.c ?_
  refine hq_pushZ (w := 263) (hm _ _ rfl) rfl ?_
  refine hq_load (hm _ _ rfl) rfl rfl ?_
  refine hq_bin (hm _ _ rfl) (hq_add (by omega) (by omega)) ?_
  refine hq_ald (hm _ _ rfl) (za126 (by omega) (by omega)) (hKd hp (by omega)) ?_
  refine hq_load (hm _ _ rfl) rfl rfl ?_
  refine hq_getf (hm _ _ rfl) rfl hp.c ?_
  refine hq_pushZ (w := 245) (hm _ _ rfl) rfl ?_
  refine hq_load (hm _ _ rfl) rfl rfl ?_
  refine hq_bin (hm _ _ rfl) (hq_add (by omega) (by omega)) ?_
  refine hq_ald (hm _ _ rfl) (za126 (by omega) (by omega)) (hKd hp (by omega)) ?_
  refine hq_load (hm _ _ rfl) rfl rfl ?_
  refine hq_getf (hm _ _ rfl) rfl hp.c ?_
  refine hq_pushZ (w := 251) (hm _ _ rfl) rfl ?_
  refine hq_load (hm _ _ rfl) rfl rfl ?_
  refine hq_bin (hm _ _ rfl) (hq_add (by omega) (by omega)) ?_
  refine hq_ald (hm _ _ rfl) (za126 (by omega) (by omega)) (hKd hp (by omega)) ?_
  refine hq_call (hm _ _ rfl) rfl ⟨Nat.le_of_ble_eq_true rfl, Nat.le_of_ble_eq_true rfl, fun _ => rfl⟩ g9 ?_
  exact hq_ret (hm _ _ rfl) ⟨rfl, rfl⟩
end TW
