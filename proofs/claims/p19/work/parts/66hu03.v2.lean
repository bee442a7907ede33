/-! THE CLASS'S QUEUE, PURE (fr: where the row begins; b: the cell taken; w: its weight on) -/
def wPush (near : Nat) (w : Int) (s : (Nat → Int) × List Nat) : (Nat → Int) × List Nat := (fun x => if x = near then w else s.1 x, if near ∈ s.2 then s.2 else s.2 ++ [near])
def wGd (C : Nat → Prop) (e : Nat → Int) (fr a : Nat) : Prop := C a ∧ (e a < e fr ∨ a = fr)
def wQ (C : Nat → Prop) (nb : Nat → Nat → Int) (co : Nat → Int) (to : Nat) (f : Nat → Int) (q : List Nat) : Prop := f to = 0 ∧ wU C nb co g64 to f ∧ q.Nodup ∧ ∀ x ∈ q, C x ∧ f x < wFar
def wRx (C : Nat → Prop) (nb : Nat → Nat → Int) (co : Nat → Int) (fr : Nat) (f : Nat → Int) (q : List Nat) (R : Nat → Nat → Prop) : Prop := ∀ x d a : Nat, C x → x ∉ q → d < 4 → R x d → 0 < co x → f x < wFar → nb x d = (a : Int) → f a ≤ g64 (co x) + f x ∨ f fr ≤ g64 (co x) + f x
def wPh (C : Nat → Prop) (e : Nat → Int) (fr tk : Nat) (f : Nat → Int) (q : List Nat) : Prop := ∃ (j : Nat) (A B : List Nat), q = A ++ B ∧ tk + A.length ≤ 48 * (j + 1) ∧ j ≤ 47 ∧ (∀ a, wGd C e fr a → e a % 64 ≤ (j : Int) → f a = e a) ∧ (∀ x ∈ B, wGd C e fr x → (j : Int) < e x % 64) ∧ (j = 47 → B = [])
section WQ
variable {C : Nat → Prop} {nb : Nat → Nat → Int} {co : Nat → Int} {to fr : Nat} {e f : Nat → Int} {q : List Nat}
theorem wNd (hC : ∀ a, C a → a < 48) (h : q.Nodup) (hq : ∀ x ∈ q, C x) : q.length ≤ 48 := by
  have k := List.Nodup.length_le_of_subset (l₂ := List.range 48) h (fun x hx => List.mem_range.mpr (hC x (hq x hx)))
  rw [List.length_range] at k
  exact k
theorem wPush_q (hq : wQ C nb co to f q) (hok : wOk C nb) {b near d : Nat} {w : Int} (cb : C b) (cn : C near) (hd : d < 4) (hn : nb b d = (near : Int)) (pb : 0 < co b) (fb : f b < wFar) (hw : w = g64 (co b) + f b) (h1 : w < f near) : wQ C nb co to (wPush near w (f, q)).1 (wPush near w (f, q)).2 := by
  obtain ⟨h0, hu, hnd, hm⟩ := hq
  have gp := g64_p _ pb
  have bn := hu.1 near cn
  have bb := hu.1 b cb
  have hto : near ≠ to := fun c => by rw [c, h0] at h1; omega
  have hbn : b ≠ near := fun c => by rw [c] at hw; rw [c] at gp; omega
  have ab : wAdj nb near b := (hok.sym cb ⟨d, hd, hn⟩).1
  have le : ∀ x, (if x = near then w else f x) ≤ f x := fun x => by
    by_cases c : x = near
    · rw [if_pos c, c]; omega
    · rw [if_neg c]; exact Int.le_refl _
  refine ⟨?_, ⟨fun x cx => ?_, fun x cx hx fx => ?_⟩, ?_, ?_⟩
  · show (if to = near then w else f to) = 0
    rw [if_neg (fun c => hto c.symm)]; exact h0
  · show 0 ≤ (if x = near then w else f x) ∧ (if x = near then w else f x) ≤ wFar
    have := hu.1 x cx
    by_cases c : x = near
    · rw [if_pos c]; omega
    · rw [if_neg c]; exact this
  · show ∃ y, C y ∧ wAdj nb x y ∧ 0 < co y ∧ (if y = near then w else f y) < wFar ∧ g64 (co y) + (if y = near then w else f y) ≤ (if x = near then w else f x)
    have fx : (if x = near then w else f x) < wFar := fx
    by_cases c : x = near
    · refine ⟨b, cb, by rw [c]; exact ab, pb, ?_, ?_⟩
      · rw [if_neg hbn]; exact fb
      · rw [if_neg hbn, if_pos c]; omega
    · rw [if_neg c] at fx ⊢
      obtain ⟨y, cy, ay, py, fy, ly⟩ := hu.2 x cx hx fx
      have l := le y
      exact ⟨y, cy, ay, py, by omega, by omega⟩
  · show (if near ∈ q then q else q ++ [near]).Nodup
    by_cases c : near ∈ q
    · rw [if_pos c]; exact hnd
    · rw [if_neg c]
      refine List.nodup_append.mpr ⟨hnd, List.nodup_cons.mpr ⟨List.not_mem_nil, List.nodup_nil⟩, fun x hx y hy => ?_⟩
      rw [List.mem_singleton.mp hy]
      exact fun e => c (e ▸ hx)
  · intro x hx
    have hx : x ∈ (if near ∈ q then q else q ++ [near]) := hx
    show C x ∧ (if x = near then w else f x) < wFar
    by_cases c : x = near
    · rw [if_pos c]
      exact ⟨by rw [c]; exact cn, by omega⟩
    · rw [if_neg c]
      by_cases m : near ∈ q
      · rw [if_pos m] at hx; exact hm x hx
      · rw [if_neg m] at hx
        rcases List.mem_append.mp hx with k | k
        · exact hm x k
        · exact absurd (List.mem_singleton.mp k) c
theorem wPush_m {near x : Nat} {w : Int} (h : x ∉ (wPush near w (f, q)).2) : x ∉ q ∧ x ≠ near := by
  have h : x ∉ (if near ∈ q then q else q ++ [near]) := h
  by_cases m : near ∈ q
  · rw [if_pos m] at h
    exact ⟨h, fun c => h (c ▸ m)⟩
  · rw [if_neg m] at h
    exact ⟨fun k => h (List.mem_append_left _ k), fun c => h (List.mem_append_right _ (List.mem_singleton.mpr c))⟩
theorem wPush_le {near : Nat} {w : Int} (h1 : w < f near) (x : Nat) : (wPush near w (f, q)).1 x ≤ f x := by
  show (if x = near then w else f x) ≤ f x
  by_cases c : x = near
  · rw [if_pos c, c]; omega
  · rw [if_neg c]; exact Int.le_refl _
theorem wPush_r {R : Nat → Nat → Prop} (hr : wRx C nb co fr f q R) {near : Nat} {w : Int} (h1 : w < f near) : wRx C nb co fr (wPush near w (f, q)).1 (wPush near w (f, q)).2 R := by
  intro x d a cx hx hd hR px fx hn
  obtain ⟨m1, m2⟩ := wPush_m hx
  have e : (wPush near w (f, q)).1 x = f x := if_neg m2
  rw [e] at fx ⊢
  have l1 := wPush_le (q := q) h1 a
  have l2 := wPush_le (q := q) h1 fr
  rcases hr x d a cx m1 hd hR px fx hn with k | k
  · exact Or.inl (by omega)
  · exact Or.inr (by omega)
/-- good cells that are exact stay so; a push is of none of them -/
theorem wPush_p {tk : Nat} (hf : C fr) (hle : ∀ a, C a → e a ≤ f a) (hm47 : ∀ a, C a → e a < wFar → e a % 64 ≤ 47) (hfr0 : e fr ≤ wFar) (hp : wPh C e fr tk f q) {near : Nat} {w : Int} (cn : C near) (h0 : e near ≤ w) (h1 : w < f near) (h2 : w < f fr) : wPh C e fr tk (wPush near w (f, q)).1 (wPush near w (f, q)).2 := by
  obtain ⟨j, A, B, hq, ht, hj, hx, hB, h47⟩ := hp
  have hfar : wFar % 64 = 0 := by decide
  have keep : ∀ a, wGd C e fr a → e a % 64 ≤ (j : Int) → (wPush near w (f, q)).1 a = e a := fun a ga ha => by
    have k := hx a ga ha
    show (if a = near then w else f a) = e a
    by_cases c : a = near
    · rw [c] at k; omega
    · rw [if_neg c]; exact k
  have no : wGd C e fr near → (j : Int) < e near % 64 := fun gn => by
    by_cases c : e near % 64 ≤ (j : Int)
    · have := hx near gn c; omega
    · omega
  by_cases m : near ∈ q
  · refine ⟨j, A, B, ?_, ht, hj, keep, hB, h47⟩
    show (if near ∈ q then q else q ++ [near]) = A ++ B
    rw [if_pos m]; exact hq
  · refine ⟨j, A, B ++ [near], ?_, ht, hj, keep, ?_, fun c => ?_⟩
    · show (if near ∈ q then q else q ++ [near]) = A ++ (B ++ [near])
      rw [if_neg m, hq, List.append_assoc]
    · intro x hx' gx
      rcases List.mem_append.mp hx' with k | k
      · exact hB x k gx
      · rw [List.mem_singleton.mp k] at gx ⊢
        exact no gx
    · exfalso
      have c47 : ∀ a, wGd C e fr a → e a % 64 ≤ (j : Int) := fun a ga => by
        rcases ga.2 with l | l
        · have := hm47 a ga.1 (by omega); omega
        · rw [l]
          by_cases ff : e fr < wFar
          · have := hm47 fr hf ff; omega
          · have : e fr = wFar := by omega
            rw [this, hfar]; omega
      have k1 := hx fr ⟨hf, Or.inr rfl⟩ (c47 fr ⟨hf, Or.inr rfl⟩)
      have gn : wGd C e fr near := ⟨cn, Or.inl (by omega)⟩
      have := no gn
      have := c47 near gn
      omega
/-- one turn more: what lies one step farther is exact where the queue's first part has been taken -/
theorem wAdv (hok : wOk C nb) (he : wD C nb co g64 to e) (hn1 : ∀ a b, C a → C b → e a < wFar → e b < wFar → e a = g64 (co b) + e b → e a % 64 = e b % 64 + 1) (hn0 : ∀ a, C a → e a < wFar → 0 ≤ e a % 64) (hf : C fr) (h0 : f to = 0) (hle : ∀ a, C a → e a ≤ f a) (hr : wRx C nb co fr f q (fun _ _ => True)) {j : Nat} (hx : ∀ a, wGd C e fr a → e a % 64 ≤ (j : Int) → f a = e a) (hB : ∀ x ∈ q, wGd C e fr x → (j : Int) < e x % 64) : ∀ a, wGd C e fr a → e a % 64 ≤ ((j + 1 : Nat) : Int) → f a = e a := by
  intro a ga ha
  by_cases c : e a % 64 ≤ (j : Int)
  · exact hx a ga c
  · by_cases hat : a = to
    · rw [hat, h0, he.1]
    · have eb := he.2.1.1 a ga.1
      by_cases fa : e a < wFar
      · obtain ⟨b, cb, ab, pb, fb, ee⟩ := he.suc ga.1 hat fa
        have gp := g64_p _ pb
        have n1 := hn1 a b ga.1 cb fa fb ee
        have gb : wGd C e fr b := by
          rcases ga.2 with l | l
          · exact ⟨cb, Or.inl (by omega)⟩
          · rw [l] at ee; exact ⟨cb, Or.inl (by omega)⟩
        have xb := hx b gb (by omega)
        have nq : b ∉ q := fun m => by
          have := hB b m gb
          omega
        obtain ⟨d, hd, hnb⟩ := (hok.sym ga.1 ab).1
        have k := hr b d a cb nq hd trivial pb (by rw [xb]; exact fb) hnb
        rw [xb, ← ee] at k
        have la := hle a ga.1
        rcases k with k | k
        · omega
        · have lf := hle fr hf
          rcases ga.2 with l | l
          · omega
          · rw [l] at k ⊢
            have := hle fr hf
            omega
      · have la := hle a ga.1
        have : e a % 64 = 0 := by
          have : e a = wFar := by omega
          rw [this]; decide
        omega
theorem wPop_p {tk b : Nat} (hok : wOk C nb) (he : wD C nb co g64 to e) (hn1 : ∀ a b, C a → C b → e a < wFar → e b < wFar → e a = g64 (co b) + e b → e a % 64 = e b % 64 + 1) (hn0 : ∀ a, C a → e a < wFar → 0 ≤ e a % 64) (hf : C fr) (hle : ∀ a, C a → e a ≤ f a) (hq : wQ C nb co to f (b :: q)) (hr : wRx C nb co fr f (b :: q) (fun _ _ => True)) (hp : wPh C e fr tk f (b :: q)) : wPh C e fr (tk + 1) f q := by
  obtain ⟨j, A, B, hqe, ht, hj, hx, hB, h47⟩ := hp
  cases A with
  | nil =>
    have hqe : b :: q = B := hqe
    have l48 := wNd hok.1 hq.2.2.1 (fun x hx => (hq.2.2.2 x hx).1)
    have hl : (b :: q).length = q.length + 1 := rfl
    have hA : tk + 0 ≤ 48 * (j + 1) := ht
    have j47 : j ≠ 47 := fun c => by
      have := h47 c
      rw [this] at hqe; cases hqe
    refine ⟨j + 1, q, [], (List.append_nil q).symm, by omega, by omega, ?_, fun x hx => absurd hx List.not_mem_nil, fun _ => rfl⟩
    exact wAdv hok he hn1 hn0 hf hq.1 hle hr hx (fun x m => hB x (hqe ▸ m))
  | cons a A =>
    have hqe : b :: q = a :: (A ++ B) := hqe
    have hq' : q = A ++ B := (List.cons.inj hqe).2
    have hl : (a :: A).length = A.length + 1 := rfl
    exact ⟨j, A, B, hq', by omega, hj, hx, hB, h47⟩
/-- where the queue is empty, all good cells are exact -/
theorem wEnd_p {tk : Nat} (hok : wOk C nb) (he : wD C nb co g64 to e) (hn1 : ∀ a b, C a → C b → e a < wFar → e b < wFar → e a = g64 (co b) + e b → e a % 64 = e b % 64 + 1) (hn0 : ∀ a, C a → e a < wFar → 0 ≤ e a % 64) (hm47 : ∀ a, C a → e a < wFar → e a % 64 ≤ 47) (hf : C fr) (h0 : f to = 0) (hle : ∀ a, C a → e a ≤ f a) (hr : wRx C nb co fr f [] (fun _ _ => True)) (hp : wPh C e fr tk f []) : ∀ a, wGd C e fr a → f a = e a := by
  obtain ⟨j, A, B, hqe, ht, hj, hx, hB, h47⟩ := hp
  have key : ∀ m : Nat, ∀ a, wGd C e fr a → e a % 64 ≤ ((j + m : Nat) : Int) → f a = e a := by
    intro m
    induction m with
    | zero => exact hx
    | succ m ih => exact wAdv hok he hn1 hn0 hf h0 hle hr ih (fun x hx => absurd hx List.not_mem_nil)
  intro a ga
  refine key 64 a ga ?_
  omega
theorem wFull_p {b : Nat} (hok : wOk C nb) (hq : wQ C nb co to f (b :: q)) (hp : wPh C e fr 2304 f (b :: q)) : False := by
  obtain ⟨j, A, B, hqe, ht, hj, hx, hB, h47⟩ := hp
  cases A with
  | nil =>
    have hqe : b :: q = B := hqe
    have hA : 2304 + 0 ≤ 48 * (j + 1) := ht
    have := h47 (by omega)
    rw [this] at hqe; cases hqe
  | cons a A =>
    have hl : (a :: A).length = A.length + 1 := rfl
    omega
theorem wIni_p (he : wD C nb co g64 to e) (hn1 : ∀ a b, C a → C b → e a < wFar → e b < wFar → e a = g64 (co b) + e b → e a % 64 = e b % 64 + 1) (hn0 : ∀ a, C a → e a < wFar → 0 ≤ e a % 64) : wPh C e fr 0 (fun x => if x = to then 0 else wFar) [to] := by
  refine ⟨0, [to], [], rfl, (show 0 + 1 ≤ 48 * (0 + 1) from by decide), by decide, fun a ga ha => ?_, fun x hx => absurd hx List.not_mem_nil, fun c => by cases c⟩
  show (if a = to then 0 else wFar) = e a
  by_cases c : a = to
  · rw [if_pos c, c, he.1]
  · rw [if_neg c]
    have eb := he.2.1.1 a ga.1
    by_cases fa : e a < wFar
    · obtain ⟨b, cb, ab, pb, fb, ee⟩ := he.suc ga.1 c fa
      have n1 := hn1 a b ga.1 cb fa fb ee
      have := hn0 b cb fb
      omega
    · omega
theorem wIni_q (ct : C to) : wQ C nb co to (fun x => if x = to then 0 else wFar) [to] := by
  refine ⟨if_pos rfl, ⟨fun a _ => ?_, fun a _ hat hf => ?_⟩, List.nodup_cons.mpr ⟨List.not_mem_nil, List.nodup_nil⟩, fun x hx => ?_⟩
  · show 0 ≤ (if a = to then (0 : Int) else wFar) ∧ (if a = to then (0 : Int) else wFar) ≤ wFar
    unfold wFar
    split <;> omega
  · have hf : (if a = to then (0 : Int) else wFar) < wFar := hf
    rw [if_neg hat] at hf
    omega
  · rw [List.mem_singleton.mp hx]
    exact ⟨ct, by show (if to = to then (0 : Int) else wFar) < wFar; rw [if_pos rfl]; decide⟩
theorem wIni_r : wRx C nb co fr (fun x => if x = to then 0 else wFar) [to] (fun _ _ => True) := by
  intro x d a _ hx _ _ _ fx _
  have fx : (if x = to then (0 : Int) else wFar) < wFar := fx
  rw [if_neg (fun c => hx (List.mem_singleton.mpr c))] at fx
  omega
end WQ
