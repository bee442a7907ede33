/-! lists and numbers by recursors alone, made outright (from p1) -/
noncomputable def x_nth {α : Type} (l : List α) (k : Nat) : Option α := List.rec (motive := fun _ => Nat → Option α) (fun _ => none) (fun a _ ih k => Nat.rec (motive := fun _ => Option α) (some a) (fun j _ => ih j) k) l k
theorem x_nth_eq {α : Type} (l : List α) (k : Nat) : x_nth l k = l[k]? := by
  induction l generalizing k with
  | nil => rfl
  | cons a t ih => cases k with
    | zero => rfl
    | succ j => exact ih j
noncomputable def x_set {α β : Type} (l : List α) (k : Nat) (a : α) (f : List α → Option β) : Option β := List.rec (motive := fun _ => Nat → (List α → Option β) → Option β) (fun _ _ => none) (fun b t ih k f => Nat.rec (motive := fun _ => Option β) (f (a :: t)) (fun j _ => ih j (fun t' => f (b :: t'))) k) l k f
theorem x_set_eq {α β : Type} (l : List α) (k : Nat) (a : α) (f : List α → Option β) {r : β} (h : x_set l k a f = some r) : k < l.length ∧ f (l.set k a) = some r := by
  induction l generalizing k f with
  | nil => cases h
  | cons b t ih => cases k with
    | zero => exact ⟨Nat.zero_lt_succ _, h⟩
    | succ j =>
      obtain ⟨h1, h2⟩ := ih j _ h
      exact ⟨Nat.succ_lt_succ h1, h2⟩
-- behind the last one: with the place
noncomputable def x_push {α β : Type} (l : List α) (a : α) (f : List α → Nat → Option β) : Option β := List.rec (motive := fun _ => (List α → Nat → Option β) → Option β) (fun f => f [a] 0) (fun b _ ih f => ih (fun t' n => f (b :: t') (Nat.succ n))) l f
theorem x_push_eq {α β : Type} (l : List α) (a : α) (f : List α → Nat → Option β) : x_push l a f = f (l ++ [a]) l.length := by
  induction l generalizing f with
  | nil => rfl
  | cons b t ih => exact (ih _).trans rfl
-- a list's spine, made outright
noncomputable def x_spine {α β : Type} (l : List α) (f : List α → Option β) : Option β := List.rec (motive := fun _ => (List α → Option β) → Option β) (fun f => f []) (fun b _ ih f => ih (fun t' => f (b :: t'))) l f
theorem x_spine_eq {α β : Type} (l : List α) (f : List α → Option β) : x_spine l f = f l := by
  induction l generalizing f with
  | nil => rfl
  | cons b t ih => exact ih _
noncomputable def x_k32 {β : Type} (x : Int32) (k : Int32 → Option β) : Option β := Nat.rec (motive := fun _ => Option β) (k (Int32.ofNat 0)) (fun n _ => k (Int32.ofNat (Nat.succ n))) x.toBitVec.toNat
theorem x_i32 (x : Int32) : Int32.ofNat x.toBitVec.toNat = x := by
  apply Int32.toBitVec_inj.mp
  simp
theorem x_k32_eq {β : Type} (x : Int32) (k : Int32 → Option β) : x_k32 x k = k x := by
  have h : x_k32 x k = k (Int32.ofNat x.toBitVec.toNat) := by
    unfold x_k32
    cases x.toBitVec.toNat <;> rfl
  rw [h, x_i32]
noncomputable def x_k64 {β : Type} (x : Int64) (k : Int64 → Option β) : Option β := Nat.rec (motive := fun _ => Option β) (k (Int64.ofNat 0)) (fun n _ => k (Int64.ofNat (Nat.succ n))) x.toBitVec.toNat
theorem x_i64 (x : Int64) : Int64.ofNat x.toBitVec.toNat = x := by
  apply Int64.toBitVec_inj.mp
  simp
theorem x_k64_eq {β : Type} (x : Int64) (k : Int64 → Option β) : x_k64 x k = k x := by
  have h : x_k64 x k = k (Int64.ofNat x.toBitVec.toNat) := by
    unfold x_k64
    cases x.toBitVec.toNat <;> rfl
  rw [h, x_i64]
noncomputable def x_kN {β : Type} (n : Nat) (k : Nat → Option β) : Option β := Nat.rec (motive := fun _ => Option β) (k 0) (fun m _ => k (Nat.succ m)) n
theorem x_kN_eq {β : Type} (n : Nat) (k : Nat → Option β) : x_kN n k = k n := by cases n <;> rfl
noncomputable def x_kZ {β : Type} (z : Int) (f : Int → Option β) : Option β := Int.rec (motive := fun _ => Option β) (fun n => x_kN n (fun n => f (Int.ofNat n))) (fun n => x_kN n (fun n => f (Int.negSucc n))) z
theorem x_kZ_eq {β : Type} (z : Int) (f : Int → Option β) : x_kZ z f = f z := by
  cases z with
  | ofNat n => exact x_kN_eq n (fun n => f (Int.ofNat n))
  | negSucc n => exact x_kN_eq n (fun n => f (Int.negSucc n))
