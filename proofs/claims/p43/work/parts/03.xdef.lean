/-! THE ENGINE: an abstract machine over closed data, whose runs the kernel computes; below (04 ..): what it computes holds of the machine -/
-- values: a value of the machine, its addresses counted from the base; or (0, k): the k-th input; (1, k): it as a long; (2, _): any int; (3, _): any long; (4, j): the j-th array from outside
abbrev xV : Type := Value ⊕ (Nat × Nat)
-- cells: an array (type, length, default, what differs from it by place), or an object (its class's number, its fields)
abbrev xC : Type := (FieldType × Nat × xV × List (Nat × xV)) ⊕ (Nat × List xV)
abbrev xH : Type := List xC
abbrev xE : Type := List (Int × Int)
abbrev xL : Type := List (Nat × xV)
-- inputs' bounds, cells left, slots left, heap, locals, stack
abbrev xS : Type := xE × Nat × Nat × xH × xL × List xV
abbrev xR : Type := xE × xH × Option xV
abbrev xO : Type := xR ⊕ (Nat × xS)
abbrev xF : Type := Nat → xE → xH → List xV → Option (List xR)
abbrev xI : Type := xF → xS → Option (List xO)
-- a method: name, code, locals, answer's type, room
abbrev xY : Type := MethodName × ByteArray × Nat × Option FieldType × Room

noncomputable def x_nth {α : Type} (l : List α) (k : Nat) : Option α := List.rec (motive := fun _ => Nat → Option α) (fun _ => none) (fun a _ ih k => Nat.rec (motive := fun _ => Option α) (some a) (fun j _ => ih j) k) l k
theorem x_nth_eq {α : Type} (l : List α) (k : Nat) : x_nth l k = l[k]? := by
  induction l generalizing k with
  | nil => rfl
  | cons a t ih => cases k with
    | zero => rfl
    | succ j => exact ih j
noncomputable def x_set {α β : Type} (l : List α) (k : Nat) (a : α) (f : List α → Option β) : Option β := List.rec (motive := fun _ => Nat → (List α → Option β) → Option β) (fun _ _ => none) (fun b t ih k f => Nat.rec (motive := fun _ => Option β) (f (a :: t)) (fun j _ => ih j (fun t' => f (b :: t'))) k) l k f
theorem x_set_eq {α β : Type} (l : List α) (k : Nat) (a : α) (f : List α → Option β) {r : β} (h : x_set l k a f = some r) : k < l.length ∧ f (l.set k a) = some r := by
  induction l generalizing k f with
  | nil => cases h
  | cons b t ih => cases k with
    | zero => exact ⟨Nat.zero_lt_succ _, h⟩
    | succ j =>
      obtain ⟨h1, h2⟩ := ih j _ h
      exact ⟨Nat.succ_lt_succ h1, h2⟩
-- behind the last one: with the place
noncomputable def x_push {α β : Type} (l : List α) (a : α) (f : List α → Nat → Option β) : Option β := List.rec (motive := fun _ => (List α → Nat → Option β) → Option β) (fun f => f [a] 0) (fun b _ ih f => ih (fun t' n => f (b :: t') (Nat.succ n))) l f
theorem x_push_eq {α β : Type} (l : List α) (a : α) (f : List α → Nat → Option β) : x_push l a f = f (l ++ [a]) l.length := by
  induction l generalizing f with
  | nil => rfl
  | cons b t ih => exact (ih _).trans rfl
-- a list's spine, made outright
noncomputable def x_spine {α β : Type} (l : List α) (f : List α → Option β) : Option β := List.rec (motive := fun _ => (List α → Option β) → Option β) (fun f => f []) (fun b _ ih f => ih (fun t' => f (b :: t'))) l f
theorem x_spine_eq {α β : Type} (l : List α) (f : List α → Option β) : x_spine l f = f l := by
  induction l generalizing f with
  | nil => rfl
  | cons b t ih => exact ih _
noncomputable def x_k32 {β : Type} (x : Int32) (k : Int32 → Option β) : Option β := Nat.rec (motive := fun _ => Option β) (k (Int32.ofNat 0)) (fun n _ => k (Int32.ofNat (Nat.succ n))) x.toBitVec.toNat
theorem x_i32 (x : Int32) : Int32.ofNat x.toBitVec.toNat = x := by
  apply Int32.toBitVec_inj.mp
  simp
theorem x_k32_eq {β : Type} (x : Int32) (k : Int32 → Option β) : x_k32 x k = k x := by
  have h : x_k32 x k = k (Int32.ofNat x.toBitVec.toNat) := by
    unfold x_k32
    cases x.toBitVec.toNat <;> rfl
  rw [h, x_i32]
theorem x_i64 (x : Int64) : Int64.ofNat x.toBitVec.toNat = x := by
  apply Int64.toBitVec_inj.mp
  simp
-- an input's bounds
noncomputable def x_env (e : xE) (k : Nat) : Int × Int := Option.rec (motive := fun _ => Int × Int) (-2147483648, 2147483647) (fun q => q) (x_nth e k)
noncomputable def x_one (q : Int × Int) (a d : xV) : xV := cond (decide (q.1 = q.2)) a d
noncomputable def x_nm (e : xE) (v : xV) : xV := match v with
  | .inl w => .inl w
  | .inr (0, k) => x_one (x_env e k) (.inl (.int (Int32.ofInt (x_env e k).1))) (.inr (0, k))
  | .inr (1, k) => x_one (x_env e k) (.inl (.long (Int32.ofInt (x_env e k).1).toInt64)) (.inr (1, k))
  | .inr q => .inr q
-- what kind of value, by its head alone
noncomputable def x_isI (v : xV) : Bool := match v with
  | .inl (.int _) => true
  | .inr (0, _) => true
  | .inr (2, _) => true
  | _ => false
noncomputable def x_cat (v : xV) : Nat := match v with
  | .inl (.long _) => 2
  | .inl (.double _) => 2
  | .inr (1, _) => 2
  | .inr (3, _) => 2
  | _ => 1
noncomputable def x_sum (l : List xV) : Nat := List.rec (motive := fun _ => Nat) 0 (fun v _ ih => x_cat v + ih) l
-- locals
noncomputable def x_get (L : xL) (i : Nat) : Option xV := List.rec (motive := fun _ => Option xV) none (fun q _ ih => cond (Nat.beq q.1 i) (some q.2) ih) L
noncomputable def x_keep1 (i : Nat) (q : Nat × xV) : Bool := !(q.1 == i) && !(q.1 + 1 == i && x_cat q.2 == 2)
noncomputable def x_lst (nx : Nat) (e : xE) (cl sl : Nat) (h : xH) (L : xL) (S : List xV) : Option (List xO) := x_spine L (fun L => some [.inr (nx, e, cl, sl, h, L, S)])
-- an array's content
noncomputable def x_lk (o : List (Nat × xV)) (d : xV) (j : Nat) : xV := List.rec (motive := fun _ => xV) d (fun q _ ih => cond (Nat.beq q.1 j) q.2 ih) o
noncomputable def x_eqv (v d : xV) : Bool := match v, d with
  | .inl (.int a), .inl (.int b) => Nat.beq a.toBitVec.toNat b.toBitVec.toNat
  | .inl (.long a), .inl (.long b) => Nat.beq a.toBitVec.toNat b.toBitVec.toNat
  | _, _ => false
noncomputable def x_upd (o : List (Nat × xV)) (j : Nat) (v d : xV) : List (Nat × xV) := List.rec (motive := fun _ => List (Nat × xV)) (cond (x_eqv v d) [] [(j, v)]) (fun q t ih => cond (Nat.beq q.1 j) ((j, v) :: t) (q :: ih)) o
noncomputable def x_kN {β : Type} (n : Nat) (k : Nat → Option β) : Option β := Nat.rec (motive := fun _ => Option β) (k 0) (fun m _ => k (Nat.succ m)) n
theorem x_kN_eq {β : Type} (n : Nat) (k : Nat → Option β) : x_kN n k = k n := by cases n <;> rfl
noncomputable def x_idx {β : Type} (i : Int32) (n : Nat) (f : Nat → Option β) : Option β := cond (Nat.ble n 2147483647 && Nat.blt i.toBitVec.toNat n) (x_kN i.toBitVec.toNat f) none
/-! instructions -/
noncomputable def i_push (v : xV) (nx : Nat) : xI := fun _ (e, cl, sl, h, L, S) => some [.inr (nx, e, cl, sl, h, L, v :: S)]
noncomputable def i_jump (nx : Nat) : xI := fun _ st => some [.inr (nx, st)]
noncomputable def x_frc (v : xV) (f : xV → Option (List xO)) : Option (List xO) := Sum.rec (motive := fun _ => Option (List xO)) (fun w => f (.inl w)) (fun q => f (.inr q)) v
-- a load: k tells the kind that is wanted
noncomputable def i_load (ok : xV → Bool) (i nx : Nat) : xI := fun _ (e, cl, sl, h, L, S) => match x_get L i with
  | some v => x_frc (x_nm e v) (fun v => cond (ok v) (some [.inr (nx, e, cl, sl, h, L, v :: S)]) none)
  | none => none
noncomputable def i_store1 (ok : xV → Bool) (nL i nx : Nat) : xI := fun _ (e, cl, sl, h, L, S) => match S with
  | v :: S => cond (ok v && Nat.blt i nL) (x_lst nx e cl sl h ((i, v) :: L.filter (x_keep1 i)) S) none
  | [] => none
noncomputable def i_iinc (nL i : Nat) (z : Int32) (nx : Nat) : xI := fun _ (e, cl, sl, h, L, S) => match x_get L i with
  | some (.inl (.int x)) => cond (Nat.blt i nL) (x_k32 (x + z) (fun r => x_lst nx e cl sl h ((i, .inl (.int r)) :: L.filter (x_keep1 i)) S)) none
  | _ => none
-- shifts of longs: by an int
noncomputable def i_dup (nx : Nat) : xI := fun _ (e, cl, sl, h, L, S) => match S with
  | x :: S => cond (Nat.beq (x_cat x) 1) (some [.inr (nx, e, cl, sl, h, L, x :: x :: S)]) none
  | [] => none
-- comparing: 0 less, 1 more, 2 equal
noncomputable def x_lit (b : Nat) (x y : Int) : Bool := Nat.rec (motive := fun _ => Bool) (decide (x < y)) (fun j _ => Nat.rec (motive := fun _ => Bool) (decide (y < x)) (fun _ _ => decide (x = y)) j) b
noncomputable def x_min (a b : Int) : Int := cond (decide (a ≤ b)) a b
noncomputable def x_max (a b : Int) : Int := cond (decide (a ≤ b)) b a
noncomputable def x_yes (b : Nat) (q : Int × Int) (y : Int) : Int × Int := Nat.rec (motive := fun _ => Int × Int) (q.1, x_min q.2 (y - 1)) (fun j _ => Nat.rec (motive := fun _ => Int × Int) (x_max q.1 (y + 1), q.2) (fun _ _ => (x_max q.1 y, x_min q.2 y)) j) b
noncomputable def x_no1 (b : Nat) (q : Int × Int) (y : Int) : Int × Int := Nat.rec (motive := fun _ => Int × Int) (x_max q.1 y, q.2) (fun j _ => Nat.rec (motive := fun _ => Int × Int) (q.1, x_min q.2 y) (fun _ _ => (q.1, x_min q.2 (y - 1))) j) b
noncomputable def x_no2 (b : Nat) (q : Int × Int) (y : Int) : Int × Int := Nat.rec (motive := fun _ => Int × Int) (1, 0) (fun j _ => Nat.rec (motive := fun _ => Int × Int) (1, 0) (fun _ _ => (x_max q.1 (y + 1), q.2)) j) b
noncomputable def x_flip (b : Nat) : Nat := Nat.rec (motive := fun _ => Nat) 1 (fun j _ => Nat.rec (motive := fun _ => Nat) 0 (fun _ _ => 2) j) b
-- an input within bounds: its new bounds made outright, nothing where there are none
noncomputable def x_kZ {β : Type} (z : Int) (f : Int → Option β) : Option β := Int.rec (motive := fun _ => Option β) (fun n => x_kN n (fun n => f (Int.ofNat n))) (fun n => x_kN n (fun n => f (Int.negSucc n))) z
theorem x_kZ_eq {β : Type} (z : Int) (f : Int → Option β) : x_kZ z f = f z := by
  cases z with
  | ofNat n => exact x_kN_eq n (fun n => f (Int.ofNat n))
  | negSucc n => exact x_kN_eq n (fun n => f (Int.negSucc n))
noncomputable def x_put (e : xE) (k : Nat) (q : Int × Int) (o : xE → xO) (rest : List xO) : Option (List xO) := cond (decide (q.1 ≤ q.2)) (x_kZ q.1 (fun a => x_kZ q.2 (fun b => x_set e k (a, b) (fun e' => some (o e' :: rest))))) (some rest)
noncomputable def x_fork (b : Nat) (e : xE) (k : Nat) (y : Int) (oT oF : xE → xO) : Option (List xO) := match x_put e k (x_no1 b (x_env e k) y) oF [] with
  | some r => match x_put e k (x_no2 b (x_env e k) y) oF r with
    | some r => x_put e k (x_yes b (x_env e k) y) oT r
    | none => none
  | none => none
-- an input within narrow bounds: each number by itself
noncomputable def x_br (b : Nat) (e : xE) (x y : xV) (oT oF : xE → xO) : Option (List xO) := match x, y with
  | .inl (.int a), .inl (.int c) => cond (x_lit b a.toInt c.toInt) (some [oT e]) (some [oF e])
  | .inr (0, k), .inl (.int c) => x_fork b e k c.toInt oT oF
  | .inl (.int c), .inr (0, k) => x_fork (x_flip b) e k c.toInt oT oF
  | _, _ => none
noncomputable def i_icmp (b pT pF : Nat) : xI := fun _ (e, cl, sl, h, L, S) => match S with
  | y :: x :: S => x_br b e x y (fun e => .inr (pT, e, cl, sl, h, L, S)) (fun e => .inr (pF, e, cl, sl, h, L, S))
  | _ => none
-- switches on written numbers, or on inputs: cases (number, target), rising
noncomputable def x_find (d : Nat) (z : Int) (cs : List (Int × Nat)) : Nat := List.rec (motive := fun _ => Nat) d (fun q _ ih => cond (decide (z = q.1)) q.2 ih) cs
-- fields
noncomputable def i_getf (ci k nx : Nat) : xI := fun _ (e, cl, sl, h, L, S) => match S with
  | .inl (.ref r) :: S => match x_nth h r with
    | some (.inr (cj, fs)) => cond (Nat.beq ci cj) (match x_nth fs k with
      | some v => x_frc (x_nm e v) (fun v => some [.inr (nx, e, cl, sl, h, L, v :: S)])
      | none => none) none
    | _ => none
  | _ => none
noncomputable def x_fit (ty : FieldType) (v : xV) : Bool := match v with
  | .inl (.ref _) => fits ty (.ref 0)
  | .inl w => fits ty w && decide (narrow ty w = w)
  | .inr (0, _) => decide (ty = .int)
  | .inr (1, _) => decide (ty = .long)
  | .inr (2, _) => decide (ty = .int)
  | .inr (3, _) => decide (ty = .long)
  | .inr _ => false
noncomputable def i_putf (ci k : Nat) (ty : FieldType) (nx : Nat) : xI := fun _ (e, cl, sl, h, L, S) => match S with
  | v :: .inl (.ref r) :: S => cond (x_fit ty v) (match x_nth h r with
    | some (.inr (cj, fs)) => cond (Nat.beq ci cj) (x_set fs k v (fun fs => x_set h r (.inr (ci, fs)) (fun h => some [.inr (nx, e, cl, sl, h, L, S)]))) none
    | _ => none) none
  | _ => none
-- arrays
noncomputable def x_sto (ty : FieldType) (v : xV) (f : xV → Option (List xO)) : Option (List xO) := match v with
  | .inl (.int a) => cond (fits ty (.int a) && decide (narrow ty (.int a) = .int a)) (f (.inl (.int a))) none
  | .inl (.long a) => cond (decide (ty = .long)) (f (.inl (.long a))) none
  | .inr (0, k) => cond (decide (ty = .int)) (f (.inr (0, k))) (cond (decide (ty = .byte)) (f (.inr (2, 0))) none)
  | .inr (2, k) => cond (decide (ty = .int)) (f (.inr (2, k))) (cond (decide (ty = .byte)) (f (.inr (2, 0))) none)
  | .inr (1, k) => cond (decide (ty = .long)) (f (.inr (1, k))) none
  | .inr (3, k) => cond (decide (ty = .long)) (f (.inr (3, k))) none
  | _ => none
-- the static tables
def xTab (t : Nat) : List Int32 := match t with
  | 1 => [0, -1, 1, -2, 2]
  | 2 => [2, 1, 4, 5, 3]
  | _ => []
-- iaload also of a static table
noncomputable def i_ast (ty : FieldType) (nx : Nat) : xI := fun _ (e, cl, sl, h, L, S) => match S with
  | v :: .inl (.int i) :: .inl (.ref r) :: S => match x_nth h r with
    | some (.inl (tz, n, d, o)) => cond (decide (tz = ty)) (x_sto ty v (fun v => x_idx i n (fun j => x_spine (x_upd o j v d) (fun o => x_set h r (.inl (ty, n, d, o)) (fun h => some [.inr (nx, e, cl, sl, h, L, S)]))))) none
    | _ => none
  | _ => none
noncomputable def x_cls (h : xH) (ci : Nat) (v : xV) : Bool := match v with
  | .inl (.ref r) => match x_nth h r with
    | some (.inr (cj, _)) => Nat.beq ci cj
    | _ => false
  | _ => false
noncomputable def i_aast (ci : Nat) (C : String) (nx : Nat) : xI := fun _ (e, cl, sl, h, L, S) => match S with
  | .inl (.ref q) :: .inl (.int i) :: .inl (.ref r) :: S => match x_nth h r with
    | some (.inl (tz, n, d, o)) => cond (decide (tz = .object C) && x_cls h ci (.inl (.ref q))) (x_idx i n (fun j => x_spine (x_upd o j (.inl (.ref q)) d) (fun o => x_set h r (.inl (.object C, n, d, o)) (fun h => some [.inr (nx, e, cl, sl, h, L, S)])))) none
    | _ => none
  | _ => none
noncomputable def i_alen (nx : Nat) : xI := fun _ (e, cl, sl, h, L, S) => match S with
  | .inl (.ref r) :: S => match x_nth h r with
    | some (.inl (_, n, _, _)) => x_k32 (Int32.ofNat n) (fun r => some [.inr (nx, e, cl, sl, h, L, .inl (.int r) :: S)])
    | _ => none
  | _ => none
-- the script: L inputs
-- the first input's low bits: the sixth
-- making: an array of N (written in the code just ahead), an object of N fields
noncomputable def i_newa (ty : FieldType) (d : xV) (nx : Nat) : xI := fun _ (e, cl, sl, h, L, S) => match S with
  | .inl (.int i) :: S => x_idx i 1000000 (fun N => cond (Nat.ble 1 cl && Nat.ble N sl) (x_kN (cl - 1) (fun cl => x_kN (sl - N) (fun sl => x_push h (.inl (ty, N, d, [])) (fun h r => x_kN r (fun r => some [.inr (nx, e, cl, sl, h, L, .inl (.ref r) :: S)]))))) none)
  | _ => none
noncomputable def i_new (ci N : Nat) (fs : List xV) (nx : Nat) : xI := fun _ (e, cl, sl, h, L, S) => cond (Nat.ble 1 cl && Nat.ble N sl) (x_kN (cl - 1) (fun cl => x_kN (sl - N) (fun sl => x_push h (.inr (ci, fs)) (fun h r => x_kN r (fun r => some [.inr (nx, e, cl, sl, h, L, .inl (.ref r) :: S)]))))) none
noncomputable def i_objInit (nx : Nat) : xI := fun _ (e, cl, sl, h, L, S) => match S with
  | .inl (.ref _) :: S => cond (Nat.ble (x_sum S) 8) (some [.inr (nx, e, cl, sl, h, L, S)]) none
  | _ => none
-- System.arraycopy, of two arrays of one plain type
-- calls: n arguments (the receiver with them, where there is one)
noncomputable def x_take (n : Nat) (S : List xV) (f : List xV → List xV → Option (List xO)) (acc : List xV) : Option (List xO) := Nat.rec (motive := fun _ => List xV → List xV → Option (List xO)) (fun S acc => f acc S) (fun _ ih S acc => List.rec (motive := fun _ => Option (List xO)) none (fun v S _ => ih S (v :: acc)) S) n S acc
noncomputable def x_back (nx cl sl : Nat) (L : xL) (S : List xV) (r : xR) : xO := .inr (nx, r.1, cl, sl, r.2.1, L, Option.rec (motive := fun _ => List xV) S (fun v => v :: S) r.2.2)
noncomputable def x_map {α β : Type} (f : α → β) (l : List α) : List β := List.rec (motive := fun _ => List β) [] (fun a _ ih => f a :: ih) l
-- virt: some of the receiver's class
noncomputable def i_call (virt : Option Nat) (mi n mc ms nx : Nat) : xI := fun cf (e, cl, sl, h, L, S) => x_take n S (fun as S => cond (Nat.ble (x_sum S) 8 && (Nat.ble mc cl && (Nat.ble ms sl && (match virt with
  | some ci => (match as with
    | v :: _ => x_cls h ci v
    | [] => false)
  | none => true)))) (match cf mi e h as with
  | some rs => x_kN (cl - mc) (fun cl => x_kN (sl - ms) (fun sl => some (x_map (x_back nx cl sl L S) rs)))
  | none => none) none) []
noncomputable def i_ret0 : xI := fun _ (e, _, _, h, _, S) => match S with
  | [] => some [.inl (e, h, none)]
  | _ => none
/-! the run -/
abbrev xT : Type := List (List (Option xI))
noncomputable def x_at (t : xT) (pc : Nat) : Option xI := match x_nth t (Nat.div pc 16) with
  | some l => match x_nth l (Nat.mod pc 16) with
    | some r => r
    | none => none
  | none => none
noncomputable def x_app {α : Type} (a b : Option (List α)) : Option (List α) := match a with
  | some a => match b with
    | some b => some (a ++ b)
    | none => none
  | none => none
noncomputable def x_gath (f : xO → Option (List xR)) (os : List xO) : Option (List xR) := List.rec (motive := fun _ => Option (List xR)) (some []) (fun o os ih => List.rec (motive := fun _ => Option (List xR)) (f o) (fun _ _ _ => x_app (f o) ih) os) os
noncomputable def x_cont (go : Nat → xS → Option (List xR)) (o : xO) : Option (List xR) := Sum.rec (motive := fun _ => Option (List xR)) (fun r => some [r]) (fun q => go q.1 q.2) o
noncomputable def x_args (i : Nat) (vs : List xV) : xL := List.rec (motive := fun _ => Nat → xL) (fun _ => []) (fun v _ ih i => (i, v) :: ih (cond (Nat.beq (x_cat v) 2) (i + 2) (i + 1))) vs i
noncomputable def x_in (go : xT → Nat → xS → Option (List xR)) (M : List (xY × xT)) : xF := fun mi e h as => match x_nth M mi with
  | some (y, t) => cond (Nat.ble (x_sum as) y.2.2.1) (go t 0 (e, y.2.2.2.2.cells, y.2.2.2.2.slots, h, x_args 0 as, [])) none
  | none => none
noncomputable def x_step (M : List (xY × xT)) (ih : xT → Nat → xS → Option (List xR)) (t : xT) (pc : Nat) (st : xS) : Option (List xR) := match x_at t pc with
  | some ri => match ri (x_in ih M) st with
    | some os => x_gath (x_cont (ih t)) os
    | none => none
  | none => none
noncomputable def x_run (M : List (xY × xT)) (n : Nat) : xT → Nat → xS → Option (List xR) := Nat.rec (motive := fun _ => xT → Nat → xS → Option (List xR)) (fun _ _ _ => none) (fun _ ih t pc st => x_step M ih t pc st) n
