/-! THE CONCRETE MACHINE (z): what the calls do, as arithmetic on whole numbers over a heap of one shape -/
-- a value: (0, z) an int; (1, z) a long; (2, k) the k-th cell; (3, j) the j-th array from outside; (4, _) null
abbrev zV : Type := Nat × Int
abbrev zH : Type := Nat → Nat → zV
abbrev zL : Type := Nat → Option zV
abbrev zS : Type := zH × zL × List zV
abbrev zR : Type := zH × Option zV
-- what a step does: returns; goes on; or calls (the method, its arguments, then where it goes on, with what)
abbrev zO : Type := zR ⊕ ((Nat × zS) ⊕ (Nat × List zV × Nat × zS))
-- an instruction: kind, where it goes on, two numbers, a whole number, a switch's cases
abbrev zX : Type := Nat × Nat × Nat × Nat × Int × List (Int × Nat)
abbrev zC : Type := (FieldType × Nat) ⊕ (Nat × Nat)
-- the script: its length, its numbers
abbrev zD : Type := Nat × (Nat → Int)
def zShape : List zC := [
  .inr (11, 20), .inl ((.object "BreadMap$Tray"), 4), .inr (9, 3), .inl (.long, 60), .inr (9, 3), .inl (.long, 60), .inr (9, 3), .inl (.long, 60),
  .inr (9, 3), .inl (.long, 60), .inr (8, 11), .inl (.byte, 900), .inl (.int, 901), .inl (.int, 901), .inl (.int, 901), .inl (.int, 901),
  .inr (3, 3), .inr (6, 5), .inr (5, 6), .inl (.int, 60), .inl (.int, 60), .inl (.int, 60), .inl (.int, 60), .inl (.int, 3),
  .inr (2, 15), .inl (.int, 48), .inl (.int, 48), .inl (.int, 144), .inl (.long, 6), .inl (.int, 6), .inl (.int, 6), .inl (.int, 6),
  .inl (.int, 6), .inl (.int, 6), .inr (5, 6), .inl (.int, 60), .inl (.int, 60), .inl (.int, 60), .inl (.int, 60), .inr (2, 15),
  .inl (.int, 48), .inl (.int, 48), .inl (.int, 144), .inl (.long, 6), .inl (.int, 6), .inl (.int, 6), .inl (.int, 6), .inl (.int, 6),
  .inl (.int, 6), .inr (5, 6), .inl (.int, 60), .inl (.int, 60), .inl (.int, 60), .inl (.int, 60), .inl ((.object "BreadMap$Land"), 3), .inr (2, 15),
  .inl (.int, 48), .inl (.int, 48), .inl (.int, 144), .inl (.long, 6), .inl (.int, 6), .inl (.int, 6), .inl (.int, 6), .inl (.int, 6),
  .inl (.int, 6), .inr (5, 6), .inl (.int, 60), .inl (.int, 60), .inl (.int, 60), .inl (.int, 60), .inr (2, 15), .inl (.int, 48),
  .inl (.int, 48), .inl (.int, 144), .inl (.long, 6), .inl (.int, 6), .inl (.int, 6), .inl (.int, 6), .inl (.int, 6), .inl (.int, 6),
  .inr (5, 6), .inl (.int, 60), .inl (.int, 60), .inl (.int, 60), .inl (.int, 60), .inr (2, 15), .inl (.int, 48), .inl (.int, 48),
  .inl (.int, 144), .inl (.long, 6), .inl (.int, 6), .inl (.int, 6), .inl (.int, 6), .inl (.int, 6), .inl (.int, 6), .inr (5, 6),
  .inl (.int, 60), .inl (.int, 60), .inl (.int, 60), .inl (.int, 60), .inr (10, 9), .inl (.int, 48), .inl (.int, 48), .inl (.int, 64),
  .inl (.int, 48), .inr (1, 11), .inl (.int, 6), .inl (.long, 6), .inl (.int, 288), .inl (.long, 288), .inr (0, 9), .inl (.int, 48),
  .inl (.int, 96), .inl (.int, 96), .inr (4, 2), .inl (.long, 48), .inl (.long, 48), .inr (7, 12), .inl (.int, 60), .inl (.int, 48),
  .inl (.int, 4), .inr (12, 48), .inl (.int, 4), .inl (.int, 4), .inl (.long, 240), .inl (.byte, 900), .inl (.int, 2750), .inl (.int, 275),
  .inl (.long, 30), .inl (.boolean, 48), .inl (.int, 48), .inl (.int, 49), .inl (.int, 49), .inl (.int, 4), .inl (.long, 48), .inl (.long, 48),
  .inl (.int, 4)]
def zTx (j : Nat) : List Int := match j with
  | 1 => [0, -1, 1, -2, 2]
  | 2 => [2, 1, 4, 5, 3]
  | 3 => [119, 105, 100, 101, 32, 114, 111, 119, 32, 114, 105, 115, 101, 32, 98, 121, 32, 99, 111, 112, 105, 101, 115, 32, 99, 111, 109, 112, 97, 110, 121, 32, 97, 116, 32, 116, 111, 32, 98, 105, 116, 101, 32, 109, 111, 117, 108, 100, 32, 104, 111, 110, 101, 121, 32, 115, 116, 101, 97, 109, 32, 109, 111, 117, 115, 101, 32, 109, 97, 114, 99, 104, 32, 104, 111, 109, 101, 32, 119, 104, 101, 110, 32, 101, 97, 116, 101, 110, 32, 97, 114, 114, 105, 118, 101, 115, 32, 99, 114, 117, 109, 98, 115, 32, 108, 111, 111, 112, 32, 101, 110, 100, 32, 115, 116, 111, 112, 32]
  | 4 => [112, 114, 104, 119, 102]
  | _ => []
def zlen (D : zD) (j : Nat) : Nat := match j with
  | 0 => D.1
  | j => (zTx j).length
def zat (D : zD) (j i : Nat) : Int := match j with
  | 0 => D.2 i
  | j => (zTx j).getD i 0
def zkind (v : zV) : Nat := if v.1 = 3 then 2 else v.1
def zcat (v : zV) : Nat := if v.1 = 1 then 2 else 1
def zsum : List zV → Nat
  | [] => 0
  | v :: t => zcat v + zsum t
def zput1 (L : zL) (i : Nat) (v : zV) : zL := fun k => if k = i then some v else match L k with
  | some w => if k + 1 = i ∧ zcat w = 2 then none else some w
  | none => none
def zput2 (L : zL) (i : Nat) (v : zV) : zL := fun k => if k = i then some v else if k = i + 1 then none else match L k with
  | some w => if k + 1 = i ∧ zcat w = 2 then none else some w
  | none => none
-- types by number: 0 int, 1 long, 2 byte, 3 boolean, 4 references
def zcode (ty : FieldType) : Nat := match ty with
  | .int => 0
  | .long => 1
  | .byte => 2
  | .boolean => 3
  | .object _ => 4
  | _ => 9
def zfit (c : Nat) (v : zV) : Bool := match c with
  | 0 => decide (v.1 = 0)
  | 1 => decide (v.1 = 1)
  | 2 => decide (v.1 = 0) && (decide (-128 ≤ v.2) && decide (v.2 ≤ 127))
  | 3 => decide (v.1 = 0) && (decide (0 ≤ v.2) && decide (v.2 ≤ 1))
  | 4 => decide (zkind v = 2)
  | _ => false
def zset (h : zH) (k j : Nat) (v : zV) : zH := fun a b => if a = k ∧ b = j then v else h a b
def zf32 (b : Nat) : Int32 → Int32 → Int32 := match b with
  | 0 => fun x y => x + y
  | 1 => fun x y => x - y
  | 2 => fun x y => x * y
  | 3 => fun x y => x &&& y
  | 4 => fun x y => x ||| y
  | 5 => fun x y => x ^^^ y
  | 6 => fun x y => x <<< (y &&& 31)
  | 7 => fun x y => x >>> (y &&& 31)
  | _ => fun x y => (x.toUInt32 >>> (y.toUInt32 &&& Int32.toUInt32 31)).toInt32
def zd32 (b : Nat) : Int32 → Int32 → Int32 := match b with
  | 0 => fun x y => x / y
  | _ => fun x y => x - x / y * y
def zu32 (b : Nat) : Int32 → Int32 := match b with
  | 0 => fun x => -x
  | 1 => fun x => x.toInt8.toInt32
  | _ => fun x => x.toInt16.toInt32
def zf64 (b : Nat) : Int64 → Int64 → Int64 := match b with
  | 0 => fun x y => x + y
  | 1 => fun x y => x - y
  | 2 => fun x y => x * y
  | 3 => fun x y => x &&& y
  | 4 => fun x y => x ||| y
  | _ => fun x y => x ^^^ y
def zd64 (b : Nat) : Int64 → Int64 → Int64 := match b with
  | 0 => fun x y => x / y
  | _ => fun x y => x - x / y * y
def zs64 (b : Nat) : Int64 → Int32 → Int64 := match b with
  | 0 => fun x y => x <<< (y.toInt64 &&& 63)
  | _ => fun x y => (x.toUInt64 >>> (y.toInt64.toUInt64 &&& Int64.toUInt64 63)).toInt64
def zm32 (b : Nat) (x y : Int) : Int := match b with
  | 0 => if x < y then y else x
  | _ => if y < x then y else x
def zrel (b : Nat) (x y : Int) : Bool := match b with
  | 0 => decide (x < y)
  | 1 => decide (y < x)
  | _ => decide (x = y)
def znx (nx : Nat) (st : zS) : Option zO := some (.inr (.inl (nx, st)))
def z_push (nx t : Nat) (z : Int) (st : zS) : Option zO := znx nx (st.1, st.2.1, (t, z) :: st.2.2)
def z_load (nx i t : Nat) (st : zS) : Option zO := match st.2.1 i with
  | some v => if zkind v = t then znx nx (st.1, st.2.1, v :: st.2.2) else none
  | none => none
def z_store1 (nx i t : Nat) (st : zS) : Option zO := match st.2.2 with
  | v :: S => if zkind v = t ∧ t ≠ 1 then znx nx (st.1, zput1 st.2.1 i v, S) else none
  | _ => none
def z_store2 (nx i : Nat) (st : zS) : Option zO := match st.2.2 with
  | (1, z) :: S => znx nx (st.1, zput2 st.2.1 i (1, z), S)
  | _ => none
def z_iinc (nx i : Nat) (z : Int) (st : zS) : Option zO := match st.2.1 i with
  | some (0, x) => znx nx (st.1, zput1 st.2.1 i (0, (Int32.ofInt x + Int32.ofInt z).toInt), st.2.2)
  | _ => none
def z_un32 (nx b : Nat) (st : zS) : Option zO := match st.2.2 with
  | (0, x) :: S => znx nx (st.1, st.2.1, (0, (zu32 b (Int32.ofInt x)).toInt) :: S)
  | _ => none
def z_bin32 (nx b : Nat) (st : zS) : Option zO := match st.2.2 with
  | (0, y) :: (0, x) :: S => znx nx (st.1, st.2.1, (0, (zf32 b (Int32.ofInt x) (Int32.ofInt y)).toInt) :: S)
  | _ => none
def z_div32 (nx b : Nat) (st : zS) : Option zO := match st.2.2 with
  | (0, y) :: (0, x) :: S => if y = 0 then none else znx nx (st.1, st.2.1, (0, (zd32 b (Int32.ofInt x) (Int32.ofInt y)).toInt) :: S)
  | _ => none
def z_neg64 (nx : Nat) (st : zS) : Option zO := match st.2.2 with
  | (1, x) :: S => znx nx (st.1, st.2.1, (1, (-Int64.ofInt x).toInt) :: S)
  | _ => none
def z_bin64 (nx b : Nat) (st : zS) : Option zO := match st.2.2 with
  | (1, y) :: (1, x) :: S => znx nx (st.1, st.2.1, (1, (zf64 b (Int64.ofInt x) (Int64.ofInt y)).toInt) :: S)
  | _ => none
def z_div64 (nx b : Nat) (st : zS) : Option zO := match st.2.2 with
  | (1, y) :: (1, x) :: S => if y = 0 then none else znx nx (st.1, st.2.1, (1, (zd64 b (Int64.ofInt x) (Int64.ofInt y)).toInt) :: S)
  | _ => none
def z_sh64 (nx b : Nat) (st : zS) : Option zO := match st.2.2 with
  | (0, y) :: (1, x) :: S => znx nx (st.1, st.2.1, (1, (zs64 b (Int64.ofInt x) (Int32.ofInt y)).toInt) :: S)
  | _ => none
def z_i2l (nx : Nat) (st : zS) : Option zO := match st.2.2 with
  | (0, x) :: S => znx nx (st.1, st.2.1, (1, x) :: S)
  | _ => none
def z_l2i (nx : Nat) (st : zS) : Option zO := match st.2.2 with
  | (1, x) :: S => znx nx (st.1, st.2.1, (0, (Int64.ofInt x).toInt32.toInt) :: S)
  | _ => none
def z_lcmp (nx : Nat) (st : zS) : Option zO := match st.2.2 with
  | (1, y) :: (1, x) :: S => znx nx (st.1, st.2.1, (0, if y < x then 1 else if x = y then 0 else -1) :: S)
  | _ => none
-- b: 0 pop, 1 pop2 of a long, 2 dup, 3 dup2 of two, 4 dup2 of a long
def z_stk (nx b : Nat) (st : zS) : Option zO := match b, st.2.2 with
  | 0, v :: S => if zcat v = 1 then znx nx (st.1, st.2.1, S) else none
  | 1, v :: S => if zcat v = 2 then znx nx (st.1, st.2.1, S) else none
  | 2, v :: S => if zcat v = 1 then znx nx (st.1, st.2.1, v :: v :: S) else none
  | 3, v :: w :: S => if zcat v = 1 ∧ zcat w = 1 then znx nx (st.1, st.2.1, v :: w :: v :: w :: S) else none
  | 4, v :: S => if zcat v = 2 then znx nx (st.1, st.2.1, v :: v :: S) else none
  | _, _ => none
def z_if (nx a b : Nat) (st : zS) : Option zO := match st.2.2 with
  | (0, x) :: S => znx (if zrel b x 0 then a else nx) (st.1, st.2.1, S)
  | _ => none
def z_icmp (nx a b : Nat) (st : zS) : Option zO := match st.2.2 with
  | (0, y) :: (0, x) :: S => znx (if zrel b x y then a else nx) (st.1, st.2.1, S)
  | _ => none
def zfind (d : Nat) (z : Int) : List (Int × Nat) → Nat
  | [] => d
  | q :: cs => if z = q.1 then q.2 else zfind d z cs
def z_sw (nx : Nat) (cs : List (Int × Nat)) (st : zS) : Option zO := match st.2.2 with
  | (0, x) :: S => znx (zfind nx x cs) (st.1, st.2.1, S)
  | _ => none
def zisO (ci : Nat) (r : Int) : Bool := match zShape[r.toNat]? with
  | some (.inr q) => q.1 == ci
  | _ => false
def z_getf (nx ci k : Nat) (st : zS) : Option zO := match st.2.2 with
  | (2, r) :: S => if zisO ci r then znx nx (st.1, st.2.1, st.1 r.toNat k :: S) else none
  | _ => none
def z_putf (nx ci k : Nat) (c : Int) (st : zS) : Option zO := match st.2.2 with
  | v :: (2, r) :: S => if zisO ci r ∧ zfit c.toNat v then znx nx (zset st.1 r.toNat k v, st.2.1, S) else none
  | _ => none
def zarr (c : Nat) (r i : Int) : Bool := match zShape[r.toNat]? with
  | some (.inl q) => zcode q.1 == c && (decide (0 ≤ i) && decide (i < (q.2 : Int)))
  | _ => false
def z_ald (D : zD) (nx c : Nat) (st : zS) : Option zO := match st.2.2 with
  | (0, i) :: (2, r) :: S => if zarr c r i then znx nx (st.1, st.2.1, st.1 r.toNat i.toNat :: S) else none
  | (0, i) :: (3, j) :: S => if c = 0 ∧ 0 ≤ j ∧ j < 3 ∧ 0 ≤ i ∧ i < (zlen D j.toNat : Int) then znx nx (st.1, st.2.1, (0, zat D j.toNat i.toNat) :: S) else none
  | _ => none
def z_ast (nx c : Nat) (st : zS) : Option zO := match st.2.2 with
  | v :: (0, i) :: (2, r) :: S => if zarr c r i ∧ zfit c v ∧ c < 4 then znx nx (zset st.1 r.toNat i.toNat v, st.2.1, S) else none
  | _ => none
def z_alen (D : zD) (nx : Nat) (st : zS) : Option zO := match st.2.2 with
  | (2, r) :: S => match zShape[r.toNat]? with
    | some (.inl q) => znx nx (st.1, st.2.1, (0, (q.2 : Int)) :: S)
    | _ => none
  | (3, j) :: S => if 0 ≤ j ∧ j < 3 then znx nx (st.1, st.2.1, (0, (zlen D j.toNat : Int)) :: S) else none
  | _ => none
def z_slen (D : zD) (nx : Nat) (st : zS) : Option zO := match st.2.2 with
  | (3, j) :: S => if (j = 3 ∨ j = 4) ∧ zsum S ≤ 8 then znx nx (st.1, st.2.1, (0, (zlen D j.toNat : Int)) :: S) else none
  | _ => none
def z_char (D : zD) (nx : Nat) (st : zS) : Option zO := match st.2.2 with
  | (0, i) :: (3, j) :: S => if (j = 3 ∨ j = 4) ∧ 0 ≤ i ∧ i < (zlen D j.toNat : Int) ∧ zsum S ≤ 8 then znx nx (st.1, st.2.1, (0, zat D j.toNat i.toNat) :: S) else none
  | _ => none
-- b: 0 max, 1 min of ints; 2 min of longs; 3 abs of a long
def z_math (nx b : Nat) (st : zS) : Option zO := match b, st.2.2 with
  | 0, (0, y) :: (0, x) :: S => if zsum S ≤ 8 then znx nx (st.1, st.2.1, (0, zm32 0 x y) :: S) else none
  | 1, (0, y) :: (0, x) :: S => if zsum S ≤ 8 then znx nx (st.1, st.2.1, (0, zm32 1 x y) :: S) else none
  | 2, (1, y) :: (1, x) :: S => if zsum S ≤ 8 then znx nx (st.1, st.2.1, (1, zm32 1 x y) :: S) else none
  | 3, (1, x) :: S => if zsum S ≤ 8 then znx nx (st.1, st.2.1, (1, if 0 < x then x else (-Int64.ofInt x).toInt) :: S) else none
  | _, _ => none
def zcopy (h : zH) (r0 sp r1 dp n : Nat) : zH := fun a b => if a = r1 ∧ dp ≤ b ∧ b < dp + n then h r0 (sp + (b - dp)) else h a b
def zroom (c : Nat) (r i n : Int) : Bool := match zShape[r.toNat]? with
  | some (.inl q) => zcode q.1 == c && (decide (0 ≤ i) && (decide (0 ≤ n) && decide (i + n ≤ (q.2 : Int))))
  | _ => false
def z_copy (nx c : Nat) (st : zS) : Option zO := match st.2.2 with
  | (0, n) :: (0, dp) :: (2, r1) :: (0, sp) :: (2, r0) :: S => if zroom c r0 sp n ∧ zroom c r1 dp n ∧ zsum S ≤ 8 ∧ c < 2 then znx nx (zcopy st.1 r0.toNat sp.toNat r1.toNat dp.toNat n.toNat, st.2.1, S) else none
  | _ => none
def ztake : Nat → List zV → List zV → Option (List zV × List zV)
  | 0, S, acc => some (acc, S)
  | n + 1, v :: S, acc => ztake n S (v :: acc)
  | _ + 1, [], _ => none
-- c: the receiver's class, or less than 0; w: the callee's locals
def z_call (nx mi n : Nat) (c : Int) (w : Nat) (st : zS) : Option zO := match ztake n st.2.2 [] with
  | some (as, S) => if zsum S ≤ 8 ∧ zsum as ≤ w ∧ (0 ≤ c → (as.head?.any fun v => v.1 == 2 && zisO c.toNat v.2) = true) then some (.inr (.inr (mi, as, nx, (st.1, st.2.1, S)))) else none
  | none => none
-- b: 0 nothing, 1 an int (c its type), 2 a long
def z_ret (b c : Nat) (st : zS) : Option zO := match b, st.2.2 with
  | 0, [] => some (.inl (st.1, none))
  | 1, [v] => if zfit c v ∧ v.1 = 0 then some (.inl (st.1, some v)) else none
  | 2, [v] => if v.1 = 1 then some (.inl (st.1, some v)) else none
  | _, _ => none
def zi (D : zD) (i : zX) (st : zS) : Option zO := match i with
  | (0, nx, a, _, z, _) => z_push nx a z st
  | (1, nx, _, _, _, _) => znx nx st
  | (2, nx, a, b, _, _) => z_load nx a b st
  | (3, nx, a, b, _, _) => z_store1 nx a b st
  | (4, nx, a, _, _, _) => z_store2 nx a st
  | (5, nx, a, _, z, _) => z_iinc nx a z st
  | (6, nx, _, b, _, _) => z_un32 nx b st
  | (7, nx, _, b, _, _) => z_bin32 nx b st
  | (8, nx, _, b, _, _) => z_div32 nx b st
  | (9, nx, _, _, _, _) => z_neg64 nx st
  | (10, nx, _, b, _, _) => z_bin64 nx b st
  | (11, nx, _, b, _, _) => z_div64 nx b st
  | (12, nx, _, b, _, _) => z_sh64 nx b st
  | (13, nx, _, _, _, _) => z_i2l nx st
  | (14, nx, _, _, _, _) => z_l2i nx st
  | (15, nx, _, b, _, _) => z_stk nx b st
  | (16, nx, a, b, _, _) => z_if nx a b st
  | (17, nx, a, b, _, _) => z_icmp nx a b st
  | (18, nx, _, _, _, _) => z_lcmp nx st
  | (19, nx, _, _, _, cs) => z_sw nx cs st
  | (20, nx, a, b, _, _) => z_getf nx a b st
  | (21, nx, a, b, z, _) => z_putf nx a b z st
  | (22, nx, a, _, _, _) => z_ald D nx a st
  | (23, nx, a, _, _, _) => z_ast nx a st
  | (24, nx, _, _, _, _) => z_alen D nx st
  | (25, nx, _, _, _, _) => z_slen D nx st
  | (26, nx, _, _, _, _) => z_char D nx st
  | (27, nx, _, b, _, _) => z_math nx b st
  | (28, nx, a, _, _, _) => z_copy nx a st
  | (29, nx, a, b, z, cs) => z_call nx a b z (cs.head?.elim 0 (fun q => q.2)) st
  | (30, _, a, b, _, _) => z_ret b a st
  | _ => none
/-! runs: the least relation that the steps close; d: how deep calls may still go -/
abbrev zT : Type := Nat → Nat → Option zX
def zargs (i : Nat) : List zV → zL
  | [] => fun _ => none
  | v :: vs => fun k => if k = i then some v else zargs (if zcat v = 2 then i + 2 else i + 1) vs k
def zpush (v : Option zV) (S : List zV) : List zV := match v with
  | none => S
  | some v => v :: S
def zF (D : zD) (T : zT) (R : Nat → Nat → Nat → zS → zR → Prop) (d mi pc : Nat) (st : zS) (r : zR) : Prop :=
  ∃ i, T mi pc = some i ∧ match zi D i st with
    | none => False
    | some (.inl q) => r = q
    | some (.inr (.inl q)) => R d mi q.1 q.2 r
    | some (.inr (.inr q)) => ∃ d' r1, d = d' + 1 ∧ R d' q.1 0 (q.2.2.2.1, zargs 0 q.2.1, []) r1 ∧ R d mi q.2.2.1 (r1.1, q.2.2.2.2.1, zpush r1.2 q.2.2.2.2.2) r
def zRun (D : zD) (T : zT) (d mi pc : Nat) (st : zS) (r : zR) : Prop := ∀ R : Nat → Nat → Nat → zS → zR → Prop, (∀ d mi pc st r, zF D T R d mi pc st r → R d mi pc st r) → R d mi pc st r
theorem zF.mono {D : zD} {T : zT} {R R' : Nat → Nat → Nat → zS → zR → Prop} (h : ∀ d mi pc st r, R d mi pc st r → R' d mi pc st r) {d mi pc : Nat} {st : zS} {r : zR} (hF : zF D T R d mi pc st r) : zF D T R' d mi pc st r := by
  obtain ⟨i, hi, hF⟩ := hF
  refine ⟨i, hi, ?_⟩
  cases hz : zi D i st with
  | none => rw [hz] at hF; exact hF
  | some o =>
    rw [hz] at hF
    match o, hF with
    | .inl q, hF => exact hF
    | .inr (.inl q), hF => exact h _ _ _ _ _ hF
    | .inr (.inr q), ⟨d', r1, h1, h2, h3⟩ => exact ⟨d', r1, h1, h _ _ _ _ _ h2, h _ _ _ _ _ h3⟩
theorem zRun.intro {D : zD} {T : zT} {d mi pc : Nat} {st : zS} {r : zR} (h : zF D T (zRun D T) d mi pc st r) : zRun D T d mi pc st r := by
  intro R hR
  exact hR _ _ _ _ _ (h.mono fun d mi pc st r hq => hq R hR)
theorem zRun.step {D : zD} {T : zT} {d mi pc : Nat} {st : zS} {r : zR} {i : zX} {pc' : Nat} {st' : zS} (hi : T mi pc = some i) (hz : zi D i st = some (.inr (.inl (pc', st')))) (h : zRun D T d mi pc' st' r) : zRun D T d mi pc st r := zRun.intro ⟨i, hi, by rw [hz]; exact h⟩
theorem zRun.ret {D : zD} {T : zT} {d mi pc : Nat} {st : zS} {r : zR} {i : zX} (hi : T mi pc = some i) (hz : zi D i st = some (.inl r)) : zRun D T d mi pc st r := zRun.intro ⟨i, hi, by rw [hz]⟩
theorem zRun.call {D : zD} {T : zT} {d mi pc : Nat} {st : zS} {r r1 : zR} {i : zX} {mj nx : Nat} {as : List zV} {h : zH} {L : zL} {S : List zV} (hi : T mi pc = some i) (hz : zi D i st = some (.inr (.inr (mj, as, nx, (h, L, S))))) (h1 : zRun D T d mj 0 (h, zargs 0 as, []) r1) (h2 : zRun D T (d + 1) mi nx (r1.1, L, zpush r1.2 S) r) : zRun D T (d + 1) mi pc st r := zRun.intro ⟨i, hi, by rw [hz]; exact ⟨d, r1, rfl, h1, h2⟩⟩
theorem zRun.deeper {D : zD} {T : zT} {d mi pc : Nat} {st : zS} {r : zR} (h : zRun D T d mi pc st r) : ∀ d', d ≤ d' → zRun D T d' mi pc st r := by
  refine h (fun d mi pc st r => ∀ d', d ≤ d' → zRun D T d' mi pc st r) ?_
  intro d mi pc st r ⟨i, hi, hF⟩ d' hd
  refine zRun.intro ⟨i, hi, ?_⟩
  cases hz : zi D i st with
  | none => rw [hz] at hF; exact hF
  | some o =>
    rw [hz] at hF
    match o, hF with
    | .inl q, hF => exact hF
    | .inr (.inl q), hF => exact hF _ hd
    | .inr (.inr q), ⟨e, r1, h1, h2, h3⟩ =>
      obtain ⟨f, rfl⟩ : ∃ f, d' = f + 1 := ⟨d' - 1, by omega⟩
      exact ⟨f, r1, rfl, h2 _ (by omega), h3 _ hd⟩
