/-! IN HOW MANY ORDERS, PURE -/
def bn : Nat → Nat → Nat
  | _, 0 => 1
  | 0, _ + 1 => 0
  | n + 1, k + 1 => bn n k + bn n (k + 1)
theorem bn_0 (n : Nat) : bn n 0 = 1 := by
  cases n <;> rfl
theorem bn_s (n k : Nat) : bn (n + 1) (k + 1) = bn n k + bn n (k + 1) := rfl
theorem bn_1 : ∀ n, bn n 1 = n
  | 0 => rfl
  | n + 1 => by
    rw [bn_s, bn_0, bn_1 n]
    omega
theorem bn_abs : ∀ n k, (n + 1) * bn n k = bn (n + 1) (k + 1) * (k + 1)
  | 0, 0 => rfl
  | 0, k + 1 => by
    have e1 : bn 0 (k + 1) = 0 := rfl
    have e2 : bn (0 + 1) (k + 1 + 1) = 0 := rfl
    rw [e1, e2, Nat.zero_mul, Nat.mul_zero]
  | n + 1, 0 => by
    rw [bn_0, bn_1, Nat.mul_one]
  | n + 1, k + 1 => by
    have i1 := bn_abs n k
    have i2 := bn_abs n (k + 1)
    have e := bn_s n k
    have f := bn_s (n + 1) (k + 1)
    rw [f, Nat.add_mul (bn (n + 1) (k + 1)) (bn (n + 1) (k + 1 + 1)) (k + 1 + 1), ← i2]
    rw [e] at i1 ⊢
    have g : (n + 1 + 1) * (bn n k + bn n (k + 1)) = (n + 1) * bn n k + (n + 1) * bn n (k + 1) + (bn n k + bn n (k + 1)) := by rw [Nat.succ_mul, Nat.mul_add]
    have g2 : (bn n k + bn n (k + 1)) * (k + 1 + 1) = (bn n k + bn n (k + 1)) * (k + 1) + (bn n k + bn n (k + 1)) := Nat.mul_succ _ _
    rw [g, g2, i1]
    omega
def fc : Nat → Nat
  | 0 => 1
  | n + 1 => (n + 1) * fc n
theorem fc_p : ∀ n, 0 < fc n
  | 0 => Nat.one_pos
  | n + 1 => Nat.mul_pos (Nat.succ_pos n) (fc_p n)
theorem bn_fc (b : Nat) : ∀ a, bn (a + b) a * fc a * fc b = fc (a + b)
  | 0 => by
    rw [bn_0, Nat.zero_add]
    show 1 * 1 * fc b = fc b
    rw [Nat.one_mul]
  | a + 1 => by
    have ih := bn_fc b a
    have e := bn_abs (a + b) a
    rw [show a + 1 + b = a + b + 1 from by omega]
    show bn (a + b + 1) (a + 1) * ((a + 1) * fc a) * fc b = (a + b + 1) * fc (a + b)
    rw [← Nat.mul_assoc, ← e, ← ih, Nat.mul_assoc, Nat.mul_assoc, Nat.mul_assoc]
theorem bn_sym (a b : Nat) : bn (a + b) a = bn (a + b) b := by
  have h1 := bn_fc b a
  have h2 := bn_fc a b
  rw [Nat.add_comm b a] at h2
  have h3 : bn (a + b) a * (fc a * fc b) = bn (a + b) b * (fc a * fc b) := by
    rw [← Nat.mul_assoc, h1, ← h2, Nat.mul_assoc, Nat.mul_comm (fc b) (fc a)]
  exact Nat.eq_of_mul_eq_mul_right (Nat.mul_pos (fc_p a) (fc_p b)) h3
theorem bn_p : ∀ a b, 0 < bn (a + b) a
  | 0, b => by rw [bn_0]; exact Nat.one_pos
  | a + 1, b => by
    rw [show a + 1 + b = a + b + 1 from by omega, bn_s]
    have := bn_p a b
    omega
/-- one place more: never less, and the same by a quotient -/
theorem bn_up (s i : Nat) : bn (s + i) i ≤ bn (s + (i + 1)) (i + 1) := by
  rw [← Nat.add_assoc, bn_s]
  exact Nat.le_add_right _ _
theorem bn_div (s i : Nat) : bn (s + i) i * (s + (i + 1)) / (i + 1) = bn (s + (i + 1)) (i + 1) := by
  have e := bn_abs (s + i) i
  rw [Nat.mul_comm, ← Nat.add_assoc, e, Nat.mul_div_cancel _ (Nat.succ_pos i)]
theorem bn_divB (B s i : Nat) : B * bn (s + i) i * (s + (i + 1)) / (i + 1) = B * bn (s + (i + 1)) (i + 1) := by
  have e := bn_abs (s + i) i
  rw [Nat.mul_assoc, Nat.mul_comm (bn (s + i) i), ← Nat.add_assoc, e, ← Nat.mul_assoc, Nat.mul_div_cancel _ (Nat.succ_pos i)]
def fcs : List Nat → Nat
  | [] => 1
  | n :: l => fc n * fcs l
def sms : List Nat → Nat
  | [] => 0
  | n :: l => n + sms l
def cPr : Nat → List Nat → Nat
  | _, [] => 1
  | s, n :: l => bn (s + n) n * cPr (s + n) l
def rPr : List Nat → Nat
  | [] => 1
  | n :: l => bn (n + sms l) n * rPr l
theorem fcs_p : ∀ l, 0 < fcs l
  | [] => Nat.one_pos
  | n :: l => Nat.mul_pos (fc_p n) (fcs_p l)
theorem cPr_fc : ∀ (l : List Nat) (s : Nat), cPr s l * fc s * fcs l = fc (s + sms l)
  | [], s => by
    show 1 * fc s * 1 = fc (s + 0)
    rw [Nat.one_mul, Nat.mul_one, Nat.add_zero]
  | n :: l, s => by
    have ih := cPr_fc l (s + n)
    have e := bn_fc s n
    show bn (s + n) n * cPr (s + n) l * fc s * (fc n * fcs l) = fc (s + (n + sms l))
    rw [← Nat.add_assoc, ← ih, Nat.add_comm s n, ← e]
    generalize bn (n + s) n = x
    generalize cPr (n + s) l = y
    generalize fc s = z
    generalize fc n = u
    generalize fcs l = v
    rw [Nat.mul_comm x y, Nat.mul_assoc, Nat.mul_assoc, Nat.mul_assoc, Nat.mul_assoc, Nat.mul_assoc]
    congr 1
    congr 1
    rw [← Nat.mul_assoc, ← Nat.mul_assoc, Nat.mul_comm z u]
theorem rPr_fc : ∀ l : List Nat, rPr l * fcs l = fc (sms l)
  | [] => rfl
  | n :: l => by
    have ih := rPr_fc l
    have e := bn_fc (sms l) n
    show bn (n + sms l) n * rPr l * (fc n * fcs l) = fc (n + sms l)
    rw [← e, ← ih]
    generalize bn (n + sms l) n = x
    generalize rPr l = y
    generalize fc n = u
    generalize fcs l = v
    rw [Nat.mul_assoc, Nat.mul_assoc]
    congr 1
    rw [← Nat.mul_assoc, ← Nat.mul_assoc, Nat.mul_comm y u]
theorem cPr_rPr (l : List Nat) : cPr 0 l = rPr l := by
  have a := cPr_fc l 0
  have b := rPr_fc l
  rw [Nat.zero_add, ← b] at a
  have a : cPr 0 l * 1 * fcs l = rPr l * fcs l := a
  rw [Nat.mul_one] at a
  exact Nat.eq_of_mul_eq_mul_right (fcs_p l) a
theorem rPr_p : ∀ l, 0 < rPr l
  | [] => Nat.one_pos
  | n :: l => Nat.mul_pos (bn_p n (sms l)) (rPr_p l)
theorem cPr_p : ∀ (l : List Nat) (s : Nat), 0 < cPr s l
  | [], _ => Nat.one_pos
  | n :: l, s => Nat.mul_pos (by rw [Nat.add_comm]; exact bn_p n s) (cPr_p l (s + n))
/-- products, cut at M -/
theorem cut_mul {M A B : Nat} (hM : 1 ≤ M) (hA : 1 ≤ A) (hB : 1 ≤ B) : (if M / min M B < min M A then M else min M A * min M B) = min M (A * B) := by
  have hb : 1 ≤ min M B := by omega
  have ha : 1 ≤ min M A := by omega
  have le : min M A * min M B ≤ A * B := Nat.mul_le_mul (by omega) (by omega)
  by_cases c : M / min M B < min M A
  · rw [if_pos c]
    have h1 : M < min M A * min M B := (Nat.div_lt_iff_lt_mul (by omega)).mp c
    omega
  · rw [if_neg c]
    have h1 : min M A * min M B ≤ M := by
      have h2 : min M A ≤ M / min M B := by omega
      exact (Nat.le_div_iff_mul_le (by omega)).mp h2
    by_cases hA2 : A ≤ M
    · by_cases hB2 : B ≤ M
      · have e1 : min M A = A := by omega
        have e2 : min M B = B := by omega
        rw [e1, e2] at h1 ⊢
        omega
      · have e2 : min M B = M := by omega
        rw [e2] at h1 ⊢
        have a1 : min M A = 1 := by
          by_cases d : min M A = 1
          · exact d
          · have : 2 * M ≤ min M A * M := Nat.mul_le_mul_right M (by omega)
            omega
        have : 1 * B ≤ A * B := Nat.mul_le_mul_right B hA
        rw [a1]
        omega
    · have e1 : min M A = M := by omega
      rw [e1] at h1 ⊢
      have b1 : min M B = 1 := by
        by_cases d : min M B = 1
        · exact d
        · have : M * 2 ≤ M * min M B := Nat.mul_le_mul_left M (by omega)
          omega
      have : A * 1 ≤ A * B := Nat.mul_le_mul_left A hB
      rw [b1]
      omega
theorem bn_mono (s : Nat) {j m : Nat} (h : j ≤ m) : bn (s + j) j ≤ bn (s + m) m := by
  obtain ⟨d, rfl⟩ : ∃ d, m = j + d := ⟨m - j, by omega⟩
  clear h
  induction d with
  | zero => exact Nat.le_refl _
  | succ d ih => exact Nat.le_trans ih (by have := bn_up s (j + d); rw [← Nat.add_assoc] at this ⊢; exact this)
def mst : Nat := 999999999999
def Sm (f : Nat → Nat) : Nat → Nat
  | 0 => 0
  | i + 1 => Sm f i + f i
def Bp (f : Nat → Nat) : Nat → Nat
  | 0 => 1
  | i + 1 => Bp f i * bn (Sm f i + f i) (f i)
def Rp (f : Nat → Nat) (n : Nat) : Nat → Nat
  | 0 => 1
  | i + 1 => Rp f n i * bn (n - Sm f i) (f i)
theorem Bp_p (f : Nat → Nat) : ∀ i, 0 < Bp f i
  | 0 => Nat.one_pos
  | i + 1 => Nat.mul_pos (Bp_p f i) (by rw [Nat.add_comm]; exact bn_p (f i) (Sm f i))
theorem Bp_le (f : Nat → Nat) {i : Nat} : ∀ d, Bp f i ≤ Bp f (i + d)
  | 0 => Nat.le_refl _
  | d + 1 => by
    have ih := Bp_le f (i := i) d
    have p : 0 < bn (Sm f (i + d) + f (i + d)) (f (i + d)) := by rw [Nat.add_comm]; exact bn_p _ _
    have : Bp f (i + d) * 1 ≤ Bp f (i + d) * bn (Sm f (i + d) + f (i + d)) (f (i + d)) := Nat.mul_le_mul_left _ p
    show Bp f i ≤ Bp f (i + d) * bn (Sm f (i + d) + f (i + d)) (f (i + d))
    omega
theorem Sm_le (f : Nat → Nat) (h : ∀ i, i < 5 → f i ≤ 48) : ∀ i, i ≤ 5 → Sm f i ≤ 48 * i
  | 0, _ => Nat.le_refl 0
  | i + 1, hi => by
    have ih := Sm_le f h i (by omega)
    have := h i (by omega)
    show Sm f i + f i ≤ 48 * (i + 1)
    omega
theorem Sm_mono (f : Nat → Nat) {i : Nat} : ∀ d, Sm f i ≤ Sm f (i + d)
  | 0 => Nat.le_refl _
  | d + 1 => Nat.le_trans (Sm_mono f d) (Nat.le_add_right _ _)
theorem Bp_5 (f : Nat → Nat) : Bp f 5 = cPr 0 [f 0, f 1, f 2, f 3, f 4] := by
  show ((((1 * bn (0 + f 0) (f 0)) * bn (0 + f 0 + f 1) (f 1)) * bn (0 + f 0 + f 1 + f 2) (f 2)) * bn (0 + f 0 + f 1 + f 2 + f 3) (f 3)) * bn (0 + f 0 + f 1 + f 2 + f 3 + f 4) (f 4) = bn (0 + f 0) (f 0) * (bn (0 + f 0 + f 1) (f 1) * (bn (0 + f 0 + f 1 + f 2) (f 2) * (bn (0 + f 0 + f 1 + f 2 + f 3) (f 3) * (bn (0 + f 0 + f 1 + f 2 + f 3 + f 4) (f 4) * 1))))
  rw [Nat.one_mul, Nat.mul_one, Nat.mul_assoc, Nat.mul_assoc, Nat.mul_assoc]
theorem Rp_5 (f : Nat → Nat) : Rp f (Sm f 5) 5 = rPr [f 0, f 1, f 2, f 3, f 4] := by
  have e5 : Sm f 5 = 0 + f 0 + f 1 + f 2 + f 3 + f 4 := rfl
  have a0 : Sm f 5 - Sm f 0 = f 0 + sms [f 1, f 2, f 3, f 4] := by
    show Sm f 5 - 0 = f 0 + (f 1 + (f 2 + (f 3 + (f 4 + 0))))
    omega
  have a1 : Sm f 5 - Sm f 1 = f 1 + sms [f 2, f 3, f 4] := by
    show Sm f 5 - (0 + f 0) = f 1 + (f 2 + (f 3 + (f 4 + 0)))
    omega
  have a2 : Sm f 5 - Sm f 2 = f 2 + sms [f 3, f 4] := by
    show Sm f 5 - (0 + f 0 + f 1) = f 2 + (f 3 + (f 4 + 0))
    omega
  have a3 : Sm f 5 - Sm f 3 = f 3 + sms [f 4] := by
    show Sm f 5 - (0 + f 0 + f 1 + f 2) = f 3 + (f 4 + 0)
    omega
  have a4 : Sm f 5 - Sm f 4 = f 4 + sms [] := by
    show Sm f 5 - (0 + f 0 + f 1 + f 2 + f 3) = f 4 + 0
    omega
  show ((((1 * bn (Sm f 5 - Sm f 0) (f 0)) * bn (Sm f 5 - Sm f 1) (f 1)) * bn (Sm f 5 - Sm f 2) (f 2)) * bn (Sm f 5 - Sm f 3) (f 3)) * bn (Sm f 5 - Sm f 4) (f 4) = bn (f 0 + sms [f 1, f 2, f 3, f 4]) (f 0) * (bn (f 1 + sms [f 2, f 3, f 4]) (f 1) * (bn (f 2 + sms [f 3, f 4]) (f 2) * (bn (f 3 + sms [f 4]) (f 3) * (bn (f 4 + sms []) (f 4) * 1))))
  rw [a0, a1, a2, a3, a4, Nat.one_mul, Nat.mul_one, Nat.mul_assoc, Nat.mul_assoc, Nat.mul_assoc]
theorem Bp_Rp (f : Nat → Nat) : Bp f 5 = Rp f (Sm f 5) 5 := by rw [Bp_5, Rp_5, cPr_rPr]
theorem mi_i (F : Nat) : (if (F : Int) < 999999999999 then (F : Int) else 999999999999) = ((min mst F : Nat) : Int) := by
  unfold mst
  by_cases c : (F : Int) < 999999999999
  · rw [if_pos c]
    omega
  · rw [if_neg c]
    omega
def nuN (nu : Nat → Int) (k : Nat) : Nat := (nu k).toNat
def nuK (nu : Nat → Int) (i : Nat) : Prop := ∀ k, k < i → 0 ≤ nu k ∧ nu k ≤ 48
noncomputable def tdA (P : PT) (j : Nat) (nu : Nat → Int) : Int := @ite Int (nuK nu 5) (Classical.propDecidable _) (if Sm (nuN nu) 5 = sC P (cFq P j 1) 48 then ((min mst (Bp (nuN nu) 5) : Nat) : Int) else 0) (-1)
theorem tdA_bad {P : PT} {j i : Nat} {nu : Nat → Int} (hi : i < 5) (h : ¬ (0 ≤ nu i ∧ nu i ≤ 48)) : tdA P j nu = -1 := if_neg (fun c => h (c i hi))
theorem tdA_ok {P : PT} {j : Nat} {nu : Nat → Int} (h : nuK nu 5) : tdA P j nu = if Sm (nuN nu) 5 = sC P (cFq P j 1) 48 then ((min mst (Bp (nuN nu) 5) : Nat) : Int) else 0 := if_pos h
theorem nuK_s {nu : Nat → Int} {i : Nat} (h : nuK nu i) (a : 0 ≤ nu i ∧ nu i ≤ 48) : nuK nu (i + 1) := fun k hk => by
  by_cases e : k = i
  · rw [e]
    exact a
  · exact h k (by omega)
theorem nuN_i {nu : Nat → Int} {k : Nat} (h : 0 ≤ nu k) : ((nuN nu k : Nat) : Int) = nu k := by
  unfold nuN
  omega
theorem Sm_K {nu : Nat → Int} : ∀ i, nuK nu i → Sm (nuN nu) i ≤ 48 * i
  | 0, _ => Nat.le_refl 0
  | i + 1, h => by
    have ih := Sm_K i (fun k hk => h k (by omega))
    have a := h i (by omega)
    have : nuN nu i ≤ 48 := by unfold nuN; omega
    show Sm (nuN nu) i + nuN nu i ≤ 48 * (i + 1)
    omega
theorem vI_id {x : Int} (h0 : -2147483648 ≤ x) (h1 : x < 2147483648) : vI x = x := by
  unfold vI
  rw [Int64.toInt_toInt32, Int64.toInt_ofInt_of_le (by omega) (by omega)]
  first
    | exact Int.bmod_eq_of_le (by omega) (by omega)
    | exact Int.bmod_eq_of_le_mul_two (by omega) (by omega)
    | (unfold Int.bmod; omega)
theorem qw_wl0_0 {D : zD} {T : zT} (hT : hTab T) (hO : vOK T) {N : Nat} {h : zH} {Q : zR → Prop}  (hv0 : zHv h)
    (k0 : vP D T N 193 7 h [some (2, 3), some (1, 1), none, some (0, 0), some (0, 0), none, none, none] [] Q) :
    vP D T N 193 0 h [some (2, 3), none, none, none, none, none, none, none] [] Q := by
  refine v_push (1) (hT _ zt_X11_waysToLay rfl _ _ rfl) rfl ?_
  refine v_store2 [some (2, 3), some (1, 1), none, none, none, none, none, none] (hT _ zt_X11_waysToLay rfl _ _ rfl) (Nat.le_of_ble_eq_true rfl) rfl ?_
  refine v_push (0) (hT _ zt_X11_waysToLay rfl _ _ rfl) rfl ?_
  refine v_store1 [some (2, 3), some (1, 1), none, some (0, 0), none, none, none, none] (hT _ zt_X11_waysToLay rfl _ _ rfl) ⟨rfl, Nat.ne_of_beq_eq_false rfl⟩ (Nat.le_of_ble_eq_true rfl) rfl ?_
  refine v_push (0) (hT _ zt_X11_waysToLay rfl _ _ rfl) rfl ?_
  refine v_store1 [some (2, 3), some (1, 1), none, some (0, 0), some (0, 0), none, none, none] (hT _ zt_X11_waysToLay rfl _ _ rfl) ⟨rfl, Nat.ne_of_beq_eq_false rfl⟩ (Nat.le_of_ble_eq_true rfl) rfl ?_
  exact k0 
theorem qw_wl7_0 {D : zD} {T : zT} (hT : hTab T) (hO : vOK T) {N : Nat} {h : zH} {Q : zR → Prop} {s i : Nat} (v : Int) {m : Nat} (o5 o6 o7 : Option zV) (hv0 : zHv h) (hi : (i : Int) < 5) (zi : h 3 i = (1, (m : Int))) (hm : m ≤ 48)
    (k0 : (0 ≤ (i : Int)) → ((i : Int) < 60) → vP D T N 193 35 h [some (2, 3), some (1, v), none, some (0, (s : Int)), some (0, (i : Int)), some (1, (if 48 < (m : Int) then 48 else (m : Int))), none, some (0, 1)] [] Q) :
    vP D T (N + 1) 193 7 h [some (2, 3), some (1, v), none, some (0, (s : Int)), some (0, (i : Int)), o5, o6, o7] [] Q := by
  refine v_loadS (v := (0, (i : Int))) (hT _ zt_X11_waysToLay rfl _ _ rfl) rfl rfl ?_
  refine v_push (5) (hT _ zt_X11_waysToLay rfl _ _ rfl) rfl ?_
  refine v_ic (hT _ zt_X11_waysToLay rfl _ _ rfl) (fun _ => ?_) (fun hc1 => absurd (show (i : Int) < 5 from hi) hc1)
  refine v_load (v := (0, (i : Int))) (hT _ zt_X11_waysToLay rfl _ _ rfl) rfl rfl ?_
  refine v_load (v := (2, 3)) (hT _ zt_X11_waysToLay rfl _ _ rfl) rfl rfl ?_
  refine v_alen (r := 3) (n := 60) (hT _ zt_X11_waysToLay rfl _ _ rfl) rfl rfl ?_
  show vP D T N 193 17 h [some (2, 3), some (1, v), none, some (0, (s : Int)), some (0, (i : Int)), o5, o6, o7] [(0, 60), (0, (i : Int))] _
  refine v_ic (hT _ zt_X11_waysToLay rfl _ _ rfl) (fun _ => ?_) (fun hc2 => absurd (show (i : Int) < 60 from (by omega)) hc2)
  refine v_load (v := (2, 3)) (hT _ zt_X11_waysToLay rfl _ _ rfl) rfl rfl ?_
  refine v_load (v := (0, (i : Int))) (hT _ zt_X11_waysToLay rfl _ _ rfl) rfl rfl ?_
  refine v_aldB (t := 1) (r := 3) (w := (m : Int)) (hT _ zt_X11_waysToLay rfl _ _ rfl) rfl rfl rfl (fun _ _ => (congrArg Prod.snd zi)) (fun ha3 hb4 => ?_)
  refine v_push (48) (hT _ zt_X11_waysToLay rfl _ _ rfl) rfl ?_
  refine v_minL (hT _ zt_X11_waysToLay rfl _ _ rfl) ?_
  refine v_store2 [some (2, 3), some (1, v), none, some (0, (s : Int)), some (0, (i : Int)), some (1, (if 48 < (m : Int) then 48 else (m : Int))), none, o7] (hT _ zt_X11_waysToLay rfl _ _ rfl) (Nat.le_of_ble_eq_true rfl) rfl ?_
  refine v_push (1) (hT _ zt_X11_waysToLay rfl _ _ rfl) rfl ?_
  refine v_store1 [some (2, 3), some (1, v), none, some (0, (s : Int)), some (0, (i : Int)), some (1, (if 48 < (m : Int) then 48 else (m : Int))), none, some (0, 1)] (hT _ zt_X11_waysToLay rfl _ _ rfl) ⟨rfl, Nat.ne_of_beq_eq_false rfl⟩ (Nat.le_of_ble_eq_true rfl) rfl ?_
  exact k0 ha3 hb4
theorem qw_wl7e_0 {D : zD} {T : zT} (hT : hTab T) (hO : vOK T) {N : Nat} {h : zH} {Q : zR → Prop} {s : Nat} (v : Int) (o5 o6 o7 : Option zV) (hv0 : zHv h)
    (k0 : Q (h, some (1, v))) :
    vP D T (N + 1) 193 7 h [some (2, 3), some (1, v), none, some (0, (s : Int)), some (0, 5), o5, o6, o7] [] Q := by
  refine v_loadS (v := (0, 5)) (hT _ zt_X11_waysToLay rfl _ _ rfl) rfl rfl ?_
  refine v_push (5) (hT _ zt_X11_waysToLay rfl _ _ rfl) rfl ?_
  refine v_ic (hT _ zt_X11_waysToLay rfl _ _ rfl) (fun hc1 => absurd (show (5 : Int) < 5 from hc1) (by omega)) (fun _ => ?_)
  refine v_load (v := (1, v)) (hT _ zt_X11_waysToLay rfl _ _ rfl) rfl rfl ?_
  refine v_ret (hT _ zt_X11_waysToLay rfl _ _ rfl) (Or.inr rfl) ?_
  exact k0 
theorem qw_wl35_0 {D : zD} {T : zT} (hT : hTab T) (hO : vOK T) {N : Nat} {h : zH} {Q : zR → Prop} {s i m k : Nat} (v : Int) (hv0 : zHv h) (hs : s ≤ 240) (hk : 1 ≤ k ∧ k ≤ 48) (hv1 : 0 ≤ v ∧ v ≤ 999999999999) (hp : 0 ≤ v * ((s : Int) + 1) ∧ v * ((s : Int) + 1) ≤ 1000000000000000) (hkm : (k : Int) ≤ (m : Int))
    (k0 : ((k : Int) ≠ 0) → (999999999999 < ((v * ((s : Int) + 1)) / (k : Int))) → Q (h, some (1, 999999999999)))
    (k1 : ((k : Int) ≠ 0) → (((v * ((s : Int) + 1)) / (k : Int)) ≤ 999999999999) → vP D T N 193 35 h [some (2, 3), some (1, ((v * ((s : Int) + 1)) / (k : Int))), none, some (0, ((s : Int) + 1)), some (0, (i : Int)), some (1, (m : Int)), none, some (0, ((k : Int) + 1))] [] Q) :
    vP D T (N + 1) 193 35 h [some (2, 3), some (1, v), none, some (0, (s : Int)), some (0, (i : Int)), some (1, (m : Int)), none, some (0, (k : Int))] [] Q := by
  refine v_loadS (v := (0, (k : Int))) (hT _ zt_X11_waysToLay rfl _ _ rfl) rfl rfl ?_
  refine v_i2l (hT _ zt_X11_waysToLay rfl _ _ rfl) ?_
  refine v_load (v := (1, (m : Int))) (hT _ zt_X11_waysToLay rfl _ _ rfl) rfl rfl ?_
  refine v_lif (hT _ zt_X11_waysToLay rfl _ _ rfl) (hT _ zt_X11_waysToLay rfl _ _ rfl) (fun hc1 => absurd (show (m : Int) < (k : Int) from hc1) (by omega)) (fun _ => ?_)
  refine v_iinc (x := (s : Int)) (u := 1) (w := ((s : Int) + 1)) [some (2, 3), some (1, v), none, some (0, ((s : Int) + 1)), some (0, (i : Int)), some (1, (m : Int)), none, some (0, (k : Int))] (hT _ zt_X11_waysToLay rfl _ _ rfl) rfl rfl (Nat.le_of_ble_eq_true rfl) (vz_inc (by omega) (by omega)) rfl ?_
  refine v_load (v := (1, v)) (hT _ zt_X11_waysToLay rfl _ _ rfl) rfl rfl ?_
  refine v_load (v := (0, ((s : Int) + 1))) (hT _ zt_X11_waysToLay rfl _ _ rfl) rfl rfl ?_
  refine v_i2l (hT _ zt_X11_waysToLay rfl _ _ rfl) ?_
  refine v_bin64 (w := (v * ((s : Int) + 1))) (hT _ zt_X11_waysToLay rfl _ _ rfl) (vz_mulL (by omega) (by omega)) ?_
  refine v_load (v := (0, (k : Int))) (hT _ zt_X11_waysToLay rfl _ _ rfl) rfl rfl ?_
  refine v_i2l (hT _ zt_X11_waysToLay rfl _ _ rfl) ?_
  refine v_div64 (w := ((v * ((s : Int) + 1)) / (k : Int))) (hT _ zt_X11_waysToLay rfl _ _ rfl) (fun _ => vz_quoL (by omega) (by omega) (by omega) (by omega)) (fun hc2 => ?_)
  refine v_store2 [some (2, 3), some (1, ((v * ((s : Int) + 1)) / (k : Int))), none, some (0, ((s : Int) + 1)), some (0, (i : Int)), some (1, (m : Int)), none, some (0, (k : Int))] (hT _ zt_X11_waysToLay rfl _ _ rfl) (Nat.le_of_ble_eq_true rfl) rfl ?_
  refine v_load (v := (1, ((v * ((s : Int) + 1)) / (k : Int)))) (hT _ zt_X11_waysToLay rfl _ _ rfl) rfl rfl ?_
  refine v_push (999999999999) (hT _ zt_X11_waysToLay rfl _ _ rfl) rfl ?_
  refine v_lif (hT _ zt_X11_waysToLay rfl _ _ rfl) (hT _ zt_X11_waysToLay rfl _ _ rfl) (fun hc3 => ?_) (fun hc3 => ?_)
  · have hc3 : 999999999999 < ((v * ((s : Int) + 1)) / (k : Int)) := hc3
    refine v_push (999999999999) (hT _ zt_X11_waysToLay rfl _ _ rfl) rfl ?_
    refine v_ret (hT _ zt_X11_waysToLay rfl _ _ rfl) (Or.inr rfl) ?_
    exact k0 hc2 hc3
  · have hc3 : ((v * ((s : Int) + 1)) / (k : Int)) ≤ 999999999999 := Int.not_lt.mp hc3
    refine v_iinc (x := (k : Int)) (u := 1) (w := ((k : Int) + 1)) [some (2, 3), some (1, ((v * ((s : Int) + 1)) / (k : Int))), none, some (0, ((s : Int) + 1)), some (0, (i : Int)), some (1, (m : Int)), none, some (0, ((k : Int) + 1))] (hT _ zt_X11_waysToLay rfl _ _ rfl) rfl rfl (Nat.le_of_ble_eq_true rfl) (vz_inc (by omega) (by omega)) rfl ?_
    refine v_goto (hT _ zt_X11_waysToLay rfl _ _ rfl) ?_
    exact k1 hc2 hc3
theorem qw_wl35e_0 {D : zD} {T : zT} (hT : hTab T) (hO : vOK T) {N : Nat} {h : zH} {Q : zR → Prop} {s i m k : Nat} (v : Int) (hv0 : zHv h) (hi : i < 5) (hkm : (m : Int) < (k : Int))
    (k0 : vP D T N 193 7 h [some (2, 3), some (1, v), none, some (0, (s : Int)), some (0, ((i : Int) + 1)), some (1, (m : Int)), none, some (0, (k : Int))] [] Q) :
    vP D T (N + 1) 193 35 h [some (2, 3), some (1, v), none, some (0, (s : Int)), some (0, (i : Int)), some (1, (m : Int)), none, some (0, (k : Int))] [] Q := by
  refine v_loadS (v := (0, (k : Int))) (hT _ zt_X11_waysToLay rfl _ _ rfl) rfl rfl ?_
  refine v_i2l (hT _ zt_X11_waysToLay rfl _ _ rfl) ?_
  refine v_load (v := (1, (m : Int))) (hT _ zt_X11_waysToLay rfl _ _ rfl) rfl rfl ?_
  refine v_lif (hT _ zt_X11_waysToLay rfl _ _ rfl) (hT _ zt_X11_waysToLay rfl _ _ rfl) (fun _ => ?_) (fun hc1 => absurd (show (m : Int) < (k : Int) from hkm) hc1)
  refine v_iinc (x := (i : Int)) (u := 1) (w := ((i : Int) + 1)) [some (2, 3), some (1, v), none, some (0, (s : Int)), some (0, ((i : Int) + 1)), some (1, (m : Int)), none, some (0, (k : Int))] (hT _ zt_X11_waysToLay rfl _ _ rfl) rfl rfl (Nat.le_of_ble_eq_true rfl) (vz_inc (by omega) (by omega)) rfl ?_
  refine v_goto (hT _ zt_X11_waysToLay rfl _ _ rfl) ?_
  exact k0 
theorem qw_wl0_1 {D : zD} {T : zT} (hT : hTab T) (hO : vOK T) {N : Nat} {h : zH} {Q : zR → Prop}  (hv0 : zHv h)
    (k0 : vP D T N 193 7 h [some (2, 5), some (1, 1), none, some (0, 0), some (0, 0), none, none, none] [] Q) :
    vP D T N 193 0 h [some (2, 5), none, none, none, none, none, none, none] [] Q := by
  refine v_push (1) (hT _ zt_X11_waysToLay rfl _ _ rfl) rfl ?_
  refine v_store2 [some (2, 5), some (1, 1), none, none, none, none, none, none] (hT _ zt_X11_waysToLay rfl _ _ rfl) (Nat.le_of_ble_eq_true rfl) rfl ?_
  refine v_push (0) (hT _ zt_X11_waysToLay rfl _ _ rfl) rfl ?_
  refine v_store1 [some (2, 5), some (1, 1), none, some (0, 0), none, none, none, none] (hT _ zt_X11_waysToLay rfl _ _ rfl) ⟨rfl, Nat.ne_of_beq_eq_false rfl⟩ (Nat.le_of_ble_eq_true rfl) rfl ?_
  refine v_push (0) (hT _ zt_X11_waysToLay rfl _ _ rfl) rfl ?_
  refine v_store1 [some (2, 5), some (1, 1), none, some (0, 0), some (0, 0), none, none, none] (hT _ zt_X11_waysToLay rfl _ _ rfl) ⟨rfl, Nat.ne_of_beq_eq_false rfl⟩ (Nat.le_of_ble_eq_true rfl) rfl ?_
  exact k0 
theorem qw_wl7_1 {D : zD} {T : zT} (hT : hTab T) (hO : vOK T) {N : Nat} {h : zH} {Q : zR → Prop} {s i : Nat} (v : Int) {m : Nat} (o5 o6 o7 : Option zV) (hv0 : zHv h) (hi : (i : Int) < 5) (zi : h 5 i = (1, (m : Int))) (hm : m ≤ 48)
    (k0 : (0 ≤ (i : Int)) → ((i : Int) < 60) → vP D T N 193 35 h [some (2, 5), some (1, v), none, some (0, (s : Int)), some (0, (i : Int)), some (1, (if 48 < (m : Int) then 48 else (m : Int))), none, some (0, 1)] [] Q) :
    vP D T (N + 1) 193 7 h [some (2, 5), some (1, v), none, some (0, (s : Int)), some (0, (i : Int)), o5, o6, o7] [] Q := by
  refine v_loadS (v := (0, (i : Int))) (hT _ zt_X11_waysToLay rfl _ _ rfl) rfl rfl ?_
  refine v_push (5) (hT _ zt_X11_waysToLay rfl _ _ rfl) rfl ?_
  refine v_ic (hT _ zt_X11_waysToLay rfl _ _ rfl) (fun _ => ?_) (fun hc1 => absurd (show (i : Int) < 5 from hi) hc1)
  refine v_load (v := (0, (i : Int))) (hT _ zt_X11_waysToLay rfl _ _ rfl) rfl rfl ?_
  refine v_load (v := (2, 5)) (hT _ zt_X11_waysToLay rfl _ _ rfl) rfl rfl ?_
  refine v_alen (r := 5) (n := 60) (hT _ zt_X11_waysToLay rfl _ _ rfl) rfl rfl ?_
  show vP D T N 193 17 h [some (2, 5), some (1, v), none, some (0, (s : Int)), some (0, (i : Int)), o5, o6, o7] [(0, 60), (0, (i : Int))] _
  refine v_ic (hT _ zt_X11_waysToLay rfl _ _ rfl) (fun _ => ?_) (fun hc2 => absurd (show (i : Int) < 60 from (by omega)) hc2)
  refine v_load (v := (2, 5)) (hT _ zt_X11_waysToLay rfl _ _ rfl) rfl rfl ?_
  refine v_load (v := (0, (i : Int))) (hT _ zt_X11_waysToLay rfl _ _ rfl) rfl rfl ?_
  refine v_aldB (t := 1) (r := 5) (w := (m : Int)) (hT _ zt_X11_waysToLay rfl _ _ rfl) rfl rfl rfl (fun _ _ => (congrArg Prod.snd zi)) (fun ha3 hb4 => ?_)
  refine v_push (48) (hT _ zt_X11_waysToLay rfl _ _ rfl) rfl ?_
  refine v_minL (hT _ zt_X11_waysToLay rfl _ _ rfl) ?_
  refine v_store2 [some (2, 5), some (1, v), none, some (0, (s : Int)), some (0, (i : Int)), some (1, (if 48 < (m : Int) then 48 else (m : Int))), none, o7] (hT _ zt_X11_waysToLay rfl _ _ rfl) (Nat.le_of_ble_eq_true rfl) rfl ?_
  refine v_push (1) (hT _ zt_X11_waysToLay rfl _ _ rfl) rfl ?_
  refine v_store1 [some (2, 5), some (1, v), none, some (0, (s : Int)), some (0, (i : Int)), some (1, (if 48 < (m : Int) then 48 else (m : Int))), none, some (0, 1)] (hT _ zt_X11_waysToLay rfl _ _ rfl) ⟨rfl, Nat.ne_of_beq_eq_false rfl⟩ (Nat.le_of_ble_eq_true rfl) rfl ?_
  exact k0 ha3 hb4
theorem qw_wl7e_1 {D : zD} {T : zT} (hT : hTab T) (hO : vOK T) {N : Nat} {h : zH} {Q : zR → Prop} {s : Nat} (v : Int) (o5 o6 o7 : Option zV) (hv0 : zHv h)
    (k0 : Q (h, some (1, v))) :
    vP D T (N + 1) 193 7 h [some (2, 5), some (1, v), none, some (0, (s : Int)), some (0, 5), o5, o6, o7] [] Q := by
  refine v_loadS (v := (0, 5)) (hT _ zt_X11_waysToLay rfl _ _ rfl) rfl rfl ?_
  refine v_push (5) (hT _ zt_X11_waysToLay rfl _ _ rfl) rfl ?_
  refine v_ic (hT _ zt_X11_waysToLay rfl _ _ rfl) (fun hc1 => absurd (show (5 : Int) < 5 from hc1) (by omega)) (fun _ => ?_)
  refine v_load (v := (1, v)) (hT _ zt_X11_waysToLay rfl _ _ rfl) rfl rfl ?_
  refine v_ret (hT _ zt_X11_waysToLay rfl _ _ rfl) (Or.inr rfl) ?_
  exact k0 
theorem qw_wl35_1 {D : zD} {T : zT} (hT : hTab T) (hO : vOK T) {N : Nat} {h : zH} {Q : zR → Prop} {s i m k : Nat} (v : Int) (hv0 : zHv h) (hs : s ≤ 240) (hk : 1 ≤ k ∧ k ≤ 48) (hv1 : 0 ≤ v ∧ v ≤ 999999999999) (hp : 0 ≤ v * ((s : Int) + 1) ∧ v * ((s : Int) + 1) ≤ 1000000000000000) (hkm : (k : Int) ≤ (m : Int))
    (k0 : ((k : Int) ≠ 0) → (999999999999 < ((v * ((s : Int) + 1)) / (k : Int))) → Q (h, some (1, 999999999999)))
    (k1 : ((k : Int) ≠ 0) → (((v * ((s : Int) + 1)) / (k : Int)) ≤ 999999999999) → vP D T N 193 35 h [some (2, 5), some (1, ((v * ((s : Int) + 1)) / (k : Int))), none, some (0, ((s : Int) + 1)), some (0, (i : Int)), some (1, (m : Int)), none, some (0, ((k : Int) + 1))] [] Q) :
    vP D T (N + 1) 193 35 h [some (2, 5), some (1, v), none, some (0, (s : Int)), some (0, (i : Int)), some (1, (m : Int)), none, some (0, (k : Int))] [] Q := by
  refine v_loadS (v := (0, (k : Int))) (hT _ zt_X11_waysToLay rfl _ _ rfl) rfl rfl ?_
  refine v_i2l (hT _ zt_X11_waysToLay rfl _ _ rfl) ?_
  refine v_load (v := (1, (m : Int))) (hT _ zt_X11_waysToLay rfl _ _ rfl) rfl rfl ?_
  refine v_lif (hT _ zt_X11_waysToLay rfl _ _ rfl) (hT _ zt_X11_waysToLay rfl _ _ rfl) (fun hc1 => absurd (show (m : Int) < (k : Int) from hc1) (by omega)) (fun _ => ?_)
  refine v_iinc (x := (s : Int)) (u := 1) (w := ((s : Int) + 1)) [some (2, 5), some (1, v), none, some (0, ((s : Int) + 1)), some (0, (i : Int)), some (1, (m : Int)), none, some (0, (k : Int))] (hT _ zt_X11_waysToLay rfl _ _ rfl) rfl rfl (Nat.le_of_ble_eq_true rfl) (vz_inc (by omega) (by omega)) rfl ?_
  refine v_load (v := (1, v)) (hT _ zt_X11_waysToLay rfl _ _ rfl) rfl rfl ?_
  refine v_load (v := (0, ((s : Int) + 1))) (hT _ zt_X11_waysToLay rfl _ _ rfl) rfl rfl ?_
  refine v_i2l (hT _ zt_X11_waysToLay rfl _ _ rfl) ?_
  refine v_bin64 (w := (v * ((s : Int) + 1))) (hT _ zt_X11_waysToLay rfl _ _ rfl) (vz_mulL (by omega) (by omega)) ?_
  refine v_load (v := (0, (k : Int))) (hT _ zt_X11_waysToLay rfl _ _ rfl) rfl rfl ?_
  refine v_i2l (hT _ zt_X11_waysToLay rfl _ _ rfl) ?_
  refine v_div64 (w := ((v * ((s : Int) + 1)) / (k : Int))) (hT _ zt_X11_waysToLay rfl _ _ rfl) (fun _ => vz_quoL (by omega) (by omega) (by omega) (by omega)) (fun hc2 => ?_)
  refine v_store2 [some (2, 5), some (1, ((v * ((s : Int) + 1)) / (k : Int))), none, some (0, ((s : Int) + 1)), some (0, (i : Int)), some (1, (m : Int)), none, some (0, (k : Int))] (hT _ zt_X11_waysToLay rfl _ _ rfl) (Nat.le_of_ble_eq_true rfl) rfl ?_
  refine v_load (v := (1, ((v * ((s : Int) + 1)) / (k : Int)))) (hT _ zt_X11_waysToLay rfl _ _ rfl) rfl rfl ?_
  refine v_push (999999999999) (hT _ zt_X11_waysToLay rfl _ _ rfl) rfl ?_
  refine v_lif (hT _ zt_X11_waysToLay rfl _ _ rfl) (hT _ zt_X11_waysToLay rfl _ _ rfl) (fun hc3 => ?_) (fun hc3 => ?_)
  · have hc3 : 999999999999 < ((v * ((s : Int) + 1)) / (k : Int)) := hc3
    refine v_push (999999999999) (hT _ zt_X11_waysToLay rfl _ _ rfl) rfl ?_
    refine v_ret (hT _ zt_X11_waysToLay rfl _ _ rfl) (Or.inr rfl) ?_
    exact k0 hc2 hc3
  · have hc3 : ((v * ((s : Int) + 1)) / (k : Int)) ≤ 999999999999 := Int.not_lt.mp hc3
    refine v_iinc (x := (k : Int)) (u := 1) (w := ((k : Int) + 1)) [some (2, 5), some (1, ((v * ((s : Int) + 1)) / (k : Int))), none, some (0, ((s : Int) + 1)), some (0, (i : Int)), some (1, (m : Int)), none, some (0, ((k : Int) + 1))] (hT _ zt_X11_waysToLay rfl _ _ rfl) rfl rfl (Nat.le_of_ble_eq_true rfl) (vz_inc (by omega) (by omega)) rfl ?_
    refine v_goto (hT _ zt_X11_waysToLay rfl _ _ rfl) ?_
    exact k1 hc2 hc3
theorem qw_wl35e_1 {D : zD} {T : zT} (hT : hTab T) (hO : vOK T) {N : Nat} {h : zH} {Q : zR → Prop} {s i m k : Nat} (v : Int) (hv0 : zHv h) (hi : i < 5) (hkm : (m : Int) < (k : Int))
    (k0 : vP D T N 193 7 h [some (2, 5), some (1, v), none, some (0, (s : Int)), some (0, ((i : Int) + 1)), some (1, (m : Int)), none, some (0, (k : Int))] [] Q) :
    vP D T (N + 1) 193 35 h [some (2, 5), some (1, v), none, some (0, (s : Int)), some (0, (i : Int)), some (1, (m : Int)), none, some (0, (k : Int))] [] Q := by
  refine v_loadS (v := (0, (k : Int))) (hT _ zt_X11_waysToLay rfl _ _ rfl) rfl rfl ?_
  refine v_i2l (hT _ zt_X11_waysToLay rfl _ _ rfl) ?_
  refine v_load (v := (1, (m : Int))) (hT _ zt_X11_waysToLay rfl _ _ rfl) rfl rfl ?_
  refine v_lif (hT _ zt_X11_waysToLay rfl _ _ rfl) (hT _ zt_X11_waysToLay rfl _ _ rfl) (fun _ => ?_) (fun hc1 => absurd (show (m : Int) < (k : Int) from hkm) hc1)
  refine v_iinc (x := (i : Int)) (u := 1) (w := ((i : Int) + 1)) [some (2, 5), some (1, v), none, some (0, (s : Int)), some (0, ((i : Int) + 1)), some (1, (m : Int)), none, some (0, (k : Int))] (hT _ zt_X11_waysToLay rfl _ _ rfl) rfl rfl (Nat.le_of_ble_eq_true rfl) (vz_inc (by omega) (by omega)) rfl ?_
  refine v_goto (hT _ zt_X11_waysToLay rfl _ _ rfl) ?_
  exact k0 
theorem qw_wl0_2 {D : zD} {T : zT} (hT : hTab T) (hO : vOK T) {N : Nat} {h : zH} {Q : zR → Prop}  (hv0 : zHv h)
    (k0 : vP D T N 193 7 h [some (2, 7), some (1, 1), none, some (0, 0), some (0, 0), none, none, none] [] Q) :
    vP D T N 193 0 h [some (2, 7), none, none, none, none, none, none, none] [] Q := by
  refine v_push (1) (hT _ zt_X11_waysToLay rfl _ _ rfl) rfl ?_
  refine v_store2 [some (2, 7), some (1, 1), none, none, none, none, none, none] (hT _ zt_X11_waysToLay rfl _ _ rfl) (Nat.le_of_ble_eq_true rfl) rfl ?_
  refine v_push (0) (hT _ zt_X11_waysToLay rfl _ _ rfl) rfl ?_
  refine v_store1 [some (2, 7), some (1, 1), none, some (0, 0), none, none, none, none] (hT _ zt_X11_waysToLay rfl _ _ rfl) ⟨rfl, Nat.ne_of_beq_eq_false rfl⟩ (Nat.le_of_ble_eq_true rfl) rfl ?_
  refine v_push (0) (hT _ zt_X11_waysToLay rfl _ _ rfl) rfl ?_
  refine v_store1 [some (2, 7), some (1, 1), none, some (0, 0), some (0, 0), none, none, none] (hT _ zt_X11_waysToLay rfl _ _ rfl) ⟨rfl, Nat.ne_of_beq_eq_false rfl⟩ (Nat.le_of_ble_eq_true rfl) rfl ?_
  exact k0 
theorem qw_wl7_2 {D : zD} {T : zT} (hT : hTab T) (hO : vOK T) {N : Nat} {h : zH} {Q : zR → Prop} {s i : Nat} (v : Int) {m : Nat} (o5 o6 o7 : Option zV) (hv0 : zHv h) (hi : (i : Int) < 5) (zi : h 7 i = (1, (m : Int))) (hm : m ≤ 48)
    (k0 : (0 ≤ (i : Int)) → ((i : Int) < 60) → vP D T N 193 35 h [some (2, 7), some (1, v), none, some (0, (s : Int)), some (0, (i : Int)), some (1, (if 48 < (m : Int) then 48 else (m : Int))), none, some (0, 1)] [] Q) :
    vP D T (N + 1) 193 7 h [some (2, 7), some (1, v), none, some (0, (s : Int)), some (0, (i : Int)), o5, o6, o7] [] Q := by
  refine v_loadS (v := (0, (i : Int))) (hT _ zt_X11_waysToLay rfl _ _ rfl) rfl rfl ?_
  refine v_push (5) (hT _ zt_X11_waysToLay rfl _ _ rfl) rfl ?_
  refine v_ic (hT _ zt_X11_waysToLay rfl _ _ rfl) (fun _ => ?_) (fun hc1 => absurd (show (i : Int) < 5 from hi) hc1)
  refine v_load (v := (0, (i : Int))) (hT _ zt_X11_waysToLay rfl _ _ rfl) rfl rfl ?_
  refine v_load (v := (2, 7)) (hT _ zt_X11_waysToLay rfl _ _ rfl) rfl rfl ?_
  refine v_alen (r := 7) (n := 60) (hT _ zt_X11_waysToLay rfl _ _ rfl) rfl rfl ?_
  show vP D T N 193 17 h [some (2, 7), some (1, v), none, some (0, (s : Int)), some (0, (i : Int)), o5, o6, o7] [(0, 60), (0, (i : Int))] _
  refine v_ic (hT _ zt_X11_waysToLay rfl _ _ rfl) (fun _ => ?_) (fun hc2 => absurd (show (i : Int) < 60 from (by omega)) hc2)
  refine v_load (v := (2, 7)) (hT _ zt_X11_waysToLay rfl _ _ rfl) rfl rfl ?_
  refine v_load (v := (0, (i : Int))) (hT _ zt_X11_waysToLay rfl _ _ rfl) rfl rfl ?_
  refine v_aldB (t := 1) (r := 7) (w := (m : Int)) (hT _ zt_X11_waysToLay rfl _ _ rfl) rfl rfl rfl (fun _ _ => (congrArg Prod.snd zi)) (fun ha3 hb4 => ?_)
  refine v_push (48) (hT _ zt_X11_waysToLay rfl _ _ rfl) rfl ?_
  refine v_minL (hT _ zt_X11_waysToLay rfl _ _ rfl) ?_
  refine v_store2 [some (2, 7), some (1, v), none, some (0, (s : Int)), some (0, (i : Int)), some (1, (if 48 < (m : Int) then 48 else (m : Int))), none, o7] (hT _ zt_X11_waysToLay rfl _ _ rfl) (Nat.le_of_ble_eq_true rfl) rfl ?_
  refine v_push (1) (hT _ zt_X11_waysToLay rfl _ _ rfl) rfl ?_
  refine v_store1 [some (2, 7), some (1, v), none, some (0, (s : Int)), some (0, (i : Int)), some (1, (if 48 < (m : Int) then 48 else (m : Int))), none, some (0, 1)] (hT _ zt_X11_waysToLay rfl _ _ rfl) ⟨rfl, Nat.ne_of_beq_eq_false rfl⟩ (Nat.le_of_ble_eq_true rfl) rfl ?_
  exact k0 ha3 hb4
theorem qw_wl7e_2 {D : zD} {T : zT} (hT : hTab T) (hO : vOK T) {N : Nat} {h : zH} {Q : zR → Prop} {s : Nat} (v : Int) (o5 o6 o7 : Option zV) (hv0 : zHv h)
    (k0 : Q (h, some (1, v))) :
    vP D T (N + 1) 193 7 h [some (2, 7), some (1, v), none, some (0, (s : Int)), some (0, 5), o5, o6, o7] [] Q := by
  refine v_loadS (v := (0, 5)) (hT _ zt_X11_waysToLay rfl _ _ rfl) rfl rfl ?_
  refine v_push (5) (hT _ zt_X11_waysToLay rfl _ _ rfl) rfl ?_
  refine v_ic (hT _ zt_X11_waysToLay rfl _ _ rfl) (fun hc1 => absurd (show (5 : Int) < 5 from hc1) (by omega)) (fun _ => ?_)
  refine v_load (v := (1, v)) (hT _ zt_X11_waysToLay rfl _ _ rfl) rfl rfl ?_
  refine v_ret (hT _ zt_X11_waysToLay rfl _ _ rfl) (Or.inr rfl) ?_
  exact k0 
theorem qw_wl35_2 {D : zD} {T : zT} (hT : hTab T) (hO : vOK T) {N : Nat} {h : zH} {Q : zR → Prop} {s i m k : Nat} (v : Int) (hv0 : zHv h) (hs : s ≤ 240) (hk : 1 ≤ k ∧ k ≤ 48) (hv1 : 0 ≤ v ∧ v ≤ 999999999999) (hp : 0 ≤ v * ((s : Int) + 1) ∧ v * ((s : Int) + 1) ≤ 1000000000000000) (hkm : (k : Int) ≤ (m : Int))
    (k0 : ((k : Int) ≠ 0) → (999999999999 < ((v * ((s : Int) + 1)) / (k : Int))) → Q (h, some (1, 999999999999)))
    (k1 : ((k : Int) ≠ 0) → (((v * ((s : Int) + 1)) / (k : Int)) ≤ 999999999999) → vP D T N 193 35 h [some (2, 7), some (1, ((v * ((s : Int) + 1)) / (k : Int))), none, some (0, ((s : Int) + 1)), some (0, (i : Int)), some (1, (m : Int)), none, some (0, ((k : Int) + 1))] [] Q) :
    vP D T (N + 1) 193 35 h [some (2, 7), some (1, v), none, some (0, (s : Int)), some (0, (i : Int)), some (1, (m : Int)), none, some (0, (k : Int))] [] Q := by
  refine v_loadS (v := (0, (k : Int))) (hT _ zt_X11_waysToLay rfl _ _ rfl) rfl rfl ?_
  refine v_i2l (hT _ zt_X11_waysToLay rfl _ _ rfl) ?_
  refine v_load (v := (1, (m : Int))) (hT _ zt_X11_waysToLay rfl _ _ rfl) rfl rfl ?_
  refine v_lif (hT _ zt_X11_waysToLay rfl _ _ rfl) (hT _ zt_X11_waysToLay rfl _ _ rfl) (fun hc1 => absurd (show (m : Int) < (k : Int) from hc1) (by omega)) (fun _ => ?_)
  refine v_iinc (x := (s : Int)) (u := 1) (w := ((s : Int) + 1)) [some (2, 7), some (1, v), none, some (0, ((s : Int) + 1)), some (0, (i : Int)), some (1, (m : Int)), none, some (0, (k : Int))] (hT _ zt_X11_waysToLay rfl _ _ rfl) rfl rfl (Nat.le_of_ble_eq_true rfl) (vz_inc (by omega) (by omega)) rfl ?_
  refine v_load (v := (1, v)) (hT _ zt_X11_waysToLay rfl _ _ rfl) rfl rfl ?_
  refine v_load (v := (0, ((s : Int) + 1))) (hT _ zt_X11_waysToLay rfl _ _ rfl) rfl rfl ?_
  refine v_i2l (hT _ zt_X11_waysToLay rfl _ _ rfl) ?_
  refine v_bin64 (w := (v * ((s : Int) + 1))) (hT _ zt_X11_waysToLay rfl _ _ rfl) (vz_mulL (by omega) (by omega)) ?_
  refine v_load (v := (0, (k : Int))) (hT _ zt_X11_waysToLay rfl _ _ rfl) rfl rfl ?_
  refine v_i2l (hT _ zt_X11_waysToLay rfl _ _ rfl) ?_
  refine v_div64 (w := ((v * ((s : Int) + 1)) / (k : Int))) (hT _ zt_X11_waysToLay rfl _ _ rfl) (fun _ => vz_quoL (by omega) (by omega) (by omega) (by omega)) (fun hc2 => ?_)
  refine v_store2 [some (2, 7), some (1, ((v * ((s : Int) + 1)) / (k : Int))), none, some (0, ((s : Int) + 1)), some (0, (i : Int)), some (1, (m : Int)), none, some (0, (k : Int))] (hT _ zt_X11_waysToLay rfl _ _ rfl) (Nat.le_of_ble_eq_true rfl) rfl ?_
  refine v_load (v := (1, ((v * ((s : Int) + 1)) / (k : Int)))) (hT _ zt_X11_waysToLay rfl _ _ rfl) rfl rfl ?_
  refine v_push (999999999999) (hT _ zt_X11_waysToLay rfl _ _ rfl) rfl ?_
  refine v_lif (hT _ zt_X11_waysToLay rfl _ _ rfl) (hT _ zt_X11_waysToLay rfl _ _ rfl) (fun hc3 => ?_) (fun hc3 => ?_)
  · have hc3 : 999999999999 < ((v * ((s : Int) + 1)) / (k : Int)) := hc3
    refine v_push (999999999999) (hT _ zt_X11_waysToLay rfl _ _ rfl) rfl ?_
    refine v_ret (hT _ zt_X11_waysToLay rfl _ _ rfl) (Or.inr rfl) ?_
    exact k0 hc2 hc3
  · have hc3 : ((v * ((s : Int) + 1)) / (k : Int)) ≤ 999999999999 := Int.not_lt.mp hc3
    refine v_iinc (x := (k : Int)) (u := 1) (w := ((k : Int) + 1)) [some (2, 7), some (1, ((v * ((s : Int) + 1)) / (k : Int))), none, some (0, ((s : Int) + 1)), some (0, (i : Int)), some (1, (m : Int)), none, some (0, ((k : Int) + 1))] (hT _ zt_X11_waysToLay rfl _ _ rfl) rfl rfl (Nat.le_of_ble_eq_true rfl) (vz_inc (by omega) (by omega)) rfl ?_
    refine v_goto (hT _ zt_X11_waysToLay rfl _ _ rfl) ?_
    exact k1 hc2 hc3
theorem qw_wl35e_2 {D : zD} {T : zT} (hT : hTab T) (hO : vOK T) {N : Nat} {h : zH} {Q : zR → Prop} {s i m k : Nat} (v : Int) (hv0 : zHv h) (hi : i < 5) (hkm : (m : Int) < (k : Int))
    (k0 : vP D T N 193 7 h [some (2, 7), some (1, v), none, some (0, (s : Int)), some (0, ((i : Int) + 1)), some (1, (m : Int)), none, some (0, (k : Int))] [] Q) :
    vP D T (N + 1) 193 35 h [some (2, 7), some (1, v), none, some (0, (s : Int)), some (0, (i : Int)), some (1, (m : Int)), none, some (0, (k : Int))] [] Q := by
  refine v_loadS (v := (0, (k : Int))) (hT _ zt_X11_waysToLay rfl _ _ rfl) rfl rfl ?_
  refine v_i2l (hT _ zt_X11_waysToLay rfl _ _ rfl) ?_
  refine v_load (v := (1, (m : Int))) (hT _ zt_X11_waysToLay rfl _ _ rfl) rfl rfl ?_
  refine v_lif (hT _ zt_X11_waysToLay rfl _ _ rfl) (hT _ zt_X11_waysToLay rfl _ _ rfl) (fun _ => ?_) (fun hc1 => absurd (show (m : Int) < (k : Int) from hkm) hc1)
  refine v_iinc (x := (i : Int)) (u := 1) (w := ((i : Int) + 1)) [some (2, 7), some (1, v), none, some (0, (s : Int)), some (0, ((i : Int) + 1)), some (1, (m : Int)), none, some (0, (k : Int))] (hT _ zt_X11_waysToLay rfl _ _ rfl) rfl rfl (Nat.le_of_ble_eq_true rfl) (vz_inc (by omega) (by omega)) rfl ?_
  refine v_goto (hT _ zt_X11_waysToLay rfl _ _ rfl) ?_
  exact k0 
theorem qw_wl0_3 {D : zD} {T : zT} (hT : hTab T) (hO : vOK T) {N : Nat} {h : zH} {Q : zR → Prop}  (hv0 : zHv h)
    (k0 : vP D T N 193 7 h [some (2, 9), some (1, 1), none, some (0, 0), some (0, 0), none, none, none] [] Q) :
    vP D T N 193 0 h [some (2, 9), none, none, none, none, none, none, none] [] Q := by
  refine v_push (1) (hT _ zt_X11_waysToLay rfl _ _ rfl) rfl ?_
  refine v_store2 [some (2, 9), some (1, 1), none, none, none, none, none, none] (hT _ zt_X11_waysToLay rfl _ _ rfl) (Nat.le_of_ble_eq_true rfl) rfl ?_
  refine v_push (0) (hT _ zt_X11_waysToLay rfl _ _ rfl) rfl ?_
  refine v_store1 [some (2, 9), some (1, 1), none, some (0, 0), none, none, none, none] (hT _ zt_X11_waysToLay rfl _ _ rfl) ⟨rfl, Nat.ne_of_beq_eq_false rfl⟩ (Nat.le_of_ble_eq_true rfl) rfl ?_
  refine v_push (0) (hT _ zt_X11_waysToLay rfl _ _ rfl) rfl ?_
  refine v_store1 [some (2, 9), some (1, 1), none, some (0, 0), some (0, 0), none, none, none] (hT _ zt_X11_waysToLay rfl _ _ rfl) ⟨rfl, Nat.ne_of_beq_eq_false rfl⟩ (Nat.le_of_ble_eq_true rfl) rfl ?_
  exact k0 
theorem qw_wl7_3 {D : zD} {T : zT} (hT : hTab T) (hO : vOK T) {N : Nat} {h : zH} {Q : zR → Prop} {s i : Nat} (v : Int) {m : Nat} (o5 o6 o7 : Option zV) (hv0 : zHv h) (hi : (i : Int) < 5) (zi : h 9 i = (1, (m : Int))) (hm : m ≤ 48)
    (k0 : (0 ≤ (i : Int)) → ((i : Int) < 60) → vP D T N 193 35 h [some (2, 9), some (1, v), none, some (0, (s : Int)), some (0, (i : Int)), some (1, (if 48 < (m : Int) then 48 else (m : Int))), none, some (0, 1)] [] Q) :
    vP D T (N + 1) 193 7 h [some (2, 9), some (1, v), none, some (0, (s : Int)), some (0, (i : Int)), o5, o6, o7] [] Q := by
  refine v_loadS (v := (0, (i : Int))) (hT _ zt_X11_waysToLay rfl _ _ rfl) rfl rfl ?_
  refine v_push (5) (hT _ zt_X11_waysToLay rfl _ _ rfl) rfl ?_
  refine v_ic (hT _ zt_X11_waysToLay rfl _ _ rfl) (fun _ => ?_) (fun hc1 => absurd (show (i : Int) < 5 from hi) hc1)
  refine v_load (v := (0, (i : Int))) (hT _ zt_X11_waysToLay rfl _ _ rfl) rfl rfl ?_
  refine v_load (v := (2, 9)) (hT _ zt_X11_waysToLay rfl _ _ rfl) rfl rfl ?_
  refine v_alen (r := 9) (n := 60) (hT _ zt_X11_waysToLay rfl _ _ rfl) rfl rfl ?_
  show vP D T N 193 17 h [some (2, 9), some (1, v), none, some (0, (s : Int)), some (0, (i : Int)), o5, o6, o7] [(0, 60), (0, (i : Int))] _
  refine v_ic (hT _ zt_X11_waysToLay rfl _ _ rfl) (fun _ => ?_) (fun hc2 => absurd (show (i : Int) < 60 from (by omega)) hc2)
  refine v_load (v := (2, 9)) (hT _ zt_X11_waysToLay rfl _ _ rfl) rfl rfl ?_
  refine v_load (v := (0, (i : Int))) (hT _ zt_X11_waysToLay rfl _ _ rfl) rfl rfl ?_
  refine v_aldB (t := 1) (r := 9) (w := (m : Int)) (hT _ zt_X11_waysToLay rfl _ _ rfl) rfl rfl rfl (fun _ _ => (congrArg Prod.snd zi)) (fun ha3 hb4 => ?_)
  refine v_push (48) (hT _ zt_X11_waysToLay rfl _ _ rfl) rfl ?_
  refine v_minL (hT _ zt_X11_waysToLay rfl _ _ rfl) ?_
  refine v_store2 [some (2, 9), some (1, v), none, some (0, (s : Int)), some (0, (i : Int)), some (1, (if 48 < (m : Int) then 48 else (m : Int))), none, o7] (hT _ zt_X11_waysToLay rfl _ _ rfl) (Nat.le_of_ble_eq_true rfl) rfl ?_
  refine v_push (1) (hT _ zt_X11_waysToLay rfl _ _ rfl) rfl ?_
  refine v_store1 [some (2, 9), some (1, v), none, some (0, (s : Int)), some (0, (i : Int)), some (1, (if 48 < (m : Int) then 48 else (m : Int))), none, some (0, 1)] (hT _ zt_X11_waysToLay rfl _ _ rfl) ⟨rfl, Nat.ne_of_beq_eq_false rfl⟩ (Nat.le_of_ble_eq_true rfl) rfl ?_
  exact k0 ha3 hb4
theorem qw_wl7e_3 {D : zD} {T : zT} (hT : hTab T) (hO : vOK T) {N : Nat} {h : zH} {Q : zR → Prop} {s : Nat} (v : Int) (o5 o6 o7 : Option zV) (hv0 : zHv h)
    (k0 : Q (h, some (1, v))) :
    vP D T (N + 1) 193 7 h [some (2, 9), some (1, v), none, some (0, (s : Int)), some (0, 5), o5, o6, o7] [] Q := by
  refine v_loadS (v := (0, 5)) (hT _ zt_X11_waysToLay rfl _ _ rfl) rfl rfl ?_
  refine v_push (5) (hT _ zt_X11_waysToLay rfl _ _ rfl) rfl ?_
  refine v_ic (hT _ zt_X11_waysToLay rfl _ _ rfl) (fun hc1 => absurd (show (5 : Int) < 5 from hc1) (by omega)) (fun _ => ?_)
  refine v_load (v := (1, v)) (hT _ zt_X11_waysToLay rfl _ _ rfl) rfl rfl ?_
  refine v_ret (hT _ zt_X11_waysToLay rfl _ _ rfl) (Or.inr rfl) ?_
  exact k0 
theorem qw_wl35_3 {D : zD} {T : zT} (hT : hTab T) (hO : vOK T) {N : Nat} {h : zH} {Q : zR → Prop} {s i m k : Nat} (v : Int) (hv0 : zHv h) (hs : s ≤ 240) (hk : 1 ≤ k ∧ k ≤ 48) (hv1 : 0 ≤ v ∧ v ≤ 999999999999) (hp : 0 ≤ v * ((s : Int) + 1) ∧ v * ((s : Int) + 1) ≤ 1000000000000000) (hkm : (k : Int) ≤ (m : Int))
    (k0 : ((k : Int) ≠ 0) → (999999999999 < ((v * ((s : Int) + 1)) / (k : Int))) → Q (h, some (1, 999999999999)))
    (k1 : ((k : Int) ≠ 0) → (((v * ((s : Int) + 1)) / (k : Int)) ≤ 999999999999) → vP D T N 193 35 h [some (2, 9), some (1, ((v * ((s : Int) + 1)) / (k : Int))), none, some (0, ((s : Int) + 1)), some (0, (i : Int)), some (1, (m : Int)), none, some (0, ((k : Int) + 1))] [] Q) :
    vP D T (N + 1) 193 35 h [some (2, 9), some (1, v), none, some (0, (s : Int)), some (0, (i : Int)), some (1, (m : Int)), none, some (0, (k : Int))] [] Q := by
  refine v_loadS (v := (0, (k : Int))) (hT _ zt_X11_waysToLay rfl _ _ rfl) rfl rfl ?_
  refine v_i2l (hT _ zt_X11_waysToLay rfl _ _ rfl) ?_
  refine v_load (v := (1, (m : Int))) (hT _ zt_X11_waysToLay rfl _ _ rfl) rfl rfl ?_
  refine v_lif (hT _ zt_X11_waysToLay rfl _ _ rfl) (hT _ zt_X11_waysToLay rfl _ _ rfl) (fun hc1 => absurd (show (m : Int) < (k : Int) from hc1) (by omega)) (fun _ => ?_)
  refine v_iinc (x := (s : Int)) (u := 1) (w := ((s : Int) + 1)) [some (2, 9), some (1, v), none, some (0, ((s : Int) + 1)), some (0, (i : Int)), some (1, (m : Int)), none, some (0, (k : Int))] (hT _ zt_X11_waysToLay rfl _ _ rfl) rfl rfl (Nat.le_of_ble_eq_true rfl) (vz_inc (by omega) (by omega)) rfl ?_
  refine v_load (v := (1, v)) (hT _ zt_X11_waysToLay rfl _ _ rfl) rfl rfl ?_
  refine v_load (v := (0, ((s : Int) + 1))) (hT _ zt_X11_waysToLay rfl _ _ rfl) rfl rfl ?_
  refine v_i2l (hT _ zt_X11_waysToLay rfl _ _ rfl) ?_
  refine v_bin64 (w := (v * ((s : Int) + 1))) (hT _ zt_X11_waysToLay rfl _ _ rfl) (vz_mulL (by omega) (by omega)) ?_
  refine v_load (v := (0, (k : Int))) (hT _ zt_X11_waysToLay rfl _ _ rfl) rfl rfl ?_
  refine v_i2l (hT _ zt_X11_waysToLay rfl _ _ rfl) ?_
  refine v_div64 (w := ((v * ((s : Int) + 1)) / (k : Int))) (hT _ zt_X11_waysToLay rfl _ _ rfl) (fun _ => vz_quoL (by omega) (by omega) (by omega) (by omega)) (fun hc2 => ?_)
  refine v_store2 [some (2, 9), some (1, ((v * ((s : Int) + 1)) / (k : Int))), none, some (0, ((s : Int) + 1)), some (0, (i : Int)), some (1, (m : Int)), none, some (0, (k : Int))] (hT _ zt_X11_waysToLay rfl _ _ rfl) (Nat.le_of_ble_eq_true rfl) rfl ?_
  refine v_load (v := (1, ((v * ((s : Int) + 1)) / (k : Int)))) (hT _ zt_X11_waysToLay rfl _ _ rfl) rfl rfl ?_
  refine v_push (999999999999) (hT _ zt_X11_waysToLay rfl _ _ rfl) rfl ?_
  refine v_lif (hT _ zt_X11_waysToLay rfl _ _ rfl) (hT _ zt_X11_waysToLay rfl _ _ rfl) (fun hc3 => ?_) (fun hc3 => ?_)
  · have hc3 : 999999999999 < ((v * ((s : Int) + 1)) / (k : Int)) := hc3
    refine v_push (999999999999) (hT _ zt_X11_waysToLay rfl _ _ rfl) rfl ?_
    refine v_ret (hT _ zt_X11_waysToLay rfl _ _ rfl) (Or.inr rfl) ?_
    exact k0 hc2 hc3
  · have hc3 : ((v * ((s : Int) + 1)) / (k : Int)) ≤ 999999999999 := Int.not_lt.mp hc3
    refine v_iinc (x := (k : Int)) (u := 1) (w := ((k : Int) + 1)) [some (2, 9), some (1, ((v * ((s : Int) + 1)) / (k : Int))), none, some (0, ((s : Int) + 1)), some (0, (i : Int)), some (1, (m : Int)), none, some (0, ((k : Int) + 1))] (hT _ zt_X11_waysToLay rfl _ _ rfl) rfl rfl (Nat.le_of_ble_eq_true rfl) (vz_inc (by omega) (by omega)) rfl ?_
    refine v_goto (hT _ zt_X11_waysToLay rfl _ _ rfl) ?_
    exact k1 hc2 hc3
theorem qw_wl35e_3 {D : zD} {T : zT} (hT : hTab T) (hO : vOK T) {N : Nat} {h : zH} {Q : zR → Prop} {s i m k : Nat} (v : Int) (hv0 : zHv h) (hi : i < 5) (hkm : (m : Int) < (k : Int))
    (k0 : vP D T N 193 7 h [some (2, 9), some (1, v), none, some (0, (s : Int)), some (0, ((i : Int) + 1)), some (1, (m : Int)), none, some (0, (k : Int))] [] Q) :
    vP D T (N + 1) 193 35 h [some (2, 9), some (1, v), none, some (0, (s : Int)), some (0, (i : Int)), some (1, (m : Int)), none, some (0, (k : Int))] [] Q := by
  refine v_loadS (v := (0, (k : Int))) (hT _ zt_X11_waysToLay rfl _ _ rfl) rfl rfl ?_
  refine v_i2l (hT _ zt_X11_waysToLay rfl _ _ rfl) ?_
  refine v_load (v := (1, (m : Int))) (hT _ zt_X11_waysToLay rfl _ _ rfl) rfl rfl ?_
  refine v_lif (hT _ zt_X11_waysToLay rfl _ _ rfl) (hT _ zt_X11_waysToLay rfl _ _ rfl) (fun _ => ?_) (fun hc1 => absurd (show (m : Int) < (k : Int) from hkm) hc1)
  refine v_iinc (x := (i : Int)) (u := 1) (w := ((i : Int) + 1)) [some (2, 9), some (1, v), none, some (0, (s : Int)), some (0, ((i : Int) + 1)), some (1, (m : Int)), none, some (0, (k : Int))] (hT _ zt_X11_waysToLay rfl _ _ rfl) rfl rfl (Nat.le_of_ble_eq_true rfl) (vz_inc (by omega) (by omega)) rfl ?_
  refine v_goto (hT _ zt_X11_waysToLay rfl _ _ rfl) ?_
  exact k0 
section TW_0
variable {D : zD} {T : zT} {h : zH}
theorem cw_in_0 (hT : hTab T) (hO : vOK T) {Q : zR → Prop} {B s i m F : Nat} (hi : i < 5) (hm : m ≤ 48) (hs : s + m ≤ 240) (hF : B * bn (s + m) m ≤ F) (big : mst < F → Q (h, some (1, ((mst : Nat) : Int)))) (k : ∀ N : Nat, B * bn (s + m) m ≤ mst → vP D T N 193 7 h [some (2, 3), some (1, ((B * bn (s + m) m : Nat) : Int)), none, some (0, ((s + m : Nat) : Int)), some (0, ((i + 1 : Nat) : Int)), some (1, (m : Int)), none, some (0, ((m + 1 : Nat) : Int))] [] Q) : ∀ (r j N : Nat), j + r = m → B * bn (s + j) j ≤ mst → vP D T N 193 35 h [some (2, 3), some (1, ((B * bn (s + j) j : Nat) : Int)), none, some (0, ((s + j : Nat) : Int)), some (0, (i : Int)), some (1, (m : Int)), none, some (0, ((j + 1 : Nat) : Int))] [] Q
  | 0, j, N, hj, hv => by
    have hj : j = m := hj
    subst hj
    have k := k N hv
    rw [show ((i + 1 : Nat) : Int) = (i : Int) + 1 from by omega] at k
    exact vP_dn (vP_hv (fun hv2 => qw_wl35e_0 hT hO _ hv2 hi (by omega) k))
  | r + 1, j, N, hj, hv => by
    have e := bn_divB B s j
    have mono : B * bn (s + (j + 1)) (j + 1) ≤ B * bn (s + m) m := Nat.mul_le_mul_left B (bn_mono s (by omega))
    have ei : ((B * bn (s + j) j : Nat) : Int) * (((s + j : Nat) : Int) + 1) / ((j + 1 : Nat) : Int) = ((B * bn (s + (j + 1)) (j + 1) : Nat) : Int) := by
      rw [← e, show ((s + j : Nat) : Int) + 1 = ((s + (j + 1) : Nat) : Int) from by omega, ← Int.natCast_mul]
      rfl
    have hv1 : B * bn (s + j) j ≤ 999999999999 := hv
    have pb : B * bn (s + j) j * (s + (j + 1)) ≤ 999999999999 * 240 := Nat.mul_le_mul hv1 (by omega)
    have pi : ((B * bn (s + j) j : Nat) : Int) * (((s + j : Nat) : Int) + 1) = ((B * bn (s + j) j * (s + (j + 1)) : Nat) : Int) := by
      rw [show ((s + j : Nat) : Int) + 1 = ((s + (j + 1) : Nat) : Int) from by omega, ← Int.natCast_mul]
    refine vP_dn (vP_hv (fun hv2 => qw_wl35_0 hT hO _ hv2 (by omega) ⟨by omega, by omega⟩ ⟨by omega, by omega⟩ (by rw [pi]; omega) (by omega) (fun _ c => ?_) (fun _ c => ?_)))
    · rw [ei] at c
      exact big (by unfold mst; omega)
    · rw [ei] at c ⊢
      rw [show ((s + j : Nat) : Int) + 1 = ((s + (j + 1) : Nat) : Int) from by omega, show ((j + 1 : Nat) : Int) + 1 = ((j + 1 + 1 : Nat) : Int) from by omega]
      exact cw_in_0 hT hO hi hm hs hF big k r (j + 1) N (by omega) (by unfold mst; omega)
theorem cw_out_0 (hT : hTab T) (hO : vOK T) {Q : zR → Prop} {f : Nat → Nat} (hf : ∀ i, i < 5 → f i ≤ 48) (hh : ∀ i, i < 5 → h 3 i = (1, ((f i : Nat) : Int))) (k : Q (h, some (1, ((min mst (Bp f 5) : Nat) : Int)))) : ∀ (r i N : Nat) (o5 o6 o7 : Option zV), i + r = 5 → Bp f i ≤ mst → vP D T N 193 7 h [some (2, 3), some (1, ((Bp f i : Nat) : Int)), none, some (0, ((Sm f i : Nat) : Int)), some (0, (i : Int)), o5, o6, o7] [] Q
  | 0, i, N, o5, o6, o7, hi, hv => by
    have hi : i = 5 := hi
    subst hi
    rw [show min mst (Bp f 5) = Bp f 5 from by omega] at k
    exact vP_dn (vP_hv (fun hv2 => qw_wl7e_0 hT hO _ o5 o6 o7 hv2 k))
  | r + 1, i, N, o5, o6, o7, hi, hv => by
    have h5 : i < 5 := by omega
    have hm := hf i h5
    have sl := Sm_le f hf i (by omega)
    have bl := Bp_le f (i := i + 1) r
    rw [show i + 1 + r = 5 from by omega] at bl
    refine vP_dn (vP_hv (fun hv2 => qw_wl7_0 hT hO _ o5 o6 o7 hv2 (by omega) (hh i h5) hm (fun _ _ => ?_)))
    rw [if_neg (show ¬ (48 : Int) < ((f i : Nat) : Int) from by omega)]
    have e0 : Bp f i * bn (Sm f i + 0) 0 = Bp f i := by rw [bn_0, Nat.mul_one]
    have go := cw_in_0 (h := h) (Q := Q) (B := Bp f i) (s := Sm f i) (i := i) (m := f i) (F := Bp f 5) hT hO h5 hm (by omega) bl (fun c => by
      rw [show min mst (Bp f 5) = mst from by omega] at k
      exact k) (fun N c => cw_out_0 hT hO hf hh k r (i + 1) N _ _ _ (by omega) c) (f i) 0 N (Nat.zero_add _) (by rw [e0]; exact hv)
    rw [e0] at go
    exact go
theorem cw_wl_0 {N : Nat} (hT : hTab T) (hO : vOK T) {Q : zR → Prop} {f : Nat → Nat} (hf : ∀ i, i < 5 → f i ≤ 48) (hh : ∀ i, i < 5 → h 3 i = (1, ((f i : Nat) : Int))) (k : Q (h, some (1, ((min mst (Bp f 5) : Nat) : Int)))) : vP D T N 193 0 h [some (2, 3), none, none, none, none, none, none, none] [] Q := by
  refine vP_hv (fun hv => qw_wl0_0 hT hO hv ?_)
  exact cw_out_0 hT hO hf hh k 5 0 N none none none rfl (Nat.le_of_ble_eq_true rfl)
end TW_0
section TW_1
variable {D : zD} {T : zT} {h : zH}
theorem cw_in_1 (hT : hTab T) (hO : vOK T) {Q : zR → Prop} {B s i m F : Nat} (hi : i < 5) (hm : m ≤ 48) (hs : s + m ≤ 240) (hF : B * bn (s + m) m ≤ F) (big : mst < F → Q (h, some (1, ((mst : Nat) : Int)))) (k : ∀ N : Nat, B * bn (s + m) m ≤ mst → vP D T N 193 7 h [some (2, 5), some (1, ((B * bn (s + m) m : Nat) : Int)), none, some (0, ((s + m : Nat) : Int)), some (0, ((i + 1 : Nat) : Int)), some (1, (m : Int)), none, some (0, ((m + 1 : Nat) : Int))] [] Q) : ∀ (r j N : Nat), j + r = m → B * bn (s + j) j ≤ mst → vP D T N 193 35 h [some (2, 5), some (1, ((B * bn (s + j) j : Nat) : Int)), none, some (0, ((s + j : Nat) : Int)), some (0, (i : Int)), some (1, (m : Int)), none, some (0, ((j + 1 : Nat) : Int))] [] Q
  | 0, j, N, hj, hv => by
    have hj : j = m := hj
    subst hj
    have k := k N hv
    rw [show ((i + 1 : Nat) : Int) = (i : Int) + 1 from by omega] at k
    exact vP_dn (vP_hv (fun hv2 => qw_wl35e_1 hT hO _ hv2 hi (by omega) k))
  | r + 1, j, N, hj, hv => by
    have e := bn_divB B s j
    have mono : B * bn (s + (j + 1)) (j + 1) ≤ B * bn (s + m) m := Nat.mul_le_mul_left B (bn_mono s (by omega))
    have ei : ((B * bn (s + j) j : Nat) : Int) * (((s + j : Nat) : Int) + 1) / ((j + 1 : Nat) : Int) = ((B * bn (s + (j + 1)) (j + 1) : Nat) : Int) := by
      rw [← e, show ((s + j : Nat) : Int) + 1 = ((s + (j + 1) : Nat) : Int) from by omega, ← Int.natCast_mul]
      rfl
    have hv1 : B * bn (s + j) j ≤ 999999999999 := hv
    have pb : B * bn (s + j) j * (s + (j + 1)) ≤ 999999999999 * 240 := Nat.mul_le_mul hv1 (by omega)
    have pi : ((B * bn (s + j) j : Nat) : Int) * (((s + j : Nat) : Int) + 1) = ((B * bn (s + j) j * (s + (j + 1)) : Nat) : Int) := by
      rw [show ((s + j : Nat) : Int) + 1 = ((s + (j + 1) : Nat) : Int) from by omega, ← Int.natCast_mul]
    refine vP_dn (vP_hv (fun hv2 => qw_wl35_1 hT hO _ hv2 (by omega) ⟨by omega, by omega⟩ ⟨by omega, by omega⟩ (by rw [pi]; omega) (by omega) (fun _ c => ?_) (fun _ c => ?_)))
    · rw [ei] at c
      exact big (by unfold mst; omega)
    · rw [ei] at c ⊢
      rw [show ((s + j : Nat) : Int) + 1 = ((s + (j + 1) : Nat) : Int) from by omega, show ((j + 1 : Nat) : Int) + 1 = ((j + 1 + 1 : Nat) : Int) from by omega]
      exact cw_in_1 hT hO hi hm hs hF big k r (j + 1) N (by omega) (by unfold mst; omega)
theorem cw_out_1 (hT : hTab T) (hO : vOK T) {Q : zR → Prop} {f : Nat → Nat} (hf : ∀ i, i < 5 → f i ≤ 48) (hh : ∀ i, i < 5 → h 5 i = (1, ((f i : Nat) : Int))) (k : Q (h, some (1, ((min mst (Bp f 5) : Nat) : Int)))) : ∀ (r i N : Nat) (o5 o6 o7 : Option zV), i + r = 5 → Bp f i ≤ mst → vP D T N 193 7 h [some (2, 5), some (1, ((Bp f i : Nat) : Int)), none, some (0, ((Sm f i : Nat) : Int)), some (0, (i : Int)), o5, o6, o7] [] Q
  | 0, i, N, o5, o6, o7, hi, hv => by
    have hi : i = 5 := hi
    subst hi
    rw [show min mst (Bp f 5) = Bp f 5 from by omega] at k
    exact vP_dn (vP_hv (fun hv2 => qw_wl7e_1 hT hO _ o5 o6 o7 hv2 k))
  | r + 1, i, N, o5, o6, o7, hi, hv => by
    have h5 : i < 5 := by omega
    have hm := hf i h5
    have sl := Sm_le f hf i (by omega)
    have bl := Bp_le f (i := i + 1) r
    rw [show i + 1 + r = 5 from by omega] at bl
    refine vP_dn (vP_hv (fun hv2 => qw_wl7_1 hT hO _ o5 o6 o7 hv2 (by omega) (hh i h5) hm (fun _ _ => ?_)))
    rw [if_neg (show ¬ (48 : Int) < ((f i : Nat) : Int) from by omega)]
    have e0 : Bp f i * bn (Sm f i + 0) 0 = Bp f i := by rw [bn_0, Nat.mul_one]
    have go := cw_in_1 (h := h) (Q := Q) (B := Bp f i) (s := Sm f i) (i := i) (m := f i) (F := Bp f 5) hT hO h5 hm (by omega) bl (fun c => by
      rw [show min mst (Bp f 5) = mst from by omega] at k
      exact k) (fun N c => cw_out_1 hT hO hf hh k r (i + 1) N _ _ _ (by omega) c) (f i) 0 N (Nat.zero_add _) (by rw [e0]; exact hv)
    rw [e0] at go
    exact go
theorem cw_wl_1 {N : Nat} (hT : hTab T) (hO : vOK T) {Q : zR → Prop} {f : Nat → Nat} (hf : ∀ i, i < 5 → f i ≤ 48) (hh : ∀ i, i < 5 → h 5 i = (1, ((f i : Nat) : Int))) (k : Q (h, some (1, ((min mst (Bp f 5) : Nat) : Int)))) : vP D T N 193 0 h [some (2, 5), none, none, none, none, none, none, none] [] Q := by
  refine vP_hv (fun hv => qw_wl0_1 hT hO hv ?_)
  exact cw_out_1 hT hO hf hh k 5 0 N none none none rfl (Nat.le_of_ble_eq_true rfl)
end TW_1
section TW_2
variable {D : zD} {T : zT} {h : zH}
theorem cw_in_2 (hT : hTab T) (hO : vOK T) {Q : zR → Prop} {B s i m F : Nat} (hi : i < 5) (hm : m ≤ 48) (hs : s + m ≤ 240) (hF : B * bn (s + m) m ≤ F) (big : mst < F → Q (h, some (1, ((mst : Nat) : Int)))) (k : ∀ N : Nat, B * bn (s + m) m ≤ mst → vP D T N 193 7 h [some (2, 7), some (1, ((B * bn (s + m) m : Nat) : Int)), none, some (0, ((s + m : Nat) : Int)), some (0, ((i + 1 : Nat) : Int)), some (1, (m : Int)), none, some (0, ((m + 1 : Nat) : Int))] [] Q) : ∀ (r j N : Nat), j + r = m → B * bn (s + j) j ≤ mst → vP D T N 193 35 h [some (2, 7), some (1, ((B * bn (s + j) j : Nat) : Int)), none, some (0, ((s + j : Nat) : Int)), some (0, (i : Int)), some (1, (m : Int)), none, some (0, ((j + 1 : Nat) : Int))] [] Q
  | 0, j, N, hj, hv => by
    have hj : j = m := hj
    subst hj
    have k := k N hv
    rw [show ((i + 1 : Nat) : Int) = (i : Int) + 1 from by omega] at k
    exact vP_dn (vP_hv (fun hv2 => qw_wl35e_2 hT hO _ hv2 hi (by omega) k))
  | r + 1, j, N, hj, hv => by
    have e := bn_divB B s j
    have mono : B * bn (s + (j + 1)) (j + 1) ≤ B * bn (s + m) m := Nat.mul_le_mul_left B (bn_mono s (by omega))
    have ei : ((B * bn (s + j) j : Nat) : Int) * (((s + j : Nat) : Int) + 1) / ((j + 1 : Nat) : Int) = ((B * bn (s + (j + 1)) (j + 1) : Nat) : Int) := by
      rw [← e, show ((s + j : Nat) : Int) + 1 = ((s + (j + 1) : Nat) : Int) from by omega, ← Int.natCast_mul]
      rfl
    have hv1 : B * bn (s + j) j ≤ 999999999999 := hv
    have pb : B * bn (s + j) j * (s + (j + 1)) ≤ 999999999999 * 240 := Nat.mul_le_mul hv1 (by omega)
    have pi : ((B * bn (s + j) j : Nat) : Int) * (((s + j : Nat) : Int) + 1) = ((B * bn (s + j) j * (s + (j + 1)) : Nat) : Int) := by
      rw [show ((s + j : Nat) : Int) + 1 = ((s + (j + 1) : Nat) : Int) from by omega, ← Int.natCast_mul]
    refine vP_dn (vP_hv (fun hv2 => qw_wl35_2 hT hO _ hv2 (by omega) ⟨by omega, by omega⟩ ⟨by omega, by omega⟩ (by rw [pi]; omega) (by omega) (fun _ c => ?_) (fun _ c => ?_)))
    · rw [ei] at c
      exact big (by unfold mst; omega)
    · rw [ei] at c ⊢
      rw [show ((s + j : Nat) : Int) + 1 = ((s + (j + 1) : Nat) : Int) from by omega, show ((j + 1 : Nat) : Int) + 1 = ((j + 1 + 1 : Nat) : Int) from by omega]
      exact cw_in_2 hT hO hi hm hs hF big k r (j + 1) N (by omega) (by unfold mst; omega)
theorem cw_out_2 (hT : hTab T) (hO : vOK T) {Q : zR → Prop} {f : Nat → Nat} (hf : ∀ i, i < 5 → f i ≤ 48) (hh : ∀ i, i < 5 → h 7 i = (1, ((f i : Nat) : Int))) (k : Q (h, some (1, ((min mst (Bp f 5) : Nat) : Int)))) : ∀ (r i N : Nat) (o5 o6 o7 : Option zV), i + r = 5 → Bp f i ≤ mst → vP D T N 193 7 h [some (2, 7), some (1, ((Bp f i : Nat) : Int)), none, some (0, ((Sm f i : Nat) : Int)), some (0, (i : Int)), o5, o6, o7] [] Q
  | 0, i, N, o5, o6, o7, hi, hv => by
    have hi : i = 5 := hi
    subst hi
    rw [show min mst (Bp f 5) = Bp f 5 from by omega] at k
    exact vP_dn (vP_hv (fun hv2 => qw_wl7e_2 hT hO _ o5 o6 o7 hv2 k))
  | r + 1, i, N, o5, o6, o7, hi, hv => by
    have h5 : i < 5 := by omega
    have hm := hf i h5
    have sl := Sm_le f hf i (by omega)
    have bl := Bp_le f (i := i + 1) r
    rw [show i + 1 + r = 5 from by omega] at bl
    refine vP_dn (vP_hv (fun hv2 => qw_wl7_2 hT hO _ o5 o6 o7 hv2 (by omega) (hh i h5) hm (fun _ _ => ?_)))
    rw [if_neg (show ¬ (48 : Int) < ((f i : Nat) : Int) from by omega)]
    have e0 : Bp f i * bn (Sm f i + 0) 0 = Bp f i := by rw [bn_0, Nat.mul_one]
    have go := cw_in_2 (h := h) (Q := Q) (B := Bp f i) (s := Sm f i) (i := i) (m := f i) (F := Bp f 5) hT hO h5 hm (by omega) bl (fun c => by
      rw [show min mst (Bp f 5) = mst from by omega] at k
      exact k) (fun N c => cw_out_2 hT hO hf hh k r (i + 1) N _ _ _ (by omega) c) (f i) 0 N (Nat.zero_add _) (by rw [e0]; exact hv)
    rw [e0] at go
    exact go
theorem cw_wl_2 {N : Nat} (hT : hTab T) (hO : vOK T) {Q : zR → Prop} {f : Nat → Nat} (hf : ∀ i, i < 5 → f i ≤ 48) (hh : ∀ i, i < 5 → h 7 i = (1, ((f i : Nat) : Int))) (k : Q (h, some (1, ((min mst (Bp f 5) : Nat) : Int)))) : vP D T N 193 0 h [some (2, 7), none, none, none, none, none, none, none] [] Q := by
  refine vP_hv (fun hv => qw_wl0_2 hT hO hv ?_)
  exact cw_out_2 hT hO hf hh k 5 0 N none none none rfl (Nat.le_of_ble_eq_true rfl)
end TW_2
section TW_3
variable {D : zD} {T : zT} {h : zH}
theorem cw_in_3 (hT : hTab T) (hO : vOK T) {Q : zR → Prop} {B s i m F : Nat} (hi : i < 5) (hm : m ≤ 48) (hs : s + m ≤ 240) (hF : B * bn (s + m) m ≤ F) (big : mst < F → Q (h, some (1, ((mst : Nat) : Int)))) (k : ∀ N : Nat, B * bn (s + m) m ≤ mst → vP D T N 193 7 h [some (2, 9), some (1, ((B * bn (s + m) m : Nat) : Int)), none, some (0, ((s + m : Nat) : Int)), some (0, ((i + 1 : Nat) : Int)), some (1, (m : Int)), none, some (0, ((m + 1 : Nat) : Int))] [] Q) : ∀ (r j N : Nat), j + r = m → B * bn (s + j) j ≤ mst → vP D T N 193 35 h [some (2, 9), some (1, ((B * bn (s + j) j : Nat) : Int)), none, some (0, ((s + j : Nat) : Int)), some (0, (i : Int)), some (1, (m : Int)), none, some (0, ((j + 1 : Nat) : Int))] [] Q
  | 0, j, N, hj, hv => by
    have hj : j = m := hj
    subst hj
    have k := k N hv
    rw [show ((i + 1 : Nat) : Int) = (i : Int) + 1 from by omega] at k
    exact vP_dn (vP_hv (fun hv2 => qw_wl35e_3 hT hO _ hv2 hi (by omega) k))
  | r + 1, j, N, hj, hv => by
    have e := bn_divB B s j
    have mono : B * bn (s + (j + 1)) (j + 1) ≤ B * bn (s + m) m := Nat.mul_le_mul_left B (bn_mono s (by omega))
    have ei : ((B * bn (s + j) j : Nat) : Int) * (((s + j : Nat) : Int) + 1) / ((j + 1 : Nat) : Int) = ((B * bn (s + (j + 1)) (j + 1) : Nat) : Int) := by
      rw [← e, show ((s + j : Nat) : Int) + 1 = ((s + (j + 1) : Nat) : Int) from by omega, ← Int.natCast_mul]
      rfl
    have hv1 : B * bn (s + j) j ≤ 999999999999 := hv
    have pb : B * bn (s + j) j * (s + (j + 1)) ≤ 999999999999 * 240 := Nat.mul_le_mul hv1 (by omega)
    have pi : ((B * bn (s + j) j : Nat) : Int) * (((s + j : Nat) : Int) + 1) = ((B * bn (s + j) j * (s + (j + 1)) : Nat) : Int) := by
      rw [show ((s + j : Nat) : Int) + 1 = ((s + (j + 1) : Nat) : Int) from by omega, ← Int.natCast_mul]
    refine vP_dn (vP_hv (fun hv2 => qw_wl35_3 hT hO _ hv2 (by omega) ⟨by omega, by omega⟩ ⟨by omega, by omega⟩ (by rw [pi]; omega) (by omega) (fun _ c => ?_) (fun _ c => ?_)))
    · rw [ei] at c
      exact big (by unfold mst; omega)
    · rw [ei] at c ⊢
      rw [show ((s + j : Nat) : Int) + 1 = ((s + (j + 1) : Nat) : Int) from by omega, show ((j + 1 : Nat) : Int) + 1 = ((j + 1 + 1 : Nat) : Int) from by omega]
      exact cw_in_3 hT hO hi hm hs hF big k r (j + 1) N (by omega) (by unfold mst; omega)
theorem cw_out_3 (hT : hTab T) (hO : vOK T) {Q : zR → Prop} {f : Nat → Nat} (hf : ∀ i, i < 5 → f i ≤ 48) (hh : ∀ i, i < 5 → h 9 i = (1, ((f i : Nat) : Int))) (k : Q (h, some (1, ((min mst (Bp f 5) : Nat) : Int)))) : ∀ (r i N : Nat) (o5 o6 o7 : Option zV), i + r = 5 → Bp f i ≤ mst → vP D T N 193 7 h [some (2, 9), some (1, ((Bp f i : Nat) : Int)), none, some (0, ((Sm f i : Nat) : Int)), some (0, (i : Int)), o5, o6, o7] [] Q
  | 0, i, N, o5, o6, o7, hi, hv => by
    have hi : i = 5 := hi
    subst hi
    rw [show min mst (Bp f 5) = Bp f 5 from by omega] at k
    exact vP_dn (vP_hv (fun hv2 => qw_wl7e_3 hT hO _ o5 o6 o7 hv2 k))
  | r + 1, i, N, o5, o6, o7, hi, hv => by
    have h5 : i < 5 := by omega
    have hm := hf i h5
    have sl := Sm_le f hf i (by omega)
    have bl := Bp_le f (i := i + 1) r
    rw [show i + 1 + r = 5 from by omega] at bl
    refine vP_dn (vP_hv (fun hv2 => qw_wl7_3 hT hO _ o5 o6 o7 hv2 (by omega) (hh i h5) hm (fun _ _ => ?_)))
    rw [if_neg (show ¬ (48 : Int) < ((f i : Nat) : Int) from by omega)]
    have e0 : Bp f i * bn (Sm f i + 0) 0 = Bp f i := by rw [bn_0, Nat.mul_one]
    have go := cw_in_3 (h := h) (Q := Q) (B := Bp f i) (s := Sm f i) (i := i) (m := f i) (F := Bp f 5) hT hO h5 hm (by omega) bl (fun c => by
      rw [show min mst (Bp f 5) = mst from by omega] at k
      exact k) (fun N c => cw_out_3 hT hO hf hh k r (i + 1) N _ _ _ (by omega) c) (f i) 0 N (Nat.zero_add _) (by rw [e0]; exact hv)
    rw [e0] at go
    exact go
theorem cw_wl_3 {N : Nat} (hT : hTab T) (hO : vOK T) {Q : zR → Prop} {f : Nat → Nat} (hf : ∀ i, i < 5 → f i ≤ 48) (hh : ∀ i, i < 5 → h 9 i = (1, ((f i : Nat) : Int))) (k : Q (h, some (1, ((min mst (Bp f 5) : Nat) : Int)))) : vP D T N 193 0 h [some (2, 9), none, none, none, none, none, none, none] [] Q := by
  refine vP_hv (fun hv => qw_wl0_3 hT hO hv ?_)
  exact cw_out_3 hT hO hf hh k 5 0 N none none none rfl (Nat.le_of_ble_eq_true rfl)
end TW_3
theorem qt_td0_24 {D : zD} {T : zT} (hT : hTab T) (hO : vOK T) {N : Nat} {h : zH} {Q : zR → Prop} {P : PT} (x y : Int) (hv0 : zHv h) (e7 : h 0 7 = (2, 24)) (p0 : h 24 0 = (0, P 0 0)) (p1 : h 24 1 = (0, P 0 1)) (p2 : h 24 2 = (0, P 0 2)) (p3 : h 24 3 = (0, P 0 3)) (lb : (0 ≤ P 0 0 ∧ P 0 0 ≤ 8) ∧ (0 ≤ P 0 1 ∧ P 0 1 ≤ 6) ∧ (0 ≤ P 0 2 ∧ P 0 2 ≤ 3) ∧ (0 ≤ P 0 3 ∧ P 0 3 ≤ 6))
    (k0 : (y < 0) → Q (zset h 0 0 (0, 1), some (1, -1)))
    (k1 : (0 ≤ y) → (y < 4) → (x < 0) → Q (zset h 0 0 (0, 2), some (1, -1)))
    (k2 : (0 ≤ y) → (y < 4) → (0 ≤ x) → (x < (P 0 2)) → vP D T N 186 32 h [some (2, 0), some (0, x), some (0, y), none, none, none, none] [] Q)
    (k3 : (0 ≤ y) → (y < 4) → (0 ≤ x) → ((P 0 2) ≤ x) → Q (zset h 0 0 (0, 2), some (1, -1)))
    (k4 : (0 ≤ y) → (4 ≤ y) → Q (zset h 0 0 (0, 1), some (1, -1))) :
    vP D T N 186 0 h [some (2, 0), some (0, x), some (0, y), none, none, none, none] [] Q := by
  refine v_load (v := (0, y)) (hT _ zt_X11_told rfl _ _ rfl) rfl rfl ?_
  refine v_call (w := 1) [some (0, y)] hO (hT _ zt_X11_told rfl _ _ rfl) rfl rfl ?_
  refine v_load (v := (0, y)) (hT _ zt_X11_isTray rfl _ _ rfl) rfl rfl ?_
  refine v_if (hT _ zt_X11_isTray rfl _ _ rfl) (fun hc1 => ?_) (fun hc1 => ?_)
  · have hc1 : y < 0 := hc1
    refine v_push (0) (hT _ zt_X11_isTray rfl _ _ rfl) rfl ?_
    refine v_ret (hT _ zt_X11_isTray rfl _ _ rfl) (Or.inl rfl) ?_
    show vP D T N 186 4 h [some (2, 0), some (0, x), some (0, y), none, none, none, none] [(0, 0)] _
    refine v_if (hT _ zt_X11_told rfl _ _ rfl) (fun _ => ?_) (fun hc2 => absurd (show (0 : Int) = 0 from (by omega)) hc2)
    refine v_load (v := (2, 0)) (hT _ zt_X11_told rfl _ _ rfl) rfl rfl ?_
    refine v_push (1) (hT _ zt_X11_told rfl _ _ rfl) rfl ?_
    refine v_call (w := 2) [some (2, 0), some (0, 1)] hO (hT _ zt_X11_told rfl _ _ rfl) rfl rfl ?_
    refine v_load (v := (2, 0)) (hT _ zt_X11_refused rfl _ _ rfl) rfl rfl ?_
    refine v_load (v := (0, 1)) (hT _ zt_X11_refused rfl _ _ rfl) rfl rfl ?_
    refine v_putf (r := 0) hO (hT _ zt_X11_refused rfl _ _ rfl) rfl (fun hf3 => ?_)
    refine v_push (-1) (hT _ zt_X11_refused rfl _ _ rfl) rfl ?_
    refine v_ret (hT _ zt_X11_refused rfl _ _ rfl) (Or.inl rfl) ?_
    show vP D T N 186 12 (zset h 0 0 (0, 1)) [some (2, 0), some (0, x), some (0, y), none, none, none, none] [(0, -1)] _
    refine v_i2l (hT _ zt_X11_told rfl _ _ rfl) ?_
    refine v_ret (hT _ zt_X11_told rfl _ _ rfl) (Or.inr rfl) ?_
    exact k0 hc1
  · have hc1 : 0 ≤ y := Int.not_lt.mp hc1
    refine v_load (v := (0, y)) (hT _ zt_X11_isTray rfl _ _ rfl) rfl rfl ?_
    refine v_push (4) (hT _ zt_X11_isTray rfl _ _ rfl) rfl ?_
    refine v_ic (hT _ zt_X11_isTray rfl _ _ rfl) (fun hc4 => ?_) (fun hc4 => ?_)
    · have hc4 : y < 4 := hc4
      refine v_push (1) (hT _ zt_X11_isTray rfl _ _ rfl) rfl ?_
      refine v_goto (hT _ zt_X11_isTray rfl _ _ rfl) ?_
      refine v_ret (hT _ zt_X11_isTray rfl _ _ rfl) (Or.inl rfl) ?_
      show vP D T N 186 4 h [some (2, 0), some (0, x), some (0, y), none, none, none, none] [(0, 1)] _
      refine v_if (hT _ zt_X11_told rfl _ _ rfl) (fun hc5 => absurd (show (1 : Int) = 0 from hc5) (by omega)) (fun _ => ?_)
      refine v_load (v := (2, 0)) (hT _ zt_X11_told rfl _ _ rfl) rfl rfl ?_
      refine v_getf (v := (2, 24)) (r := 0) (hT _ zt_X11_told rfl _ _ rfl) rfl rfl (fun _ => e7) ?_
      refine v_load (v := (0, x)) (hT _ zt_X11_told rfl _ _ rfl) rfl rfl ?_
      refine v_call (w := 2) [some (2, 24), some (0, x)] hO (hT _ zt_X11_told rfl _ _ rfl) rfl rfl ?_
      refine v_load (v := (0, x)) (hT _ zt_X2_hasCopy rfl _ _ rfl) rfl rfl ?_
      refine v_if (hT _ zt_X2_hasCopy rfl _ _ rfl) (fun hc6 => ?_) (fun hc6 => ?_)
      · have hc6 : x < 0 := hc6
        refine v_push (0) (hT _ zt_X2_hasCopy rfl _ _ rfl) rfl ?_
        refine v_ret (hT _ zt_X2_hasCopy rfl _ _ rfl) (Or.inl rfl) ?_
        show vP D T N 186 22 h [some (2, 0), some (0, x), some (0, y), none, none, none, none] [(0, 0)] _
        refine v_if (hT _ zt_X11_told rfl _ _ rfl) (fun _ => ?_) (fun hc7 => absurd (show (0 : Int) = 0 from (by omega)) hc7)
        refine v_load (v := (2, 0)) (hT _ zt_X11_told rfl _ _ rfl) rfl rfl ?_
        refine v_push (2) (hT _ zt_X11_told rfl _ _ rfl) rfl ?_
        refine v_call (w := 2) [some (2, 0), some (0, 2)] hO (hT _ zt_X11_told rfl _ _ rfl) rfl rfl ?_
        refine v_load (v := (2, 0)) (hT _ zt_X11_refused rfl _ _ rfl) rfl rfl ?_
        refine v_load (v := (0, 2)) (hT _ zt_X11_refused rfl _ _ rfl) rfl rfl ?_
        refine v_putf (r := 0) hO (hT _ zt_X11_refused rfl _ _ rfl) rfl (fun hf8 => ?_)
        refine v_push (-1) (hT _ zt_X11_refused rfl _ _ rfl) rfl ?_
        refine v_ret (hT _ zt_X11_refused rfl _ _ rfl) (Or.inl rfl) ?_
        show vP D T N 186 30 (zset h 0 0 (0, 2)) [some (2, 0), some (0, x), some (0, y), none, none, none, none] [(0, -1)] _
        refine v_i2l (hT _ zt_X11_told rfl _ _ rfl) ?_
        refine v_ret (hT _ zt_X11_told rfl _ _ rfl) (Or.inr rfl) ?_
        exact k1 hc1 hc4 hc6
      · have hc6 : 0 ≤ x := Int.not_lt.mp hc6
        refine v_load (v := (0, x)) (hT _ zt_X2_hasCopy rfl _ _ rfl) rfl rfl ?_
        refine v_load (v := (2, 24)) (hT _ zt_X2_hasCopy rfl _ _ rfl) rfl rfl ?_
        refine v_getf (v := (0, (P 0 2))) (r := 24) (hT _ zt_X2_hasCopy rfl _ _ rfl) rfl rfl (fun _ => p2) ?_
        refine v_ic (hT _ zt_X2_hasCopy rfl _ _ rfl) (fun hc9 => ?_) (fun hc9 => ?_)
        · have hc9 : x < (P 0 2) := hc9
          refine v_push (1) (hT _ zt_X2_hasCopy rfl _ _ rfl) rfl ?_
          refine v_goto (hT _ zt_X2_hasCopy rfl _ _ rfl) ?_
          refine v_ret (hT _ zt_X2_hasCopy rfl _ _ rfl) (Or.inl rfl) ?_
          show vP D T N 186 22 h [some (2, 0), some (0, x), some (0, y), none, none, none, none] [(0, 1)] _
          refine v_if (hT _ zt_X11_told rfl _ _ rfl) (fun hc10 => absurd (show (1 : Int) = 0 from hc10) (by omega)) (fun _ => ?_)
          exact k2 hc1 hc4 hc6 hc9
        · have hc9 : (P 0 2) ≤ x := Int.not_lt.mp hc9
          refine v_push (0) (hT _ zt_X2_hasCopy rfl _ _ rfl) rfl ?_
          refine v_ret (hT _ zt_X2_hasCopy rfl _ _ rfl) (Or.inl rfl) ?_
          show vP D T N 186 22 h [some (2, 0), some (0, x), some (0, y), none, none, none, none] [(0, 0)] _
          refine v_if (hT _ zt_X11_told rfl _ _ rfl) (fun _ => ?_) (fun hc11 => absurd (show (0 : Int) = 0 from (by omega)) hc11)
          refine v_load (v := (2, 0)) (hT _ zt_X11_told rfl _ _ rfl) rfl rfl ?_
          refine v_push (2) (hT _ zt_X11_told rfl _ _ rfl) rfl ?_
          refine v_call (w := 2) [some (2, 0), some (0, 2)] hO (hT _ zt_X11_told rfl _ _ rfl) rfl rfl ?_
          refine v_load (v := (2, 0)) (hT _ zt_X11_refused rfl _ _ rfl) rfl rfl ?_
          refine v_load (v := (0, 2)) (hT _ zt_X11_refused rfl _ _ rfl) rfl rfl ?_
          refine v_putf (r := 0) hO (hT _ zt_X11_refused rfl _ _ rfl) rfl (fun hf12 => ?_)
          refine v_push (-1) (hT _ zt_X11_refused rfl _ _ rfl) rfl ?_
          refine v_ret (hT _ zt_X11_refused rfl _ _ rfl) (Or.inl rfl) ?_
          show vP D T N 186 30 (zset h 0 0 (0, 2)) [some (2, 0), some (0, x), some (0, y), none, none, none, none] [(0, -1)] _
          refine v_i2l (hT _ zt_X11_told rfl _ _ rfl) ?_
          refine v_ret (hT _ zt_X11_told rfl _ _ rfl) (Or.inr rfl) ?_
          exact k3 hc1 hc4 hc6 hc9
    · have hc4 : 4 ≤ y := Int.not_lt.mp hc4
      refine v_push (0) (hT _ zt_X11_isTray rfl _ _ rfl) rfl ?_
      refine v_ret (hT _ zt_X11_isTray rfl _ _ rfl) (Or.inl rfl) ?_
      show vP D T N 186 4 h [some (2, 0), some (0, x), some (0, y), none, none, none, none] [(0, 0)] _
      refine v_if (hT _ zt_X11_told rfl _ _ rfl) (fun _ => ?_) (fun hc13 => absurd (show (0 : Int) = 0 from (by omega)) hc13)
      refine v_load (v := (2, 0)) (hT _ zt_X11_told rfl _ _ rfl) rfl rfl ?_
      refine v_push (1) (hT _ zt_X11_told rfl _ _ rfl) rfl ?_
      refine v_call (w := 2) [some (2, 0), some (0, 1)] hO (hT _ zt_X11_told rfl _ _ rfl) rfl rfl ?_
      refine v_load (v := (2, 0)) (hT _ zt_X11_refused rfl _ _ rfl) rfl rfl ?_
      refine v_load (v := (0, 1)) (hT _ zt_X11_refused rfl _ _ rfl) rfl rfl ?_
      refine v_putf (r := 0) hO (hT _ zt_X11_refused rfl _ _ rfl) rfl (fun hf14 => ?_)
      refine v_push (-1) (hT _ zt_X11_refused rfl _ _ rfl) rfl ?_
      refine v_ret (hT _ zt_X11_refused rfl _ _ rfl) (Or.inl rfl) ?_
      show vP D T N 186 12 (zset h 0 0 (0, 1)) [some (2, 0), some (0, x), some (0, y), none, none, none, none] [(0, -1)] _
      refine v_i2l (hT _ zt_X11_told rfl _ _ rfl) ?_
      refine v_ret (hT _ zt_X11_told rfl _ _ rfl) (Or.inr rfl) ?_
      exact k4 hc1 hc4
theorem qt_td32_0 {D : zD} {T : zT} (hT : hTab T) (hO : vOK T) {N : Nat} {h : zH} {Q : zR → Prop} {j : Nat} (so ln : Int) (hv0 : zHv h) (z1 : h 2 1 = (0, so)) (z2 : h 2 2 = (0, ln))
    (k0 : (so = -1) → Q (zset h 0 0 (0, 3), some (1, -1)))
    (k1 : (so ≠ -1) → (ln < 5) → Q (zset h 0 0 (0, 4), some (1, -1)))
    (k2 : (so ≠ -1) → (5 ≤ ln) → vP D T N 186 74 h [some (2, 0), some (0, (j : Int)), some (0, 0), some (2, 2), some (1, 0), none, some (0, 0)] [] Q) :
    vP D T N 186 32 h [some (2, 0), some (0, (j : Int)), some (0, 0), none, none, none, none] [] Q := by
  refine v_load (v := (2, 0)) (hT _ zt_X11_told rfl _ _ rfl) rfl rfl ?_
  refine v_getR (c := 1) (r := 0) (hT _ zt_X11_told rfl _ _ rfl) rfl rfl rfl ?_
  refine v_load (v := (0, 0)) (hT _ zt_X11_told rfl _ _ rfl) rfl rfl ?_
  refine v_aldV (v := (2, 2)) (r := 1) (hT _ zt_X11_told rfl _ _ rfl) rfl rfl (fun hv _ _ => hv.ref rfl) (fun ha1 hb2 => ?_)
  refine v_store1 [some (2, 0), some (0, (j : Int)), some (0, 0), some (2, 2), none, none, none] (hT _ zt_X11_told rfl _ _ rfl) ⟨rfl, Nat.ne_of_beq_eq_false rfl⟩ (Nat.le_of_ble_eq_true rfl) rfl ?_
  refine v_load (v := (2, 2)) (hT _ zt_X11_told rfl _ _ rfl) rfl rfl ?_
  refine v_call (w := 1) [some (2, 2)] hO (hT _ zt_X11_told rfl _ _ rfl) rfl rfl ?_
  refine v_load (v := (2, 2)) (hT _ zt_X9_isMissing rfl _ _ rfl) rfl rfl ?_
  refine v_getf (v := (0, so)) (r := 2) (hT _ zt_X9_isMissing rfl _ _ rfl) rfl rfl (fun _ => z1) ?_
  refine v_push (-1) (hT _ zt_X9_isMissing rfl _ _ rfl) rfl ?_
  refine v_ic (hT _ zt_X9_isMissing rfl _ _ rfl) (fun hc3 => ?_) (fun hc3 => ?_)
  · have hc3 : so = -1 := hc3
    refine v_push (1) (hT _ zt_X9_isMissing rfl _ _ rfl) rfl ?_
    refine v_goto (hT _ zt_X9_isMissing rfl _ _ rfl) ?_
    refine v_ret (hT _ zt_X9_isMissing rfl _ _ rfl) (Or.inl rfl) ?_
    show vP D T N 186 43 h [some (2, 0), some (0, (j : Int)), some (0, 0), some (2, 2), none, none, none] [(0, 1)] _
    refine v_if (hT _ zt_X11_told rfl _ _ rfl) (fun hc4 => absurd (show (1 : Int) = 0 from hc4) (by omega)) (fun _ => ?_)
    refine v_load (v := (2, 0)) (hT _ zt_X11_told rfl _ _ rfl) rfl rfl ?_
    refine v_push (3) (hT _ zt_X11_told rfl _ _ rfl) rfl ?_
    refine v_call (w := 2) [some (2, 0), some (0, 3)] hO (hT _ zt_X11_told rfl _ _ rfl) rfl rfl ?_
    refine v_load (v := (2, 0)) (hT _ zt_X11_refused rfl _ _ rfl) rfl rfl ?_
    refine v_load (v := (0, 3)) (hT _ zt_X11_refused rfl _ _ rfl) rfl rfl ?_
    refine v_putf (r := 0) hO (hT _ zt_X11_refused rfl _ _ rfl) rfl (fun hf5 => ?_)
    refine v_push (-1) (hT _ zt_X11_refused rfl _ _ rfl) rfl ?_
    refine v_ret (hT _ zt_X11_refused rfl _ _ rfl) (Or.inl rfl) ?_
    show vP D T N 186 51 (zset h 0 0 (0, 3)) [some (2, 0), some (0, (j : Int)), some (0, 0), some (2, 2), none, none, none] [(0, -1)] _
    refine v_i2l (hT _ zt_X11_told rfl _ _ rfl) ?_
    refine v_ret (hT _ zt_X11_told rfl _ _ rfl) (Or.inr rfl) ?_
    exact k0 hc3
  · have hc3 : so ≠ -1 := hc3
    refine v_push (0) (hT _ zt_X9_isMissing rfl _ _ rfl) rfl ?_
    refine v_ret (hT _ zt_X9_isMissing rfl _ _ rfl) (Or.inl rfl) ?_
    show vP D T N 186 43 h [some (2, 0), some (0, (j : Int)), some (0, 0), some (2, 2), none, none, none] [(0, 0)] _
    refine v_if (hT _ zt_X11_told rfl _ _ rfl) (fun _ => ?_) (fun hc6 => absurd (show (0 : Int) = 0 from (by omega)) hc6)
    refine v_load (v := (2, 2)) (hT _ zt_X11_told rfl _ _ rfl) rfl rfl ?_
    refine v_getf (v := (0, ln)) (r := 2) (hT _ zt_X11_told rfl _ _ rfl) rfl rfl (fun _ => z2) ?_
    refine v_push (5) (hT _ zt_X11_told rfl _ _ rfl) rfl ?_
    refine v_ic (hT _ zt_X11_told rfl _ _ rfl) (fun hc7 => ?_) (fun hc7 => ?_)
    · have hc7 : ln < 5 := hc7
      refine v_load (v := (2, 0)) (hT _ zt_X11_told rfl _ _ rfl) rfl rfl ?_
      refine v_push (4) (hT _ zt_X11_told rfl _ _ rfl) rfl ?_
      refine v_call (w := 2) [some (2, 0), some (0, 4)] hO (hT _ zt_X11_told rfl _ _ rfl) rfl rfl ?_
      refine v_load (v := (2, 0)) (hT _ zt_X11_refused rfl _ _ rfl) rfl rfl ?_
      refine v_load (v := (0, 4)) (hT _ zt_X11_refused rfl _ _ rfl) rfl rfl ?_
      refine v_putf (r := 0) hO (hT _ zt_X11_refused rfl _ _ rfl) rfl (fun hf8 => ?_)
      refine v_push (-1) (hT _ zt_X11_refused rfl _ _ rfl) rfl ?_
      refine v_ret (hT _ zt_X11_refused rfl _ _ rfl) (Or.inl rfl) ?_
      show vP D T N 186 66 (zset h 0 0 (0, 4)) [some (2, 0), some (0, (j : Int)), some (0, 0), some (2, 2), none, none, none] [(0, -1)] _
      refine v_i2l (hT _ zt_X11_told rfl _ _ rfl) ?_
      refine v_ret (hT _ zt_X11_told rfl _ _ rfl) (Or.inr rfl) ?_
      exact k1 hc3 hc7
    · have hc7 : 5 ≤ ln := Int.not_lt.mp hc7
      refine v_push (0) (hT _ zt_X11_told rfl _ _ rfl) rfl ?_
      refine v_store2 [some (2, 0), some (0, (j : Int)), some (0, 0), some (2, 2), some (1, 0), none, none] (hT _ zt_X11_told rfl _ _ rfl) (Nat.le_of_ble_eq_true rfl) rfl ?_
      refine v_push (0) (hT _ zt_X11_told rfl _ _ rfl) rfl ?_
      refine v_store1 [some (2, 0), some (0, (j : Int)), some (0, 0), some (2, 2), some (1, 0), none, some (0, 0)] (hT _ zt_X11_told rfl _ _ rfl) ⟨rfl, Nat.ne_of_beq_eq_false rfl⟩ (Nat.le_of_ble_eq_true rfl) rfl ?_
      exact k2 hc3 hc7
theorem qt_td74_0 {D : zD} {T : zT} (hT : hTab T) (hO : vOK T) {N : Nat} {h : zH} {Q : zR → Prop} {j s i : Nat} (w : Int) (hv0 : zHv h) (hi : (i : Int) < 5) (hs : s ≤ 240) (zi : h 3 i = (1, w))
    (k0 : (0 ≤ (i : Int)) → ((i : Int) < 60) → (w < 0) → Q (zset h 0 0 (0, 5), some (1, -1)))
    (k1 : (0 ≤ (i : Int)) → ((i : Int) < 60) → (0 ≤ w) → (48 < w) → Q (zset h 0 0 (0, 5), some (1, -1)))
    (k2 : (0 ≤ (i : Int)) → ((i : Int) < 60) → (0 ≤ w) → (w ≤ 48) → vP D T N 186 74 h [some (2, 0), some (0, (j : Int)), some (0, 0), some (2, 2), some (1, ((s : Int) + w)), none, some (0, ((i : Int) + 1))] [] Q) :
    vP D T (N + 1) 186 74 h [some (2, 0), some (0, (j : Int)), some (0, 0), some (2, 2), some (1, (s : Int)), none, some (0, (i : Int))] [] Q := by
  refine v_loadS (v := (0, (i : Int))) (hT _ zt_X11_told rfl _ _ rfl) rfl rfl ?_
  refine v_push (5) (hT _ zt_X11_told rfl _ _ rfl) rfl ?_
  refine v_ic (hT _ zt_X11_told rfl _ _ rfl) (fun _ => ?_) (fun hc1 => absurd (show (i : Int) < 5 from hi) hc1)
  refine v_load (v := (2, 2)) (hT _ zt_X11_told rfl _ _ rfl) rfl rfl ?_
  refine v_getR (c := 3) (r := 2) (hT _ zt_X11_told rfl _ _ rfl) rfl rfl rfl ?_
  refine v_load (v := (0, (i : Int))) (hT _ zt_X11_told rfl _ _ rfl) rfl rfl ?_
  refine v_aldB (t := 1) (r := 3) (w := w) (hT _ zt_X11_told rfl _ _ rfl) rfl rfl rfl (fun _ _ => (congrArg Prod.snd zi)) (fun ha2 hb3 => ?_)
  refine v_push (0) (hT _ zt_X11_told rfl _ _ rfl) rfl ?_
  refine v_lif (hT _ zt_X11_told rfl _ _ rfl) (hT _ zt_X11_told rfl _ _ rfl) (fun hc4 => ?_) (fun hc4 => ?_)
  · have hc4 : w < 0 := hc4
    refine v_load (v := (2, 0)) (hT _ zt_X11_told rfl _ _ rfl) rfl rfl ?_
    refine v_push (5) (hT _ zt_X11_told rfl _ _ rfl) rfl ?_
    refine v_call (w := 2) [some (2, 0), some (0, 5)] hO (hT _ zt_X11_told rfl _ _ rfl) rfl rfl ?_
    refine v_load (v := (2, 0)) (hT _ zt_X11_refused rfl _ _ rfl) rfl rfl ?_
    refine v_load (v := (0, 5)) (hT _ zt_X11_refused rfl _ _ rfl) rfl rfl ?_
    refine v_putf (r := 0) hO (hT _ zt_X11_refused rfl _ _ rfl) rfl (fun hf5 => ?_)
    refine v_push (-1) (hT _ zt_X11_refused rfl _ _ rfl) rfl ?_
    refine v_ret (hT _ zt_X11_refused rfl _ _ rfl) (Or.inl rfl) ?_
    show vP D T N 186 111 (zset h 0 0 (0, 5)) [some (2, 0), some (0, (j : Int)), some (0, 0), some (2, 2), some (1, (s : Int)), none, some (0, (i : Int))] [(0, -1)] _
    refine v_i2l (hT _ zt_X11_told rfl _ _ rfl) ?_
    refine v_ret (hT _ zt_X11_told rfl _ _ rfl) (Or.inr rfl) ?_
    exact k0 ha2 hb3 hc4
  · have hc4 : 0 ≤ w := Int.not_lt.mp hc4
    refine v_load (v := (2, 2)) (hT _ zt_X11_told rfl _ _ rfl) rfl rfl ?_
    refine v_getR (c := 3) (r := 2) (hT _ zt_X11_told rfl _ _ rfl) rfl rfl rfl ?_
    refine v_load (v := (0, (i : Int))) (hT _ zt_X11_told rfl _ _ rfl) rfl rfl ?_
    refine v_aldB (t := 1) (r := 3) (w := w) (hT _ zt_X11_told rfl _ _ rfl) rfl rfl rfl (fun _ _ => (congrArg Prod.snd zi)) (fun ha6 hb7 => ?_)
    refine v_push (48) (hT _ zt_X11_told rfl _ _ rfl) rfl ?_
    refine v_lif (hT _ zt_X11_told rfl _ _ rfl) (hT _ zt_X11_told rfl _ _ rfl) (fun hc8 => ?_) (fun hc8 => ?_)
    · have hc8 : 48 < w := hc8
      refine v_load (v := (2, 0)) (hT _ zt_X11_told rfl _ _ rfl) rfl rfl ?_
      refine v_push (5) (hT _ zt_X11_told rfl _ _ rfl) rfl ?_
      refine v_call (w := 2) [some (2, 0), some (0, 5)] hO (hT _ zt_X11_told rfl _ _ rfl) rfl rfl ?_
      refine v_load (v := (2, 0)) (hT _ zt_X11_refused rfl _ _ rfl) rfl rfl ?_
      refine v_load (v := (0, 5)) (hT _ zt_X11_refused rfl _ _ rfl) rfl rfl ?_
      refine v_putf (r := 0) hO (hT _ zt_X11_refused rfl _ _ rfl) rfl (fun hf9 => ?_)
      refine v_push (-1) (hT _ zt_X11_refused rfl _ _ rfl) rfl ?_
      refine v_ret (hT _ zt_X11_refused rfl _ _ rfl) (Or.inl rfl) ?_
      show vP D T N 186 111 (zset h 0 0 (0, 5)) [some (2, 0), some (0, (j : Int)), some (0, 0), some (2, 2), some (1, (s : Int)), none, some (0, (i : Int))] [(0, -1)] _
      refine v_i2l (hT _ zt_X11_told rfl _ _ rfl) ?_
      refine v_ret (hT _ zt_X11_told rfl _ _ rfl) (Or.inr rfl) ?_
      exact k1 ha2 hb3 hc4 hc8
    · have hc8 : w ≤ 48 := Int.not_lt.mp hc8
      refine v_load (v := (1, (s : Int))) (hT _ zt_X11_told rfl _ _ rfl) rfl rfl ?_
      refine v_load (v := (2, 2)) (hT _ zt_X11_told rfl _ _ rfl) rfl rfl ?_
      refine v_getR (c := 3) (r := 2) (hT _ zt_X11_told rfl _ _ rfl) rfl rfl rfl ?_
      refine v_load (v := (0, (i : Int))) (hT _ zt_X11_told rfl _ _ rfl) rfl rfl ?_
      refine v_aldB (t := 1) (r := 3) (w := w) (hT _ zt_X11_told rfl _ _ rfl) rfl rfl rfl (fun _ _ => (congrArg Prod.snd zi)) (fun ha10 hb11 => ?_)
      refine v_bin64 (w := ((s : Int) + w)) (hT _ zt_X11_told rfl _ _ rfl) (vz_addL (by omega) (by omega)) ?_
      refine v_store2 [some (2, 0), some (0, (j : Int)), some (0, 0), some (2, 2), some (1, ((s : Int) + w)), none, some (0, (i : Int))] (hT _ zt_X11_told rfl _ _ rfl) (Nat.le_of_ble_eq_true rfl) rfl ?_
      refine v_iinc (x := (i : Int)) (u := 1) (w := ((i : Int) + 1)) [some (2, 0), some (0, (j : Int)), some (0, 0), some (2, 2), some (1, ((s : Int) + w)), none, some (0, ((i : Int) + 1))] (hT _ zt_X11_told rfl _ _ rfl) rfl rfl (Nat.le_of_ble_eq_true rfl) (vz_inc (by omega) (by omega)) rfl ?_
      refine v_goto (hT _ zt_X11_told rfl _ _ rfl) ?_
      exact k2 ha2 hb3 hc4 hc8
theorem qt_td147_0 {D : zD} {T : zT} (hT : hTab T) (hO : vOK T) {N : Nat} {h : zH} {Q : zR → Prop} {j s : Nat} (z : Int) (hv0 : zHv h)
    (k0 : vP D T N 2 0 h [some (1, z), none] [] (fun r1 => vP D T N 186 150 r1.1 [some (2, 0), some (0, (j : Int)), some (0, 0), some (2, 2), some (1, (s : Int)), none, some (0, 5)] (zpush r1.2 [(1, (s : Int))]) Q)) :
    vP D T N 186 147 h [some (2, 0), some (0, (j : Int)), some (0, 0), some (2, 2), some (1, (s : Int)), none, some (0, 5)] [(1, z), (1, (s : Int))] Q := by
  refine v_call (w := 2) [some (1, z), none] hO (hT _ zt_X11_told rfl _ _ rfl) rfl rfl ?_
  exact k0 
theorem qt_td150_0 {D : zD} {T : zT} (hT : hTab T) (hO : vOK T) {N : Nat} {h : zH} {Q : zR → Prop} {j s d : Nat} (hv0 : zHv h)
    (k0 : ((s : Int) = (d : Int)) → vP D T N 193 0 h [some (2, 3), none, none, none, none, none, none, none] [] (fun r1 => vP D T N 186 162 r1.1 [some (2, 0), some (0, (j : Int)), some (0, 0), some (2, 2), some (1, (s : Int)), none, some (0, 5)] (zpush r1.2 []) Q))
    (k1 : ((s : Int) ≠ (d : Int)) → Q (h, some (1, 0))) :
    vP D T N 186 150 h [some (2, 0), some (0, (j : Int)), some (0, 0), some (2, 2), some (1, (s : Int)), none, some (0, 5)] [(0, (d : Int)), (1, (s : Int))] Q := by
  refine v_i2l (hT _ zt_X11_told rfl _ _ rfl) ?_
  refine v_lif (hT _ zt_X11_told rfl _ _ rfl) (hT _ zt_X11_told rfl _ _ rfl) (fun hc1 => ?_) (fun hc1 => ?_)
  · have hc1 : (s : Int) = (d : Int) := hc1
    refine v_load (v := (2, 2)) (hT _ zt_X11_told rfl _ _ rfl) rfl rfl ?_
    refine v_getR (c := 3) (r := 2) (hT _ zt_X11_told rfl _ _ rfl) rfl rfl rfl ?_
    refine v_call (w := 8) [some (2, 3), none, none, none, none, none, none, none] hO (hT _ zt_X11_told rfl _ _ rfl) rfl rfl ?_
    exact k0 hc1
  · have hc1 : (s : Int) ≠ (d : Int) := hc1
    refine v_push (0) (hT _ zt_X11_told rfl _ _ rfl) rfl ?_
    refine v_ret (hT _ zt_X11_told rfl _ _ rfl) (Or.inr rfl) ?_
    exact k1 hc1
theorem qt_td162_0 {D : zD} {T : zT} (hT : hTab T) (hO : vOK T) {N : Nat} {h : zH} {Q : zR → Prop} {j s : Nat} (v : Int) (hv0 : zHv h)
    (k0 : Q (h, some (1, v))) :
    vP D T N 186 162 h [some (2, 0), some (0, (j : Int)), some (0, 0), some (2, 2), some (1, (s : Int)), none, some (0, 5)] [(1, v)] Q := by
  refine v_goto (hT _ zt_X11_told rfl _ _ rfl) ?_
  refine v_ret (hT _ zt_X11_told rfl _ _ rfl) (Or.inr rfl) ?_
  exact k0 
theorem qt_td74e_0_24 {D : zD} {T : zT} (hT : hTab T) (hO : vOK T) {N : Nat} {h : zH} {Q : zR → Prop} {j s : Nat} (hv0 : zHv h) (e7 : h 0 7 = (2, 24))
    (k0 : vP D T N 29 0 (zset h 0 0 (0, 0)) [some (2, 24), some (0, (j : Int)), some (0, 1), none, none, none] [] (fun r1 => vP D T N 186 147 r1.1 [some (2, 0), some (0, (j : Int)), some (0, 0), some (2, 2), some (1, (s : Int)), none, some (0, 5)] (zpush r1.2 [(1, (s : Int))]) Q)) :
    vP D T (N + 1) 186 74 h [some (2, 0), some (0, (j : Int)), some (0, 0), some (2, 2), some (1, (s : Int)), none, some (0, 5)] [] Q := by
  refine v_loadS (v := (0, 5)) (hT _ zt_X11_told rfl _ _ rfl) rfl rfl ?_
  refine v_push (5) (hT _ zt_X11_told rfl _ _ rfl) rfl ?_
  refine v_ic (hT _ zt_X11_told rfl _ _ rfl) (fun hc1 => absurd (show (5 : Int) < 5 from hc1) (by omega)) (fun _ => ?_)
  refine v_load (v := (2, 0)) (hT _ zt_X11_told rfl _ _ rfl) rfl rfl ?_
  refine v_push (0) (hT _ zt_X11_told rfl _ _ rfl) rfl ?_
  refine v_putf (r := 0) hO (hT _ zt_X11_told rfl _ _ rfl) rfl (fun hf2 => ?_)
  refine v_load (v := (1, (s : Int))) (hT _ zt_X11_told rfl _ _ rfl) rfl rfl ?_
  refine v_load (v := (2, 0)) (hT _ zt_X11_told rfl _ _ rfl) rfl rfl ?_
  refine v_getf (v := (2, 24)) (r := 0) (hT _ zt_X11_told rfl _ _ rfl) rfl rfl (fun _ => Eq.trans (zset_ne (fun c => absurd c.2 (by decide))) (e7)) ?_
  refine v_load (v := (0, (j : Int))) (hT _ zt_X11_told rfl _ _ rfl) rfl rfl ?_
  refine v_push (1) (hT _ zt_X11_told rfl _ _ rfl) rfl ?_
  refine v_call (w := 6) [some (2, 24), some (0, (j : Int)), some (0, 1), none, none, none] hO (hT _ zt_X11_told rfl _ _ rfl) rfl rfl ?_
  exact k0 
theorem qt_td32_1 {D : zD} {T : zT} (hT : hTab T) (hO : vOK T) {N : Nat} {h : zH} {Q : zR → Prop} {j : Nat} (so ln : Int) (hv0 : zHv h) (z1 : h 4 1 = (0, so)) (z2 : h 4 2 = (0, ln))
    (k0 : (so = -1) → Q (zset h 0 0 (0, 3), some (1, -1)))
    (k1 : (so ≠ -1) → (ln < 5) → Q (zset h 0 0 (0, 4), some (1, -1)))
    (k2 : (so ≠ -1) → (5 ≤ ln) → vP D T N 186 74 h [some (2, 0), some (0, (j : Int)), some (0, 1), some (2, 4), some (1, 0), none, some (0, 0)] [] Q) :
    vP D T N 186 32 h [some (2, 0), some (0, (j : Int)), some (0, 1), none, none, none, none] [] Q := by
  refine v_load (v := (2, 0)) (hT _ zt_X11_told rfl _ _ rfl) rfl rfl ?_
  refine v_getR (c := 1) (r := 0) (hT _ zt_X11_told rfl _ _ rfl) rfl rfl rfl ?_
  refine v_load (v := (0, 1)) (hT _ zt_X11_told rfl _ _ rfl) rfl rfl ?_
  refine v_aldV (v := (2, 4)) (r := 1) (hT _ zt_X11_told rfl _ _ rfl) rfl rfl (fun hv _ _ => hv.ref rfl) (fun ha1 hb2 => ?_)
  refine v_store1 [some (2, 0), some (0, (j : Int)), some (0, 1), some (2, 4), none, none, none] (hT _ zt_X11_told rfl _ _ rfl) ⟨rfl, Nat.ne_of_beq_eq_false rfl⟩ (Nat.le_of_ble_eq_true rfl) rfl ?_
  refine v_load (v := (2, 4)) (hT _ zt_X11_told rfl _ _ rfl) rfl rfl ?_
  refine v_call (w := 1) [some (2, 4)] hO (hT _ zt_X11_told rfl _ _ rfl) rfl rfl ?_
  refine v_load (v := (2, 4)) (hT _ zt_X9_isMissing rfl _ _ rfl) rfl rfl ?_
  refine v_getf (v := (0, so)) (r := 4) (hT _ zt_X9_isMissing rfl _ _ rfl) rfl rfl (fun _ => z1) ?_
  refine v_push (-1) (hT _ zt_X9_isMissing rfl _ _ rfl) rfl ?_
  refine v_ic (hT _ zt_X9_isMissing rfl _ _ rfl) (fun hc3 => ?_) (fun hc3 => ?_)
  · have hc3 : so = -1 := hc3
    refine v_push (1) (hT _ zt_X9_isMissing rfl _ _ rfl) rfl ?_
    refine v_goto (hT _ zt_X9_isMissing rfl _ _ rfl) ?_
    refine v_ret (hT _ zt_X9_isMissing rfl _ _ rfl) (Or.inl rfl) ?_
    show vP D T N 186 43 h [some (2, 0), some (0, (j : Int)), some (0, 1), some (2, 4), none, none, none] [(0, 1)] _
    refine v_if (hT _ zt_X11_told rfl _ _ rfl) (fun hc4 => absurd (show (1 : Int) = 0 from hc4) (by omega)) (fun _ => ?_)
    refine v_load (v := (2, 0)) (hT _ zt_X11_told rfl _ _ rfl) rfl rfl ?_
    refine v_push (3) (hT _ zt_X11_told rfl _ _ rfl) rfl ?_
    refine v_call (w := 2) [some (2, 0), some (0, 3)] hO (hT _ zt_X11_told rfl _ _ rfl) rfl rfl ?_
    refine v_load (v := (2, 0)) (hT _ zt_X11_refused rfl _ _ rfl) rfl rfl ?_
    refine v_load (v := (0, 3)) (hT _ zt_X11_refused rfl _ _ rfl) rfl rfl ?_
    refine v_putf (r := 0) hO (hT _ zt_X11_refused rfl _ _ rfl) rfl (fun hf5 => ?_)
    refine v_push (-1) (hT _ zt_X11_refused rfl _ _ rfl) rfl ?_
    refine v_ret (hT _ zt_X11_refused rfl _ _ rfl) (Or.inl rfl) ?_
    show vP D T N 186 51 (zset h 0 0 (0, 3)) [some (2, 0), some (0, (j : Int)), some (0, 1), some (2, 4), none, none, none] [(0, -1)] _
    refine v_i2l (hT _ zt_X11_told rfl _ _ rfl) ?_
    refine v_ret (hT _ zt_X11_told rfl _ _ rfl) (Or.inr rfl) ?_
    exact k0 hc3
  · have hc3 : so ≠ -1 := hc3
    refine v_push (0) (hT _ zt_X9_isMissing rfl _ _ rfl) rfl ?_
    refine v_ret (hT _ zt_X9_isMissing rfl _ _ rfl) (Or.inl rfl) ?_
    show vP D T N 186 43 h [some (2, 0), some (0, (j : Int)), some (0, 1), some (2, 4), none, none, none] [(0, 0)] _
    refine v_if (hT _ zt_X11_told rfl _ _ rfl) (fun _ => ?_) (fun hc6 => absurd (show (0 : Int) = 0 from (by omega)) hc6)
    refine v_load (v := (2, 4)) (hT _ zt_X11_told rfl _ _ rfl) rfl rfl ?_
    refine v_getf (v := (0, ln)) (r := 4) (hT _ zt_X11_told rfl _ _ rfl) rfl rfl (fun _ => z2) ?_
    refine v_push (5) (hT _ zt_X11_told rfl _ _ rfl) rfl ?_
    refine v_ic (hT _ zt_X11_told rfl _ _ rfl) (fun hc7 => ?_) (fun hc7 => ?_)
    · have hc7 : ln < 5 := hc7
      refine v_load (v := (2, 0)) (hT _ zt_X11_told rfl _ _ rfl) rfl rfl ?_
      refine v_push (4) (hT _ zt_X11_told rfl _ _ rfl) rfl ?_
      refine v_call (w := 2) [some (2, 0), some (0, 4)] hO (hT _ zt_X11_told rfl _ _ rfl) rfl rfl ?_
      refine v_load (v := (2, 0)) (hT _ zt_X11_refused rfl _ _ rfl) rfl rfl ?_
      refine v_load (v := (0, 4)) (hT _ zt_X11_refused rfl _ _ rfl) rfl rfl ?_
      refine v_putf (r := 0) hO (hT _ zt_X11_refused rfl _ _ rfl) rfl (fun hf8 => ?_)
      refine v_push (-1) (hT _ zt_X11_refused rfl _ _ rfl) rfl ?_
      refine v_ret (hT _ zt_X11_refused rfl _ _ rfl) (Or.inl rfl) ?_
      show vP D T N 186 66 (zset h 0 0 (0, 4)) [some (2, 0), some (0, (j : Int)), some (0, 1), some (2, 4), none, none, none] [(0, -1)] _
      refine v_i2l (hT _ zt_X11_told rfl _ _ rfl) ?_
      refine v_ret (hT _ zt_X11_told rfl _ _ rfl) (Or.inr rfl) ?_
      exact k1 hc3 hc7
    · have hc7 : 5 ≤ ln := Int.not_lt.mp hc7
      refine v_push (0) (hT _ zt_X11_told rfl _ _ rfl) rfl ?_
      refine v_store2 [some (2, 0), some (0, (j : Int)), some (0, 1), some (2, 4), some (1, 0), none, none] (hT _ zt_X11_told rfl _ _ rfl) (Nat.le_of_ble_eq_true rfl) rfl ?_
      refine v_push (0) (hT _ zt_X11_told rfl _ _ rfl) rfl ?_
      refine v_store1 [some (2, 0), some (0, (j : Int)), some (0, 1), some (2, 4), some (1, 0), none, some (0, 0)] (hT _ zt_X11_told rfl _ _ rfl) ⟨rfl, Nat.ne_of_beq_eq_false rfl⟩ (Nat.le_of_ble_eq_true rfl) rfl ?_
      exact k2 hc3 hc7
theorem qt_td74_1 {D : zD} {T : zT} (hT : hTab T) (hO : vOK T) {N : Nat} {h : zH} {Q : zR → Prop} {j s i : Nat} (w : Int) (hv0 : zHv h) (hi : (i : Int) < 5) (hs : s ≤ 240) (zi : h 5 i = (1, w))
    (k0 : (0 ≤ (i : Int)) → ((i : Int) < 60) → (w < 0) → Q (zset h 0 0 (0, 5), some (1, -1)))
    (k1 : (0 ≤ (i : Int)) → ((i : Int) < 60) → (0 ≤ w) → (48 < w) → Q (zset h 0 0 (0, 5), some (1, -1)))
    (k2 : (0 ≤ (i : Int)) → ((i : Int) < 60) → (0 ≤ w) → (w ≤ 48) → vP D T N 186 74 h [some (2, 0), some (0, (j : Int)), some (0, 1), some (2, 4), some (1, ((s : Int) + w)), none, some (0, ((i : Int) + 1))] [] Q) :
    vP D T (N + 1) 186 74 h [some (2, 0), some (0, (j : Int)), some (0, 1), some (2, 4), some (1, (s : Int)), none, some (0, (i : Int))] [] Q := by
  refine v_loadS (v := (0, (i : Int))) (hT _ zt_X11_told rfl _ _ rfl) rfl rfl ?_
  refine v_push (5) (hT _ zt_X11_told rfl _ _ rfl) rfl ?_
  refine v_ic (hT _ zt_X11_told rfl _ _ rfl) (fun _ => ?_) (fun hc1 => absurd (show (i : Int) < 5 from hi) hc1)
  refine v_load (v := (2, 4)) (hT _ zt_X11_told rfl _ _ rfl) rfl rfl ?_
  refine v_getR (c := 5) (r := 4) (hT _ zt_X11_told rfl _ _ rfl) rfl rfl rfl ?_
  refine v_load (v := (0, (i : Int))) (hT _ zt_X11_told rfl _ _ rfl) rfl rfl ?_
  refine v_aldB (t := 1) (r := 5) (w := w) (hT _ zt_X11_told rfl _ _ rfl) rfl rfl rfl (fun _ _ => (congrArg Prod.snd zi)) (fun ha2 hb3 => ?_)
  refine v_push (0) (hT _ zt_X11_told rfl _ _ rfl) rfl ?_
  refine v_lif (hT _ zt_X11_told rfl _ _ rfl) (hT _ zt_X11_told rfl _ _ rfl) (fun hc4 => ?_) (fun hc4 => ?_)
  · have hc4 : w < 0 := hc4
    refine v_load (v := (2, 0)) (hT _ zt_X11_told rfl _ _ rfl) rfl rfl ?_
    refine v_push (5) (hT _ zt_X11_told rfl _ _ rfl) rfl ?_
    refine v_call (w := 2) [some (2, 0), some (0, 5)] hO (hT _ zt_X11_told rfl _ _ rfl) rfl rfl ?_
    refine v_load (v := (2, 0)) (hT _ zt_X11_refused rfl _ _ rfl) rfl rfl ?_
    refine v_load (v := (0, 5)) (hT _ zt_X11_refused rfl _ _ rfl) rfl rfl ?_
    refine v_putf (r := 0) hO (hT _ zt_X11_refused rfl _ _ rfl) rfl (fun hf5 => ?_)
    refine v_push (-1) (hT _ zt_X11_refused rfl _ _ rfl) rfl ?_
    refine v_ret (hT _ zt_X11_refused rfl _ _ rfl) (Or.inl rfl) ?_
    show vP D T N 186 111 (zset h 0 0 (0, 5)) [some (2, 0), some (0, (j : Int)), some (0, 1), some (2, 4), some (1, (s : Int)), none, some (0, (i : Int))] [(0, -1)] _
    refine v_i2l (hT _ zt_X11_told rfl _ _ rfl) ?_
    refine v_ret (hT _ zt_X11_told rfl _ _ rfl) (Or.inr rfl) ?_
    exact k0 ha2 hb3 hc4
  · have hc4 : 0 ≤ w := Int.not_lt.mp hc4
    refine v_load (v := (2, 4)) (hT _ zt_X11_told rfl _ _ rfl) rfl rfl ?_
    refine v_getR (c := 5) (r := 4) (hT _ zt_X11_told rfl _ _ rfl) rfl rfl rfl ?_
    refine v_load (v := (0, (i : Int))) (hT _ zt_X11_told rfl _ _ rfl) rfl rfl ?_
    refine v_aldB (t := 1) (r := 5) (w := w) (hT _ zt_X11_told rfl _ _ rfl) rfl rfl rfl (fun _ _ => (congrArg Prod.snd zi)) (fun ha6 hb7 => ?_)
    refine v_push (48) (hT _ zt_X11_told rfl _ _ rfl) rfl ?_
    refine v_lif (hT _ zt_X11_told rfl _ _ rfl) (hT _ zt_X11_told rfl _ _ rfl) (fun hc8 => ?_) (fun hc8 => ?_)
    · have hc8 : 48 < w := hc8
      refine v_load (v := (2, 0)) (hT _ zt_X11_told rfl _ _ rfl) rfl rfl ?_
      refine v_push (5) (hT _ zt_X11_told rfl _ _ rfl) rfl ?_
      refine v_call (w := 2) [some (2, 0), some (0, 5)] hO (hT _ zt_X11_told rfl _ _ rfl) rfl rfl ?_
      refine v_load (v := (2, 0)) (hT _ zt_X11_refused rfl _ _ rfl) rfl rfl ?_
      refine v_load (v := (0, 5)) (hT _ zt_X11_refused rfl _ _ rfl) rfl rfl ?_
      refine v_putf (r := 0) hO (hT _ zt_X11_refused rfl _ _ rfl) rfl (fun hf9 => ?_)
      refine v_push (-1) (hT _ zt_X11_refused rfl _ _ rfl) rfl ?_
      refine v_ret (hT _ zt_X11_refused rfl _ _ rfl) (Or.inl rfl) ?_
      show vP D T N 186 111 (zset h 0 0 (0, 5)) [some (2, 0), some (0, (j : Int)), some (0, 1), some (2, 4), some (1, (s : Int)), none, some (0, (i : Int))] [(0, -1)] _
      refine v_i2l (hT _ zt_X11_told rfl _ _ rfl) ?_
      refine v_ret (hT _ zt_X11_told rfl _ _ rfl) (Or.inr rfl) ?_
      exact k1 ha2 hb3 hc4 hc8
    · have hc8 : w ≤ 48 := Int.not_lt.mp hc8
      refine v_load (v := (1, (s : Int))) (hT _ zt_X11_told rfl _ _ rfl) rfl rfl ?_
      refine v_load (v := (2, 4)) (hT _ zt_X11_told rfl _ _ rfl) rfl rfl ?_
      refine v_getR (c := 5) (r := 4) (hT _ zt_X11_told rfl _ _ rfl) rfl rfl rfl ?_
      refine v_load (v := (0, (i : Int))) (hT _ zt_X11_told rfl _ _ rfl) rfl rfl ?_
      refine v_aldB (t := 1) (r := 5) (w := w) (hT _ zt_X11_told rfl _ _ rfl) rfl rfl rfl (fun _ _ => (congrArg Prod.snd zi)) (fun ha10 hb11 => ?_)
      refine v_bin64 (w := ((s : Int) + w)) (hT _ zt_X11_told rfl _ _ rfl) (vz_addL (by omega) (by omega)) ?_
      refine v_store2 [some (2, 0), some (0, (j : Int)), some (0, 1), some (2, 4), some (1, ((s : Int) + w)), none, some (0, (i : Int))] (hT _ zt_X11_told rfl _ _ rfl) (Nat.le_of_ble_eq_true rfl) rfl ?_
      refine v_iinc (x := (i : Int)) (u := 1) (w := ((i : Int) + 1)) [some (2, 0), some (0, (j : Int)), some (0, 1), some (2, 4), some (1, ((s : Int) + w)), none, some (0, ((i : Int) + 1))] (hT _ zt_X11_told rfl _ _ rfl) rfl rfl (Nat.le_of_ble_eq_true rfl) (vz_inc (by omega) (by omega)) rfl ?_
      refine v_goto (hT _ zt_X11_told rfl _ _ rfl) ?_
      exact k2 ha2 hb3 hc4 hc8
theorem qt_td147_1 {D : zD} {T : zT} (hT : hTab T) (hO : vOK T) {N : Nat} {h : zH} {Q : zR → Prop} {j s : Nat} (z : Int) (hv0 : zHv h)
    (k0 : vP D T N 2 0 h [some (1, z), none] [] (fun r1 => vP D T N 186 150 r1.1 [some (2, 0), some (0, (j : Int)), some (0, 1), some (2, 4), some (1, (s : Int)), none, some (0, 5)] (zpush r1.2 [(1, (s : Int))]) Q)) :
    vP D T N 186 147 h [some (2, 0), some (0, (j : Int)), some (0, 1), some (2, 4), some (1, (s : Int)), none, some (0, 5)] [(1, z), (1, (s : Int))] Q := by
  refine v_call (w := 2) [some (1, z), none] hO (hT _ zt_X11_told rfl _ _ rfl) rfl rfl ?_
  exact k0 
theorem qt_td150_1 {D : zD} {T : zT} (hT : hTab T) (hO : vOK T) {N : Nat} {h : zH} {Q : zR → Prop} {j s d : Nat} (hv0 : zHv h)
    (k0 : ((s : Int) = (d : Int)) → vP D T N 193 0 h [some (2, 5), none, none, none, none, none, none, none] [] (fun r1 => vP D T N 186 162 r1.1 [some (2, 0), some (0, (j : Int)), some (0, 1), some (2, 4), some (1, (s : Int)), none, some (0, 5)] (zpush r1.2 []) Q))
    (k1 : ((s : Int) ≠ (d : Int)) → Q (h, some (1, 0))) :
    vP D T N 186 150 h [some (2, 0), some (0, (j : Int)), some (0, 1), some (2, 4), some (1, (s : Int)), none, some (0, 5)] [(0, (d : Int)), (1, (s : Int))] Q := by
  refine v_i2l (hT _ zt_X11_told rfl _ _ rfl) ?_
  refine v_lif (hT _ zt_X11_told rfl _ _ rfl) (hT _ zt_X11_told rfl _ _ rfl) (fun hc1 => ?_) (fun hc1 => ?_)
  · have hc1 : (s : Int) = (d : Int) := hc1
    refine v_load (v := (2, 4)) (hT _ zt_X11_told rfl _ _ rfl) rfl rfl ?_
    refine v_getR (c := 5) (r := 4) (hT _ zt_X11_told rfl _ _ rfl) rfl rfl rfl ?_
    refine v_call (w := 8) [some (2, 5), none, none, none, none, none, none, none] hO (hT _ zt_X11_told rfl _ _ rfl) rfl rfl ?_
    exact k0 hc1
  · have hc1 : (s : Int) ≠ (d : Int) := hc1
    refine v_push (0) (hT _ zt_X11_told rfl _ _ rfl) rfl ?_
    refine v_ret (hT _ zt_X11_told rfl _ _ rfl) (Or.inr rfl) ?_
    exact k1 hc1
theorem qt_td162_1 {D : zD} {T : zT} (hT : hTab T) (hO : vOK T) {N : Nat} {h : zH} {Q : zR → Prop} {j s : Nat} (v : Int) (hv0 : zHv h)
    (k0 : Q (h, some (1, v))) :
    vP D T N 186 162 h [some (2, 0), some (0, (j : Int)), some (0, 1), some (2, 4), some (1, (s : Int)), none, some (0, 5)] [(1, v)] Q := by
  refine v_goto (hT _ zt_X11_told rfl _ _ rfl) ?_
  refine v_ret (hT _ zt_X11_told rfl _ _ rfl) (Or.inr rfl) ?_
  exact k0 
theorem qt_td74e_1_24 {D : zD} {T : zT} (hT : hTab T) (hO : vOK T) {N : Nat} {h : zH} {Q : zR → Prop} {j s : Nat} (hv0 : zHv h) (e7 : h 0 7 = (2, 24))
    (k0 : vP D T N 29 0 (zset h 0 0 (0, 0)) [some (2, 24), some (0, (j : Int)), some (0, 1), none, none, none] [] (fun r1 => vP D T N 186 147 r1.1 [some (2, 0), some (0, (j : Int)), some (0, 1), some (2, 4), some (1, (s : Int)), none, some (0, 5)] (zpush r1.2 [(1, (s : Int))]) Q)) :
    vP D T (N + 1) 186 74 h [some (2, 0), some (0, (j : Int)), some (0, 1), some (2, 4), some (1, (s : Int)), none, some (0, 5)] [] Q := by
  refine v_loadS (v := (0, 5)) (hT _ zt_X11_told rfl _ _ rfl) rfl rfl ?_
  refine v_push (5) (hT _ zt_X11_told rfl _ _ rfl) rfl ?_
  refine v_ic (hT _ zt_X11_told rfl _ _ rfl) (fun hc1 => absurd (show (5 : Int) < 5 from hc1) (by omega)) (fun _ => ?_)
  refine v_load (v := (2, 0)) (hT _ zt_X11_told rfl _ _ rfl) rfl rfl ?_
  refine v_push (0) (hT _ zt_X11_told rfl _ _ rfl) rfl ?_
  refine v_putf (r := 0) hO (hT _ zt_X11_told rfl _ _ rfl) rfl (fun hf2 => ?_)
  refine v_load (v := (1, (s : Int))) (hT _ zt_X11_told rfl _ _ rfl) rfl rfl ?_
  refine v_load (v := (2, 0)) (hT _ zt_X11_told rfl _ _ rfl) rfl rfl ?_
  refine v_getf (v := (2, 24)) (r := 0) (hT _ zt_X11_told rfl _ _ rfl) rfl rfl (fun _ => Eq.trans (zset_ne (fun c => absurd c.2 (by decide))) (e7)) ?_
  refine v_load (v := (0, (j : Int))) (hT _ zt_X11_told rfl _ _ rfl) rfl rfl ?_
  refine v_push (1) (hT _ zt_X11_told rfl _ _ rfl) rfl ?_
  refine v_call (w := 6) [some (2, 24), some (0, (j : Int)), some (0, 1), none, none, none] hO (hT _ zt_X11_told rfl _ _ rfl) rfl rfl ?_
  exact k0 
theorem qt_td32_2 {D : zD} {T : zT} (hT : hTab T) (hO : vOK T) {N : Nat} {h : zH} {Q : zR → Prop} {j : Nat} (so ln : Int) (hv0 : zHv h) (z1 : h 6 1 = (0, so)) (z2 : h 6 2 = (0, ln))
    (k0 : (so = -1) → Q (zset h 0 0 (0, 3), some (1, -1)))
    (k1 : (so ≠ -1) → (ln < 5) → Q (zset h 0 0 (0, 4), some (1, -1)))
    (k2 : (so ≠ -1) → (5 ≤ ln) → vP D T N 186 74 h [some (2, 0), some (0, (j : Int)), some (0, 2), some (2, 6), some (1, 0), none, some (0, 0)] [] Q) :
    vP D T N 186 32 h [some (2, 0), some (0, (j : Int)), some (0, 2), none, none, none, none] [] Q := by
  refine v_load (v := (2, 0)) (hT _ zt_X11_told rfl _ _ rfl) rfl rfl ?_
  refine v_getR (c := 1) (r := 0) (hT _ zt_X11_told rfl _ _ rfl) rfl rfl rfl ?_
  refine v_load (v := (0, 2)) (hT _ zt_X11_told rfl _ _ rfl) rfl rfl ?_
  refine v_aldV (v := (2, 6)) (r := 1) (hT _ zt_X11_told rfl _ _ rfl) rfl rfl (fun hv _ _ => hv.ref rfl) (fun ha1 hb2 => ?_)
  refine v_store1 [some (2, 0), some (0, (j : Int)), some (0, 2), some (2, 6), none, none, none] (hT _ zt_X11_told rfl _ _ rfl) ⟨rfl, Nat.ne_of_beq_eq_false rfl⟩ (Nat.le_of_ble_eq_true rfl) rfl ?_
  refine v_load (v := (2, 6)) (hT _ zt_X11_told rfl _ _ rfl) rfl rfl ?_
  refine v_call (w := 1) [some (2, 6)] hO (hT _ zt_X11_told rfl _ _ rfl) rfl rfl ?_
  refine v_load (v := (2, 6)) (hT _ zt_X9_isMissing rfl _ _ rfl) rfl rfl ?_
  refine v_getf (v := (0, so)) (r := 6) (hT _ zt_X9_isMissing rfl _ _ rfl) rfl rfl (fun _ => z1) ?_
  refine v_push (-1) (hT _ zt_X9_isMissing rfl _ _ rfl) rfl ?_
  refine v_ic (hT _ zt_X9_isMissing rfl _ _ rfl) (fun hc3 => ?_) (fun hc3 => ?_)
  · have hc3 : so = -1 := hc3
    refine v_push (1) (hT _ zt_X9_isMissing rfl _ _ rfl) rfl ?_
    refine v_goto (hT _ zt_X9_isMissing rfl _ _ rfl) ?_
    refine v_ret (hT _ zt_X9_isMissing rfl _ _ rfl) (Or.inl rfl) ?_
    show vP D T N 186 43 h [some (2, 0), some (0, (j : Int)), some (0, 2), some (2, 6), none, none, none] [(0, 1)] _
    refine v_if (hT _ zt_X11_told rfl _ _ rfl) (fun hc4 => absurd (show (1 : Int) = 0 from hc4) (by omega)) (fun _ => ?_)
    refine v_load (v := (2, 0)) (hT _ zt_X11_told rfl _ _ rfl) rfl rfl ?_
    refine v_push (3) (hT _ zt_X11_told rfl _ _ rfl) rfl ?_
    refine v_call (w := 2) [some (2, 0), some (0, 3)] hO (hT _ zt_X11_told rfl _ _ rfl) rfl rfl ?_
    refine v_load (v := (2, 0)) (hT _ zt_X11_refused rfl _ _ rfl) rfl rfl ?_
    refine v_load (v := (0, 3)) (hT _ zt_X11_refused rfl _ _ rfl) rfl rfl ?_
    refine v_putf (r := 0) hO (hT _ zt_X11_refused rfl _ _ rfl) rfl (fun hf5 => ?_)
    refine v_push (-1) (hT _ zt_X11_refused rfl _ _ rfl) rfl ?_
    refine v_ret (hT _ zt_X11_refused rfl _ _ rfl) (Or.inl rfl) ?_
    show vP D T N 186 51 (zset h 0 0 (0, 3)) [some (2, 0), some (0, (j : Int)), some (0, 2), some (2, 6), none, none, none] [(0, -1)] _
    refine v_i2l (hT _ zt_X11_told rfl _ _ rfl) ?_
    refine v_ret (hT _ zt_X11_told rfl _ _ rfl) (Or.inr rfl) ?_
    exact k0 hc3
  · have hc3 : so ≠ -1 := hc3
    refine v_push (0) (hT _ zt_X9_isMissing rfl _ _ rfl) rfl ?_
    refine v_ret (hT _ zt_X9_isMissing rfl _ _ rfl) (Or.inl rfl) ?_
    show vP D T N 186 43 h [some (2, 0), some (0, (j : Int)), some (0, 2), some (2, 6), none, none, none] [(0, 0)] _
    refine v_if (hT _ zt_X11_told rfl _ _ rfl) (fun _ => ?_) (fun hc6 => absurd (show (0 : Int) = 0 from (by omega)) hc6)
    refine v_load (v := (2, 6)) (hT _ zt_X11_told rfl _ _ rfl) rfl rfl ?_
    refine v_getf (v := (0, ln)) (r := 6) (hT _ zt_X11_told rfl _ _ rfl) rfl rfl (fun _ => z2) ?_
    refine v_push (5) (hT _ zt_X11_told rfl _ _ rfl) rfl ?_
    refine v_ic (hT _ zt_X11_told rfl _ _ rfl) (fun hc7 => ?_) (fun hc7 => ?_)
    · have hc7 : ln < 5 := hc7
      refine v_load (v := (2, 0)) (hT _ zt_X11_told rfl _ _ rfl) rfl rfl ?_
      refine v_push (4) (hT _ zt_X11_told rfl _ _ rfl) rfl ?_
      refine v_call (w := 2) [some (2, 0), some (0, 4)] hO (hT _ zt_X11_told rfl _ _ rfl) rfl rfl ?_
      refine v_load (v := (2, 0)) (hT _ zt_X11_refused rfl _ _ rfl) rfl rfl ?_
      refine v_load (v := (0, 4)) (hT _ zt_X11_refused rfl _ _ rfl) rfl rfl ?_
      refine v_putf (r := 0) hO (hT _ zt_X11_refused rfl _ _ rfl) rfl (fun hf8 => ?_)
      refine v_push (-1) (hT _ zt_X11_refused rfl _ _ rfl) rfl ?_
      refine v_ret (hT _ zt_X11_refused rfl _ _ rfl) (Or.inl rfl) ?_
      show vP D T N 186 66 (zset h 0 0 (0, 4)) [some (2, 0), some (0, (j : Int)), some (0, 2), some (2, 6), none, none, none] [(0, -1)] _
      refine v_i2l (hT _ zt_X11_told rfl _ _ rfl) ?_
      refine v_ret (hT _ zt_X11_told rfl _ _ rfl) (Or.inr rfl) ?_
      exact k1 hc3 hc7
    · have hc7 : 5 ≤ ln := Int.not_lt.mp hc7
      refine v_push (0) (hT _ zt_X11_told rfl _ _ rfl) rfl ?_
      refine v_store2 [some (2, 0), some (0, (j : Int)), some (0, 2), some (2, 6), some (1, 0), none, none] (hT _ zt_X11_told rfl _ _ rfl) (Nat.le_of_ble_eq_true rfl) rfl ?_
      refine v_push (0) (hT _ zt_X11_told rfl _ _ rfl) rfl ?_
      refine v_store1 [some (2, 0), some (0, (j : Int)), some (0, 2), some (2, 6), some (1, 0), none, some (0, 0)] (hT _ zt_X11_told rfl _ _ rfl) ⟨rfl, Nat.ne_of_beq_eq_false rfl⟩ (Nat.le_of_ble_eq_true rfl) rfl ?_
      exact k2 hc3 hc7
theorem qt_td74_2 {D : zD} {T : zT} (hT : hTab T) (hO : vOK T) {N : Nat} {h : zH} {Q : zR → Prop} {j s i : Nat} (w : Int) (hv0 : zHv h) (hi : (i : Int) < 5) (hs : s ≤ 240) (zi : h 7 i = (1, w))
    (k0 : (0 ≤ (i : Int)) → ((i : Int) < 60) → (w < 0) → Q (zset h 0 0 (0, 5), some (1, -1)))
    (k1 : (0 ≤ (i : Int)) → ((i : Int) < 60) → (0 ≤ w) → (48 < w) → Q (zset h 0 0 (0, 5), some (1, -1)))
    (k2 : (0 ≤ (i : Int)) → ((i : Int) < 60) → (0 ≤ w) → (w ≤ 48) → vP D T N 186 74 h [some (2, 0), some (0, (j : Int)), some (0, 2), some (2, 6), some (1, ((s : Int) + w)), none, some (0, ((i : Int) + 1))] [] Q) :
    vP D T (N + 1) 186 74 h [some (2, 0), some (0, (j : Int)), some (0, 2), some (2, 6), some (1, (s : Int)), none, some (0, (i : Int))] [] Q := by
  refine v_loadS (v := (0, (i : Int))) (hT _ zt_X11_told rfl _ _ rfl) rfl rfl ?_
  refine v_push (5) (hT _ zt_X11_told rfl _ _ rfl) rfl ?_
  refine v_ic (hT _ zt_X11_told rfl _ _ rfl) (fun _ => ?_) (fun hc1 => absurd (show (i : Int) < 5 from hi) hc1)
  refine v_load (v := (2, 6)) (hT _ zt_X11_told rfl _ _ rfl) rfl rfl ?_
  refine v_getR (c := 7) (r := 6) (hT _ zt_X11_told rfl _ _ rfl) rfl rfl rfl ?_
  refine v_load (v := (0, (i : Int))) (hT _ zt_X11_told rfl _ _ rfl) rfl rfl ?_
  refine v_aldB (t := 1) (r := 7) (w := w) (hT _ zt_X11_told rfl _ _ rfl) rfl rfl rfl (fun _ _ => (congrArg Prod.snd zi)) (fun ha2 hb3 => ?_)
  refine v_push (0) (hT _ zt_X11_told rfl _ _ rfl) rfl ?_
  refine v_lif (hT _ zt_X11_told rfl _ _ rfl) (hT _ zt_X11_told rfl _ _ rfl) (fun hc4 => ?_) (fun hc4 => ?_)
  · have hc4 : w < 0 := hc4
    refine v_load (v := (2, 0)) (hT _ zt_X11_told rfl _ _ rfl) rfl rfl ?_
    refine v_push (5) (hT _ zt_X11_told rfl _ _ rfl) rfl ?_
    refine v_call (w := 2) [some (2, 0), some (0, 5)] hO (hT _ zt_X11_told rfl _ _ rfl) rfl rfl ?_
    refine v_load (v := (2, 0)) (hT _ zt_X11_refused rfl _ _ rfl) rfl rfl ?_
    refine v_load (v := (0, 5)) (hT _ zt_X11_refused rfl _ _ rfl) rfl rfl ?_
    refine v_putf (r := 0) hO (hT _ zt_X11_refused rfl _ _ rfl) rfl (fun hf5 => ?_)
    refine v_push (-1) (hT _ zt_X11_refused rfl _ _ rfl) rfl ?_
    refine v_ret (hT _ zt_X11_refused rfl _ _ rfl) (Or.inl rfl) ?_
    show vP D T N 186 111 (zset h 0 0 (0, 5)) [some (2, 0), some (0, (j : Int)), some (0, 2), some (2, 6), some (1, (s : Int)), none, some (0, (i : Int))] [(0, -1)] _
    refine v_i2l (hT _ zt_X11_told rfl _ _ rfl) ?_
    refine v_ret (hT _ zt_X11_told rfl _ _ rfl) (Or.inr rfl) ?_
    exact k0 ha2 hb3 hc4
  · have hc4 : 0 ≤ w := Int.not_lt.mp hc4
    refine v_load (v := (2, 6)) (hT _ zt_X11_told rfl _ _ rfl) rfl rfl ?_
    refine v_getR (c := 7) (r := 6) (hT _ zt_X11_told rfl _ _ rfl) rfl rfl rfl ?_
    refine v_load (v := (0, (i : Int))) (hT _ zt_X11_told rfl _ _ rfl) rfl rfl ?_
    refine v_aldB (t := 1) (r := 7) (w := w) (hT _ zt_X11_told rfl _ _ rfl) rfl rfl rfl (fun _ _ => (congrArg Prod.snd zi)) (fun ha6 hb7 => ?_)
    refine v_push (48) (hT _ zt_X11_told rfl _ _ rfl) rfl ?_
    refine v_lif (hT _ zt_X11_told rfl _ _ rfl) (hT _ zt_X11_told rfl _ _ rfl) (fun hc8 => ?_) (fun hc8 => ?_)
    · have hc8 : 48 < w := hc8
      refine v_load (v := (2, 0)) (hT _ zt_X11_told rfl _ _ rfl) rfl rfl ?_
      refine v_push (5) (hT _ zt_X11_told rfl _ _ rfl) rfl ?_
      refine v_call (w := 2) [some (2, 0), some (0, 5)] hO (hT _ zt_X11_told rfl _ _ rfl) rfl rfl ?_
      refine v_load (v := (2, 0)) (hT _ zt_X11_refused rfl _ _ rfl) rfl rfl ?_
      refine v_load (v := (0, 5)) (hT _ zt_X11_refused rfl _ _ rfl) rfl rfl ?_
      refine v_putf (r := 0) hO (hT _ zt_X11_refused rfl _ _ rfl) rfl (fun hf9 => ?_)
      refine v_push (-1) (hT _ zt_X11_refused rfl _ _ rfl) rfl ?_
      refine v_ret (hT _ zt_X11_refused rfl _ _ rfl) (Or.inl rfl) ?_
      show vP D T N 186 111 (zset h 0 0 (0, 5)) [some (2, 0), some (0, (j : Int)), some (0, 2), some (2, 6), some (1, (s : Int)), none, some (0, (i : Int))] [(0, -1)] _
      refine v_i2l (hT _ zt_X11_told rfl _ _ rfl) ?_
      refine v_ret (hT _ zt_X11_told rfl _ _ rfl) (Or.inr rfl) ?_
      exact k1 ha2 hb3 hc4 hc8
    · have hc8 : w ≤ 48 := Int.not_lt.mp hc8
      refine v_load (v := (1, (s : Int))) (hT _ zt_X11_told rfl _ _ rfl) rfl rfl ?_
      refine v_load (v := (2, 6)) (hT _ zt_X11_told rfl _ _ rfl) rfl rfl ?_
      refine v_getR (c := 7) (r := 6) (hT _ zt_X11_told rfl _ _ rfl) rfl rfl rfl ?_
      refine v_load (v := (0, (i : Int))) (hT _ zt_X11_told rfl _ _ rfl) rfl rfl ?_
      refine v_aldB (t := 1) (r := 7) (w := w) (hT _ zt_X11_told rfl _ _ rfl) rfl rfl rfl (fun _ _ => (congrArg Prod.snd zi)) (fun ha10 hb11 => ?_)
      refine v_bin64 (w := ((s : Int) + w)) (hT _ zt_X11_told rfl _ _ rfl) (vz_addL (by omega) (by omega)) ?_
      refine v_store2 [some (2, 0), some (0, (j : Int)), some (0, 2), some (2, 6), some (1, ((s : Int) + w)), none, some (0, (i : Int))] (hT _ zt_X11_told rfl _ _ rfl) (Nat.le_of_ble_eq_true rfl) rfl ?_
      refine v_iinc (x := (i : Int)) (u := 1) (w := ((i : Int) + 1)) [some (2, 0), some (0, (j : Int)), some (0, 2), some (2, 6), some (1, ((s : Int) + w)), none, some (0, ((i : Int) + 1))] (hT _ zt_X11_told rfl _ _ rfl) rfl rfl (Nat.le_of_ble_eq_true rfl) (vz_inc (by omega) (by omega)) rfl ?_
      refine v_goto (hT _ zt_X11_told rfl _ _ rfl) ?_
      exact k2 ha2 hb3 hc4 hc8
theorem qt_td147_2 {D : zD} {T : zT} (hT : hTab T) (hO : vOK T) {N : Nat} {h : zH} {Q : zR → Prop} {j s : Nat} (z : Int) (hv0 : zHv h)
    (k0 : vP D T N 2 0 h [some (1, z), none] [] (fun r1 => vP D T N 186 150 r1.1 [some (2, 0), some (0, (j : Int)), some (0, 2), some (2, 6), some (1, (s : Int)), none, some (0, 5)] (zpush r1.2 [(1, (s : Int))]) Q)) :
    vP D T N 186 147 h [some (2, 0), some (0, (j : Int)), some (0, 2), some (2, 6), some (1, (s : Int)), none, some (0, 5)] [(1, z), (1, (s : Int))] Q := by
  refine v_call (w := 2) [some (1, z), none] hO (hT _ zt_X11_told rfl _ _ rfl) rfl rfl ?_
  exact k0 
theorem qt_td150_2 {D : zD} {T : zT} (hT : hTab T) (hO : vOK T) {N : Nat} {h : zH} {Q : zR → Prop} {j s d : Nat} (hv0 : zHv h)
    (k0 : ((s : Int) = (d : Int)) → vP D T N 193 0 h [some (2, 7), none, none, none, none, none, none, none] [] (fun r1 => vP D T N 186 162 r1.1 [some (2, 0), some (0, (j : Int)), some (0, 2), some (2, 6), some (1, (s : Int)), none, some (0, 5)] (zpush r1.2 []) Q))
    (k1 : ((s : Int) ≠ (d : Int)) → Q (h, some (1, 0))) :
    vP D T N 186 150 h [some (2, 0), some (0, (j : Int)), some (0, 2), some (2, 6), some (1, (s : Int)), none, some (0, 5)] [(0, (d : Int)), (1, (s : Int))] Q := by
  refine v_i2l (hT _ zt_X11_told rfl _ _ rfl) ?_
  refine v_lif (hT _ zt_X11_told rfl _ _ rfl) (hT _ zt_X11_told rfl _ _ rfl) (fun hc1 => ?_) (fun hc1 => ?_)
  · have hc1 : (s : Int) = (d : Int) := hc1
    refine v_load (v := (2, 6)) (hT _ zt_X11_told rfl _ _ rfl) rfl rfl ?_
    refine v_getR (c := 7) (r := 6) (hT _ zt_X11_told rfl _ _ rfl) rfl rfl rfl ?_
    refine v_call (w := 8) [some (2, 7), none, none, none, none, none, none, none] hO (hT _ zt_X11_told rfl _ _ rfl) rfl rfl ?_
    exact k0 hc1
  · have hc1 : (s : Int) ≠ (d : Int) := hc1
    refine v_push (0) (hT _ zt_X11_told rfl _ _ rfl) rfl ?_
    refine v_ret (hT _ zt_X11_told rfl _ _ rfl) (Or.inr rfl) ?_
    exact k1 hc1
theorem qt_td162_2 {D : zD} {T : zT} (hT : hTab T) (hO : vOK T) {N : Nat} {h : zH} {Q : zR → Prop} {j s : Nat} (v : Int) (hv0 : zHv h)
    (k0 : Q (h, some (1, v))) :
    vP D T N 186 162 h [some (2, 0), some (0, (j : Int)), some (0, 2), some (2, 6), some (1, (s : Int)), none, some (0, 5)] [(1, v)] Q := by
  refine v_goto (hT _ zt_X11_told rfl _ _ rfl) ?_
  refine v_ret (hT _ zt_X11_told rfl _ _ rfl) (Or.inr rfl) ?_
  exact k0 
theorem qt_td74e_2_24 {D : zD} {T : zT} (hT : hTab T) (hO : vOK T) {N : Nat} {h : zH} {Q : zR → Prop} {j s : Nat} (hv0 : zHv h) (e7 : h 0 7 = (2, 24))
    (k0 : vP D T N 29 0 (zset h 0 0 (0, 0)) [some (2, 24), some (0, (j : Int)), some (0, 1), none, none, none] [] (fun r1 => vP D T N 186 147 r1.1 [some (2, 0), some (0, (j : Int)), some (0, 2), some (2, 6), some (1, (s : Int)), none, some (0, 5)] (zpush r1.2 [(1, (s : Int))]) Q)) :
    vP D T (N + 1) 186 74 h [some (2, 0), some (0, (j : Int)), some (0, 2), some (2, 6), some (1, (s : Int)), none, some (0, 5)] [] Q := by
  refine v_loadS (v := (0, 5)) (hT _ zt_X11_told rfl _ _ rfl) rfl rfl ?_
  refine v_push (5) (hT _ zt_X11_told rfl _ _ rfl) rfl ?_
  refine v_ic (hT _ zt_X11_told rfl _ _ rfl) (fun hc1 => absurd (show (5 : Int) < 5 from hc1) (by omega)) (fun _ => ?_)
  refine v_load (v := (2, 0)) (hT _ zt_X11_told rfl _ _ rfl) rfl rfl ?_
  refine v_push (0) (hT _ zt_X11_told rfl _ _ rfl) rfl ?_
  refine v_putf (r := 0) hO (hT _ zt_X11_told rfl _ _ rfl) rfl (fun hf2 => ?_)
  refine v_load (v := (1, (s : Int))) (hT _ zt_X11_told rfl _ _ rfl) rfl rfl ?_
  refine v_load (v := (2, 0)) (hT _ zt_X11_told rfl _ _ rfl) rfl rfl ?_
  refine v_getf (v := (2, 24)) (r := 0) (hT _ zt_X11_told rfl _ _ rfl) rfl rfl (fun _ => Eq.trans (zset_ne (fun c => absurd c.2 (by decide))) (e7)) ?_
  refine v_load (v := (0, (j : Int))) (hT _ zt_X11_told rfl _ _ rfl) rfl rfl ?_
  refine v_push (1) (hT _ zt_X11_told rfl _ _ rfl) rfl ?_
  refine v_call (w := 6) [some (2, 24), some (0, (j : Int)), some (0, 1), none, none, none] hO (hT _ zt_X11_told rfl _ _ rfl) rfl rfl ?_
  exact k0 
theorem qt_td32_3 {D : zD} {T : zT} (hT : hTab T) (hO : vOK T) {N : Nat} {h : zH} {Q : zR → Prop} {j : Nat} (so ln : Int) (hv0 : zHv h) (z1 : h 8 1 = (0, so)) (z2 : h 8 2 = (0, ln))
    (k0 : (so = -1) → Q (zset h 0 0 (0, 3), some (1, -1)))
    (k1 : (so ≠ -1) → (ln < 5) → Q (zset h 0 0 (0, 4), some (1, -1)))
    (k2 : (so ≠ -1) → (5 ≤ ln) → vP D T N 186 74 h [some (2, 0), some (0, (j : Int)), some (0, 3), some (2, 8), some (1, 0), none, some (0, 0)] [] Q) :
    vP D T N 186 32 h [some (2, 0), some (0, (j : Int)), some (0, 3), none, none, none, none] [] Q := by
  refine v_load (v := (2, 0)) (hT _ zt_X11_told rfl _ _ rfl) rfl rfl ?_
  refine v_getR (c := 1) (r := 0) (hT _ zt_X11_told rfl _ _ rfl) rfl rfl rfl ?_
  refine v_load (v := (0, 3)) (hT _ zt_X11_told rfl _ _ rfl) rfl rfl ?_
  refine v_aldV (v := (2, 8)) (r := 1) (hT _ zt_X11_told rfl _ _ rfl) rfl rfl (fun hv _ _ => hv.ref rfl) (fun ha1 hb2 => ?_)
  refine v_store1 [some (2, 0), some (0, (j : Int)), some (0, 3), some (2, 8), none, none, none] (hT _ zt_X11_told rfl _ _ rfl) ⟨rfl, Nat.ne_of_beq_eq_false rfl⟩ (Nat.le_of_ble_eq_true rfl) rfl ?_
  refine v_load (v := (2, 8)) (hT _ zt_X11_told rfl _ _ rfl) rfl rfl ?_
  refine v_call (w := 1) [some (2, 8)] hO (hT _ zt_X11_told rfl _ _ rfl) rfl rfl ?_
  refine v_load (v := (2, 8)) (hT _ zt_X9_isMissing rfl _ _ rfl) rfl rfl ?_
  refine v_getf (v := (0, so)) (r := 8) (hT _ zt_X9_isMissing rfl _ _ rfl) rfl rfl (fun _ => z1) ?_
  refine v_push (-1) (hT _ zt_X9_isMissing rfl _ _ rfl) rfl ?_
  refine v_ic (hT _ zt_X9_isMissing rfl _ _ rfl) (fun hc3 => ?_) (fun hc3 => ?_)
  · have hc3 : so = -1 := hc3
    refine v_push (1) (hT _ zt_X9_isMissing rfl _ _ rfl) rfl ?_
    refine v_goto (hT _ zt_X9_isMissing rfl _ _ rfl) ?_
    refine v_ret (hT _ zt_X9_isMissing rfl _ _ rfl) (Or.inl rfl) ?_
    show vP D T N 186 43 h [some (2, 0), some (0, (j : Int)), some (0, 3), some (2, 8), none, none, none] [(0, 1)] _
    refine v_if (hT _ zt_X11_told rfl _ _ rfl) (fun hc4 => absurd (show (1 : Int) = 0 from hc4) (by omega)) (fun _ => ?_)
    refine v_load (v := (2, 0)) (hT _ zt_X11_told rfl _ _ rfl) rfl rfl ?_
    refine v_push (3) (hT _ zt_X11_told rfl _ _ rfl) rfl ?_
    refine v_call (w := 2) [some (2, 0), some (0, 3)] hO (hT _ zt_X11_told rfl _ _ rfl) rfl rfl ?_
    refine v_load (v := (2, 0)) (hT _ zt_X11_refused rfl _ _ rfl) rfl rfl ?_
    refine v_load (v := (0, 3)) (hT _ zt_X11_refused rfl _ _ rfl) rfl rfl ?_
    refine v_putf (r := 0) hO (hT _ zt_X11_refused rfl _ _ rfl) rfl (fun hf5 => ?_)
    refine v_push (-1) (hT _ zt_X11_refused rfl _ _ rfl) rfl ?_
    refine v_ret (hT _ zt_X11_refused rfl _ _ rfl) (Or.inl rfl) ?_
    show vP D T N 186 51 (zset h 0 0 (0, 3)) [some (2, 0), some (0, (j : Int)), some (0, 3), some (2, 8), none, none, none] [(0, -1)] _
    refine v_i2l (hT _ zt_X11_told rfl _ _ rfl) ?_
    refine v_ret (hT _ zt_X11_told rfl _ _ rfl) (Or.inr rfl) ?_
    exact k0 hc3
  · have hc3 : so ≠ -1 := hc3
    refine v_push (0) (hT _ zt_X9_isMissing rfl _ _ rfl) rfl ?_
    refine v_ret (hT _ zt_X9_isMissing rfl _ _ rfl) (Or.inl rfl) ?_
    show vP D T N 186 43 h [some (2, 0), some (0, (j : Int)), some (0, 3), some (2, 8), none, none, none] [(0, 0)] _
    refine v_if (hT _ zt_X11_told rfl _ _ rfl) (fun _ => ?_) (fun hc6 => absurd (show (0 : Int) = 0 from (by omega)) hc6)
    refine v_load (v := (2, 8)) (hT _ zt_X11_told rfl _ _ rfl) rfl rfl ?_
    refine v_getf (v := (0, ln)) (r := 8) (hT _ zt_X11_told rfl _ _ rfl) rfl rfl (fun _ => z2) ?_
    refine v_push (5) (hT _ zt_X11_told rfl _ _ rfl) rfl ?_
    refine v_ic (hT _ zt_X11_told rfl _ _ rfl) (fun hc7 => ?_) (fun hc7 => ?_)
    · have hc7 : ln < 5 := hc7
      refine v_load (v := (2, 0)) (hT _ zt_X11_told rfl _ _ rfl) rfl rfl ?_
      refine v_push (4) (hT _ zt_X11_told rfl _ _ rfl) rfl ?_
      refine v_call (w := 2) [some (2, 0), some (0, 4)] hO (hT _ zt_X11_told rfl _ _ rfl) rfl rfl ?_
      refine v_load (v := (2, 0)) (hT _ zt_X11_refused rfl _ _ rfl) rfl rfl ?_
      refine v_load (v := (0, 4)) (hT _ zt_X11_refused rfl _ _ rfl) rfl rfl ?_
      refine v_putf (r := 0) hO (hT _ zt_X11_refused rfl _ _ rfl) rfl (fun hf8 => ?_)
      refine v_push (-1) (hT _ zt_X11_refused rfl _ _ rfl) rfl ?_
      refine v_ret (hT _ zt_X11_refused rfl _ _ rfl) (Or.inl rfl) ?_
      show vP D T N 186 66 (zset h 0 0 (0, 4)) [some (2, 0), some (0, (j : Int)), some (0, 3), some (2, 8), none, none, none] [(0, -1)] _
      refine v_i2l (hT _ zt_X11_told rfl _ _ rfl) ?_
      refine v_ret (hT _ zt_X11_told rfl _ _ rfl) (Or.inr rfl) ?_
      exact k1 hc3 hc7
    · have hc7 : 5 ≤ ln := Int.not_lt.mp hc7
      refine v_push (0) (hT _ zt_X11_told rfl _ _ rfl) rfl ?_
      refine v_store2 [some (2, 0), some (0, (j : Int)), some (0, 3), some (2, 8), some (1, 0), none, none] (hT _ zt_X11_told rfl _ _ rfl) (Nat.le_of_ble_eq_true rfl) rfl ?_
      refine v_push (0) (hT _ zt_X11_told rfl _ _ rfl) rfl ?_
      refine v_store1 [some (2, 0), some (0, (j : Int)), some (0, 3), some (2, 8), some (1, 0), none, some (0, 0)] (hT _ zt_X11_told rfl _ _ rfl) ⟨rfl, Nat.ne_of_beq_eq_false rfl⟩ (Nat.le_of_ble_eq_true rfl) rfl ?_
      exact k2 hc3 hc7
theorem qt_td74_3 {D : zD} {T : zT} (hT : hTab T) (hO : vOK T) {N : Nat} {h : zH} {Q : zR → Prop} {j s i : Nat} (w : Int) (hv0 : zHv h) (hi : (i : Int) < 5) (hs : s ≤ 240) (zi : h 9 i = (1, w))
    (k0 : (0 ≤ (i : Int)) → ((i : Int) < 60) → (w < 0) → Q (zset h 0 0 (0, 5), some (1, -1)))
    (k1 : (0 ≤ (i : Int)) → ((i : Int) < 60) → (0 ≤ w) → (48 < w) → Q (zset h 0 0 (0, 5), some (1, -1)))
    (k2 : (0 ≤ (i : Int)) → ((i : Int) < 60) → (0 ≤ w) → (w ≤ 48) → vP D T N 186 74 h [some (2, 0), some (0, (j : Int)), some (0, 3), some (2, 8), some (1, ((s : Int) + w)), none, some (0, ((i : Int) + 1))] [] Q) :
    vP D T (N + 1) 186 74 h [some (2, 0), some (0, (j : Int)), some (0, 3), some (2, 8), some (1, (s : Int)), none, some (0, (i : Int))] [] Q := by
  refine v_loadS (v := (0, (i : Int))) (hT _ zt_X11_told rfl _ _ rfl) rfl rfl ?_
  refine v_push (5) (hT _ zt_X11_told rfl _ _ rfl) rfl ?_
  refine v_ic (hT _ zt_X11_told rfl _ _ rfl) (fun _ => ?_) (fun hc1 => absurd (show (i : Int) < 5 from hi) hc1)
  refine v_load (v := (2, 8)) (hT _ zt_X11_told rfl _ _ rfl) rfl rfl ?_
  refine v_getR (c := 9) (r := 8) (hT _ zt_X11_told rfl _ _ rfl) rfl rfl rfl ?_
  refine v_load (v := (0, (i : Int))) (hT _ zt_X11_told rfl _ _ rfl) rfl rfl ?_
  refine v_aldB (t := 1) (r := 9) (w := w) (hT _ zt_X11_told rfl _ _ rfl) rfl rfl rfl (fun _ _ => (congrArg Prod.snd zi)) (fun ha2 hb3 => ?_)
  refine v_push (0) (hT _ zt_X11_told rfl _ _ rfl) rfl ?_
  refine v_lif (hT _ zt_X11_told rfl _ _ rfl) (hT _ zt_X11_told rfl _ _ rfl) (fun hc4 => ?_) (fun hc4 => ?_)
  · have hc4 : w < 0 := hc4
    refine v_load (v := (2, 0)) (hT _ zt_X11_told rfl _ _ rfl) rfl rfl ?_
    refine v_push (5) (hT _ zt_X11_told rfl _ _ rfl) rfl ?_
    refine v_call (w := 2) [some (2, 0), some (0, 5)] hO (hT _ zt_X11_told rfl _ _ rfl) rfl rfl ?_
    refine v_load (v := (2, 0)) (hT _ zt_X11_refused rfl _ _ rfl) rfl rfl ?_
    refine v_load (v := (0, 5)) (hT _ zt_X11_refused rfl _ _ rfl) rfl rfl ?_
    refine v_putf (r := 0) hO (hT _ zt_X11_refused rfl _ _ rfl) rfl (fun hf5 => ?_)
    refine v_push (-1) (hT _ zt_X11_refused rfl _ _ rfl) rfl ?_
    refine v_ret (hT _ zt_X11_refused rfl _ _ rfl) (Or.inl rfl) ?_
    show vP D T N 186 111 (zset h 0 0 (0, 5)) [some (2, 0), some (0, (j : Int)), some (0, 3), some (2, 8), some (1, (s : Int)), none, some (0, (i : Int))] [(0, -1)] _
    refine v_i2l (hT _ zt_X11_told rfl _ _ rfl) ?_
    refine v_ret (hT _ zt_X11_told rfl _ _ rfl) (Or.inr rfl) ?_
    exact k0 ha2 hb3 hc4
  · have hc4 : 0 ≤ w := Int.not_lt.mp hc4
    refine v_load (v := (2, 8)) (hT _ zt_X11_told rfl _ _ rfl) rfl rfl ?_
    refine v_getR (c := 9) (r := 8) (hT _ zt_X11_told rfl _ _ rfl) rfl rfl rfl ?_
    refine v_load (v := (0, (i : Int))) (hT _ zt_X11_told rfl _ _ rfl) rfl rfl ?_
    refine v_aldB (t := 1) (r := 9) (w := w) (hT _ zt_X11_told rfl _ _ rfl) rfl rfl rfl (fun _ _ => (congrArg Prod.snd zi)) (fun ha6 hb7 => ?_)
    refine v_push (48) (hT _ zt_X11_told rfl _ _ rfl) rfl ?_
    refine v_lif (hT _ zt_X11_told rfl _ _ rfl) (hT _ zt_X11_told rfl _ _ rfl) (fun hc8 => ?_) (fun hc8 => ?_)
    · have hc8 : 48 < w := hc8
      refine v_load (v := (2, 0)) (hT _ zt_X11_told rfl _ _ rfl) rfl rfl ?_
      refine v_push (5) (hT _ zt_X11_told rfl _ _ rfl) rfl ?_
      refine v_call (w := 2) [some (2, 0), some (0, 5)] hO (hT _ zt_X11_told rfl _ _ rfl) rfl rfl ?_
      refine v_load (v := (2, 0)) (hT _ zt_X11_refused rfl _ _ rfl) rfl rfl ?_
      refine v_load (v := (0, 5)) (hT _ zt_X11_refused rfl _ _ rfl) rfl rfl ?_
      refine v_putf (r := 0) hO (hT _ zt_X11_refused rfl _ _ rfl) rfl (fun hf9 => ?_)
      refine v_push (-1) (hT _ zt_X11_refused rfl _ _ rfl) rfl ?_
      refine v_ret (hT _ zt_X11_refused rfl _ _ rfl) (Or.inl rfl) ?_
      show vP D T N 186 111 (zset h 0 0 (0, 5)) [some (2, 0), some (0, (j : Int)), some (0, 3), some (2, 8), some (1, (s : Int)), none, some (0, (i : Int))] [(0, -1)] _
      refine v_i2l (hT _ zt_X11_told rfl _ _ rfl) ?_
      refine v_ret (hT _ zt_X11_told rfl _ _ rfl) (Or.inr rfl) ?_
      exact k1 ha2 hb3 hc4 hc8
    · have hc8 : w ≤ 48 := Int.not_lt.mp hc8
      refine v_load (v := (1, (s : Int))) (hT _ zt_X11_told rfl _ _ rfl) rfl rfl ?_
      refine v_load (v := (2, 8)) (hT _ zt_X11_told rfl _ _ rfl) rfl rfl ?_
      refine v_getR (c := 9) (r := 8) (hT _ zt_X11_told rfl _ _ rfl) rfl rfl rfl ?_
      refine v_load (v := (0, (i : Int))) (hT _ zt_X11_told rfl _ _ rfl) rfl rfl ?_
      refine v_aldB (t := 1) (r := 9) (w := w) (hT _ zt_X11_told rfl _ _ rfl) rfl rfl rfl (fun _ _ => (congrArg Prod.snd zi)) (fun ha10 hb11 => ?_)
      refine v_bin64 (w := ((s : Int) + w)) (hT _ zt_X11_told rfl _ _ rfl) (vz_addL (by omega) (by omega)) ?_
      refine v_store2 [some (2, 0), some (0, (j : Int)), some (0, 3), some (2, 8), some (1, ((s : Int) + w)), none, some (0, (i : Int))] (hT _ zt_X11_told rfl _ _ rfl) (Nat.le_of_ble_eq_true rfl) rfl ?_
      refine v_iinc (x := (i : Int)) (u := 1) (w := ((i : Int) + 1)) [some (2, 0), some (0, (j : Int)), some (0, 3), some (2, 8), some (1, ((s : Int) + w)), none, some (0, ((i : Int) + 1))] (hT _ zt_X11_told rfl _ _ rfl) rfl rfl (Nat.le_of_ble_eq_true rfl) (vz_inc (by omega) (by omega)) rfl ?_
      refine v_goto (hT _ zt_X11_told rfl _ _ rfl) ?_
      exact k2 ha2 hb3 hc4 hc8
theorem qt_td147_3 {D : zD} {T : zT} (hT : hTab T) (hO : vOK T) {N : Nat} {h : zH} {Q : zR → Prop} {j s : Nat} (z : Int) (hv0 : zHv h)
    (k0 : vP D T N 2 0 h [some (1, z), none] [] (fun r1 => vP D T N 186 150 r1.1 [some (2, 0), some (0, (j : Int)), some (0, 3), some (2, 8), some (1, (s : Int)), none, some (0, 5)] (zpush r1.2 [(1, (s : Int))]) Q)) :
    vP D T N 186 147 h [some (2, 0), some (0, (j : Int)), some (0, 3), some (2, 8), some (1, (s : Int)), none, some (0, 5)] [(1, z), (1, (s : Int))] Q := by
  refine v_call (w := 2) [some (1, z), none] hO (hT _ zt_X11_told rfl _ _ rfl) rfl rfl ?_
  exact k0 
theorem qt_td150_3 {D : zD} {T : zT} (hT : hTab T) (hO : vOK T) {N : Nat} {h : zH} {Q : zR → Prop} {j s d : Nat} (hv0 : zHv h)
    (k0 : ((s : Int) = (d : Int)) → vP D T N 193 0 h [some (2, 9), none, none, none, none, none, none, none] [] (fun r1 => vP D T N 186 162 r1.1 [some (2, 0), some (0, (j : Int)), some (0, 3), some (2, 8), some (1, (s : Int)), none, some (0, 5)] (zpush r1.2 []) Q))
    (k1 : ((s : Int) ≠ (d : Int)) → Q (h, some (1, 0))) :
    vP D T N 186 150 h [some (2, 0), some (0, (j : Int)), some (0, 3), some (2, 8), some (1, (s : Int)), none, some (0, 5)] [(0, (d : Int)), (1, (s : Int))] Q := by
  refine v_i2l (hT _ zt_X11_told rfl _ _ rfl) ?_
  refine v_lif (hT _ zt_X11_told rfl _ _ rfl) (hT _ zt_X11_told rfl _ _ rfl) (fun hc1 => ?_) (fun hc1 => ?_)
  · have hc1 : (s : Int) = (d : Int) := hc1
    refine v_load (v := (2, 8)) (hT _ zt_X11_told rfl _ _ rfl) rfl rfl ?_
    refine v_getR (c := 9) (r := 8) (hT _ zt_X11_told rfl _ _ rfl) rfl rfl rfl ?_
    refine v_call (w := 8) [some (2, 9), none, none, none, none, none, none, none] hO (hT _ zt_X11_told rfl _ _ rfl) rfl rfl ?_
    exact k0 hc1
  · have hc1 : (s : Int) ≠ (d : Int) := hc1
    refine v_push (0) (hT _ zt_X11_told rfl _ _ rfl) rfl ?_
    refine v_ret (hT _ zt_X11_told rfl _ _ rfl) (Or.inr rfl) ?_
    exact k1 hc1
theorem qt_td162_3 {D : zD} {T : zT} (hT : hTab T) (hO : vOK T) {N : Nat} {h : zH} {Q : zR → Prop} {j s : Nat} (v : Int) (hv0 : zHv h)
    (k0 : Q (h, some (1, v))) :
    vP D T N 186 162 h [some (2, 0), some (0, (j : Int)), some (0, 3), some (2, 8), some (1, (s : Int)), none, some (0, 5)] [(1, v)] Q := by
  refine v_goto (hT _ zt_X11_told rfl _ _ rfl) ?_
  refine v_ret (hT _ zt_X11_told rfl _ _ rfl) (Or.inr rfl) ?_
  exact k0 
theorem qt_td74e_3_24 {D : zD} {T : zT} (hT : hTab T) (hO : vOK T) {N : Nat} {h : zH} {Q : zR → Prop} {j s : Nat} (hv0 : zHv h) (e7 : h 0 7 = (2, 24))
    (k0 : vP D T N 29 0 (zset h 0 0 (0, 0)) [some (2, 24), some (0, (j : Int)), some (0, 1), none, none, none] [] (fun r1 => vP D T N 186 147 r1.1 [some (2, 0), some (0, (j : Int)), some (0, 3), some (2, 8), some (1, (s : Int)), none, some (0, 5)] (zpush r1.2 [(1, (s : Int))]) Q)) :
    vP D T (N + 1) 186 74 h [some (2, 0), some (0, (j : Int)), some (0, 3), some (2, 8), some (1, (s : Int)), none, some (0, 5)] [] Q := by
  refine v_loadS (v := (0, 5)) (hT _ zt_X11_told rfl _ _ rfl) rfl rfl ?_
  refine v_push (5) (hT _ zt_X11_told rfl _ _ rfl) rfl ?_
  refine v_ic (hT _ zt_X11_told rfl _ _ rfl) (fun hc1 => absurd (show (5 : Int) < 5 from hc1) (by omega)) (fun _ => ?_)
  refine v_load (v := (2, 0)) (hT _ zt_X11_told rfl _ _ rfl) rfl rfl ?_
  refine v_push (0) (hT _ zt_X11_told rfl _ _ rfl) rfl ?_
  refine v_putf (r := 0) hO (hT _ zt_X11_told rfl _ _ rfl) rfl (fun hf2 => ?_)
  refine v_load (v := (1, (s : Int))) (hT _ zt_X11_told rfl _ _ rfl) rfl rfl ?_
  refine v_load (v := (2, 0)) (hT _ zt_X11_told rfl _ _ rfl) rfl rfl ?_
  refine v_getf (v := (2, 24)) (r := 0) (hT _ zt_X11_told rfl _ _ rfl) rfl rfl (fun _ => Eq.trans (zset_ne (fun c => absurd c.2 (by decide))) (e7)) ?_
  refine v_load (v := (0, (j : Int))) (hT _ zt_X11_told rfl _ _ rfl) rfl rfl ?_
  refine v_push (1) (hT _ zt_X11_told rfl _ _ rfl) rfl ?_
  refine v_call (w := 6) [some (2, 24), some (0, (j : Int)), some (0, 1), none, none, none] hO (hT _ zt_X11_told rfl _ _ rfl) rfl rfl ?_
  exact k0 
section TD_0_24
variable {D : zD} {T : zT} {h : zH} {P : PT}
theorem ct_L_0_24 {j : Nat} {nu : Nat → Int} (hT : hTab T) (hO : vOK T) (hP : cP 24 P h) (hb : fB P) (hj : j < 3) (e7 : h 0 7 = (2, 24)) (hn : ∀ k, k < 5 → h 3 k = (1, nu k)) : ∀ (r i N : Nat), i + r = 5 → nuK nu i → vP D T N 186 74 h [some (2, 0), some (0, (j : Int)), some (0, 0), some (2, 2), some (1, ((Sm (nuN nu) i : Nat) : Int)), none, some (0, (i : Int))] [] (fun r => r.2 = some (1, tdA P j nu))
  | 0, i, N, hi, hk => by
    have hi : i = 5 := hi
    subst hi
    have l240 := Sm_K 5 hk
    have hP2 : cP 24 P (zset h 0 0 (0, 0)) := hP.eq (fun a b _ _ => zset_ne (by omega))
    refine vP_dn (vP_hv (fun hv => qt_td74e_0_24 hT hO hv e7 ?_))
    refine cx_ca_24 hT hO _ j rfl hP2 hb hj 1 (fun z hz => ?_)
    show vP D T N 186 147 (zset h 0 0 (0, 0)) [some (2, 0), some (0, (j : Int)), some (0, 0), some (2, 2), some (1, ((Sm (nuN nu) 5 : Nat) : Int)), none, some (0, 5)] [(1, z), (1, ((Sm (nuN nu) 5 : Nat) : Int))] _
    refine vP_hv (fun hv => qt_td147_0 hT hO z hv ?_)
    refine cb_bc hT hO z ?_
    rw [bcC_eq 64 hz, bcC_wC64]
    show vP D T N 186 150 (zset h 0 0 (0, 0)) [some (2, 0), some (0, (j : Int)), some (0, 0), some (2, 2), some (1, ((Sm (nuN nu) 5 : Nat) : Int)), none, some (0, 5)] [(0, ((sC P (cFq P j 1) 48 : Nat) : Int)), (1, ((Sm (nuN nu) 5 : Nat) : Int))] _
    refine vP_hv (fun hv => qt_td150_0 hT hO hv (fun c => ?_) (fun c => ?_))
    · have f48 : ∀ k, k < 5 → nuN nu k ≤ 48 := fun k h5 => by
        have := hk k h5
        unfold nuN
        omega
      refine cw_wl_0 (f := nuN nu) hT hO f48 (fun k h5 => ?_) ?_
      · rw [zset_ne (by omega), hn k h5, nuN_i (hk k h5).1]
      · show vP D T N 186 162 (zset h 0 0 (0, 0)) [some (2, 0), some (0, (j : Int)), some (0, 0), some (2, 2), some (1, ((Sm (nuN nu) 5 : Nat) : Int)), none, some (0, 5)] [(1, ((min mst (Bp (nuN nu) 5) : Nat) : Int))] _
        refine vP_hv (fun hv => qt_td162_0 hT hO _ hv ?_)
        show some ((1, ((min mst (Bp (nuN nu) 5) : Nat) : Int)) : zV) = some (1, tdA P j nu)
        rw [tdA_ok hk, if_pos (by omega)]
    · show some ((1, 0) : zV) = some (1, tdA P j nu)
      rw [tdA_ok hk, if_neg (by omega)]
  | r + 1, i, N, hi, hk => by
    have h5 : i < 5 := by omega
    have l240 := Sm_K i hk
    refine vP_dn (vP_hv (fun hv => qt_td74_0 hT hO (nu i) hv (by omega) (by omega) (hn i h5) (fun _ _ c => ?_) (fun _ _ c1 c => ?_) (fun _ _ c1 c => ?_)))
    · show some ((1, -1) : zV) = some (1, tdA P j nu)
      rw [tdA_bad h5 (by omega)]
    · show some ((1, -1) : zV) = some (1, tdA P j nu)
      rw [tdA_bad h5 (by omega)]
    · have e : ((Sm (nuN nu) i : Nat) : Int) + nu i = ((Sm (nuN nu) (i + 1) : Nat) : Int) := by
        have := nuN_i c1
        show _ = ((Sm (nuN nu) i + nuN nu i : Nat) : Int)
        omega
      rw [e, show (i : Int) + 1 = ((i + 1 : Nat) : Int) from by omega]
      exact ct_L_0_24 hT hO hP hb hj e7 hn r (i + 1) N (by omega) (nuK_s hk ⟨c1, c⟩)
theorem ct_32_0_24 {N j : Nat} {nu : Nat → Int} (hT : hTab T) (hO : vOK T) (hP : cP 24 P h) (hb : fB P) (hj : j < 3) (e7 : h 0 7 = (2, 24)) (hn : ∀ k, k < 5 → h 3 k = (1, nu k)) {so ln : Int} (z1 : h 2 1 = (0, so)) (z2 : h 2 2 = (0, ln)) : vP D T N 186 32 h [some (2, 0), some (0, (j : Int)), some (0, 0), none, none, none, none] [] (fun r => r.2 = some (1, if so = -1 ∨ ln < 5 then -1 else tdA P j nu)) := by
  refine vP_hv (fun hv => qt_td32_0 hT hO so ln hv z1 z2 (fun c => ?_) (fun c d => ?_) (fun c d => ?_))
  · show some ((1, -1) : zV) = some (1, if so = -1 ∨ ln < 5 then -1 else tdA P j nu)
    rw [if_pos (Or.inl c)]
  · show some ((1, -1) : zV) = some (1, if so = -1 ∨ ln < 5 then -1 else tdA P j nu)
    rw [if_pos (Or.inr d)]
  · rw [if_neg (by omega)]
    exact ct_L_0_24 hT hO hP hb hj e7 hn 5 0 N rfl (fun k hk => absurd hk (Nat.not_lt_zero _))
end TD_0_24
section TD_1_24
variable {D : zD} {T : zT} {h : zH} {P : PT}
theorem ct_L_1_24 {j : Nat} {nu : Nat → Int} (hT : hTab T) (hO : vOK T) (hP : cP 24 P h) (hb : fB P) (hj : j < 3) (e7 : h 0 7 = (2, 24)) (hn : ∀ k, k < 5 → h 5 k = (1, nu k)) : ∀ (r i N : Nat), i + r = 5 → nuK nu i → vP D T N 186 74 h [some (2, 0), some (0, (j : Int)), some (0, 1), some (2, 4), some (1, ((Sm (nuN nu) i : Nat) : Int)), none, some (0, (i : Int))] [] (fun r => r.2 = some (1, tdA P j nu))
  | 0, i, N, hi, hk => by
    have hi : i = 5 := hi
    subst hi
    have l240 := Sm_K 5 hk
    have hP2 : cP 24 P (zset h 0 0 (0, 0)) := hP.eq (fun a b _ _ => zset_ne (by omega))
    refine vP_dn (vP_hv (fun hv => qt_td74e_1_24 hT hO hv e7 ?_))
    refine cx_ca_24 hT hO _ j rfl hP2 hb hj 1 (fun z hz => ?_)
    show vP D T N 186 147 (zset h 0 0 (0, 0)) [some (2, 0), some (0, (j : Int)), some (0, 1), some (2, 4), some (1, ((Sm (nuN nu) 5 : Nat) : Int)), none, some (0, 5)] [(1, z), (1, ((Sm (nuN nu) 5 : Nat) : Int))] _
    refine vP_hv (fun hv => qt_td147_1 hT hO z hv ?_)
    refine cb_bc hT hO z ?_
    rw [bcC_eq 64 hz, bcC_wC64]
    show vP D T N 186 150 (zset h 0 0 (0, 0)) [some (2, 0), some (0, (j : Int)), some (0, 1), some (2, 4), some (1, ((Sm (nuN nu) 5 : Nat) : Int)), none, some (0, 5)] [(0, ((sC P (cFq P j 1) 48 : Nat) : Int)), (1, ((Sm (nuN nu) 5 : Nat) : Int))] _
    refine vP_hv (fun hv => qt_td150_1 hT hO hv (fun c => ?_) (fun c => ?_))
    · have f48 : ∀ k, k < 5 → nuN nu k ≤ 48 := fun k h5 => by
        have := hk k h5
        unfold nuN
        omega
      refine cw_wl_1 (f := nuN nu) hT hO f48 (fun k h5 => ?_) ?_
      · rw [zset_ne (by omega), hn k h5, nuN_i (hk k h5).1]
      · show vP D T N 186 162 (zset h 0 0 (0, 0)) [some (2, 0), some (0, (j : Int)), some (0, 1), some (2, 4), some (1, ((Sm (nuN nu) 5 : Nat) : Int)), none, some (0, 5)] [(1, ((min mst (Bp (nuN nu) 5) : Nat) : Int))] _
        refine vP_hv (fun hv => qt_td162_1 hT hO _ hv ?_)
        show some ((1, ((min mst (Bp (nuN nu) 5) : Nat) : Int)) : zV) = some (1, tdA P j nu)
        rw [tdA_ok hk, if_pos (by omega)]
    · show some ((1, 0) : zV) = some (1, tdA P j nu)
      rw [tdA_ok hk, if_neg (by omega)]
  | r + 1, i, N, hi, hk => by
    have h5 : i < 5 := by omega
    have l240 := Sm_K i hk
    refine vP_dn (vP_hv (fun hv => qt_td74_1 hT hO (nu i) hv (by omega) (by omega) (hn i h5) (fun _ _ c => ?_) (fun _ _ c1 c => ?_) (fun _ _ c1 c => ?_)))
    · show some ((1, -1) : zV) = some (1, tdA P j nu)
      rw [tdA_bad h5 (by omega)]
    · show some ((1, -1) : zV) = some (1, tdA P j nu)
      rw [tdA_bad h5 (by omega)]
    · have e : ((Sm (nuN nu) i : Nat) : Int) + nu i = ((Sm (nuN nu) (i + 1) : Nat) : Int) := by
        have := nuN_i c1
        show _ = ((Sm (nuN nu) i + nuN nu i : Nat) : Int)
        omega
      rw [e, show (i : Int) + 1 = ((i + 1 : Nat) : Int) from by omega]
      exact ct_L_1_24 hT hO hP hb hj e7 hn r (i + 1) N (by omega) (nuK_s hk ⟨c1, c⟩)
theorem ct_32_1_24 {N j : Nat} {nu : Nat → Int} (hT : hTab T) (hO : vOK T) (hP : cP 24 P h) (hb : fB P) (hj : j < 3) (e7 : h 0 7 = (2, 24)) (hn : ∀ k, k < 5 → h 5 k = (1, nu k)) {so ln : Int} (z1 : h 4 1 = (0, so)) (z2 : h 4 2 = (0, ln)) : vP D T N 186 32 h [some (2, 0), some (0, (j : Int)), some (0, 1), none, none, none, none] [] (fun r => r.2 = some (1, if so = -1 ∨ ln < 5 then -1 else tdA P j nu)) := by
  refine vP_hv (fun hv => qt_td32_1 hT hO so ln hv z1 z2 (fun c => ?_) (fun c d => ?_) (fun c d => ?_))
  · show some ((1, -1) : zV) = some (1, if so = -1 ∨ ln < 5 then -1 else tdA P j nu)
    rw [if_pos (Or.inl c)]
  · show some ((1, -1) : zV) = some (1, if so = -1 ∨ ln < 5 then -1 else tdA P j nu)
    rw [if_pos (Or.inr d)]
  · rw [if_neg (by omega)]
    exact ct_L_1_24 hT hO hP hb hj e7 hn 5 0 N rfl (fun k hk => absurd hk (Nat.not_lt_zero _))
end TD_1_24
section TD_2_24
variable {D : zD} {T : zT} {h : zH} {P : PT}
theorem ct_L_2_24 {j : Nat} {nu : Nat → Int} (hT : hTab T) (hO : vOK T) (hP : cP 24 P h) (hb : fB P) (hj : j < 3) (e7 : h 0 7 = (2, 24)) (hn : ∀ k, k < 5 → h 7 k = (1, nu k)) : ∀ (r i N : Nat), i + r = 5 → nuK nu i → vP D T N 186 74 h [some (2, 0), some (0, (j : Int)), some (0, 2), some (2, 6), some (1, ((Sm (nuN nu) i : Nat) : Int)), none, some (0, (i : Int))] [] (fun r => r.2 = some (1, tdA P j nu))
  | 0, i, N, hi, hk => by
    have hi : i = 5 := hi
    subst hi
    have l240 := Sm_K 5 hk
    have hP2 : cP 24 P (zset h 0 0 (0, 0)) := hP.eq (fun a b _ _ => zset_ne (by omega))
    refine vP_dn (vP_hv (fun hv => qt_td74e_2_24 hT hO hv e7 ?_))
    refine cx_ca_24 hT hO _ j rfl hP2 hb hj 1 (fun z hz => ?_)
    show vP D T N 186 147 (zset h 0 0 (0, 0)) [some (2, 0), some (0, (j : Int)), some (0, 2), some (2, 6), some (1, ((Sm (nuN nu) 5 : Nat) : Int)), none, some (0, 5)] [(1, z), (1, ((Sm (nuN nu) 5 : Nat) : Int))] _
    refine vP_hv (fun hv => qt_td147_2 hT hO z hv ?_)
    refine cb_bc hT hO z ?_
    rw [bcC_eq 64 hz, bcC_wC64]
    show vP D T N 186 150 (zset h 0 0 (0, 0)) [some (2, 0), some (0, (j : Int)), some (0, 2), some (2, 6), some (1, ((Sm (nuN nu) 5 : Nat) : Int)), none, some (0, 5)] [(0, ((sC P (cFq P j 1) 48 : Nat) : Int)), (1, ((Sm (nuN nu) 5 : Nat) : Int))] _
    refine vP_hv (fun hv => qt_td150_2 hT hO hv (fun c => ?_) (fun c => ?_))
    · have f48 : ∀ k, k < 5 → nuN nu k ≤ 48 := fun k h5 => by
        have := hk k h5
        unfold nuN
        omega
      refine cw_wl_2 (f := nuN nu) hT hO f48 (fun k h5 => ?_) ?_
      · rw [zset_ne (by omega), hn k h5, nuN_i (hk k h5).1]
      · show vP D T N 186 162 (zset h 0 0 (0, 0)) [some (2, 0), some (0, (j : Int)), some (0, 2), some (2, 6), some (1, ((Sm (nuN nu) 5 : Nat) : Int)), none, some (0, 5)] [(1, ((min mst (Bp (nuN nu) 5) : Nat) : Int))] _
        refine vP_hv (fun hv => qt_td162_2 hT hO _ hv ?_)
        show some ((1, ((min mst (Bp (nuN nu) 5) : Nat) : Int)) : zV) = some (1, tdA P j nu)
        rw [tdA_ok hk, if_pos (by omega)]
    · show some ((1, 0) : zV) = some (1, tdA P j nu)
      rw [tdA_ok hk, if_neg (by omega)]
  | r + 1, i, N, hi, hk => by
    have h5 : i < 5 := by omega
    have l240 := Sm_K i hk
    refine vP_dn (vP_hv (fun hv => qt_td74_2 hT hO (nu i) hv (by omega) (by omega) (hn i h5) (fun _ _ c => ?_) (fun _ _ c1 c => ?_) (fun _ _ c1 c => ?_)))
    · show some ((1, -1) : zV) = some (1, tdA P j nu)
      rw [tdA_bad h5 (by omega)]
    · show some ((1, -1) : zV) = some (1, tdA P j nu)
      rw [tdA_bad h5 (by omega)]
    · have e : ((Sm (nuN nu) i : Nat) : Int) + nu i = ((Sm (nuN nu) (i + 1) : Nat) : Int) := by
        have := nuN_i c1
        show _ = ((Sm (nuN nu) i + nuN nu i : Nat) : Int)
        omega
      rw [e, show (i : Int) + 1 = ((i + 1 : Nat) : Int) from by omega]
      exact ct_L_2_24 hT hO hP hb hj e7 hn r (i + 1) N (by omega) (nuK_s hk ⟨c1, c⟩)
theorem ct_32_2_24 {N j : Nat} {nu : Nat → Int} (hT : hTab T) (hO : vOK T) (hP : cP 24 P h) (hb : fB P) (hj : j < 3) (e7 : h 0 7 = (2, 24)) (hn : ∀ k, k < 5 → h 7 k = (1, nu k)) {so ln : Int} (z1 : h 6 1 = (0, so)) (z2 : h 6 2 = (0, ln)) : vP D T N 186 32 h [some (2, 0), some (0, (j : Int)), some (0, 2), none, none, none, none] [] (fun r => r.2 = some (1, if so = -1 ∨ ln < 5 then -1 else tdA P j nu)) := by
  refine vP_hv (fun hv => qt_td32_2 hT hO so ln hv z1 z2 (fun c => ?_) (fun c d => ?_) (fun c d => ?_))
  · show some ((1, -1) : zV) = some (1, if so = -1 ∨ ln < 5 then -1 else tdA P j nu)
    rw [if_pos (Or.inl c)]
  · show some ((1, -1) : zV) = some (1, if so = -1 ∨ ln < 5 then -1 else tdA P j nu)
    rw [if_pos (Or.inr d)]
  · rw [if_neg (by omega)]
    exact ct_L_2_24 hT hO hP hb hj e7 hn 5 0 N rfl (fun k hk => absurd hk (Nat.not_lt_zero _))
end TD_2_24
section TD_3_24
variable {D : zD} {T : zT} {h : zH} {P : PT}
theorem ct_L_3_24 {j : Nat} {nu : Nat → Int} (hT : hTab T) (hO : vOK T) (hP : cP 24 P h) (hb : fB P) (hj : j < 3) (e7 : h 0 7 = (2, 24)) (hn : ∀ k, k < 5 → h 9 k = (1, nu k)) : ∀ (r i N : Nat), i + r = 5 → nuK nu i → vP D T N 186 74 h [some (2, 0), some (0, (j : Int)), some (0, 3), some (2, 8), some (1, ((Sm (nuN nu) i : Nat) : Int)), none, some (0, (i : Int))] [] (fun r => r.2 = some (1, tdA P j nu))
  | 0, i, N, hi, hk => by
    have hi : i = 5 := hi
    subst hi
    have l240 := Sm_K 5 hk
    have hP2 : cP 24 P (zset h 0 0 (0, 0)) := hP.eq (fun a b _ _ => zset_ne (by omega))
    refine vP_dn (vP_hv (fun hv => qt_td74e_3_24 hT hO hv e7 ?_))
    refine cx_ca_24 hT hO _ j rfl hP2 hb hj 1 (fun z hz => ?_)
    show vP D T N 186 147 (zset h 0 0 (0, 0)) [some (2, 0), some (0, (j : Int)), some (0, 3), some (2, 8), some (1, ((Sm (nuN nu) 5 : Nat) : Int)), none, some (0, 5)] [(1, z), (1, ((Sm (nuN nu) 5 : Nat) : Int))] _
    refine vP_hv (fun hv => qt_td147_3 hT hO z hv ?_)
    refine cb_bc hT hO z ?_
    rw [bcC_eq 64 hz, bcC_wC64]
    show vP D T N 186 150 (zset h 0 0 (0, 0)) [some (2, 0), some (0, (j : Int)), some (0, 3), some (2, 8), some (1, ((Sm (nuN nu) 5 : Nat) : Int)), none, some (0, 5)] [(0, ((sC P (cFq P j 1) 48 : Nat) : Int)), (1, ((Sm (nuN nu) 5 : Nat) : Int))] _
    refine vP_hv (fun hv => qt_td150_3 hT hO hv (fun c => ?_) (fun c => ?_))
    · have f48 : ∀ k, k < 5 → nuN nu k ≤ 48 := fun k h5 => by
        have := hk k h5
        unfold nuN
        omega
      refine cw_wl_3 (f := nuN nu) hT hO f48 (fun k h5 => ?_) ?_
      · rw [zset_ne (by omega), hn k h5, nuN_i (hk k h5).1]
      · show vP D T N 186 162 (zset h 0 0 (0, 0)) [some (2, 0), some (0, (j : Int)), some (0, 3), some (2, 8), some (1, ((Sm (nuN nu) 5 : Nat) : Int)), none, some (0, 5)] [(1, ((min mst (Bp (nuN nu) 5) : Nat) : Int))] _
        refine vP_hv (fun hv => qt_td162_3 hT hO _ hv ?_)
        show some ((1, ((min mst (Bp (nuN nu) 5) : Nat) : Int)) : zV) = some (1, tdA P j nu)
        rw [tdA_ok hk, if_pos (by omega)]
    · show some ((1, 0) : zV) = some (1, tdA P j nu)
      rw [tdA_ok hk, if_neg (by omega)]
  | r + 1, i, N, hi, hk => by
    have h5 : i < 5 := by omega
    have l240 := Sm_K i hk
    refine vP_dn (vP_hv (fun hv => qt_td74_3 hT hO (nu i) hv (by omega) (by omega) (hn i h5) (fun _ _ c => ?_) (fun _ _ c1 c => ?_) (fun _ _ c1 c => ?_)))
    · show some ((1, -1) : zV) = some (1, tdA P j nu)
      rw [tdA_bad h5 (by omega)]
    · show some ((1, -1) : zV) = some (1, tdA P j nu)
      rw [tdA_bad h5 (by omega)]
    · have e : ((Sm (nuN nu) i : Nat) : Int) + nu i = ((Sm (nuN nu) (i + 1) : Nat) : Int) := by
        have := nuN_i c1
        show _ = ((Sm (nuN nu) i + nuN nu i : Nat) : Int)
        omega
      rw [e, show (i : Int) + 1 = ((i + 1 : Nat) : Int) from by omega]
      exact ct_L_3_24 hT hO hP hb hj e7 hn r (i + 1) N (by omega) (nuK_s hk ⟨c1, c⟩)
theorem ct_32_3_24 {N j : Nat} {nu : Nat → Int} (hT : hTab T) (hO : vOK T) (hP : cP 24 P h) (hb : fB P) (hj : j < 3) (e7 : h 0 7 = (2, 24)) (hn : ∀ k, k < 5 → h 9 k = (1, nu k)) {so ln : Int} (z1 : h 8 1 = (0, so)) (z2 : h 8 2 = (0, ln)) : vP D T N 186 32 h [some (2, 0), some (0, (j : Int)), some (0, 3), none, none, none, none] [] (fun r => r.2 = some (1, if so = -1 ∨ ln < 5 then -1 else tdA P j nu)) := by
  refine vP_hv (fun hv => qt_td32_3 hT hO so ln hv z1 z2 (fun c => ?_) (fun c d => ?_) (fun c d => ?_))
  · show some ((1, -1) : zV) = some (1, if so = -1 ∨ ln < 5 then -1 else tdA P j nu)
    rw [if_pos (Or.inl c)]
  · show some ((1, -1) : zV) = some (1, if so = -1 ∨ ln < 5 then -1 else tdA P j nu)
    rw [if_pos (Or.inr d)]
  · rw [if_neg (by omega)]
    exact ct_L_3_24 hT hO hP hb hj e7 hn 5 0 N rfl (fun k hk => absurd hk (Nat.not_lt_zero _))
end TD_3_24
theorem qt_td0_39 {D : zD} {T : zT} (hT : hTab T) (hO : vOK T) {N : Nat} {h : zH} {Q : zR → Prop} {P : PT} (x y : Int) (hv0 : zHv h) (e7 : h 0 7 = (2, 39)) (p0 : h 39 0 = (0, P 0 0)) (p1 : h 39 1 = (0, P 0 1)) (p2 : h 39 2 = (0, P 0 2)) (p3 : h 39 3 = (0, P 0 3)) (lb : (0 ≤ P 0 0 ∧ P 0 0 ≤ 8) ∧ (0 ≤ P 0 1 ∧ P 0 1 ≤ 6) ∧ (0 ≤ P 0 2 ∧ P 0 2 ≤ 3) ∧ (0 ≤ P 0 3 ∧ P 0 3 ≤ 6))
    (k0 : (y < 0) → Q (zset h 0 0 (0, 1), some (1, -1)))
    (k1 : (0 ≤ y) → (y < 4) → (x < 0) → Q (zset h 0 0 (0, 2), some (1, -1)))
    (k2 : (0 ≤ y) → (y < 4) → (0 ≤ x) → (x < (P 0 2)) → vP D T N 186 32 h [some (2, 0), some (0, x), some (0, y), none, none, none, none] [] Q)
    (k3 : (0 ≤ y) → (y < 4) → (0 ≤ x) → ((P 0 2) ≤ x) → Q (zset h 0 0 (0, 2), some (1, -1)))
    (k4 : (0 ≤ y) → (4 ≤ y) → Q (zset h 0 0 (0, 1), some (1, -1))) :
    vP D T N 186 0 h [some (2, 0), some (0, x), some (0, y), none, none, none, none] [] Q := by
  refine v_load (v := (0, y)) (hT _ zt_X11_told rfl _ _ rfl) rfl rfl ?_
  refine v_call (w := 1) [some (0, y)] hO (hT _ zt_X11_told rfl _ _ rfl) rfl rfl ?_
  refine v_load (v := (0, y)) (hT _ zt_X11_isTray rfl _ _ rfl) rfl rfl ?_
  refine v_if (hT _ zt_X11_isTray rfl _ _ rfl) (fun hc1 => ?_) (fun hc1 => ?_)
  · have hc1 : y < 0 := hc1
    refine v_push (0) (hT _ zt_X11_isTray rfl _ _ rfl) rfl ?_
    refine v_ret (hT _ zt_X11_isTray rfl _ _ rfl) (Or.inl rfl) ?_
    show vP D T N 186 4 h [some (2, 0), some (0, x), some (0, y), none, none, none, none] [(0, 0)] _
    refine v_if (hT _ zt_X11_told rfl _ _ rfl) (fun _ => ?_) (fun hc2 => absurd (show (0 : Int) = 0 from (by omega)) hc2)
    refine v_load (v := (2, 0)) (hT _ zt_X11_told rfl _ _ rfl) rfl rfl ?_
    refine v_push (1) (hT _ zt_X11_told rfl _ _ rfl) rfl ?_
    refine v_call (w := 2) [some (2, 0), some (0, 1)] hO (hT _ zt_X11_told rfl _ _ rfl) rfl rfl ?_
    refine v_load (v := (2, 0)) (hT _ zt_X11_refused rfl _ _ rfl) rfl rfl ?_
    refine v_load (v := (0, 1)) (hT _ zt_X11_refused rfl _ _ rfl) rfl rfl ?_
    refine v_putf (r := 0) hO (hT _ zt_X11_refused rfl _ _ rfl) rfl (fun hf3 => ?_)
    refine v_push (-1) (hT _ zt_X11_refused rfl _ _ rfl) rfl ?_
    refine v_ret (hT _ zt_X11_refused rfl _ _ rfl) (Or.inl rfl) ?_
    show vP D T N 186 12 (zset h 0 0 (0, 1)) [some (2, 0), some (0, x), some (0, y), none, none, none, none] [(0, -1)] _
    refine v_i2l (hT _ zt_X11_told rfl _ _ rfl) ?_
    refine v_ret (hT _ zt_X11_told rfl _ _ rfl) (Or.inr rfl) ?_
    exact k0 hc1
  · have hc1 : 0 ≤ y := Int.not_lt.mp hc1
    refine v_load (v := (0, y)) (hT _ zt_X11_isTray rfl _ _ rfl) rfl rfl ?_
    refine v_push (4) (hT _ zt_X11_isTray rfl _ _ rfl) rfl ?_
    refine v_ic (hT _ zt_X11_isTray rfl _ _ rfl) (fun hc4 => ?_) (fun hc4 => ?_)
    · have hc4 : y < 4 := hc4
      refine v_push (1) (hT _ zt_X11_isTray rfl _ _ rfl) rfl ?_
      refine v_goto (hT _ zt_X11_isTray rfl _ _ rfl) ?_
      refine v_ret (hT _ zt_X11_isTray rfl _ _ rfl) (Or.inl rfl) ?_
      show vP D T N 186 4 h [some (2, 0), some (0, x), some (0, y), none, none, none, none] [(0, 1)] _
      refine v_if (hT _ zt_X11_told rfl _ _ rfl) (fun hc5 => absurd (show (1 : Int) = 0 from hc5) (by omega)) (fun _ => ?_)
      refine v_load (v := (2, 0)) (hT _ zt_X11_told rfl _ _ rfl) rfl rfl ?_
      refine v_getf (v := (2, 39)) (r := 0) (hT _ zt_X11_told rfl _ _ rfl) rfl rfl (fun _ => e7) ?_
      refine v_load (v := (0, x)) (hT _ zt_X11_told rfl _ _ rfl) rfl rfl ?_
      refine v_call (w := 2) [some (2, 39), some (0, x)] hO (hT _ zt_X11_told rfl _ _ rfl) rfl rfl ?_
      refine v_load (v := (0, x)) (hT _ zt_X2_hasCopy rfl _ _ rfl) rfl rfl ?_
      refine v_if (hT _ zt_X2_hasCopy rfl _ _ rfl) (fun hc6 => ?_) (fun hc6 => ?_)
      · have hc6 : x < 0 := hc6
        refine v_push (0) (hT _ zt_X2_hasCopy rfl _ _ rfl) rfl ?_
        refine v_ret (hT _ zt_X2_hasCopy rfl _ _ rfl) (Or.inl rfl) ?_
        show vP D T N 186 22 h [some (2, 0), some (0, x), some (0, y), none, none, none, none] [(0, 0)] _
        refine v_if (hT _ zt_X11_told rfl _ _ rfl) (fun _ => ?_) (fun hc7 => absurd (show (0 : Int) = 0 from (by omega)) hc7)
        refine v_load (v := (2, 0)) (hT _ zt_X11_told rfl _ _ rfl) rfl rfl ?_
        refine v_push (2) (hT _ zt_X11_told rfl _ _ rfl) rfl ?_
        refine v_call (w := 2) [some (2, 0), some (0, 2)] hO (hT _ zt_X11_told rfl _ _ rfl) rfl rfl ?_
        refine v_load (v := (2, 0)) (hT _ zt_X11_refused rfl _ _ rfl) rfl rfl ?_
        refine v_load (v := (0, 2)) (hT _ zt_X11_refused rfl _ _ rfl) rfl rfl ?_
        refine v_putf (r := 0) hO (hT _ zt_X11_refused rfl _ _ rfl) rfl (fun hf8 => ?_)
        refine v_push (-1) (hT _ zt_X11_refused rfl _ _ rfl) rfl ?_
        refine v_ret (hT _ zt_X11_refused rfl _ _ rfl) (Or.inl rfl) ?_
        show vP D T N 186 30 (zset h 0 0 (0, 2)) [some (2, 0), some (0, x), some (0, y), none, none, none, none] [(0, -1)] _
        refine v_i2l (hT _ zt_X11_told rfl _ _ rfl) ?_
        refine v_ret (hT _ zt_X11_told rfl _ _ rfl) (Or.inr rfl) ?_
        exact k1 hc1 hc4 hc6
      · have hc6 : 0 ≤ x := Int.not_lt.mp hc6
        refine v_load (v := (0, x)) (hT _ zt_X2_hasCopy rfl _ _ rfl) rfl rfl ?_
        refine v_load (v := (2, 39)) (hT _ zt_X2_hasCopy rfl _ _ rfl) rfl rfl ?_
        refine v_getf (v := (0, (P 0 2))) (r := 39) (hT _ zt_X2_hasCopy rfl _ _ rfl) rfl rfl (fun _ => p2) ?_
        refine v_ic (hT _ zt_X2_hasCopy rfl _ _ rfl) (fun hc9 => ?_) (fun hc9 => ?_)
        · have hc9 : x < (P 0 2) := hc9
          refine v_push (1) (hT _ zt_X2_hasCopy rfl _ _ rfl) rfl ?_
          refine v_goto (hT _ zt_X2_hasCopy rfl _ _ rfl) ?_
          refine v_ret (hT _ zt_X2_hasCopy rfl _ _ rfl) (Or.inl rfl) ?_
          show vP D T N 186 22 h [some (2, 0), some (0, x), some (0, y), none, none, none, none] [(0, 1)] _
          refine v_if (hT _ zt_X11_told rfl _ _ rfl) (fun hc10 => absurd (show (1 : Int) = 0 from hc10) (by omega)) (fun _ => ?_)
          exact k2 hc1 hc4 hc6 hc9
        · have hc9 : (P 0 2) ≤ x := Int.not_lt.mp hc9
          refine v_push (0) (hT _ zt_X2_hasCopy rfl _ _ rfl) rfl ?_
          refine v_ret (hT _ zt_X2_hasCopy rfl _ _ rfl) (Or.inl rfl) ?_
          show vP D T N 186 22 h [some (2, 0), some (0, x), some (0, y), none, none, none, none] [(0, 0)] _
          refine v_if (hT _ zt_X11_told rfl _ _ rfl) (fun _ => ?_) (fun hc11 => absurd (show (0 : Int) = 0 from (by omega)) hc11)
          refine v_load (v := (2, 0)) (hT _ zt_X11_told rfl _ _ rfl) rfl rfl ?_
          refine v_push (2) (hT _ zt_X11_told rfl _ _ rfl) rfl ?_
          refine v_call (w := 2) [some (2, 0), some (0, 2)] hO (hT _ zt_X11_told rfl _ _ rfl) rfl rfl ?_
          refine v_load (v := (2, 0)) (hT _ zt_X11_refused rfl _ _ rfl) rfl rfl ?_
          refine v_load (v := (0, 2)) (hT _ zt_X11_refused rfl _ _ rfl) rfl rfl ?_
          refine v_putf (r := 0) hO (hT _ zt_X11_refused rfl _ _ rfl) rfl (fun hf12 => ?_)
          refine v_push (-1) (hT _ zt_X11_refused rfl _ _ rfl) rfl ?_
          refine v_ret (hT _ zt_X11_refused rfl _ _ rfl) (Or.inl rfl) ?_
          show vP D T N 186 30 (zset h 0 0 (0, 2)) [some (2, 0), some (0, x), some (0, y), none, none, none, none] [(0, -1)] _
          refine v_i2l (hT _ zt_X11_told rfl _ _ rfl) ?_
          refine v_ret (hT _ zt_X11_told rfl _ _ rfl) (Or.inr rfl) ?_
          exact k3 hc1 hc4 hc6 hc9
    · have hc4 : 4 ≤ y := Int.not_lt.mp hc4
      refine v_push (0) (hT _ zt_X11_isTray rfl _ _ rfl) rfl ?_
      refine v_ret (hT _ zt_X11_isTray rfl _ _ rfl) (Or.inl rfl) ?_
      show vP D T N 186 4 h [some (2, 0), some (0, x), some (0, y), none, none, none, none] [(0, 0)] _
      refine v_if (hT _ zt_X11_told rfl _ _ rfl) (fun _ => ?_) (fun hc13 => absurd (show (0 : Int) = 0 from (by omega)) hc13)
      refine v_load (v := (2, 0)) (hT _ zt_X11_told rfl _ _ rfl) rfl rfl ?_
      refine v_push (1) (hT _ zt_X11_told rfl _ _ rfl) rfl ?_
      refine v_call (w := 2) [some (2, 0), some (0, 1)] hO (hT _ zt_X11_told rfl _ _ rfl) rfl rfl ?_
      refine v_load (v := (2, 0)) (hT _ zt_X11_refused rfl _ _ rfl) rfl rfl ?_
      refine v_load (v := (0, 1)) (hT _ zt_X11_refused rfl _ _ rfl) rfl rfl ?_
      refine v_putf (r := 0) hO (hT _ zt_X11_refused rfl _ _ rfl) rfl (fun hf14 => ?_)
      refine v_push (-1) (hT _ zt_X11_refused rfl _ _ rfl) rfl ?_
      refine v_ret (hT _ zt_X11_refused rfl _ _ rfl) (Or.inl rfl) ?_
      show vP D T N 186 12 (zset h 0 0 (0, 1)) [some (2, 0), some (0, x), some (0, y), none, none, none, none] [(0, -1)] _
      refine v_i2l (hT _ zt_X11_told rfl _ _ rfl) ?_
      refine v_ret (hT _ zt_X11_told rfl _ _ rfl) (Or.inr rfl) ?_
      exact k4 hc1 hc4
theorem qt_td74e_0_39 {D : zD} {T : zT} (hT : hTab T) (hO : vOK T) {N : Nat} {h : zH} {Q : zR → Prop} {j s : Nat} (hv0 : zHv h) (e7 : h 0 7 = (2, 39))
    (k0 : vP D T N 29 0 (zset h 0 0 (0, 0)) [some (2, 39), some (0, (j : Int)), some (0, 1), none, none, none] [] (fun r1 => vP D T N 186 147 r1.1 [some (2, 0), some (0, (j : Int)), some (0, 0), some (2, 2), some (1, (s : Int)), none, some (0, 5)] (zpush r1.2 [(1, (s : Int))]) Q)) :
    vP D T (N + 1) 186 74 h [some (2, 0), some (0, (j : Int)), some (0, 0), some (2, 2), some (1, (s : Int)), none, some (0, 5)] [] Q := by
  refine v_loadS (v := (0, 5)) (hT _ zt_X11_told rfl _ _ rfl) rfl rfl ?_
  refine v_push (5) (hT _ zt_X11_told rfl _ _ rfl) rfl ?_
  refine v_ic (hT _ zt_X11_told rfl _ _ rfl) (fun hc1 => absurd (show (5 : Int) < 5 from hc1) (by omega)) (fun _ => ?_)
  refine v_load (v := (2, 0)) (hT _ zt_X11_told rfl _ _ rfl) rfl rfl ?_
  refine v_push (0) (hT _ zt_X11_told rfl _ _ rfl) rfl ?_
  refine v_putf (r := 0) hO (hT _ zt_X11_told rfl _ _ rfl) rfl (fun hf2 => ?_)
  refine v_load (v := (1, (s : Int))) (hT _ zt_X11_told rfl _ _ rfl) rfl rfl ?_
  refine v_load (v := (2, 0)) (hT _ zt_X11_told rfl _ _ rfl) rfl rfl ?_
  refine v_getf (v := (2, 39)) (r := 0) (hT _ zt_X11_told rfl _ _ rfl) rfl rfl (fun _ => Eq.trans (zset_ne (fun c => absurd c.2 (by decide))) (e7)) ?_
  refine v_load (v := (0, (j : Int))) (hT _ zt_X11_told rfl _ _ rfl) rfl rfl ?_
  refine v_push (1) (hT _ zt_X11_told rfl _ _ rfl) rfl ?_
  refine v_call (w := 6) [some (2, 39), some (0, (j : Int)), some (0, 1), none, none, none] hO (hT _ zt_X11_told rfl _ _ rfl) rfl rfl ?_
  exact k0 
theorem qt_td74e_1_39 {D : zD} {T : zT} (hT : hTab T) (hO : vOK T) {N : Nat} {h : zH} {Q : zR → Prop} {j s : Nat} (hv0 : zHv h) (e7 : h 0 7 = (2, 39))
    (k0 : vP D T N 29 0 (zset h 0 0 (0, 0)) [some (2, 39), some (0, (j : Int)), some (0, 1), none, none, none] [] (fun r1 => vP D T N 186 147 r1.1 [some (2, 0), some (0, (j : Int)), some (0, 1), some (2, 4), some (1, (s : Int)), none, some (0, 5)] (zpush r1.2 [(1, (s : Int))]) Q)) :
    vP D T (N + 1) 186 74 h [some (2, 0), some (0, (j : Int)), some (0, 1), some (2, 4), some (1, (s : Int)), none, some (0, 5)] [] Q := by
  refine v_loadS (v := (0, 5)) (hT _ zt_X11_told rfl _ _ rfl) rfl rfl ?_
  refine v_push (5) (hT _ zt_X11_told rfl _ _ rfl) rfl ?_
  refine v_ic (hT _ zt_X11_told rfl _ _ rfl) (fun hc1 => absurd (show (5 : Int) < 5 from hc1) (by omega)) (fun _ => ?_)
  refine v_load (v := (2, 0)) (hT _ zt_X11_told rfl _ _ rfl) rfl rfl ?_
  refine v_push (0) (hT _ zt_X11_told rfl _ _ rfl) rfl ?_
  refine v_putf (r := 0) hO (hT _ zt_X11_told rfl _ _ rfl) rfl (fun hf2 => ?_)
  refine v_load (v := (1, (s : Int))) (hT _ zt_X11_told rfl _ _ rfl) rfl rfl ?_
  refine v_load (v := (2, 0)) (hT _ zt_X11_told rfl _ _ rfl) rfl rfl ?_
  refine v_getf (v := (2, 39)) (r := 0) (hT _ zt_X11_told rfl _ _ rfl) rfl rfl (fun _ => Eq.trans (zset_ne (fun c => absurd c.2 (by decide))) (e7)) ?_
  refine v_load (v := (0, (j : Int))) (hT _ zt_X11_told rfl _ _ rfl) rfl rfl ?_
  refine v_push (1) (hT _ zt_X11_told rfl _ _ rfl) rfl ?_
  refine v_call (w := 6) [some (2, 39), some (0, (j : Int)), some (0, 1), none, none, none] hO (hT _ zt_X11_told rfl _ _ rfl) rfl rfl ?_
  exact k0 
theorem qt_td74e_2_39 {D : zD} {T : zT} (hT : hTab T) (hO : vOK T) {N : Nat} {h : zH} {Q : zR → Prop} {j s : Nat} (hv0 : zHv h) (e7 : h 0 7 = (2, 39))
    (k0 : vP D T N 29 0 (zset h 0 0 (0, 0)) [some (2, 39), some (0, (j : Int)), some (0, 1), none, none, none] [] (fun r1 => vP D T N 186 147 r1.1 [some (2, 0), some (0, (j : Int)), some (0, 2), some (2, 6), some (1, (s : Int)), none, some (0, 5)] (zpush r1.2 [(1, (s : Int))]) Q)) :
    vP D T (N + 1) 186 74 h [some (2, 0), some (0, (j : Int)), some (0, 2), some (2, 6), some (1, (s : Int)), none, some (0, 5)] [] Q := by
  refine v_loadS (v := (0, 5)) (hT _ zt_X11_told rfl _ _ rfl) rfl rfl ?_
  refine v_push (5) (hT _ zt_X11_told rfl _ _ rfl) rfl ?_
  refine v_ic (hT _ zt_X11_told rfl _ _ rfl) (fun hc1 => absurd (show (5 : Int) < 5 from hc1) (by omega)) (fun _ => ?_)
  refine v_load (v := (2, 0)) (hT _ zt_X11_told rfl _ _ rfl) rfl rfl ?_
  refine v_push (0) (hT _ zt_X11_told rfl _ _ rfl) rfl ?_
  refine v_putf (r := 0) hO (hT _ zt_X11_told rfl _ _ rfl) rfl (fun hf2 => ?_)
  refine v_load (v := (1, (s : Int))) (hT _ zt_X11_told rfl _ _ rfl) rfl rfl ?_
  refine v_load (v := (2, 0)) (hT _ zt_X11_told rfl _ _ rfl) rfl rfl ?_
  refine v_getf (v := (2, 39)) (r := 0) (hT _ zt_X11_told rfl _ _ rfl) rfl rfl (fun _ => Eq.trans (zset_ne (fun c => absurd c.2 (by decide))) (e7)) ?_
  refine v_load (v := (0, (j : Int))) (hT _ zt_X11_told rfl _ _ rfl) rfl rfl ?_
  refine v_push (1) (hT _ zt_X11_told rfl _ _ rfl) rfl ?_
  refine v_call (w := 6) [some (2, 39), some (0, (j : Int)), some (0, 1), none, none, none] hO (hT _ zt_X11_told rfl _ _ rfl) rfl rfl ?_
  exact k0 
theorem qt_td74e_3_39 {D : zD} {T : zT} (hT : hTab T) (hO : vOK T) {N : Nat} {h : zH} {Q : zR → Prop} {j s : Nat} (hv0 : zHv h) (e7 : h 0 7 = (2, 39))
    (k0 : vP D T N 29 0 (zset h 0 0 (0, 0)) [some (2, 39), some (0, (j : Int)), some (0, 1), none, none, none] [] (fun r1 => vP D T N 186 147 r1.1 [some (2, 0), some (0, (j : Int)), some (0, 3), some (2, 8), some (1, (s : Int)), none, some (0, 5)] (zpush r1.2 [(1, (s : Int))]) Q)) :
    vP D T (N + 1) 186 74 h [some (2, 0), some (0, (j : Int)), some (0, 3), some (2, 8), some (1, (s : Int)), none, some (0, 5)] [] Q := by
  refine v_loadS (v := (0, 5)) (hT _ zt_X11_told rfl _ _ rfl) rfl rfl ?_
  refine v_push (5) (hT _ zt_X11_told rfl _ _ rfl) rfl ?_
  refine v_ic (hT _ zt_X11_told rfl _ _ rfl) (fun hc1 => absurd (show (5 : Int) < 5 from hc1) (by omega)) (fun _ => ?_)
  refine v_load (v := (2, 0)) (hT _ zt_X11_told rfl _ _ rfl) rfl rfl ?_
  refine v_push (0) (hT _ zt_X11_told rfl _ _ rfl) rfl ?_
  refine v_putf (r := 0) hO (hT _ zt_X11_told rfl _ _ rfl) rfl (fun hf2 => ?_)
  refine v_load (v := (1, (s : Int))) (hT _ zt_X11_told rfl _ _ rfl) rfl rfl ?_
  refine v_load (v := (2, 0)) (hT _ zt_X11_told rfl _ _ rfl) rfl rfl ?_
  refine v_getf (v := (2, 39)) (r := 0) (hT _ zt_X11_told rfl _ _ rfl) rfl rfl (fun _ => Eq.trans (zset_ne (fun c => absurd c.2 (by decide))) (e7)) ?_
  refine v_load (v := (0, (j : Int))) (hT _ zt_X11_told rfl _ _ rfl) rfl rfl ?_
  refine v_push (1) (hT _ zt_X11_told rfl _ _ rfl) rfl ?_
  refine v_call (w := 6) [some (2, 39), some (0, (j : Int)), some (0, 1), none, none, none] hO (hT _ zt_X11_told rfl _ _ rfl) rfl rfl ?_
  exact k0 
section TD_0_39
variable {D : zD} {T : zT} {h : zH} {P : PT}
theorem ct_L_0_39 {j : Nat} {nu : Nat → Int} (hT : hTab T) (hO : vOK T) (hP : cP 39 P h) (hb : fB P) (hj : j < 3) (e7 : h 0 7 = (2, 39)) (hn : ∀ k, k < 5 → h 3 k = (1, nu k)) : ∀ (r i N : Nat), i + r = 5 → nuK nu i → vP D T N 186 74 h [some (2, 0), some (0, (j : Int)), some (0, 0), some (2, 2), some (1, ((Sm (nuN nu) i : Nat) : Int)), none, some (0, (i : Int))] [] (fun r => r.2 = some (1, tdA P j nu))
  | 0, i, N, hi, hk => by
    have hi : i = 5 := hi
    subst hi
    have l240 := Sm_K 5 hk
    have hP2 : cP 39 P (zset h 0 0 (0, 0)) := hP.eq (fun a b _ _ => zset_ne (by omega))
    refine vP_dn (vP_hv (fun hv => qt_td74e_0_39 hT hO hv e7 ?_))
    refine cx_ca_39 hT hO _ j rfl hP2 hb hj 1 (fun z hz => ?_)
    show vP D T N 186 147 (zset h 0 0 (0, 0)) [some (2, 0), some (0, (j : Int)), some (0, 0), some (2, 2), some (1, ((Sm (nuN nu) 5 : Nat) : Int)), none, some (0, 5)] [(1, z), (1, ((Sm (nuN nu) 5 : Nat) : Int))] _
    refine vP_hv (fun hv => qt_td147_0 hT hO z hv ?_)
    refine cb_bc hT hO z ?_
    rw [bcC_eq 64 hz, bcC_wC64]
    show vP D T N 186 150 (zset h 0 0 (0, 0)) [some (2, 0), some (0, (j : Int)), some (0, 0), some (2, 2), some (1, ((Sm (nuN nu) 5 : Nat) : Int)), none, some (0, 5)] [(0, ((sC P (cFq P j 1) 48 : Nat) : Int)), (1, ((Sm (nuN nu) 5 : Nat) : Int))] _
    refine vP_hv (fun hv => qt_td150_0 hT hO hv (fun c => ?_) (fun c => ?_))
    · have f48 : ∀ k, k < 5 → nuN nu k ≤ 48 := fun k h5 => by
        have := hk k h5
        unfold nuN
        omega
      refine cw_wl_0 (f := nuN nu) hT hO f48 (fun k h5 => ?_) ?_
      · rw [zset_ne (by omega), hn k h5, nuN_i (hk k h5).1]
      · show vP D T N 186 162 (zset h 0 0 (0, 0)) [some (2, 0), some (0, (j : Int)), some (0, 0), some (2, 2), some (1, ((Sm (nuN nu) 5 : Nat) : Int)), none, some (0, 5)] [(1, ((min mst (Bp (nuN nu) 5) : Nat) : Int))] _
        refine vP_hv (fun hv => qt_td162_0 hT hO _ hv ?_)
        show some ((1, ((min mst (Bp (nuN nu) 5) : Nat) : Int)) : zV) = some (1, tdA P j nu)
        rw [tdA_ok hk, if_pos (by omega)]
    · show some ((1, 0) : zV) = some (1, tdA P j nu)
      rw [tdA_ok hk, if_neg (by omega)]
  | r + 1, i, N, hi, hk => by
    have h5 : i < 5 := by omega
    have l240 := Sm_K i hk
    refine vP_dn (vP_hv (fun hv => qt_td74_0 hT hO (nu i) hv (by omega) (by omega) (hn i h5) (fun _ _ c => ?_) (fun _ _ c1 c => ?_) (fun _ _ c1 c => ?_)))
    · show some ((1, -1) : zV) = some (1, tdA P j nu)
      rw [tdA_bad h5 (by omega)]
    · show some ((1, -1) : zV) = some (1, tdA P j nu)
      rw [tdA_bad h5 (by omega)]
    · have e : ((Sm (nuN nu) i : Nat) : Int) + nu i = ((Sm (nuN nu) (i + 1) : Nat) : Int) := by
        have := nuN_i c1
        show _ = ((Sm (nuN nu) i + nuN nu i : Nat) : Int)
        omega
      rw [e, show (i : Int) + 1 = ((i + 1 : Nat) : Int) from by omega]
      exact ct_L_0_39 hT hO hP hb hj e7 hn r (i + 1) N (by omega) (nuK_s hk ⟨c1, c⟩)
theorem ct_32_0_39 {N j : Nat} {nu : Nat → Int} (hT : hTab T) (hO : vOK T) (hP : cP 39 P h) (hb : fB P) (hj : j < 3) (e7 : h 0 7 = (2, 39)) (hn : ∀ k, k < 5 → h 3 k = (1, nu k)) {so ln : Int} (z1 : h 2 1 = (0, so)) (z2 : h 2 2 = (0, ln)) : vP D T N 186 32 h [some (2, 0), some (0, (j : Int)), some (0, 0), none, none, none, none] [] (fun r => r.2 = some (1, if so = -1 ∨ ln < 5 then -1 else tdA P j nu)) := by
  refine vP_hv (fun hv => qt_td32_0 hT hO so ln hv z1 z2 (fun c => ?_) (fun c d => ?_) (fun c d => ?_))
  · show some ((1, -1) : zV) = some (1, if so = -1 ∨ ln < 5 then -1 else tdA P j nu)
    rw [if_pos (Or.inl c)]
  · show some ((1, -1) : zV) = some (1, if so = -1 ∨ ln < 5 then -1 else tdA P j nu)
    rw [if_pos (Or.inr d)]
  · rw [if_neg (by omega)]
    exact ct_L_0_39 hT hO hP hb hj e7 hn 5 0 N rfl (fun k hk => absurd hk (Nat.not_lt_zero _))
end TD_0_39
section TD_1_39
variable {D : zD} {T : zT} {h : zH} {P : PT}
theorem ct_L_1_39 {j : Nat} {nu : Nat → Int} (hT : hTab T) (hO : vOK T) (hP : cP 39 P h) (hb : fB P) (hj : j < 3) (e7 : h 0 7 = (2, 39)) (hn : ∀ k, k < 5 → h 5 k = (1, nu k)) : ∀ (r i N : Nat), i + r = 5 → nuK nu i → vP D T N 186 74 h [some (2, 0), some (0, (j : Int)), some (0, 1), some (2, 4), some (1, ((Sm (nuN nu) i : Nat) : Int)), none, some (0, (i : Int))] [] (fun r => r.2 = some (1, tdA P j nu))
  | 0, i, N, hi, hk => by
    have hi : i = 5 := hi
    subst hi
    have l240 := Sm_K 5 hk
    have hP2 : cP 39 P (zset h 0 0 (0, 0)) := hP.eq (fun a b _ _ => zset_ne (by omega))
    refine vP_dn (vP_hv (fun hv => qt_td74e_1_39 hT hO hv e7 ?_))
    refine cx_ca_39 hT hO _ j rfl hP2 hb hj 1 (fun z hz => ?_)
    show vP D T N 186 147 (zset h 0 0 (0, 0)) [some (2, 0), some (0, (j : Int)), some (0, 1), some (2, 4), some (1, ((Sm (nuN nu) 5 : Nat) : Int)), none, some (0, 5)] [(1, z), (1, ((Sm (nuN nu) 5 : Nat) : Int))] _
    refine vP_hv (fun hv => qt_td147_1 hT hO z hv ?_)
    refine cb_bc hT hO z ?_
    rw [bcC_eq 64 hz, bcC_wC64]
    show vP D T N 186 150 (zset h 0 0 (0, 0)) [some (2, 0), some (0, (j : Int)), some (0, 1), some (2, 4), some (1, ((Sm (nuN nu) 5 : Nat) : Int)), none, some (0, 5)] [(0, ((sC P (cFq P j 1) 48 : Nat) : Int)), (1, ((Sm (nuN nu) 5 : Nat) : Int))] _
    refine vP_hv (fun hv => qt_td150_1 hT hO hv (fun c => ?_) (fun c => ?_))
    · have f48 : ∀ k, k < 5 → nuN nu k ≤ 48 := fun k h5 => by
        have := hk k h5
        unfold nuN
        omega
      refine cw_wl_1 (f := nuN nu) hT hO f48 (fun k h5 => ?_) ?_
      · rw [zset_ne (by omega), hn k h5, nuN_i (hk k h5).1]
      · show vP D T N 186 162 (zset h 0 0 (0, 0)) [some (2, 0), some (0, (j : Int)), some (0, 1), some (2, 4), some (1, ((Sm (nuN nu) 5 : Nat) : Int)), none, some (0, 5)] [(1, ((min mst (Bp (nuN nu) 5) : Nat) : Int))] _
        refine vP_hv (fun hv => qt_td162_1 hT hO _ hv ?_)
        show some ((1, ((min mst (Bp (nuN nu) 5) : Nat) : Int)) : zV) = some (1, tdA P j nu)
        rw [tdA_ok hk, if_pos (by omega)]
    · show some ((1, 0) : zV) = some (1, tdA P j nu)
      rw [tdA_ok hk, if_neg (by omega)]
  | r + 1, i, N, hi, hk => by
    have h5 : i < 5 := by omega
    have l240 := Sm_K i hk
    refine vP_dn (vP_hv (fun hv => qt_td74_1 hT hO (nu i) hv (by omega) (by omega) (hn i h5) (fun _ _ c => ?_) (fun _ _ c1 c => ?_) (fun _ _ c1 c => ?_)))
    · show some ((1, -1) : zV) = some (1, tdA P j nu)
      rw [tdA_bad h5 (by omega)]
    · show some ((1, -1) : zV) = some (1, tdA P j nu)
      rw [tdA_bad h5 (by omega)]
    · have e : ((Sm (nuN nu) i : Nat) : Int) + nu i = ((Sm (nuN nu) (i + 1) : Nat) : Int) := by
        have := nuN_i c1
        show _ = ((Sm (nuN nu) i + nuN nu i : Nat) : Int)
        omega
      rw [e, show (i : Int) + 1 = ((i + 1 : Nat) : Int) from by omega]
      exact ct_L_1_39 hT hO hP hb hj e7 hn r (i + 1) N (by omega) (nuK_s hk ⟨c1, c⟩)
theorem ct_32_1_39 {N j : Nat} {nu : Nat → Int} (hT : hTab T) (hO : vOK T) (hP : cP 39 P h) (hb : fB P) (hj : j < 3) (e7 : h 0 7 = (2, 39)) (hn : ∀ k, k < 5 → h 5 k = (1, nu k)) {so ln : Int} (z1 : h 4 1 = (0, so)) (z2 : h 4 2 = (0, ln)) : vP D T N 186 32 h [some (2, 0), some (0, (j : Int)), some (0, 1), none, none, none, none] [] (fun r => r.2 = some (1, if so = -1 ∨ ln < 5 then -1 else tdA P j nu)) := by
  refine vP_hv (fun hv => qt_td32_1 hT hO so ln hv z1 z2 (fun c => ?_) (fun c d => ?_) (fun c d => ?_))
  · show some ((1, -1) : zV) = some (1, if so = -1 ∨ ln < 5 then -1 else tdA P j nu)
    rw [if_pos (Or.inl c)]
  · show some ((1, -1) : zV) = some (1, if so = -1 ∨ ln < 5 then -1 else tdA P j nu)
    rw [if_pos (Or.inr d)]
  · rw [if_neg (by omega)]
    exact ct_L_1_39 hT hO hP hb hj e7 hn 5 0 N rfl (fun k hk => absurd hk (Nat.not_lt_zero _))
end TD_1_39
section TD_2_39
variable {D : zD} {T : zT} {h : zH} {P : PT}
theorem ct_L_2_39 {j : Nat} {nu : Nat → Int} (hT : hTab T) (hO : vOK T) (hP : cP 39 P h) (hb : fB P) (hj : j < 3) (e7 : h 0 7 = (2, 39)) (hn : ∀ k, k < 5 → h 7 k = (1, nu k)) : ∀ (r i N : Nat), i + r = 5 → nuK nu i → vP D T N 186 74 h [some (2, 0), some (0, (j : Int)), some (0, 2), some (2, 6), some (1, ((Sm (nuN nu) i : Nat) : Int)), none, some (0, (i : Int))] [] (fun r => r.2 = some (1, tdA P j nu))
  | 0, i, N, hi, hk => by
    have hi : i = 5 := hi
    subst hi
    have l240 := Sm_K 5 hk
    have hP2 : cP 39 P (zset h 0 0 (0, 0)) := hP.eq (fun a b _ _ => zset_ne (by omega))
    refine vP_dn (vP_hv (fun hv => qt_td74e_2_39 hT hO hv e7 ?_))
    refine cx_ca_39 hT hO _ j rfl hP2 hb hj 1 (fun z hz => ?_)
    show vP D T N 186 147 (zset h 0 0 (0, 0)) [some (2, 0), some (0, (j : Int)), some (0, 2), some (2, 6), some (1, ((Sm (nuN nu) 5 : Nat) : Int)), none, some (0, 5)] [(1, z), (1, ((Sm (nuN nu) 5 : Nat) : Int))] _
    refine vP_hv (fun hv => qt_td147_2 hT hO z hv ?_)
    refine cb_bc hT hO z ?_
    rw [bcC_eq 64 hz, bcC_wC64]
    show vP D T N 186 150 (zset h 0 0 (0, 0)) [some (2, 0), some (0, (j : Int)), some (0, 2), some (2, 6), some (1, ((Sm (nuN nu) 5 : Nat) : Int)), none, some (0, 5)] [(0, ((sC P (cFq P j 1) 48 : Nat) : Int)), (1, ((Sm (nuN nu) 5 : Nat) : Int))] _
    refine vP_hv (fun hv => qt_td150_2 hT hO hv (fun c => ?_) (fun c => ?_))
    · have f48 : ∀ k, k < 5 → nuN nu k ≤ 48 := fun k h5 => by
        have := hk k h5
        unfold nuN
        omega
      refine cw_wl_2 (f := nuN nu) hT hO f48 (fun k h5 => ?_) ?_
      · rw [zset_ne (by omega), hn k h5, nuN_i (hk k h5).1]
      · show vP D T N 186 162 (zset h 0 0 (0, 0)) [some (2, 0), some (0, (j : Int)), some (0, 2), some (2, 6), some (1, ((Sm (nuN nu) 5 : Nat) : Int)), none, some (0, 5)] [(1, ((min mst (Bp (nuN nu) 5) : Nat) : Int))] _
        refine vP_hv (fun hv => qt_td162_2 hT hO _ hv ?_)
        show some ((1, ((min mst (Bp (nuN nu) 5) : Nat) : Int)) : zV) = some (1, tdA P j nu)
        rw [tdA_ok hk, if_pos (by omega)]
    · show some ((1, 0) : zV) = some (1, tdA P j nu)
      rw [tdA_ok hk, if_neg (by omega)]
  | r + 1, i, N, hi, hk => by
    have h5 : i < 5 := by omega
    have l240 := Sm_K i hk
    refine vP_dn (vP_hv (fun hv => qt_td74_2 hT hO (nu i) hv (by omega) (by omega) (hn i h5) (fun _ _ c => ?_) (fun _ _ c1 c => ?_) (fun _ _ c1 c => ?_)))
    · show some ((1, -1) : zV) = some (1, tdA P j nu)
      rw [tdA_bad h5 (by omega)]
    · show some ((1, -1) : zV) = some (1, tdA P j nu)
      rw [tdA_bad h5 (by omega)]
    · have e : ((Sm (nuN nu) i : Nat) : Int) + nu i = ((Sm (nuN nu) (i + 1) : Nat) : Int) := by
        have := nuN_i c1
        show _ = ((Sm (nuN nu) i + nuN nu i : Nat) : Int)
        omega
      rw [e, show (i : Int) + 1 = ((i + 1 : Nat) : Int) from by omega]
      exact ct_L_2_39 hT hO hP hb hj e7 hn r (i + 1) N (by omega) (nuK_s hk ⟨c1, c⟩)
theorem ct_32_2_39 {N j : Nat} {nu : Nat → Int} (hT : hTab T) (hO : vOK T) (hP : cP 39 P h) (hb : fB P) (hj : j < 3) (e7 : h 0 7 = (2, 39)) (hn : ∀ k, k < 5 → h 7 k = (1, nu k)) {so ln : Int} (z1 : h 6 1 = (0, so)) (z2 : h 6 2 = (0, ln)) : vP D T N 186 32 h [some (2, 0), some (0, (j : Int)), some (0, 2), none, none, none, none] [] (fun r => r.2 = some (1, if so = -1 ∨ ln < 5 then -1 else tdA P j nu)) := by
  refine vP_hv (fun hv => qt_td32_2 hT hO so ln hv z1 z2 (fun c => ?_) (fun c d => ?_) (fun c d => ?_))
  · show some ((1, -1) : zV) = some (1, if so = -1 ∨ ln < 5 then -1 else tdA P j nu)
    rw [if_pos (Or.inl c)]
  · show some ((1, -1) : zV) = some (1, if so = -1 ∨ ln < 5 then -1 else tdA P j nu)
    rw [if_pos (Or.inr d)]
  · rw [if_neg (by omega)]
    exact ct_L_2_39 hT hO hP hb hj e7 hn 5 0 N rfl (fun k hk => absurd hk (Nat.not_lt_zero _))
end TD_2_39
section TD_3_39
variable {D : zD} {T : zT} {h : zH} {P : PT}
theorem ct_L_3_39 {j : Nat} {nu : Nat → Int} (hT : hTab T) (hO : vOK T) (hP : cP 39 P h) (hb : fB P) (hj : j < 3) (e7 : h 0 7 = (2, 39)) (hn : ∀ k, k < 5 → h 9 k = (1, nu k)) : ∀ (r i N : Nat), i + r = 5 → nuK nu i → vP D T N 186 74 h [some (2, 0), some (0, (j : Int)), some (0, 3), some (2, 8), some (1, ((Sm (nuN nu) i : Nat) : Int)), none, some (0, (i : Int))] [] (fun r => r.2 = some (1, tdA P j nu))
  | 0, i, N, hi, hk => by
    have hi : i = 5 := hi
    subst hi
    have l240 := Sm_K 5 hk
    have hP2 : cP 39 P (zset h 0 0 (0, 0)) := hP.eq (fun a b _ _ => zset_ne (by omega))
    refine vP_dn (vP_hv (fun hv => qt_td74e_3_39 hT hO hv e7 ?_))
    refine cx_ca_39 hT hO _ j rfl hP2 hb hj 1 (fun z hz => ?_)
    show vP D T N 186 147 (zset h 0 0 (0, 0)) [some (2, 0), some (0, (j : Int)), some (0, 3), some (2, 8), some (1, ((Sm (nuN nu) 5 : Nat) : Int)), none, some (0, 5)] [(1, z), (1, ((Sm (nuN nu) 5 : Nat) : Int))] _
    refine vP_hv (fun hv => qt_td147_3 hT hO z hv ?_)
    refine cb_bc hT hO z ?_
    rw [bcC_eq 64 hz, bcC_wC64]
    show vP D T N 186 150 (zset h 0 0 (0, 0)) [some (2, 0), some (0, (j : Int)), some (0, 3), some (2, 8), some (1, ((Sm (nuN nu) 5 : Nat) : Int)), none, some (0, 5)] [(0, ((sC P (cFq P j 1) 48 : Nat) : Int)), (1, ((Sm (nuN nu) 5 : Nat) : Int))] _
    refine vP_hv (fun hv => qt_td150_3 hT hO hv (fun c => ?_) (fun c => ?_))
    · have f48 : ∀ k, k < 5 → nuN nu k ≤ 48 := fun k h5 => by
        have := hk k h5
        unfold nuN
        omega
      refine cw_wl_3 (f := nuN nu) hT hO f48 (fun k h5 => ?_) ?_
      · rw [zset_ne (by omega), hn k h5, nuN_i (hk k h5).1]
      · show vP D T N 186 162 (zset h 0 0 (0, 0)) [some (2, 0), some (0, (j : Int)), some (0, 3), some (2, 8), some (1, ((Sm (nuN nu) 5 : Nat) : Int)), none, some (0, 5)] [(1, ((min mst (Bp (nuN nu) 5) : Nat) : Int))] _
        refine vP_hv (fun hv => qt_td162_3 hT hO _ hv ?_)
        show some ((1, ((min mst (Bp (nuN nu) 5) : Nat) : Int)) : zV) = some (1, tdA P j nu)
        rw [tdA_ok hk, if_pos (by omega)]
    · show some ((1, 0) : zV) = some (1, tdA P j nu)
      rw [tdA_ok hk, if_neg (by omega)]
  | r + 1, i, N, hi, hk => by
    have h5 : i < 5 := by omega
    have l240 := Sm_K i hk
    refine vP_dn (vP_hv (fun hv => qt_td74_3 hT hO (nu i) hv (by omega) (by omega) (hn i h5) (fun _ _ c => ?_) (fun _ _ c1 c => ?_) (fun _ _ c1 c => ?_)))
    · show some ((1, -1) : zV) = some (1, tdA P j nu)
      rw [tdA_bad h5 (by omega)]
    · show some ((1, -1) : zV) = some (1, tdA P j nu)
      rw [tdA_bad h5 (by omega)]
    · have e : ((Sm (nuN nu) i : Nat) : Int) + nu i = ((Sm (nuN nu) (i + 1) : Nat) : Int) := by
        have := nuN_i c1
        show _ = ((Sm (nuN nu) i + nuN nu i : Nat) : Int)
        omega
      rw [e, show (i : Int) + 1 = ((i + 1 : Nat) : Int) from by omega]
      exact ct_L_3_39 hT hO hP hb hj e7 hn r (i + 1) N (by omega) (nuK_s hk ⟨c1, c⟩)
theorem ct_32_3_39 {N j : Nat} {nu : Nat → Int} (hT : hTab T) (hO : vOK T) (hP : cP 39 P h) (hb : fB P) (hj : j < 3) (e7 : h 0 7 = (2, 39)) (hn : ∀ k, k < 5 → h 9 k = (1, nu k)) {so ln : Int} (z1 : h 8 1 = (0, so)) (z2 : h 8 2 = (0, ln)) : vP D T N 186 32 h [some (2, 0), some (0, (j : Int)), some (0, 3), none, none, none, none] [] (fun r => r.2 = some (1, if so = -1 ∨ ln < 5 then -1 else tdA P j nu)) := by
  refine vP_hv (fun hv => qt_td32_3 hT hO so ln hv z1 z2 (fun c => ?_) (fun c d => ?_) (fun c d => ?_))
  · show some ((1, -1) : zV) = some (1, if so = -1 ∨ ln < 5 then -1 else tdA P j nu)
    rw [if_pos (Or.inl c)]
  · show some ((1, -1) : zV) = some (1, if so = -1 ∨ ln < 5 then -1 else tdA P j nu)
    rw [if_pos (Or.inr d)]
  · rw [if_neg (by omega)]
    exact ct_L_3_39 hT hO hP hb hj e7 hn 5 0 N rfl (fun k hk => absurd hk (Nat.not_lt_zero _))
end TD_3_39
theorem qw_ch0 {D : zD} {T : zT} (hT : hTab T) (hO : vOK T) {N : Nat} {h : zH} {Q : zR → Prop} {n k : Nat} (hv0 : zHv h) (hn : n ≤ 240) (hk : k ≤ n)
    (k0 : vP D T N 207 13 h [some (0, (n : Int)), some (0, (k : Int)), some (0, (if ((n : Int) - (k : Int)) < (k : Int) then ((n : Int) - (k : Int)) else (k : Int))), some (1, 1), none, some (0, 1)] [] Q) :
    vP D T N 207 0 h [some (0, (n : Int)), some (0, (k : Int)), none, none, none, none] [] Q := by
  refine v_load (v := (0, (k : Int))) (hT _ zt_X12_choose rfl _ _ rfl) rfl rfl ?_
  refine v_load (v := (0, (n : Int))) (hT _ zt_X12_choose rfl _ _ rfl) rfl rfl ?_
  refine v_load (v := (0, (k : Int))) (hT _ zt_X12_choose rfl _ _ rfl) rfl rfl ?_
  refine v_bin (w := ((n : Int) - (k : Int))) (hT _ zt_X12_choose rfl _ _ rfl) (hq_sub (by omega) (by omega)) ?_
  refine v_min (hT _ zt_X12_choose rfl _ _ rfl) ?_
  refine v_store1 [some (0, (n : Int)), some (0, (k : Int)), some (0, (if ((n : Int) - (k : Int)) < (k : Int) then ((n : Int) - (k : Int)) else (k : Int))), none, none, none] (hT _ zt_X12_choose rfl _ _ rfl) ⟨rfl, Nat.ne_of_beq_eq_false rfl⟩ (Nat.le_of_ble_eq_true rfl) rfl ?_
  refine v_push (1) (hT _ zt_X12_choose rfl _ _ rfl) rfl ?_
  refine v_store2 [some (0, (n : Int)), some (0, (k : Int)), some (0, (if ((n : Int) - (k : Int)) < (k : Int) then ((n : Int) - (k : Int)) else (k : Int))), some (1, 1), none, none] (hT _ zt_X12_choose rfl _ _ rfl) (Nat.le_of_ble_eq_true rfl) rfl ?_
  refine v_push (1) (hT _ zt_X12_choose rfl _ _ rfl) rfl ?_
  refine v_store1 [some (0, (n : Int)), some (0, (k : Int)), some (0, (if ((n : Int) - (k : Int)) < (k : Int) then ((n : Int) - (k : Int)) else (k : Int))), some (1, 1), none, some (0, 1)] (hT _ zt_X12_choose rfl _ _ rfl) ⟨rfl, Nat.ne_of_beq_eq_false rfl⟩ (Nat.le_of_ble_eq_true rfl) rfl ?_
  exact k0 
theorem qw_ch13 {D : zD} {T : zT} (hT : hTab T) (hO : vOK T) {N : Nat} {h : zH} {Q : zR → Prop} {n k l i : Nat} (v : Int) (hv0 : zHv h) (hn : n ≤ 240) (hl : l ≤ n) (hi : 1 ≤ i ∧ i ≤ 241) (hil : (i : Int) ≤ (l : Int)) (hv1 : 0 ≤ v ∧ v ≤ 1000000000000000) (hp : 0 ≤ v * (((n : Int) - (l : Int)) + (i : Int)) ∧ v * (((n : Int) - (l : Int)) + (i : Int)) ≤ 1000000000000000000)
    (k0 : (v < 999999999999) → ((i : Int) ≠ 0) → vP D T N 207 13 h [some (0, (n : Int)), some (0, (k : Int)), some (0, (l : Int)), some (1, ((v * (((n : Int) - (l : Int)) + (i : Int))) / (i : Int))), none, some (0, ((i : Int) + 1))] [] Q)
    (k1 : (999999999999 ≤ v) → Q (h, some (1, (if v < 999999999999 then v else 999999999999)))) :
    vP D T (N + 1) 207 13 h [some (0, (n : Int)), some (0, (k : Int)), some (0, (l : Int)), some (1, v), none, some (0, (i : Int))] [] Q := by
  refine v_loadS (v := (0, (i : Int))) (hT _ zt_X12_choose rfl _ _ rfl) rfl rfl ?_
  refine v_load (v := (0, (l : Int))) (hT _ zt_X12_choose rfl _ _ rfl) rfl rfl ?_
  refine v_ic (hT _ zt_X12_choose rfl _ _ rfl) (fun hc1 => absurd (show (l : Int) < (i : Int) from hc1) (by omega)) (fun _ => ?_)
  refine v_load (v := (1, v)) (hT _ zt_X12_choose rfl _ _ rfl) rfl rfl ?_
  refine v_push (999999999999) (hT _ zt_X12_choose rfl _ _ rfl) rfl ?_
  refine v_lif (hT _ zt_X12_choose rfl _ _ rfl) (hT _ zt_X12_choose rfl _ _ rfl) (fun hc2 => ?_) (fun hc2 => ?_)
  · have hc2 : v < 999999999999 := hc2
    refine v_load (v := (1, v)) (hT _ zt_X12_choose rfl _ _ rfl) rfl rfl ?_
    refine v_load (v := (0, (n : Int))) (hT _ zt_X12_choose rfl _ _ rfl) rfl rfl ?_
    refine v_load (v := (0, (l : Int))) (hT _ zt_X12_choose rfl _ _ rfl) rfl rfl ?_
    refine v_bin (w := ((n : Int) - (l : Int))) (hT _ zt_X12_choose rfl _ _ rfl) (hq_sub (by omega) (by omega)) ?_
    refine v_load (v := (0, (i : Int))) (hT _ zt_X12_choose rfl _ _ rfl) rfl rfl ?_
    refine v_bin (w := (((n : Int) - (l : Int)) + (i : Int))) (hT _ zt_X12_choose rfl _ _ rfl) (hq_add (by omega) (by omega)) ?_
    refine v_i2l (hT _ zt_X12_choose rfl _ _ rfl) ?_
    refine v_bin64 (w := (v * (((n : Int) - (l : Int)) + (i : Int)))) (hT _ zt_X12_choose rfl _ _ rfl) (vz_mulL (by omega) (by omega)) ?_
    refine v_load (v := (0, (i : Int))) (hT _ zt_X12_choose rfl _ _ rfl) rfl rfl ?_
    refine v_i2l (hT _ zt_X12_choose rfl _ _ rfl) ?_
    refine v_div64 (w := ((v * (((n : Int) - (l : Int)) + (i : Int))) / (i : Int))) (hT _ zt_X12_choose rfl _ _ rfl) (fun _ => vz_quoL (by omega) (by omega) (by omega) (by omega)) (fun hc3 => ?_)
    refine v_store2 [some (0, (n : Int)), some (0, (k : Int)), some (0, (l : Int)), some (1, ((v * (((n : Int) - (l : Int)) + (i : Int))) / (i : Int))), none, some (0, (i : Int))] (hT _ zt_X12_choose rfl _ _ rfl) (Nat.le_of_ble_eq_true rfl) rfl ?_
    refine v_iinc (x := (i : Int)) (u := 1) (w := ((i : Int) + 1)) [some (0, (n : Int)), some (0, (k : Int)), some (0, (l : Int)), some (1, ((v * (((n : Int) - (l : Int)) + (i : Int))) / (i : Int))), none, some (0, ((i : Int) + 1))] (hT _ zt_X12_choose rfl _ _ rfl) rfl rfl (Nat.le_of_ble_eq_true rfl) (vz_inc (by omega) (by omega)) rfl ?_
    refine v_goto (hT _ zt_X12_choose rfl _ _ rfl) ?_
    exact k0 hc2 hc3
  · have hc2 : 999999999999 ≤ v := Int.not_lt.mp hc2
    refine v_push (999999999999) (hT _ zt_X12_choose rfl _ _ rfl) rfl ?_
    refine v_load (v := (1, v)) (hT _ zt_X12_choose rfl _ _ rfl) rfl rfl ?_
    refine v_minL (hT _ zt_X12_choose rfl _ _ rfl) ?_
    refine v_ret (hT _ zt_X12_choose rfl _ _ rfl) (Or.inr rfl) ?_
    exact k1 hc2
theorem qw_ch13e {D : zD} {T : zT} (hT : hTab T) (hO : vOK T) {N : Nat} {h : zH} {Q : zR → Prop} {n k l i : Nat} (v : Int) (hv0 : zHv h) (hil : (l : Int) < (i : Int))
    (k0 : Q (h, some (1, (if v < 999999999999 then v else 999999999999)))) :
    vP D T (N + 1) 207 13 h [some (0, (n : Int)), some (0, (k : Int)), some (0, (l : Int)), some (1, v), none, some (0, (i : Int))] [] Q := by
  refine v_loadS (v := (0, (i : Int))) (hT _ zt_X12_choose rfl _ _ rfl) rfl rfl ?_
  refine v_load (v := (0, (l : Int))) (hT _ zt_X12_choose rfl _ _ rfl) rfl rfl ?_
  refine v_ic (hT _ zt_X12_choose rfl _ _ rfl) (fun _ => ?_) (fun hc1 => absurd (show (l : Int) < (i : Int) from hil) hc1)
  refine v_push (999999999999) (hT _ zt_X12_choose rfl _ _ rfl) rfl ?_
  refine v_load (v := (1, v)) (hT _ zt_X12_choose rfl _ _ rfl) rfl rfl ?_
  refine v_minL (hT _ zt_X12_choose rfl _ _ rfl) ?_
  refine v_ret (hT _ zt_X12_choose rfl _ _ rfl) (Or.inr rfl) ?_
  exact k0 
theorem qw_tm {D : zD} {T : zT} (hT : hTab T) (hO : vOK T) {N : Nat} {h : zH} {Q : zR → Prop} (x y : Int) (hv0 : zHv h) (hx : 0 ≤ x ∧ x ≤ 999999999999) (hy : 1 ≤ y ∧ y ≤ 999999999999) (hp : x ≤ 999999999999 / y → 0 ≤ x * y ∧ x * y ≤ 999999999999)
    (k0 : (y ≠ 0) → ((999999999999 / y) < x) → Q (h, some (1, 999999999999)))
    (k1 : (y ≠ 0) → (x ≤ (999999999999 / y)) → Q (h, some (1, (x * y)))) :
    vP D T N 326 0 h [some (1, x), none, some (1, y), none] [] Q := by
  refine v_load (v := (1, y)) (hT _ zt_X12_times rfl _ _ rfl) rfl rfl ?_
  refine v_push (0) (hT _ zt_X12_times rfl _ _ rfl) rfl ?_
  refine v_lif (hT _ zt_X12_times rfl _ _ rfl) (hT _ zt_X12_times rfl _ _ rfl) (fun _ => ?_) (fun hc1 => absurd (show 0 < y from (by omega)) hc1)
  refine v_load (v := (1, x)) (hT _ zt_X12_times rfl _ _ rfl) rfl rfl ?_
  refine v_push (999999999999) (hT _ zt_X12_times rfl _ _ rfl) rfl ?_
  refine v_load (v := (1, y)) (hT _ zt_X12_times rfl _ _ rfl) rfl rfl ?_
  refine v_div64 (w := (999999999999 / y)) (hT _ zt_X12_times rfl _ _ rfl) (fun _ => vz_quoL (by omega) (by omega) (by omega) (by omega)) (fun hc2 => ?_)
  refine v_lif (hT _ zt_X12_times rfl _ _ rfl) (hT _ zt_X12_times rfl _ _ rfl) (fun hc3 => ?_) (fun hc3 => ?_)
  · have hc3 : (999999999999 / y) < x := hc3
    refine v_push (999999999999) (hT _ zt_X12_times rfl _ _ rfl) rfl ?_
    refine v_goto (hT _ zt_X12_times rfl _ _ rfl) ?_
    refine v_ret (hT _ zt_X12_times rfl _ _ rfl) (Or.inr rfl) ?_
    exact k0 hc2 hc3
  · have hc3 : x ≤ (999999999999 / y) := Int.not_lt.mp hc3
    refine v_load (v := (1, x)) (hT _ zt_X12_times rfl _ _ rfl) rfl rfl ?_
    refine v_load (v := (1, y)) (hT _ zt_X12_times rfl _ _ rfl) rfl rfl ?_
    refine v_bin64 (w := (x * y)) (hT _ zt_X12_times rfl _ _ rfl) (vz_mulL (by omega) (by omega)) ?_
    refine v_ret (hT _ zt_X12_times rfl _ _ rfl) (Or.inr rfl) ?_
    exact k1 hc2 hc3
section TR
variable {D : zD} {T : zT} {h : zH}
theorem rw_chL (hT : hTab T) (hO : vOK T) {Q : zR → Prop} {n k l : Nat} (hn : n ≤ 240) (hl : l ≤ n) (kk : Q (h, some (1, ((min mst (bn n l) : Nat) : Int)))) : ∀ (r j N : Nat), j + r = l → bn (n - l + j) j ≤ 1000000000000000 → vP D T N 207 13 h [some (0, (n : Int)), some (0, (k : Int)), some (0, (l : Int)), some (1, ((bn (n - l + j) j : Nat) : Int)), none, some (0, ((j + 1 : Nat) : Int))] [] Q
  | 0, j, N, hj, hv => by
    have hj : j = l := hj
    subst hj
    refine vP_dn (vP_hv (fun hv2 => qw_ch13e hT hO _ hv2 (by omega) ?_))
    rw [mi_i, show n - j + j = n from by omega]
    exact kk
  | r + 1, j, N, hj, hv => by
    have e := bn_div (n - l) j
    have mono : bn (n - l + j) j ≤ bn (n - l + l) l := bn_mono (n - l) (by omega)
    rw [show n - l + l = n from by omega] at mono
    have ci : ((n : Int) - (l : Int)) + ((j + 1 : Nat) : Int) = ((n - l + (j + 1) : Nat) : Int) := by omega
    have pb : bn (n - l + j) j * (n - l + (j + 1)) ≤ 1000000000000000 * 240 := Nat.mul_le_mul hv (by omega)
    have pi : ((bn (n - l + j) j : Nat) : Int) * (((n : Int) - (l : Int)) + ((j + 1 : Nat) : Int)) = ((bn (n - l + j) j * (n - l + (j + 1)) : Nat) : Int) := by rw [ci, ← Int.natCast_mul]
    have ei : ((bn (n - l + j) j : Nat) : Int) * (((n : Int) - (l : Int)) + ((j + 1 : Nat) : Int)) / ((j + 1 : Nat) : Int) = ((bn (n - l + (j + 1)) (j + 1) : Nat) : Int) := by
      rw [pi, ← e]
      rfl
    refine vP_dn (vP_hv (fun hv2 => qw_ch13 hT hO _ hv2 hn hl ⟨by omega, by omega⟩ (by omega) ⟨by omega, by omega⟩ (by rw [pi]; omega) (fun c _ => ?_) (fun c => ?_)))
    · rw [ei, show ((j + 1 : Nat) : Int) + 1 = ((j + 1 + 1 : Nat) : Int) from by omega]
      refine rw_chL hT hO hn hl kk r (j + 1) N (by omega) ?_
      have p2 : bn (n - l + j) j * (n - l + (j + 1)) ≤ 999999999999 * 240 := Nat.mul_le_mul (by omega) (by omega)
      have d := Nat.div_le_self (bn (n - l + j) j * (n - l + (j + 1))) (j + 1)
      rw [e] at d
      omega
    · rw [if_neg (by omega)]
      have m : min mst (bn n l) = 999999999999 := by unfold mst; omega
      rw [m] at kk
      exact kk
theorem rw_ch {N : Nat} (hT : hTab T) (hO : vOK T) {Q : zR → Prop} (x y : Int) (n k : Nat) (ex : x = (n : Int)) (ey : y = (k : Int)) (hn : n ≤ 240) (hk : k ≤ n) (kk : Q (h, some (1, ((min mst (bn n k) : Nat) : Int)))) : vP D T N 207 0 h [some (0, x), some (0, y), none, none, none, none] [] Q := by
  subst ex ey
  refine vP_hv (fun hv => qw_ch0 hT hO hv hn hk ?_)
  have z0 : bn (n - (min k (n - k)) + 0) 0 = 1 := bn_0 _
  have el : (if ((n : Int) - (k : Int)) < (k : Int) then ((n : Int) - (k : Int)) else (k : Int)) = ((min k (n - k) : Nat) : Int) := by
    by_cases c : ((n : Int) - (k : Int)) < (k : Int)
    · rw [if_pos c]
      omega
    · rw [if_neg c]
      omega
  have eb : bn n (min k (n - k)) = bn n k := by
    by_cases c : k ≤ n - k
    · rw [show min k (n - k) = k from by omega]
    · rw [show min k (n - k) = n - k from by omega]
      have s := bn_sym k (n - k)
      rw [show k + (n - k) = n from by omega] at s
      exact s.symm
  rw [el]
  rw [← eb] at kk
  have go := rw_chL (D := D) (T := T) (k := k) hT hO hn (l := min k (n - k)) (by omega) kk (min k (n - k)) 0 N (Nat.zero_add _) (by rw [z0]; decide)
  rw [z0] at go
  exact go
theorem rw_tm {N : Nat} (hT : hTab T) (hO : vOK T) {Q : zR → Prop} {A B : Nat} (x y : Int) (ex : x = ((min mst A : Nat) : Int)) (ey : y = ((min mst B : Nat) : Int)) (hA : 1 ≤ A) (hB : 1 ≤ B) (kk : Q (h, some (1, ((min mst (A * B) : Nat) : Int)))) : vP D T N 326 0 h [some (1, x), none, some (1, y), none] [] Q := by
  subst ex ey
  have c := cut_mul (M := mst) (by decide) hA hB
  have b1 : 1 ≤ min mst B := by unfold mst; omega
  have bB : min mst B ≤ 999999999999 := by unfold mst; omega
  have bA : min mst A ≤ 999999999999 := by unfold mst; omega
  have ed : (999999999999 : Int) / ((min mst B : Nat) : Int) = ((mst / min mst B : Nat) : Int) := rfl
  refine vP_hv (fun hv => qw_tm hT hO _ _ hv ⟨by omega, by omega⟩ ⟨by omega, by omega⟩ (fun d => ?_) (fun _ d => ?_) (fun _ d => ?_))
  · rw [ed] at d
    have h1 : min mst A * min mst B ≤ mst := (Nat.le_div_iff_mul_le (by omega)).mp (by omega)
    rw [← Int.natCast_mul]
    unfold mst at h1 ⊢
    omega
  · rw [ed] at d
    rw [if_pos (by omega)] at c
    rw [← c] at kk
    exact kk
  · rw [ed] at d
    rw [if_neg (by omega)] at c
    rw [← Int.natCast_mul, c]
    exact kk
end TR
theorem qs_td0 {D : zD} {T : zT} (hT : hTab T) (hO : vOK T) {N : Nat} {h : zH} {Q : zR → Prop} {P : PT} (x y : Int) (hv0 : zHv h) (p0 : h 126 0 = (0, P 0 0)) (p1 : h 126 1 = (0, P 0 1)) (p2 : h 126 2 = (0, P 0 2)) (p3 : h 126 3 = (0, P 0 3)) (lb : (0 ≤ P 0 0 ∧ P 0 0 ≤ 8) ∧ (0 ≤ P 0 1 ∧ P 0 1 ≤ 6) ∧ (0 ≤ P 0 2 ∧ P 0 2 ≤ 3) ∧ (0 ≤ P 0 3 ∧ P 0 3 ≤ 6))
    (k0 : (y < 0) → Q (zset (zset (zset h 121 1 (0, 0)) 121 0 (0, 0)) 121 0 (0, 1), some (1, -1)))
    (k1 : (0 ≤ y) → (3 < y) → Q (zset (zset (zset h 121 1 (0, 0)) 121 0 (0, 0)) 121 0 (0, 1), some (1, -1)))
    (k2 : (0 ≤ y) → (y ≤ 3) → (x < 0) → Q (zset (zset (zset h 121 1 (0, 0)) 121 0 (0, 0)) 121 0 (0, 2), some (1, -1)))
    (k3 : (0 ≤ y) → (y ≤ 3) → (0 ≤ x) → (((P 0 2) - 1) < x) → Q (zset (zset (zset h 121 1 (0, 0)) 121 0 (0, 0)) 121 0 (0, 2), some (1, -1)))
    (k4 : (0 ≤ y) → (y ≤ 3) → (0 ≤ x) → (x ≤ ((P 0 2) - 1)) → vP D T N 327 40 (zset (zset h 121 1 (0, 0)) 121 0 (0, 0)) [some (2, 121), some (0, x), some (0, y), none, none, none, none, none] [] Q) :
    vP D T N 327 0 h [some (2, 121), some (0, x), some (0, y), none, none, none, none, none] [] Q := by
  refine v_load (v := (2, 121)) (hT _ zt_X12_told rfl _ _ rfl) rfl rfl ?_
  refine v_push (0) (hT _ zt_X12_told rfl _ _ rfl) rfl ?_
  refine v_putf (r := 121) hO (hT _ zt_X12_told rfl _ _ rfl) rfl (fun hf1 => ?_)
  refine v_load (v := (2, 121)) (hT _ zt_X12_told rfl _ _ rfl) rfl rfl ?_
  refine v_push (0) (hT _ zt_X12_told rfl _ _ rfl) rfl ?_
  refine v_putf (r := 121) hO (hT _ zt_X12_told rfl _ _ rfl) rfl (fun hf2 => ?_)
  refine v_load (v := (2, 121)) (hT _ zt_X12_told rfl _ _ rfl) rfl rfl ?_
  refine v_load (v := (0, y)) (hT _ zt_X12_told rfl _ _ rfl) rfl rfl ?_
  refine v_call (w := 2) [some (2, 121), some (0, y)] hO (hT _ zt_X12_told rfl _ _ rfl) rfl rfl ?_
  refine v_load (v := (0, y)) (hT _ zt_X12_isTray rfl _ _ rfl) rfl rfl ?_
  refine v_i2l (hT _ zt_X12_isTray rfl _ _ rfl) ?_
  refine v_push (0) (hT _ zt_X12_isTray rfl _ _ rfl) rfl ?_
  refine v_push (3) (hT _ zt_X12_isTray rfl _ _ rfl) rfl ?_
  refine v_call (w := 6) [some (1, y), none, some (1, 0), none, some (1, 3), none] hO (hT _ zt_X12_isTray rfl _ _ rfl) rfl rfl ?_
  refine v_load (v := (1, y)) (hT _ zt_X12_isIn rfl _ _ rfl) rfl rfl ?_
  refine v_load (v := (1, 0)) (hT _ zt_X12_isIn rfl _ _ rfl) rfl rfl ?_
  refine v_lif (hT _ zt_X12_isIn rfl _ _ rfl) (hT _ zt_X12_isIn rfl _ _ rfl) (fun hc3 => ?_) (fun hc3 => ?_)
  · have hc3 : y < 0 := hc3
    refine v_push (0) (hT _ zt_X12_isIn rfl _ _ rfl) rfl ?_
    refine v_ret (hT _ zt_X12_isIn rfl _ _ rfl) (Or.inl rfl) ?_
    show vP D T N 263 9 (zset (zset h 121 1 (0, 0)) 121 0 (0, 0)) [some (2, 121), some (0, y)] [(0, 0)] _
    refine v_ret (hT _ zt_X12_isTray rfl _ _ rfl) (Or.inl rfl) ?_
    show vP D T N 327 15 (zset (zset h 121 1 (0, 0)) 121 0 (0, 0)) [some (2, 121), some (0, x), some (0, y), none, none, none, none, none] [(0, 0)] _
    refine v_if (hT _ zt_X12_told rfl _ _ rfl) (fun _ => ?_) (fun hc4 => absurd (show (0 : Int) = 0 from (by omega)) hc4)
    refine v_load (v := (2, 121)) (hT _ zt_X12_told rfl _ _ rfl) rfl rfl ?_
    refine v_push (1) (hT _ zt_X12_told rfl _ _ rfl) rfl ?_
    refine v_call (w := 2) [some (2, 121), some (0, 1)] hO (hT _ zt_X12_told rfl _ _ rfl) rfl rfl ?_
    refine v_load (v := (2, 121)) (hT _ zt_X12_refuse rfl _ _ rfl) rfl rfl ?_
    refine v_load (v := (0, 1)) (hT _ zt_X12_refuse rfl _ _ rfl) rfl rfl ?_
    refine v_putf (r := 121) hO (hT _ zt_X12_refuse rfl _ _ rfl) rfl (fun hf5 => ?_)
    refine v_push (-1) (hT _ zt_X12_refuse rfl _ _ rfl) rfl ?_
    refine v_ret (hT _ zt_X12_refuse rfl _ _ rfl) (Or.inl rfl) ?_
    show vP D T N 327 23 (zset (zset (zset h 121 1 (0, 0)) 121 0 (0, 0)) 121 0 (0, 1)) [some (2, 121), some (0, x), some (0, y), none, none, none, none, none] [(0, -1)] _
    refine v_i2l (hT _ zt_X12_told rfl _ _ rfl) ?_
    refine v_ret (hT _ zt_X12_told rfl _ _ rfl) (Or.inr rfl) ?_
    exact k0 hc3
  · have hc3 : 0 ≤ y := Int.not_lt.mp hc3
    refine v_load (v := (1, y)) (hT _ zt_X12_isIn rfl _ _ rfl) rfl rfl ?_
    refine v_load (v := (1, 3)) (hT _ zt_X12_isIn rfl _ _ rfl) rfl rfl ?_
    refine v_lif (hT _ zt_X12_isIn rfl _ _ rfl) (hT _ zt_X12_isIn rfl _ _ rfl) (fun hc6 => ?_) (fun hc6 => ?_)
    · have hc6 : 3 < y := hc6
      refine v_push (0) (hT _ zt_X12_isIn rfl _ _ rfl) rfl ?_
      refine v_ret (hT _ zt_X12_isIn rfl _ _ rfl) (Or.inl rfl) ?_
      show vP D T N 263 9 (zset (zset h 121 1 (0, 0)) 121 0 (0, 0)) [some (2, 121), some (0, y)] [(0, 0)] _
      refine v_ret (hT _ zt_X12_isTray rfl _ _ rfl) (Or.inl rfl) ?_
      show vP D T N 327 15 (zset (zset h 121 1 (0, 0)) 121 0 (0, 0)) [some (2, 121), some (0, x), some (0, y), none, none, none, none, none] [(0, 0)] _
      refine v_if (hT _ zt_X12_told rfl _ _ rfl) (fun _ => ?_) (fun hc7 => absurd (show (0 : Int) = 0 from (by omega)) hc7)
      refine v_load (v := (2, 121)) (hT _ zt_X12_told rfl _ _ rfl) rfl rfl ?_
      refine v_push (1) (hT _ zt_X12_told rfl _ _ rfl) rfl ?_
      refine v_call (w := 2) [some (2, 121), some (0, 1)] hO (hT _ zt_X12_told rfl _ _ rfl) rfl rfl ?_
      refine v_load (v := (2, 121)) (hT _ zt_X12_refuse rfl _ _ rfl) rfl rfl ?_
      refine v_load (v := (0, 1)) (hT _ zt_X12_refuse rfl _ _ rfl) rfl rfl ?_
      refine v_putf (r := 121) hO (hT _ zt_X12_refuse rfl _ _ rfl) rfl (fun hf8 => ?_)
      refine v_push (-1) (hT _ zt_X12_refuse rfl _ _ rfl) rfl ?_
      refine v_ret (hT _ zt_X12_refuse rfl _ _ rfl) (Or.inl rfl) ?_
      show vP D T N 327 23 (zset (zset (zset h 121 1 (0, 0)) 121 0 (0, 0)) 121 0 (0, 1)) [some (2, 121), some (0, x), some (0, y), none, none, none, none, none] [(0, -1)] _
      refine v_i2l (hT _ zt_X12_told rfl _ _ rfl) ?_
      refine v_ret (hT _ zt_X12_told rfl _ _ rfl) (Or.inr rfl) ?_
      exact k1 hc3 hc6
    · have hc6 : y ≤ 3 := Int.not_lt.mp hc6
      refine v_push (1) (hT _ zt_X12_isIn rfl _ _ rfl) rfl ?_
      refine v_goto (hT _ zt_X12_isIn rfl _ _ rfl) ?_
      refine v_ret (hT _ zt_X12_isIn rfl _ _ rfl) (Or.inl rfl) ?_
      show vP D T N 263 9 (zset (zset h 121 1 (0, 0)) 121 0 (0, 0)) [some (2, 121), some (0, y)] [(0, 1)] _
      refine v_ret (hT _ zt_X12_isTray rfl _ _ rfl) (Or.inl rfl) ?_
      show vP D T N 327 15 (zset (zset h 121 1 (0, 0)) 121 0 (0, 0)) [some (2, 121), some (0, x), some (0, y), none, none, none, none, none] [(0, 1)] _
      refine v_if (hT _ zt_X12_told rfl _ _ rfl) (fun hc9 => absurd (show (1 : Int) = 0 from hc9) (by omega)) (fun _ => ?_)
      refine v_load (v := (2, 121)) (hT _ zt_X12_told rfl _ _ rfl) rfl rfl ?_
      refine v_load (v := (0, x)) (hT _ zt_X12_told rfl _ _ rfl) rfl rfl ?_
      refine v_call (w := 2) [some (2, 121), some (0, x)] hO (hT _ zt_X12_told rfl _ _ rfl) rfl rfl ?_
      refine v_load (v := (0, x)) (hT _ zt_X12_isCopy rfl _ _ rfl) rfl rfl ?_
      refine v_i2l (hT _ zt_X12_isCopy rfl _ _ rfl) ?_
      refine v_push (0) (hT _ zt_X12_isCopy rfl _ _ rfl) rfl ?_
      refine v_load (v := (2, 121)) (hT _ zt_X12_isCopy rfl _ _ rfl) rfl rfl ?_
      refine v_getR (c := 126) (r := 121) (hT _ zt_X12_isCopy rfl _ _ rfl) rfl rfl rfl ?_
      refine v_push (2) (hT _ zt_X12_isCopy rfl _ _ rfl) rfl ?_
      refine v_aldV (v := (0, (P 0 2))) (r := 126) (hT _ zt_X12_isCopy rfl _ _ rfl) rfl rfl (fun _ _ _ => (Eq.trans (Eq.trans (zset_ne (fun c => absurd c.1 (by decide))) (zset_ne (fun c => absurd c.1 (by decide)))) (p2))) (fun ha10 hb11 => ?_)
      refine v_push (1) (hT _ zt_X12_isCopy rfl _ _ rfl) rfl ?_
      refine v_bin (w := ((P 0 2) - 1)) (hT _ zt_X12_isCopy rfl _ _ rfl) (hq_sub (by omega) (by omega)) ?_
      refine v_i2l (hT _ zt_X12_isCopy rfl _ _ rfl) ?_
      refine v_call (w := 6) [some (1, x), none, some (1, 0), none, some (1, ((P 0 2) - 1)), none] hO (hT _ zt_X12_isCopy rfl _ _ rfl) rfl rfl ?_
      refine v_load (v := (1, x)) (hT _ zt_X12_isIn rfl _ _ rfl) rfl rfl ?_
      refine v_load (v := (1, 0)) (hT _ zt_X12_isIn rfl _ _ rfl) rfl rfl ?_
      refine v_lif (hT _ zt_X12_isIn rfl _ _ rfl) (hT _ zt_X12_isIn rfl _ _ rfl) (fun hc12 => ?_) (fun hc12 => ?_)
      · have hc12 : x < 0 := hc12
        refine v_push (0) (hT _ zt_X12_isIn rfl _ _ rfl) rfl ?_
        refine v_ret (hT _ zt_X12_isIn rfl _ _ rfl) (Or.inl rfl) ?_
        show vP D T N 248 15 (zset (zset h 121 1 (0, 0)) 121 0 (0, 0)) [some (2, 121), some (0, x)] [(0, 0)] _
        refine v_ret (hT _ zt_X12_isCopy rfl _ _ rfl) (Or.inl rfl) ?_
        show vP D T N 327 30 (zset (zset h 121 1 (0, 0)) 121 0 (0, 0)) [some (2, 121), some (0, x), some (0, y), none, none, none, none, none] [(0, 0)] _
        refine v_if (hT _ zt_X12_told rfl _ _ rfl) (fun _ => ?_) (fun hc13 => absurd (show (0 : Int) = 0 from (by omega)) hc13)
        refine v_load (v := (2, 121)) (hT _ zt_X12_told rfl _ _ rfl) rfl rfl ?_
        refine v_push (2) (hT _ zt_X12_told rfl _ _ rfl) rfl ?_
        refine v_call (w := 2) [some (2, 121), some (0, 2)] hO (hT _ zt_X12_told rfl _ _ rfl) rfl rfl ?_
        refine v_load (v := (2, 121)) (hT _ zt_X12_refuse rfl _ _ rfl) rfl rfl ?_
        refine v_load (v := (0, 2)) (hT _ zt_X12_refuse rfl _ _ rfl) rfl rfl ?_
        refine v_putf (r := 121) hO (hT _ zt_X12_refuse rfl _ _ rfl) rfl (fun hf14 => ?_)
        refine v_push (-1) (hT _ zt_X12_refuse rfl _ _ rfl) rfl ?_
        refine v_ret (hT _ zt_X12_refuse rfl _ _ rfl) (Or.inl rfl) ?_
        show vP D T N 327 38 (zset (zset (zset h 121 1 (0, 0)) 121 0 (0, 0)) 121 0 (0, 2)) [some (2, 121), some (0, x), some (0, y), none, none, none, none, none] [(0, -1)] _
        refine v_i2l (hT _ zt_X12_told rfl _ _ rfl) ?_
        refine v_ret (hT _ zt_X12_told rfl _ _ rfl) (Or.inr rfl) ?_
        exact k2 hc3 hc6 hc12
      · have hc12 : 0 ≤ x := Int.not_lt.mp hc12
        refine v_load (v := (1, x)) (hT _ zt_X12_isIn rfl _ _ rfl) rfl rfl ?_
        refine v_load (v := (1, ((P 0 2) - 1))) (hT _ zt_X12_isIn rfl _ _ rfl) rfl rfl ?_
        refine v_lif (hT _ zt_X12_isIn rfl _ _ rfl) (hT _ zt_X12_isIn rfl _ _ rfl) (fun hc15 => ?_) (fun hc15 => ?_)
        · have hc15 : ((P 0 2) - 1) < x := hc15
          refine v_push (0) (hT _ zt_X12_isIn rfl _ _ rfl) rfl ?_
          refine v_ret (hT _ zt_X12_isIn rfl _ _ rfl) (Or.inl rfl) ?_
          show vP D T N 248 15 (zset (zset h 121 1 (0, 0)) 121 0 (0, 0)) [some (2, 121), some (0, x)] [(0, 0)] _
          refine v_ret (hT _ zt_X12_isCopy rfl _ _ rfl) (Or.inl rfl) ?_
          show vP D T N 327 30 (zset (zset h 121 1 (0, 0)) 121 0 (0, 0)) [some (2, 121), some (0, x), some (0, y), none, none, none, none, none] [(0, 0)] _
          refine v_if (hT _ zt_X12_told rfl _ _ rfl) (fun _ => ?_) (fun hc16 => absurd (show (0 : Int) = 0 from (by omega)) hc16)
          refine v_load (v := (2, 121)) (hT _ zt_X12_told rfl _ _ rfl) rfl rfl ?_
          refine v_push (2) (hT _ zt_X12_told rfl _ _ rfl) rfl ?_
          refine v_call (w := 2) [some (2, 121), some (0, 2)] hO (hT _ zt_X12_told rfl _ _ rfl) rfl rfl ?_
          refine v_load (v := (2, 121)) (hT _ zt_X12_refuse rfl _ _ rfl) rfl rfl ?_
          refine v_load (v := (0, 2)) (hT _ zt_X12_refuse rfl _ _ rfl) rfl rfl ?_
          refine v_putf (r := 121) hO (hT _ zt_X12_refuse rfl _ _ rfl) rfl (fun hf17 => ?_)
          refine v_push (-1) (hT _ zt_X12_refuse rfl _ _ rfl) rfl ?_
          refine v_ret (hT _ zt_X12_refuse rfl _ _ rfl) (Or.inl rfl) ?_
          show vP D T N 327 38 (zset (zset (zset h 121 1 (0, 0)) 121 0 (0, 0)) 121 0 (0, 2)) [some (2, 121), some (0, x), some (0, y), none, none, none, none, none] [(0, -1)] _
          refine v_i2l (hT _ zt_X12_told rfl _ _ rfl) ?_
          refine v_ret (hT _ zt_X12_told rfl _ _ rfl) (Or.inr rfl) ?_
          exact k3 hc3 hc6 hc12 hc15
        · have hc15 : x ≤ ((P 0 2) - 1) := Int.not_lt.mp hc15
          refine v_push (1) (hT _ zt_X12_isIn rfl _ _ rfl) rfl ?_
          refine v_goto (hT _ zt_X12_isIn rfl _ _ rfl) ?_
          refine v_ret (hT _ zt_X12_isIn rfl _ _ rfl) (Or.inl rfl) ?_
          show vP D T N 248 15 (zset (zset h 121 1 (0, 0)) 121 0 (0, 0)) [some (2, 121), some (0, x)] [(0, 1)] _
          refine v_ret (hT _ zt_X12_isCopy rfl _ _ rfl) (Or.inl rfl) ?_
          show vP D T N 327 30 (zset (zset h 121 1 (0, 0)) 121 0 (0, 0)) [some (2, 121), some (0, x), some (0, y), none, none, none, none, none] [(0, 1)] _
          refine v_if (hT _ zt_X12_told rfl _ _ rfl) (fun hc18 => absurd (show (1 : Int) = 0 from hc18) (by omega)) (fun _ => ?_)
          exact k4 hc3 hc6 hc12 hc15
theorem qs_td40 {D : zD} {T : zT} (hT : hTab T) (hO : vOK T) {N : Nat} {h : zH} {Q : zR → Prop} {j t : Nat} (m : Int) (hv0 : zHv h) (ht : t < 4) (zm : h 123 t = (0, m))
    (k0 : (0 ≤ (t : Int)) → ((t : Int) < 4) → (m < 0) → Q (zset h 121 0 (0, 3), some (1, -1)))
    (k1 : (0 ≤ (t : Int)) → ((t : Int) < 4) → (0 ≤ m) → (m < 5) → Q (zset h 121 0 (0, 4), some (1, -1)))
    (k2 : (0 ≤ (t : Int)) → ((t : Int) < 4) → (0 ≤ m) → (5 ≤ m) → vP D T N 327 78 h [some (2, 121), some (0, (j : Int)), some (0, (t : Int)), some (0, 0), some (0, 0), none, none, none] [] Q) :
    vP D T N 327 40 h [some (2, 121), some (0, (j : Int)), some (0, (t : Int)), none, none, none, none, none] [] Q := by
  refine v_load (v := (2, 121)) (hT _ zt_X12_told rfl _ _ rfl) rfl rfl ?_
  refine v_getR (c := 123) (r := 121) (hT _ zt_X12_told rfl _ _ rfl) rfl rfl rfl ?_
  refine v_load (v := (0, (t : Int))) (hT _ zt_X12_told rfl _ _ rfl) rfl rfl ?_
  refine v_aldB (t := 0) (r := 123) (w := m) (hT _ zt_X12_told rfl _ _ rfl) rfl rfl rfl (fun _ _ => (congrArg Prod.snd zm)) (fun ha1 hb2 => ?_)
  refine v_if (hT _ zt_X12_told rfl _ _ rfl) (fun hc3 => ?_) (fun hc3 => ?_)
  · have hc3 : m < 0 := hc3
    refine v_load (v := (2, 121)) (hT _ zt_X12_told rfl _ _ rfl) rfl rfl ?_
    refine v_push (3) (hT _ zt_X12_told rfl _ _ rfl) rfl ?_
    refine v_call (w := 2) [some (2, 121), some (0, 3)] hO (hT _ zt_X12_told rfl _ _ rfl) rfl rfl ?_
    refine v_load (v := (2, 121)) (hT _ zt_X12_refuse rfl _ _ rfl) rfl rfl ?_
    refine v_load (v := (0, 3)) (hT _ zt_X12_refuse rfl _ _ rfl) rfl rfl ?_
    refine v_putf (r := 121) hO (hT _ zt_X12_refuse rfl _ _ rfl) rfl (fun hf4 => ?_)
    refine v_push (-1) (hT _ zt_X12_refuse rfl _ _ rfl) rfl ?_
    refine v_ret (hT _ zt_X12_refuse rfl _ _ rfl) (Or.inl rfl) ?_
    show vP D T N 327 54 (zset h 121 0 (0, 3)) [some (2, 121), some (0, (j : Int)), some (0, (t : Int)), none, none, none, none, none] [(0, -1)] _
    refine v_i2l (hT _ zt_X12_told rfl _ _ rfl) ?_
    refine v_ret (hT _ zt_X12_told rfl _ _ rfl) (Or.inr rfl) ?_
    exact k0 ha1 hb2 hc3
  · have hc3 : 0 ≤ m := Int.not_lt.mp hc3
    refine v_load (v := (2, 121)) (hT _ zt_X12_told rfl _ _ rfl) rfl rfl ?_
    refine v_getR (c := 123) (r := 121) (hT _ zt_X12_told rfl _ _ rfl) rfl rfl rfl ?_
    refine v_load (v := (0, (t : Int))) (hT _ zt_X12_told rfl _ _ rfl) rfl rfl ?_
    refine v_aldB (t := 0) (r := 123) (w := m) (hT _ zt_X12_told rfl _ _ rfl) rfl rfl rfl (fun _ _ => (congrArg Prod.snd zm)) (fun ha5 hb6 => ?_)
    refine v_push (5) (hT _ zt_X12_told rfl _ _ rfl) rfl ?_
    refine v_ic (hT _ zt_X12_told rfl _ _ rfl) (fun hc7 => ?_) (fun hc7 => ?_)
    · have hc7 : m < 5 := hc7
      refine v_load (v := (2, 121)) (hT _ zt_X12_told rfl _ _ rfl) rfl rfl ?_
      refine v_push (4) (hT _ zt_X12_told rfl _ _ rfl) rfl ?_
      refine v_call (w := 2) [some (2, 121), some (0, 4)] hO (hT _ zt_X12_told rfl _ _ rfl) rfl rfl ?_
      refine v_load (v := (2, 121)) (hT _ zt_X12_refuse rfl _ _ rfl) rfl rfl ?_
      refine v_load (v := (0, 4)) (hT _ zt_X12_refuse rfl _ _ rfl) rfl rfl ?_
      refine v_putf (r := 121) hO (hT _ zt_X12_refuse rfl _ _ rfl) rfl (fun hf8 => ?_)
      refine v_push (-1) (hT _ zt_X12_refuse rfl _ _ rfl) rfl ?_
      refine v_ret (hT _ zt_X12_refuse rfl _ _ rfl) (Or.inl rfl) ?_
      show vP D T N 327 71 (zset h 121 0 (0, 4)) [some (2, 121), some (0, (j : Int)), some (0, (t : Int)), none, none, none, none, none] [(0, -1)] _
      refine v_i2l (hT _ zt_X12_told rfl _ _ rfl) ?_
      refine v_ret (hT _ zt_X12_told rfl _ _ rfl) (Or.inr rfl) ?_
      exact k1 ha1 hb2 hc3 hc7
    · have hc7 : 5 ≤ m := Int.not_lt.mp hc7
      refine v_push (0) (hT _ zt_X12_told rfl _ _ rfl) rfl ?_
      refine v_store1 [some (2, 121), some (0, (j : Int)), some (0, (t : Int)), some (0, 0), none, none, none, none] (hT _ zt_X12_told rfl _ _ rfl) ⟨rfl, Nat.ne_of_beq_eq_false rfl⟩ (Nat.le_of_ble_eq_true rfl) rfl ?_
      refine v_push (0) (hT _ zt_X12_told rfl _ _ rfl) rfl ?_
      refine v_store1 [some (2, 121), some (0, (j : Int)), some (0, (t : Int)), some (0, 0), some (0, 0), none, none, none] (hT _ zt_X12_told rfl _ _ rfl) ⟨rfl, Nat.ne_of_beq_eq_false rfl⟩ (Nat.le_of_ble_eq_true rfl) rfl ?_
      exact k2 ha1 hb2 hc3 hc7
theorem qs_td78 {D : zD} {T : zT} (hT : hTab T) (hO : vOK T) {N : Nat} {h : zH} {Q : zR → Prop} {j t s k : Nat} (w : Int) (hv0 : zHv h) (ht : t < 4) (hk : (k : Int) < 5) (hs : s ≤ 240) (hw : 0 ≤ w → w ≤ 48 → vI w = w) (zi : h 124 ((60 * (t : Int)) + (k : Int)).toNat = (1, w))
    (k0 : (0 ≤ ((60 * (t : Int)) + (k : Int))) → (((60 * (t : Int)) + (k : Int)) < 240) → (w < 0) → Q (zset h 121 0 (0, 5), some (1, -1)))
    (k1 : (0 ≤ ((60 * (t : Int)) + (k : Int))) → (((60 * (t : Int)) + (k : Int)) < 240) → (0 ≤ w) → (48 < w) → Q (zset h 121 0 (0, 5), some (1, -1)))
    (k2 : (0 ≤ ((60 * (t : Int)) + (k : Int))) → (((60 * (t : Int)) + (k : Int)) < 240) → (0 ≤ w) → (w ≤ 48) → vP D T N 327 78 h [some (2, 121), some (0, (j : Int)), some (0, (t : Int)), some (0, ((s : Int) + (vI w))), some (0, ((k : Int) + 1)), none, none, none] [] Q) :
    vP D T (N + 1) 327 78 h [some (2, 121), some (0, (j : Int)), some (0, (t : Int)), some (0, (s : Int)), some (0, (k : Int)), none, none, none] [] Q := by
  refine v_loadS (v := (0, (k : Int))) (hT _ zt_X12_told rfl _ _ rfl) rfl rfl ?_
  refine v_push (5) (hT _ zt_X12_told rfl _ _ rfl) rfl ?_
  refine v_ic (hT _ zt_X12_told rfl _ _ rfl) (fun _ => ?_) (fun hc1 => absurd (show (k : Int) < 5 from hk) hc1)
  refine v_load (v := (2, 121)) (hT _ zt_X12_told rfl _ _ rfl) rfl rfl ?_
  refine v_load (v := (0, (t : Int))) (hT _ zt_X12_told rfl _ _ rfl) rfl rfl ?_
  refine v_load (v := (0, (k : Int))) (hT _ zt_X12_told rfl _ _ rfl) rfl rfl ?_
  refine v_call (w := 3) [some (2, 121), some (0, (t : Int)), some (0, (k : Int))] hO (hT _ zt_X12_told rfl _ _ rfl) rfl rfl ?_
  refine v_load (v := (2, 121)) (hT _ zt_X12_numberOf rfl _ _ rfl) rfl rfl ?_
  refine v_getR (c := 124) (r := 121) (hT _ zt_X12_numberOf rfl _ _ rfl) rfl rfl rfl ?_
  refine v_push (60) (hT _ zt_X12_numberOf rfl _ _ rfl) rfl ?_
  refine v_load (v := (0, (t : Int))) (hT _ zt_X12_numberOf rfl _ _ rfl) rfl rfl ?_
  refine v_bin (w := (60 * (t : Int))) (hT _ zt_X12_numberOf rfl _ _ rfl) (hq_mul (by omega) (by omega)) ?_
  refine v_load (v := (0, (k : Int))) (hT _ zt_X12_numberOf rfl _ _ rfl) rfl rfl ?_
  refine v_bin (w := ((60 * (t : Int)) + (k : Int))) (hT _ zt_X12_numberOf rfl _ _ rfl) (hq_add (by omega) (by omega)) ?_
  refine v_aldB (t := 1) (r := 124) (w := w) (hT _ zt_X12_numberOf rfl _ _ rfl) rfl rfl rfl (fun _ _ => (congrArg Prod.snd zi)) (fun ha2 hb3 => ?_)
  refine v_ret (hT _ zt_X12_numberOf rfl _ _ rfl) (Or.inr rfl) ?_
  show vP D T N 327 91 h [some (2, 121), some (0, (j : Int)), some (0, (t : Int)), some (0, (s : Int)), some (0, (k : Int)), none, none, none] [(1, w)] _
  refine v_push (0) (hT _ zt_X12_told rfl _ _ rfl) rfl ?_
  refine v_push (48) (hT _ zt_X12_told rfl _ _ rfl) rfl ?_
  refine v_call (w := 6) [some (1, w), none, some (1, 0), none, some (1, 48), none] hO (hT _ zt_X12_told rfl _ _ rfl) rfl rfl ?_
  refine v_load (v := (1, w)) (hT _ zt_X12_isIn rfl _ _ rfl) rfl rfl ?_
  refine v_load (v := (1, 0)) (hT _ zt_X12_isIn rfl _ _ rfl) rfl rfl ?_
  refine v_lif (hT _ zt_X12_isIn rfl _ _ rfl) (hT _ zt_X12_isIn rfl _ _ rfl) (fun hc4 => ?_) (fun hc4 => ?_)
  · have hc4 : w < 0 := hc4
    refine v_push (0) (hT _ zt_X12_isIn rfl _ _ rfl) rfl ?_
    refine v_ret (hT _ zt_X12_isIn rfl _ _ rfl) (Or.inl rfl) ?_
    show vP D T N 327 98 h [some (2, 121), some (0, (j : Int)), some (0, (t : Int)), some (0, (s : Int)), some (0, (k : Int)), none, none, none] [(0, 0)] _
    refine v_if (hT _ zt_X12_told rfl _ _ rfl) (fun _ => ?_) (fun hc5 => absurd (show (0 : Int) = 0 from (by omega)) hc5)
    refine v_load (v := (2, 121)) (hT _ zt_X12_told rfl _ _ rfl) rfl rfl ?_
    refine v_push (5) (hT _ zt_X12_told rfl _ _ rfl) rfl ?_
    refine v_call (w := 2) [some (2, 121), some (0, 5)] hO (hT _ zt_X12_told rfl _ _ rfl) rfl rfl ?_
    refine v_load (v := (2, 121)) (hT _ zt_X12_refuse rfl _ _ rfl) rfl rfl ?_
    refine v_load (v := (0, 5)) (hT _ zt_X12_refuse rfl _ _ rfl) rfl rfl ?_
    refine v_putf (r := 121) hO (hT _ zt_X12_refuse rfl _ _ rfl) rfl (fun hf6 => ?_)
    refine v_push (-1) (hT _ zt_X12_refuse rfl _ _ rfl) rfl ?_
    refine v_ret (hT _ zt_X12_refuse rfl _ _ rfl) (Or.inl rfl) ?_
    show vP D T N 327 106 (zset h 121 0 (0, 5)) [some (2, 121), some (0, (j : Int)), some (0, (t : Int)), some (0, (s : Int)), some (0, (k : Int)), none, none, none] [(0, -1)] _
    refine v_i2l (hT _ zt_X12_told rfl _ _ rfl) ?_
    refine v_ret (hT _ zt_X12_told rfl _ _ rfl) (Or.inr rfl) ?_
    exact k0 ha2 hb3 hc4
  · have hc4 : 0 ≤ w := Int.not_lt.mp hc4
    refine v_load (v := (1, w)) (hT _ zt_X12_isIn rfl _ _ rfl) rfl rfl ?_
    refine v_load (v := (1, 48)) (hT _ zt_X12_isIn rfl _ _ rfl) rfl rfl ?_
    refine v_lif (hT _ zt_X12_isIn rfl _ _ rfl) (hT _ zt_X12_isIn rfl _ _ rfl) (fun hc7 => ?_) (fun hc7 => ?_)
    · have hc7 : 48 < w := hc7
      refine v_push (0) (hT _ zt_X12_isIn rfl _ _ rfl) rfl ?_
      refine v_ret (hT _ zt_X12_isIn rfl _ _ rfl) (Or.inl rfl) ?_
      show vP D T N 327 98 h [some (2, 121), some (0, (j : Int)), some (0, (t : Int)), some (0, (s : Int)), some (0, (k : Int)), none, none, none] [(0, 0)] _
      refine v_if (hT _ zt_X12_told rfl _ _ rfl) (fun _ => ?_) (fun hc8 => absurd (show (0 : Int) = 0 from (by omega)) hc8)
      refine v_load (v := (2, 121)) (hT _ zt_X12_told rfl _ _ rfl) rfl rfl ?_
      refine v_push (5) (hT _ zt_X12_told rfl _ _ rfl) rfl ?_
      refine v_call (w := 2) [some (2, 121), some (0, 5)] hO (hT _ zt_X12_told rfl _ _ rfl) rfl rfl ?_
      refine v_load (v := (2, 121)) (hT _ zt_X12_refuse rfl _ _ rfl) rfl rfl ?_
      refine v_load (v := (0, 5)) (hT _ zt_X12_refuse rfl _ _ rfl) rfl rfl ?_
      refine v_putf (r := 121) hO (hT _ zt_X12_refuse rfl _ _ rfl) rfl (fun hf9 => ?_)
      refine v_push (-1) (hT _ zt_X12_refuse rfl _ _ rfl) rfl ?_
      refine v_ret (hT _ zt_X12_refuse rfl _ _ rfl) (Or.inl rfl) ?_
      show vP D T N 327 106 (zset h 121 0 (0, 5)) [some (2, 121), some (0, (j : Int)), some (0, (t : Int)), some (0, (s : Int)), some (0, (k : Int)), none, none, none] [(0, -1)] _
      refine v_i2l (hT _ zt_X12_told rfl _ _ rfl) ?_
      refine v_ret (hT _ zt_X12_told rfl _ _ rfl) (Or.inr rfl) ?_
      exact k1 ha2 hb3 hc4 hc7
    · have hc7 : w ≤ 48 := Int.not_lt.mp hc7
      refine v_push (1) (hT _ zt_X12_isIn rfl _ _ rfl) rfl ?_
      refine v_goto (hT _ zt_X12_isIn rfl _ _ rfl) ?_
      refine v_ret (hT _ zt_X12_isIn rfl _ _ rfl) (Or.inl rfl) ?_
      show vP D T N 327 98 h [some (2, 121), some (0, (j : Int)), some (0, (t : Int)), some (0, (s : Int)), some (0, (k : Int)), none, none, none] [(0, 1)] _
      refine v_if (hT _ zt_X12_told rfl _ _ rfl) (fun hc10 => absurd (show (1 : Int) = 0 from hc10) (by omega)) (fun _ => ?_)
      refine v_load (v := (0, (s : Int))) (hT _ zt_X12_told rfl _ _ rfl) rfl rfl ?_
      refine v_load (v := (2, 121)) (hT _ zt_X12_told rfl _ _ rfl) rfl rfl ?_
      refine v_load (v := (0, (t : Int))) (hT _ zt_X12_told rfl _ _ rfl) rfl rfl ?_
      refine v_load (v := (0, (k : Int))) (hT _ zt_X12_told rfl _ _ rfl) rfl rfl ?_
      refine v_call (w := 3) [some (2, 121), some (0, (t : Int)), some (0, (k : Int))] hO (hT _ zt_X12_told rfl _ _ rfl) rfl rfl ?_
      refine v_load (v := (2, 121)) (hT _ zt_X12_numberOf rfl _ _ rfl) rfl rfl ?_
      refine v_getR (c := 124) (r := 121) (hT _ zt_X12_numberOf rfl _ _ rfl) rfl rfl rfl ?_
      refine v_push (60) (hT _ zt_X12_numberOf rfl _ _ rfl) rfl ?_
      refine v_load (v := (0, (t : Int))) (hT _ zt_X12_numberOf rfl _ _ rfl) rfl rfl ?_
      refine v_bin (w := (60 * (t : Int))) (hT _ zt_X12_numberOf rfl _ _ rfl) (hq_mul (by omega) (by omega)) ?_
      refine v_load (v := (0, (k : Int))) (hT _ zt_X12_numberOf rfl _ _ rfl) rfl rfl ?_
      refine v_bin (w := ((60 * (t : Int)) + (k : Int))) (hT _ zt_X12_numberOf rfl _ _ rfl) (hq_add (by omega) (by omega)) ?_
      refine v_aldB (t := 1) (r := 124) (w := w) (hT _ zt_X12_numberOf rfl _ _ rfl) rfl rfl rfl (fun _ _ => (congrArg Prod.snd zi)) (fun ha11 hb12 => ?_)
      refine v_ret (hT _ zt_X12_numberOf rfl _ _ rfl) (Or.inr rfl) ?_
      show vP D T N 327 116 h [some (2, 121), some (0, (j : Int)), some (0, (t : Int)), some (0, (s : Int)), some (0, (k : Int)), none, none, none] [(1, w), (0, (s : Int))] _
      refine v_l2i (w := (vI w)) (hT _ zt_X12_told rfl _ _ rfl) rfl ?_
      refine v_bin (w := ((s : Int) + (vI w))) (hT _ zt_X12_told rfl _ _ rfl) (hq_add (by omega) (by omega)) ?_
      refine v_store1 [some (2, 121), some (0, (j : Int)), some (0, (t : Int)), some (0, ((s : Int) + (vI w))), some (0, (k : Int)), none, none, none] (hT _ zt_X12_told rfl _ _ rfl) ⟨rfl, Nat.ne_of_beq_eq_false rfl⟩ (Nat.le_of_ble_eq_true rfl) rfl ?_
      refine v_iinc (x := (k : Int)) (u := 1) (w := ((k : Int) + 1)) [some (2, 121), some (0, (j : Int)), some (0, (t : Int)), some (0, ((s : Int) + (vI w))), some (0, ((k : Int) + 1)), none, none, none] (hT _ zt_X12_told rfl _ _ rfl) rfl rfl (Nat.le_of_ble_eq_true rfl) (vz_inc (by omega) (by omega)) rfl ?_
      refine v_goto (hT _ zt_X12_told rfl _ _ rfl) ?_
      exact k2 ha2 hb3 hc4 hc7
theorem qs_td78e {D : zD} {T : zT} (hT : hTab T) (hO : vOK T) {N : Nat} {h : zH} {Q : zR → Prop} {j t s : Nat} (hv0 : zHv h)
    (k0 : vP D T N 214 0 h [some (2, 121), some (0, (j : Int)), some (0, 1), none, none] [] (fun r1 => vP D T N 327 132 r1.1 [some (2, 121), some (0, (j : Int)), some (0, (t : Int)), some (0, (s : Int)), some (0, 5), none, none, none] (zpush r1.2 [(0, (s : Int))]) Q)) :
    vP D T (N + 1) 327 78 h [some (2, 121), some (0, (j : Int)), some (0, (t : Int)), some (0, (s : Int)), some (0, 5), none, none, none] [] Q := by
  refine v_loadS (v := (0, 5)) (hT _ zt_X12_told rfl _ _ rfl) rfl rfl ?_
  refine v_push (5) (hT _ zt_X12_told rfl _ _ rfl) rfl ?_
  refine v_ic (hT _ zt_X12_told rfl _ _ rfl) (fun hc1 => absurd (show (5 : Int) < 5 from hc1) (by omega)) (fun _ => ?_)
  refine v_load (v := (0, (s : Int))) (hT _ zt_X12_told rfl _ _ rfl) rfl rfl ?_
  refine v_load (v := (2, 121)) (hT _ zt_X12_told rfl _ _ rfl) rfl rfl ?_
  refine v_load (v := (0, (j : Int))) (hT _ zt_X12_told rfl _ _ rfl) rfl rfl ?_
  refine v_push (1) (hT _ zt_X12_told rfl _ _ rfl) rfl ?_
  refine v_call (w := 5) [some (2, 121), some (0, (j : Int)), some (0, 1), none, none] hO (hT _ zt_X12_told rfl _ _ rfl) rfl rfl ?_
  exact k0 
theorem qs_td132 {D : zD} {T : zT} (hT : hTab T) (hO : vOK T) {N : Nat} {h : zH} {Q : zR → Prop} {j t s d : Nat} (hv0 : zHv h)
    (k0 : ((s : Int) = (d : Int)) → vP D T N 327 146 h [some (2, 121), some (0, (j : Int)), some (0, (t : Int)), some (0, (s : Int)), some (1, 1), none, some (0, (s : Int)), some (0, 0)] [] Q)
    (k1 : ((s : Int) ≠ (d : Int)) → Q (h, some (1, 0))) :
    vP D T N 327 132 h [some (2, 121), some (0, (j : Int)), some (0, (t : Int)), some (0, (s : Int)), some (0, 5), none, none, none] [(0, (d : Int)), (0, (s : Int))] Q := by
  refine v_ic (hT _ zt_X12_told rfl _ _ rfl) (fun hc1 => ?_) (fun hc1 => ?_)
  · have hc1 : (s : Int) = (d : Int) := hc1
    refine v_push (1) (hT _ zt_X12_told rfl _ _ rfl) rfl ?_
    refine v_store2 [some (2, 121), some (0, (j : Int)), some (0, (t : Int)), some (0, (s : Int)), some (1, 1), none, none, none] (hT _ zt_X12_told rfl _ _ rfl) (Nat.le_of_ble_eq_true rfl) rfl ?_
    refine v_load (v := (0, (s : Int))) (hT _ zt_X12_told rfl _ _ rfl) rfl rfl ?_
    refine v_store1 [some (2, 121), some (0, (j : Int)), some (0, (t : Int)), some (0, (s : Int)), some (1, 1), none, some (0, (s : Int)), none] (hT _ zt_X12_told rfl _ _ rfl) ⟨rfl, Nat.ne_of_beq_eq_false rfl⟩ (Nat.le_of_ble_eq_true rfl) rfl ?_
    refine v_push (0) (hT _ zt_X12_told rfl _ _ rfl) rfl ?_
    refine v_store1 [some (2, 121), some (0, (j : Int)), some (0, (t : Int)), some (0, (s : Int)), some (1, 1), none, some (0, (s : Int)), some (0, 0)] (hT _ zt_X12_told rfl _ _ rfl) ⟨rfl, Nat.ne_of_beq_eq_false rfl⟩ (Nat.le_of_ble_eq_true rfl) rfl ?_
    exact k0 hc1
  · have hc1 : (s : Int) ≠ (d : Int) := hc1
    refine v_push (0) (hT _ zt_X12_told rfl _ _ rfl) rfl ?_
    refine v_ret (hT _ zt_X12_told rfl _ _ rfl) (Or.inr rfl) ?_
    exact k1 hc1
theorem qs_td146 {D : zD} {T : zT} (hT : hTab T) (hO : vOK T) {N : Nat} {h : zH} {Q : zR → Prop} {j t s o k m : Nat} (v : Int) (hv0 : zHv h) (ht : t < 4) (hk : (k : Int) < 5) (zi : h 124 ((60 * (t : Int)) + (k : Int)).toNat = (1, (m : Int)))
    (k0 : (0 ≤ ((60 * (t : Int)) + (k : Int))) → (((60 * (t : Int)) + (k : Int)) < 240) → vP D T N 207 0 h [some (0, (o : Int)), some (0, (vI ((m : Int)))), none, none, none, none] [] (fun r1 => vP D T N 327 167 r1.1 [some (2, 121), some (0, (j : Int)), some (0, (t : Int)), some (0, (s : Int)), some (1, v), none, some (0, (o : Int)), some (0, (k : Int))] (zpush r1.2 [(1, v)]) Q)) :
    vP D T (N + 1) 327 146 h [some (2, 121), some (0, (j : Int)), some (0, (t : Int)), some (0, (s : Int)), some (1, v), none, some (0, (o : Int)), some (0, (k : Int))] [] Q := by
  refine v_loadS (v := (0, (k : Int))) (hT _ zt_X12_told rfl _ _ rfl) rfl rfl ?_
  refine v_push (5) (hT _ zt_X12_told rfl _ _ rfl) rfl ?_
  refine v_ic (hT _ zt_X12_told rfl _ _ rfl) (fun _ => ?_) (fun hc1 => absurd (show (k : Int) < 5 from hk) hc1)
  refine v_load (v := (1, v)) (hT _ zt_X12_told rfl _ _ rfl) rfl rfl ?_
  refine v_load (v := (0, (o : Int))) (hT _ zt_X12_told rfl _ _ rfl) rfl rfl ?_
  refine v_load (v := (2, 121)) (hT _ zt_X12_told rfl _ _ rfl) rfl rfl ?_
  refine v_load (v := (0, (t : Int))) (hT _ zt_X12_told rfl _ _ rfl) rfl rfl ?_
  refine v_load (v := (0, (k : Int))) (hT _ zt_X12_told rfl _ _ rfl) rfl rfl ?_
  refine v_call (w := 3) [some (2, 121), some (0, (t : Int)), some (0, (k : Int))] hO (hT _ zt_X12_told rfl _ _ rfl) rfl rfl ?_
  refine v_load (v := (2, 121)) (hT _ zt_X12_numberOf rfl _ _ rfl) rfl rfl ?_
  refine v_getR (c := 124) (r := 121) (hT _ zt_X12_numberOf rfl _ _ rfl) rfl rfl rfl ?_
  refine v_push (60) (hT _ zt_X12_numberOf rfl _ _ rfl) rfl ?_
  refine v_load (v := (0, (t : Int))) (hT _ zt_X12_numberOf rfl _ _ rfl) rfl rfl ?_
  refine v_bin (w := (60 * (t : Int))) (hT _ zt_X12_numberOf rfl _ _ rfl) (hq_mul (by omega) (by omega)) ?_
  refine v_load (v := (0, (k : Int))) (hT _ zt_X12_numberOf rfl _ _ rfl) rfl rfl ?_
  refine v_bin (w := ((60 * (t : Int)) + (k : Int))) (hT _ zt_X12_numberOf rfl _ _ rfl) (hq_add (by omega) (by omega)) ?_
  refine v_aldB (t := 1) (r := 124) (w := (m : Int)) (hT _ zt_X12_numberOf rfl _ _ rfl) rfl rfl rfl (fun _ _ => (congrArg Prod.snd zi)) (fun ha2 hb3 => ?_)
  refine v_ret (hT _ zt_X12_numberOf rfl _ _ rfl) (Or.inr rfl) ?_
  show vP D T N 327 163 h [some (2, 121), some (0, (j : Int)), some (0, (t : Int)), some (0, (s : Int)), some (1, v), none, some (0, (o : Int)), some (0, (k : Int))] [(1, (m : Int)), (0, (o : Int)), (1, v)] _
  refine v_l2i (w := (vI ((m : Int)))) (hT _ zt_X12_told rfl _ _ rfl) rfl ?_
  refine v_call (w := 6) [some (0, (o : Int)), some (0, (vI ((m : Int)))), none, none, none, none] hO (hT _ zt_X12_told rfl _ _ rfl) rfl rfl ?_
  exact k0 ha2 hb3
theorem qs_td167 {D : zD} {T : zT} (hT : hTab T) (hO : vOK T) {N : Nat} {h : zH} {Q : zR → Prop} {j t s o k : Nat} (v u : Int) (hv0 : zHv h)
    (k0 : vP D T N 326 0 h [some (1, v), none, some (1, u), none] [] (fun r1 => vP D T N 327 170 r1.1 [some (2, 121), some (0, (j : Int)), some (0, (t : Int)), some (0, (s : Int)), some (1, v), none, some (0, (o : Int)), some (0, (k : Int))] (zpush r1.2 []) Q)) :
    vP D T N 327 167 h [some (2, 121), some (0, (j : Int)), some (0, (t : Int)), some (0, (s : Int)), some (1, v), none, some (0, (o : Int)), some (0, (k : Int))] [(1, u), (1, v)] Q := by
  refine v_call (w := 4) [some (1, v), none, some (1, u), none] hO (hT _ zt_X12_told rfl _ _ rfl) rfl rfl ?_
  exact k0 
theorem qs_td170 {D : zD} {T : zT} (hT : hTab T) (hO : vOK T) {N : Nat} {h : zH} {Q : zR → Prop} {j t s o k m : Nat} (v u : Int) (hv0 : zHv h) (ht : t < 4) (hk : k < 5) (ho : o ≤ 240) (hm : m ≤ 48) (hw : vI (m : Int) = (m : Int)) (zi : h 124 ((60 * (t : Int)) + (k : Int)).toNat = (1, (m : Int)))
    (k0 : (0 ≤ ((60 * (t : Int)) + (k : Int))) → (((60 * (t : Int)) + (k : Int)) < 240) → vP D T N 327 146 h [some (2, 121), some (0, (j : Int)), some (0, (t : Int)), some (0, (s : Int)), some (1, u), none, some (0, ((o : Int) - (vI ((m : Int))))), some (0, ((k : Int) + 1))] [] Q) :
    vP D T N 327 170 h [some (2, 121), some (0, (j : Int)), some (0, (t : Int)), some (0, (s : Int)), some (1, v), none, some (0, (o : Int)), some (0, (k : Int))] [(1, u)] Q := by
  refine v_store2 [some (2, 121), some (0, (j : Int)), some (0, (t : Int)), some (0, (s : Int)), some (1, u), none, some (0, (o : Int)), some (0, (k : Int))] (hT _ zt_X12_told rfl _ _ rfl) (Nat.le_of_ble_eq_true rfl) rfl ?_
  refine v_load (v := (0, (o : Int))) (hT _ zt_X12_told rfl _ _ rfl) rfl rfl ?_
  refine v_load (v := (2, 121)) (hT _ zt_X12_told rfl _ _ rfl) rfl rfl ?_
  refine v_load (v := (0, (t : Int))) (hT _ zt_X12_told rfl _ _ rfl) rfl rfl ?_
  refine v_load (v := (0, (k : Int))) (hT _ zt_X12_told rfl _ _ rfl) rfl rfl ?_
  refine v_call (w := 3) [some (2, 121), some (0, (t : Int)), some (0, (k : Int))] hO (hT _ zt_X12_told rfl _ _ rfl) rfl rfl ?_
  refine v_load (v := (2, 121)) (hT _ zt_X12_numberOf rfl _ _ rfl) rfl rfl ?_
  refine v_getR (c := 124) (r := 121) (hT _ zt_X12_numberOf rfl _ _ rfl) rfl rfl rfl ?_
  refine v_push (60) (hT _ zt_X12_numberOf rfl _ _ rfl) rfl ?_
  refine v_load (v := (0, (t : Int))) (hT _ zt_X12_numberOf rfl _ _ rfl) rfl rfl ?_
  refine v_bin (w := (60 * (t : Int))) (hT _ zt_X12_numberOf rfl _ _ rfl) (hq_mul (by omega) (by omega)) ?_
  refine v_load (v := (0, (k : Int))) (hT _ zt_X12_numberOf rfl _ _ rfl) rfl rfl ?_
  refine v_bin (w := ((60 * (t : Int)) + (k : Int))) (hT _ zt_X12_numberOf rfl _ _ rfl) (hq_add (by omega) (by omega)) ?_
  refine v_aldB (t := 1) (r := 124) (w := (m : Int)) (hT _ zt_X12_numberOf rfl _ _ rfl) rfl rfl rfl (fun _ _ => (congrArg Prod.snd zi)) (fun ha1 hb2 => ?_)
  refine v_ret (hT _ zt_X12_numberOf rfl _ _ rfl) (Or.inr rfl) ?_
  show vP D T N 327 181 h [some (2, 121), some (0, (j : Int)), some (0, (t : Int)), some (0, (s : Int)), some (1, u), none, some (0, (o : Int)), some (0, (k : Int))] [(1, (m : Int)), (0, (o : Int))] _
  refine v_l2i (w := (vI ((m : Int)))) (hT _ zt_X12_told rfl _ _ rfl) rfl ?_
  refine v_bin (w := ((o : Int) - (vI ((m : Int))))) (hT _ zt_X12_told rfl _ _ rfl) (hq_sub (by omega) (by omega)) ?_
  refine v_store1 [some (2, 121), some (0, (j : Int)), some (0, (t : Int)), some (0, (s : Int)), some (1, u), none, some (0, ((o : Int) - (vI ((m : Int))))), some (0, (k : Int))] (hT _ zt_X12_told rfl _ _ rfl) ⟨rfl, Nat.ne_of_beq_eq_false rfl⟩ (Nat.le_of_ble_eq_true rfl) rfl ?_
  refine v_iinc (x := (k : Int)) (u := 1) (w := ((k : Int) + 1)) [some (2, 121), some (0, (j : Int)), some (0, (t : Int)), some (0, (s : Int)), some (1, u), none, some (0, ((o : Int) - (vI ((m : Int))))), some (0, ((k : Int) + 1))] (hT _ zt_X12_told rfl _ _ rfl) rfl rfl (Nat.le_of_ble_eq_true rfl) (vz_inc (by omega) (by omega)) rfl ?_
  refine v_goto (hT _ zt_X12_told rfl _ _ rfl) ?_
  exact k0 ha1 hb2
theorem qs_td146e {D : zD} {T : zT} (hT : hTab T) (hO : vOK T) {N : Nat} {h : zH} {Q : zR → Prop} {j t s o : Nat} (v : Int) (hv0 : zHv h)
    (k0 : Q (h, some (1, v))) :
    vP D T (N + 1) 327 146 h [some (2, 121), some (0, (j : Int)), some (0, (t : Int)), some (0, (s : Int)), some (1, v), none, some (0, (o : Int)), some (0, 5)] [] Q := by
  refine v_loadS (v := (0, 5)) (hT _ zt_X12_told rfl _ _ rfl) rfl rfl ?_
  refine v_push (5) (hT _ zt_X12_told rfl _ _ rfl) rfl ?_
  refine v_ic (hT _ zt_X12_told rfl _ _ rfl) (fun hc1 => absurd (show (5 : Int) < 5 from hc1) (by omega)) (fun _ => ?_)
  refine v_load (v := (1, v)) (hT _ zt_X12_told rfl _ _ rfl) rfl rfl ?_
  refine v_ret (hT _ zt_X12_told rfl _ _ rfl) (Or.inr rfl) ?_
  exact k0 
section TE
variable {D : zD} {T : zT} {h : zH} {P : PT}
theorem rt_L2 {j t : Nat} {nu : Nat → Int} (hT : hTab T) (hO : vOK T) {Q : zR → Prop} (ht : t < 4) (hn : ∀ k : Nat, k < 5 → h 124 ((60 * (t : Int)) + (k : Int)).toNat = (1, nu k)) (hk : nuK nu 5) (kk : Q (h, some (1, ((min mst (Rp (nuN nu) (Sm (nuN nu) 5) 5) : Nat) : Int)))) : ∀ (r i N : Nat), i + r = 5 → vP D T N 327 146 h [some (2, 121), some (0, (j : Int)), some (0, (t : Int)), some (0, ((Sm (nuN nu) 5 : Nat) : Int)), some (1, ((min mst (Rp (nuN nu) (Sm (nuN nu) 5) i) : Nat) : Int)), none, some (0, ((Sm (nuN nu) 5 - Sm (nuN nu) i : Nat) : Int)), some (0, (i : Int))] [] Q
  | 0, i, N, hi => by
    have hi : i = 5 := hi
    subst hi
    exact vP_dn (vP_hv (fun hv => qs_td146e hT hO _ hv kk))
  | r + 1, i, N, hi => by
    have h5 : i < 5 := by omega
    have l240 := Sm_K 5 hk
    have a := hk i h5
    have f48 : nuN nu i ≤ 48 := by unfold nuN; omega
    have en : nu i = ((nuN nu i : Nat) : Int) := (nuN_i a.1).symm
    have hni := hn i h5
    rw [en] at hni
    have ev : vI ((nuN nu i : Nat) : Int) = ((nuN nu i : Nat) : Int) := vI_id (by omega) (by omega)
    have ms := Sm_mono (nuN nu) (i := i + 1) r
    rw [show i + 1 + r = 5 from by omega] at ms
    have es : Sm (nuN nu) (i + 1) = Sm (nuN nu) i + nuN nu i := rfl
    have rp : ∀ i, i ≤ 5 → 0 < Rp (nuN nu) (Sm (nuN nu) 5) i := by
      intro i
      induction i with
      | zero => intro _; exact Nat.one_pos
      | succ i ih =>
        intro h
        have m2 := Sm_mono (nuN nu) (i := i + 1) (5 - (i + 1))
        rw [show i + 1 + (5 - (i + 1)) = 5 from by omega] at m2
        have e2 : Sm (nuN nu) (i + 1) = Sm (nuN nu) i + nuN nu i := rfl
        refine Nat.mul_pos (ih (by omega)) ?_
        have p := bn_p (nuN nu i) (Sm (nuN nu) 5 - Sm (nuN nu) i - nuN nu i)
        rw [show nuN nu i + (Sm (nuN nu) 5 - Sm (nuN nu) i - nuN nu i) = Sm (nuN nu) 5 - Sm (nuN nu) i from by omega] at p
        exact p
    have p1 := rp i (by omega)
    have p2 : 0 < bn (Sm (nuN nu) 5 - Sm (nuN nu) i) (nuN nu i) := by
      have p := bn_p (nuN nu i) (Sm (nuN nu) 5 - Sm (nuN nu) i - nuN nu i)
      rw [show nuN nu i + (Sm (nuN nu) 5 - Sm (nuN nu) i - nuN nu i) = Sm (nuN nu) 5 - Sm (nuN nu) i from by omega] at p
      exact p
    refine vP_dn (vP_hv (fun hv => qs_td146 (m := nuN nu i) hT hO _ hv ht (by omega) hni (fun _ _ => ?_)))
    rw [ev]
    refine rw_ch hT hO _ _ (Sm (nuN nu) 5 - Sm (nuN nu) i) (nuN nu i) rfl rfl (by omega) (by omega) ?_
    show vP D T N 327 167 h [some (2, 121), some (0, (j : Int)), some (0, (t : Int)), some (0, ((Sm (nuN nu) 5 : Nat) : Int)), some (1, ((min mst (Rp (nuN nu) (Sm (nuN nu) 5) i) : Nat) : Int)), none, some (0, ((Sm (nuN nu) 5 - Sm (nuN nu) i : Nat) : Int)), some (0, (i : Int))] [(1, ((min mst (bn (Sm (nuN nu) 5 - Sm (nuN nu) i) (nuN nu i)) : Nat) : Int)), (1, ((min mst (Rp (nuN nu) (Sm (nuN nu) 5) i) : Nat) : Int))] Q
    refine vP_hv (fun hv => qs_td167 hT hO _ _ hv ?_)
    refine rw_tm hT hO _ _ rfl rfl p1 p2 ?_
    show vP D T N 327 170 h [some (2, 121), some (0, (j : Int)), some (0, (t : Int)), some (0, ((Sm (nuN nu) 5 : Nat) : Int)), some (1, ((min mst (Rp (nuN nu) (Sm (nuN nu) 5) i) : Nat) : Int)), none, some (0, ((Sm (nuN nu) 5 - Sm (nuN nu) i : Nat) : Int)), some (0, (i : Int))] [(1, ((min mst (Rp (nuN nu) (Sm (nuN nu) 5) (i + 1)) : Nat) : Int))] Q
    refine vP_hv (fun hv => qs_td170 (m := nuN nu i) hT hO _ _ hv ht h5 (by omega) f48 ev hni (fun _ _ => ?_))
    rw [ev, show ((Sm (nuN nu) 5 - Sm (nuN nu) i : Nat) : Int) - ((nuN nu i : Nat) : Int) = ((Sm (nuN nu) 5 - Sm (nuN nu) (i + 1) : Nat) : Int) from by omega, show (i : Int) + 1 = ((i + 1 : Nat) : Int) from by omega]
    exact rt_L2 hT hO ht hn hk kk r (i + 1) N (by omega)
theorem rt_L {j t : Nat} {nu : Nat → Int} (hT : hTab T) (hO : vOK T) (hR : rBk 0 P h) (hb : fB P) (hj : j < 3) (ht : t < 4) (hn : ∀ k : Nat, k < 5 → h 124 ((60 * (t : Int)) + (k : Int)).toNat = (1, nu k)) : ∀ (r i N : Nat), i + r = 5 → nuK nu i → vP D T N 327 78 h [some (2, 121), some (0, (j : Int)), some (0, (t : Int)), some (0, ((Sm (nuN nu) i : Nat) : Int)), some (0, (i : Int)), none, none, none] [] (fun r => r.2 = some (1, tdA P j nu))
  | 0, i, N, hi, hk => by
    have hi : i = 5 := hi
    subst hi
    refine vP_dn (vP_hv (fun hv => qs_td78e hT hO hv ?_))
    refine vP_hv (fun hv => qr_cn0 hT hO 1 hv ?_)
    refine rx_cnL hT hO hR hb hj 1 ?_ ((P 0 0).toNat * (P 0 1).toNat) 0 (Nat.zero_add _)
    rw [← sC_sR hb.1]
    show vP D T N 327 132 h [some (2, 121), some (0, (j : Int)), some (0, (t : Int)), some (0, ((Sm (nuN nu) 5 : Nat) : Int)), some (0, 5), none, none, none] [(0, ((sC P (cFq P j 1) 48 : Nat) : Int)), (0, ((Sm (nuN nu) 5 : Nat) : Int))] _
    refine vP_hv (fun hv => qs_td132 hT hO hv (fun c => ?_) (fun c => ?_))
    · have go := rt_L2 (D := D) (T := T) (j := j) (Q := fun r => r.2 = some (1, tdA P j nu)) hT hO ht hn hk (by
        show some ((1, ((min mst (Rp (nuN nu) (Sm (nuN nu) 5) 5) : Nat) : Int)) : zV) = some (1, tdA P j nu)
        rw [tdA_ok hk, if_pos (by omega), Bp_Rp]) 5 0 N rfl
      exact go
    · show some ((1, 0) : zV) = some (1, tdA P j nu)
      rw [tdA_ok hk, if_neg (by omega)]
  | r + 1, i, N, hi, hk => by
    have h5 : i < 5 := by omega
    have l240 := Sm_K i hk
    refine vP_dn (vP_hv (fun hv => qs_td78 hT hO (nu i) hv ht (by omega) (by omega) (fun a b => vI_id (by omega) (by omega)) (hn i h5) (fun _ _ c => ?_) (fun _ _ c1 c => ?_) (fun _ _ c1 c => ?_)))
    · show some ((1, -1) : zV) = some (1, tdA P j nu)
      rw [tdA_bad h5 (by omega)]
    · show some ((1, -1) : zV) = some (1, tdA P j nu)
      rw [tdA_bad h5 (by omega)]
    · have e : ((Sm (nuN nu) i : Nat) : Int) + vI (nu i) = ((Sm (nuN nu) (i + 1) : Nat) : Int) := by
        rw [vI_id (by omega) (by omega)]
        have := nuN_i c1
        show _ = ((Sm (nuN nu) i + nuN nu i : Nat) : Int)
        omega
      rw [e, show (i : Int) + 1 = ((i + 1 : Nat) : Int) from by omega]
      exact rt_L hT hO hR hb hj ht hn r (i + 1) N (by omega) (nuK_s hk ⟨c1, c⟩)
end TE
