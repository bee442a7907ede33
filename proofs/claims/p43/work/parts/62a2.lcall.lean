/-! THE LAW'S CALLS: each is there, and keeps what holds between calls -/
-- unknown arguments of these kinds
noncomputable def lEnt : List Nat → aQ → aQ × List aV
  | [], q => (q, [])
  | t :: ts, q => ((lEnt ts (q.1 + 1, (q.1, a_lo t, a_hi t) :: q.2.1, q.2.2)).1, (t, q.1 + 1, 0) :: (lEnt ts (q.1 + 1, (q.1, a_lo t, a_hi t) :: q.2.1, q.2.2)).2)
def lTy : List Nat → List zV → Prop
  | [], [] => True
  | t :: ts, z :: zs => (z.1 = t ∧ a_lo t ≤ z.2 ∧ z.2 ≤ a_hi t) ∧ lTy ts zs
  | _, _ => False
theorem lEnt_ok {X : aX} {h : zH} : ∀ {ts : List Nat} {bs : List zV} {q : aQ} {ρ : Nat → Int}, aDen X ρ q h → lTy ts bs → ∃ ρ', aAg ρ ρ' q.1 ∧ q.1 ≤ (lEnt ts q).1.1 ∧ aDen X ρ' (lEnt ts q).1 h ∧ aRl ρ' (lEnt ts q).1.1 (lEnt ts q).2 bs
  | [], [], q, ρ, g, _ => ⟨ρ, aAg.refl _ _, Nat.le_refl _, g, trivial⟩
  | [], _ :: _, _, _, _, hz => hz.elim
  | _ :: _, [], _, _, _, hz => hz.elim
  | t :: ts, z :: zs, q, ρ, g, ⟨⟨h1, h2, h3⟩, hz⟩ => by
    obtain ⟨ρ', ha, hn, g', hr⟩ := lEnt_ok (g.push h2 h3) hz
    have hn : q.1 + 1 ≤ (lEnt ts (q.1 + 1, (q.1, a_lo t, a_hi t) :: q.2.1, q.2.2)).1.1 := hn
    refine ⟨ρ', (aup_ag ρ q.1 z.2).trans ha (Nat.le_succ _), Nat.le_trans (Nat.le_succ _) hn, g', ⟨⟨hn, ?_⟩, hr⟩⟩
    show z = (t, ρ' q.1 + 0)
    rw [ha q.1 (Nat.lt_succ_self _), aup_at, Int.add_zero]
    exact Prod.ext h1 rfl
-- the call by what the contracts say, from a state between calls: each way it ends in such a state again (whose first unknown is the answer)
noncomputable def lCk (G : aG) (Ks : List aK) (d mj : Nat) (rc : Int) (ts : List Nat) (t : Nat) (M : aM) (qs : List aQ) (q : aQ) : Bool := match a_pick G M d mj (lEnt ts q).1 ((2, 0, rc) :: (lEnt ts q).2) Ks with
  | some rets => a_all (fun r => a_any (fun p => a_retOK G 0 r (p, some (t, 1, 0))) qs) rets
  | none => false
def lI (G : aG) (D : zD) (Fl : Nat → zH → Prop) (qs : List aQ) (h : zH) : Prop := ∃ q ∈ qs, ∃ ρ, aDen (aG0 G, D, Fl, h, []) ρ q h
theorem lCall {G : aG} {D : zD} {Fl : Nat → zH → Prop} {T : zT} {Ks : List aK} {d mj : Nat} {rc : Int} {ts : List Nat} {t : Nat} {M : aM} {qs qs' : List aQ} {h : zH} {bs : List zV} (hX : ∀ h m, aOK (aG0 G, D, Fl, h, m)) (hK : ∀ κ ∈ Ks, aSpecO 0 G D Fl T κ) (hck : a_all (lCk (aG0 G) Ks d mj rc ts t M qs') qs = true) (hI : lI G D Fl qs h) (hty : lTy ts bs) : ∃ h1 z, zRun D T d mj 0 (h, zargs 0 ((2, rc) :: bs), []) (h1, some (t, z)) ∧ lI G D Fl qs' h1 ∧ aFr M h h1 := by
  obtain ⟨q, hq, ρ, g⟩ := hI
  have g1 : aDen (aG0 G, D, Fl, h, M) ρ q h := ⟨g.1, g.2.1, g.2.2.1, g.2.2.2.1, fun _ _ _ => rfl, g.2.2.2.2.2⟩
  obtain ⟨ρ', -, -, g2, hR⟩ := lEnt_ok g1 hty
  have hc := a_all_ok hck q hq
  unfold lCk at hc
  cases hp : a_pick (aG0 G) M d mj (lEnt ts q).1 ((2, 0, rc) :: (lEnt ts q).2) Ks with
  | none => rw [hp] at hc; cases hc
  | some rets =>
    rw [hp] at hc
    have hK' : ∀ κ ∈ Ks, aSpecO 0 (aG0 G) D Fl T κ := fun κ h => hK κ h
    obtain ⟨r, z1, x, hx, ρ2, -, -, g3, hv⟩ := a_pick_ok (X := (aG0 G, D, Fl, h, M)) (o := 0) (T := T) (as := (2, 0, rc) :: (lEnt ts q).2) (bs := (2, rc) :: bs) (hX h M) g2 ⟨⟨Nat.zero_le _, rfl⟩, hR⟩ hK' hp
    obtain ⟨p, hp1, hp2⟩ := a_any_ok (a_all_ok hc x hx)
    obtain ⟨σ, -, -, g4, hv4⟩ := a_retOK_ok (X := (aG0 G, D, Fl, h, M)) hp2 (Nat.zero_le _) g3 hv
    rw [Nat.zero_add] at z1
    obtain ⟨h1, w⟩ := r
    have hv4 : aRo σ p.1 (some (t, 1, 0)) w := hv4
    have g4 : aDen (aG0 G, D, Fl, h, M) σ p h1 := g4
    match w, z1, hv4 with
    | some (t', z), z1, hv4 =>
      have e : t' = t := congrArg Prod.fst hv4.2
      rw [e] at z1
      exact ⟨h1, z, z1, ⟨p, hp1, σ, ⟨g4.1, g4.2.1, g4.2.2.1, g4.2.2.2.1, fun _ _ _ => rfl, g4.2.2.2.2.2⟩⟩, g4.2.2.2.2.1⟩
/-! what changes nothing of these places -/
noncomputable def lFree (S M : aM) : Bool := a_all (fun x => !(a_hits S x.1 (Int.ofNat x.2.1) (Int.ofNat x.2.2))) M
theorem lFree_ok {S M : aM} (h : lFree S M = true) {r k : Nat} (hs : aIn S r k) : ¬ aIn M r k := by
  intro hm
  obtain ⟨x, hx, x1, x2, x3⟩ := hm
  have hb := a_all_ok h x hx
  rw [Bool.not_eq_true'] at hb
  obtain ⟨y, hy, y1, y2, y3⟩ := hs
  have : a_hits S x.1 (Int.ofNat x.2.1) (Int.ofNat x.2.2) = true := by
    clear h hb
    induction S with
    | nil => cases hy
    | cons s S ih =>
      show ((Nat.beq s.1 x.1 && (@decide (Int.ofNat x.2.1 ≤ Int.ofNat s.2.2) (a_decLe _ _) && @decide (Int.ofNat s.2.1 ≤ Int.ofNat x.2.2) (a_decLe _ _))) || a_hits S x.1 (Int.ofNat x.2.1) (Int.ofNat x.2.2)) = true
      rw [Bool.or_eq_true]
      rcases List.mem_cons.mp hy with e | e
      · refine Or.inl ?_
        rw [Bool.and_eq_true, Bool.and_eq_true, a_dec_eq, a_dec_eq]
        subst e
        refine ⟨?_, ?_, ?_⟩
        · rw [y1, x1]; exact Nat.beq_refl r
        · exact Int.ofNat_le.mpr (by omega)
        · exact Int.ofNat_le.mpr (by omega)
      · exact Or.inr (ih e)
  rw [this] at hb
  cases hb
theorem aFr.keep {S M : aM} {h h1 : zH} (g : aFr M h h1) (hf : lFree S M = true) {r k : Nat} (hs : aIn S r k) : h1 r k = h r k := g r k (lFree_ok hf hs)
def lRs (S : aM) (R : zH → Prop) : Prop := ∀ h h', (∀ r k, aIn S r k → h' r k = h r k) → R h → R h'
theorem lRs.fr {S M : aM} {R : zH → Prop} (hS : lRs S R) (hf : lFree S M = true) {h h1 : zH} (g : aFr M h h1) (hR : R h) : R h1 := hS h h1 (fun _ _ hs => g.keep hf hs) hR
/-! the law's own steps -/
section LS
variable {D : zD} {T : zT} {d mi pc nx a b : Nat} {z : Int} {cs : List (Int × Nat)} {h : zH} {L : zL} {S : List zV} {r : zR}
theorem hq_pop (hi : T mi pc = some (15, nx, a, 0, z, cs)) {v : zV} (hc : zcat v = 1) (k : zRun D T d mi nx (h, L, S) r) : zRun D T d mi pc (h, L, v :: S) r := by
  refine zRun.step hi ?_ k
  show z_stk nx 0 (h, L, v :: S) = _
  exact if_pos hc
theorem hq_pop2 (hi : T mi pc = some (15, nx, a, 1, z, cs)) {v : zV} (hc : zcat v = 2) (k : zRun D T d mi nx (h, L, S) r) : zRun D T d mi pc (h, L, v :: S) r := by
  refine zRun.step hi ?_ k
  show z_stk nx 1 (h, L, v :: S) = _
  exact if_pos hc
theorem hq_sh64 (hi : T mi pc = some (12, nx, a, b, z, cs)) {x y : Int} (k : zRun D T d mi nx (h, L, (1, (zs64 b (Int64.ofInt x) (Int32.ofInt y)).toInt) :: S) r) : zRun D T d mi pc (h, L, (0, y) :: (1, x) :: S) r := zRun.step hi rfl k
theorem hq_bin64 (hi : T mi pc = some (10, nx, a, b, z, cs)) {x y : Int} (k : zRun D T d mi nx (h, L, (1, (zf64 b (Int64.ofInt x) (Int64.ofInt y)).toInt) :: S) r) : zRun D T d mi pc (h, L, (1, y) :: (1, x) :: S) r := zRun.step hi rfl k
theorem hq_aldS (hi : T mi pc = some (22, nx, 0, b, z, cs)) {i : Int} (h0 : 0 ≤ i) (h1 : i < (D.1 : Int)) (k : zRun D T d mi nx (h, L, (0, D.2 i.toNat) :: S) r) : zRun D T d mi pc (h, L, (0, i) :: (3, 0) :: S) r := by
  refine zRun.step hi ?_ k
  show (if 0 = 0 ∧ 0 ≤ (0 : Int) ∧ (0 : Int) < 3 ∧ 0 ≤ i ∧ i < (zlen D (0 : Int).toNat : Int) then znx nx (h, L, (0, zat D (0 : Int).toNat i.toNat) :: S) else none) = _
  rw [if_pos ⟨rfl, Int.le_refl _, by decide, h0, h1⟩]
  rfl
theorem hq_alenS (hi : T mi pc = some (24, nx, a, b, z, cs)) (k : zRun D T d mi nx (h, L, (0, (D.1 : Int)) :: S) r) : zRun D T d mi pc (h, L, (3, 0) :: S) r := by
  refine zRun.step hi ?_ k
  show (if 0 ≤ (0 : Int) ∧ (0 : Int) < 3 then znx nx (h, L, (0, (zlen D (0 : Int).toNat : Int)) :: S) else none) = _
  rw [if_pos ⟨Int.le_refl _, by decide⟩]
  rfl
theorem hq_sw (hi : T mi pc = some (19, nx, a, b, z, cs)) {x : Int} (k : zRun D T d mi (zfind nx x cs) (h, L, S) r) : zRun D T d mi pc (h, L, (0, x) :: S) r := zRun.step hi rfl k
theorem zfind_in {x : Int} : ∀ {cs : List (Int × Nat)}, (∃ q ∈ cs, zfind nx x cs = q.2) ∨ zfind nx x cs = nx
  | [] => Or.inr rfl
  | q :: cs => by
    show (∃ q' ∈ q :: cs, (if x = q.1 then q.2 else zfind nx x cs) = q'.2) ∨ (if x = q.1 then q.2 else zfind nx x cs) = nx
    by_cases e : x = q.1
    · rw [if_pos e]; exact Or.inl ⟨q, List.mem_cons_self, rfl⟩
    · rw [if_neg e]
      rcases zfind_in (cs := cs) with ⟨q', h1, h2⟩ | h1
      · exact Or.inl ⟨q', List.mem_cons_of_mem _ h1, h2⟩
      · exact Or.inr h1
def Lv (i : Int) : zL := fun k => match k with
  | 0 => some (3, 0)
  | 1 => some (2, 0)
  | 2 => some (2, 121)
  | 3 => some (0, i)
  | _ => none
theorem Lv_inc {i j : Int} : zput1 (Lv i) 3 (0, j) = Lv j := by
  funext k
  match k with
  | 0 => rfl
  | 1 => rfl
  | 2 => rfl
  | 3 => rfl
  | k + 4 => exact if_neg (by omega)
/-- script[i + c] -/
theorem hl_arg {p1 p2 p3 p4 b2 a3 b4 : Nat} {z1 z2 z4 c : Int} {cs1 cs2 cs3 cs4 : List (Int × Nat)} {i : Int} (e0 : T mi pc = some (2, p1, 0, 2, z, cs)) (e1 : T mi p1 = some (2, p2, 3, 0, z1, cs1)) (e2 : T mi p2 = some (0, p3, 0, b2, c, cs2)) (e3 : T mi p3 = some (7, p4, a3, 0, z2, cs3)) (e4 : T mi p4 = some (22, nx, 0, b4, z4, cs4)) (h0 : 0 ≤ i) (hc : 0 ≤ c) (h6 : i + c < (D.1 : Int)) (hN : D.1 < 2147483648) (k : zRun D T d mi nx (h, Lv i, (0, D.2 (i + c).toNat) :: S) r) : zRun D T d mi pc (h, Lv i, S) r := by
  refine hq_load e0 rfl rfl ?_
  refine hq_load e1 rfl rfl ?_
  refine hq_push e2 ?_
  refine hq_bin e3 (hq_add (by omega) (by omega)) ?_
  exact hq_aldS e4 (by omega) h6 k
end LS
def lLong (x y : Int) : Int := (zf64 4 (Int64.ofInt (zs64 0 (Int64.ofInt x) (Int32.ofInt 32)).toInt) (Int64.ofInt (zf64 3 (Int64.ofInt y) (Int64.ofInt 4294967295)).toInt)).toInt
theorem lLong_ty {x y : Int} : a_lo 1 ≤ lLong x y ∧ lLong x y ≤ a_hi 1 := by
  have h1 := Int64.le_toInt (zf64 4 (Int64.ofInt (zs64 0 (Int64.ofInt x) (Int32.ofInt 32)).toInt) (Int64.ofInt (zf64 3 (Int64.ofInt y) (Int64.ofInt 4294967295)).toInt))
  have h2 := Int64.toInt_lt (zf64 4 (Int64.ofInt (zs64 0 (Int64.ofInt x) (Int32.ofInt 32)).toInt) (Int64.ofInt (zf64 3 (Int64.ofInt y) (Int64.ofInt 4294967295)).toInt))
  unfold lLong
  show (-9223372036854775808 : Int) ≤ _ ∧ _ ≤ (9223372036854775807 : Int)
  omega
