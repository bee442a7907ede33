/-! THE WATCHER'S RUNS HOLD -/
def aLmOK (X : aX) (lm : aLm) : Prop := ∀ k w bs st l, lm k w bs st = some l → ∀ ρ z, aStD X ρ st z → ∃ st' ∈ l, ∃ ρ', aAg ρ ρ' st.1.1 ∧ st.1.1 ≤ st'.1.1 ∧ aStD X ρ' st' z
theorem a_splitR_ok {X : aX} {ρ : Nat → Int} {v : aV} {L : aL} {S : List aV} {z : zS} {zv : zV} : ∀ {bs : List Int} {q : aQ} {l : List aS}, a_splitR v L S bs q = some l → aStD X ρ (q, L, S) z → aR ρ q.1 v zv → ∃ st' ∈ l, st'.1.1 = q.1 ∧ aStD X ρ st' z
  | [], q, l, hr, g, hv => by
    cases hr
    exact ⟨_, List.mem_cons_self, rfl, g⟩
  | b :: bs, q, l, hr, g, hv => by
    have hr : a_br 0 q v (0, 0, b) (fun q => some [(q, L, S)]) (a_splitR v L S bs) = some l := hr
    obtain ⟨q', r', h1, h2, -, h4, h5⟩ := a_br_ok (zy := (0, b)) hr g.1 hv ⟨Nat.zero_le _, rfl⟩
    have g' : aStD X ρ (q', L, S) z := ⟨h4, by show aRL ρ q'.1 L _; rw [h2]; exact g.2.1, by show aRl ρ q'.1 S _; rw [h2]; exact g.2.2⟩
    rcases h5 with ⟨-, h5⟩ | ⟨-, h5⟩
    · cases h5
      exact ⟨_, h1 _ List.mem_cons_self, h2, g'⟩
    · obtain ⟨st', k1, k2, k3⟩ := a_splitR_ok h5 g' (by rw [h2]; exact hv)
      exact ⟨st', h1 _ k1, k2.trans h2, k3⟩
theorem a_hint_ok {X : aX} {lm : aLm} (hlm : aLmOK X lm) {k w : Nat} {bs : List Int} {st : aS} {l : List aS} (hr : a_hint lm k w bs st = some l) {ρ : Nat → Int} {z : zS} (g : aStD X ρ st z) : ∃ st' ∈ l, ∃ ρ', aAg ρ ρ' st.1.1 ∧ st.1.1 ≤ st'.1.1 ∧ aStD X ρ' st' z := by
  cases k with
  | zero =>
    have hr : a_split w bs st = some l := hr
    unfold a_split at hr
    split at hr
    · rename_i v hv
      obtain ⟨zv, -, h2⟩ := a_lget_ok g.2.1 hv
      rcases x_condT hr with ⟨-, hr⟩ | ⟨-, hr⟩
      · obtain ⟨st', k1, k2, k3⟩ := a_splitR_ok (X := X) (z := z) hr g h2
        exact ⟨st', k1, ρ, aAg.refl _ _, Nat.le_of_eq k2.symm, k3⟩
      · cases hr
    · cases hr
  | succ k => exact hlm k w bs st l hr ρ z g
theorem a_hints_ok {β : Type} {X : aX} {lm : aLm} (hlm : aLmOK X lm) {mi pc : Nat} {f : aS → Option (List β)} : ∀ {hs : aHt} {st : aS} {r : List β}, a_hints lm mi pc f hs st = some r → ∀ {ρ : Nat → Int} {z : zS}, aStD X ρ st z → ∃ st' r', f st' = some r' ∧ (∀ o ∈ r', o ∈ r) ∧ ∃ ρ', aAg ρ ρ' st.1.1 ∧ st.1.1 ≤ st'.1.1 ∧ aStD X ρ' st' z
  | [], st, r, hr, ρ, z, g => ⟨st, r, hr, fun _ h => h, ρ, aAg.refl _ _, Nat.le_refl _, g⟩
  | x :: hs, st, r, hr, ρ, z, g => by
    have hr : cond (Nat.beq x.1 mi && Nat.beq x.2.1 pc) (match a_hint lm x.2.2.1 x.2.2.2.1 x.2.2.2.2 st with
      | some l => a_gath (fun st => a_hints lm mi pc f hs st) l
      | none => none) (a_hints lm mi pc f hs st) = some r := hr
    rcases x_condT hr with ⟨-, hr⟩ | ⟨-, hr⟩
    · cases hq : a_hint lm x.2.2.1 x.2.2.2.1 x.2.2.2.2 st with
      | none => rw [hq] at hr; cases hr
      | some l =>
        rw [hq] at hr
        obtain ⟨st1, m1, ρ1, a1, n1, g1⟩ := a_hint_ok hlm hq g
        obtain ⟨rx, hrx, hsub⟩ := a_gath_ok hr st1 m1
        obtain ⟨st2, r2, f2, s2, ρ2, a2, n2, g2⟩ := a_hints_ok hlm hrx g1
        exact ⟨st2, r2, f2, fun o ho => hsub o (s2 o ho), ρ2, a1.trans a2 n1, Nat.le_trans n1 n2, g2⟩
    · exact a_hints_ok hlm hr g
theorem a_args_ok {ρ : Nat → Int} {n : Nat} : ∀ {as : List aV} {bs : List zV} (i : Nat), aRl ρ n as bs → (∀ x ∈ a_args as i, i ≤ x.1) ∧ aRL ρ n (a_args as i) (zargs i bs)
  | [], [], i, _ => ⟨fun x hx => (by cases hx), fun x hx => (by cases hx)⟩
  | v :: vs, z :: zs, i, ⟨hv, hvs⟩ => by
    have e0 : a_args (v :: vs) i = (i, v) :: a_args vs (cond (Nat.beq (a_cat v) 2) (i + 2) (i + 1)) := rfl
    have ei : (if zcat z = 2 then i + 2 else i + 1) = cond (Nat.beq (a_cat v) 2) (i + 2) (i + 1) := by
      rw [a_cat_ok hv]
      cases hb : Nat.beq (a_cat v) 2 with
      | true => rw [if_pos (Nat.eq_of_beq_eq_true hb)]; rfl
      | false => rw [if_neg (Nat.ne_of_beq_eq_false hb)]; rfl
    have hi : i + 1 ≤ cond (Nat.beq (a_cat v) 2) (i + 2) (i + 1) := by
      cases Nat.beq (a_cat v) 2 with
      | true => show i + 1 ≤ i + 2; omega
      | false => exact Nat.le_refl _
    obtain ⟨k1, k2⟩ := a_args_ok (cond (Nat.beq (a_cat v) 2) (i + 2) (i + 1)) hvs
    rw [e0]
    refine ⟨fun x hx => ?_, fun x hx => ?_⟩
    · rcases List.mem_cons.mp hx with e | e
      · rw [e]; exact Nat.le_refl _
      · have := k1 x e; omega
    · show ∃ w, (if x.1 = i then some z else zargs (if zcat z = 2 then i + 2 else i + 1) zs x.1) = some w ∧ _
      rcases List.mem_cons.mp hx with e | e
      · rw [e]
        exact ⟨z, if_pos rfl, hv⟩
      · have := k1 x e
        rw [if_neg (by omega), ei]
        exact k2 x e
theorem a_pushO_ok {ρ : Nat → Int} {n : Nat} {v : Option aV} {w : Option zV} {S : List aV} {Z : List zV} (hv : aRo ρ n v w) (hS : aRl ρ n S Z) : aRl ρ n (a_pushO v S) (zpush w Z) := by
  match v, w, hv with
  | none, none, _ => exact hS
  | some v, some w, hv => exact ⟨hv, hS⟩
-- an end: it returned, or it has come to a cut
def aEnd (o : Nat) (X : aX) (T : zT) (d mi pc : Nat) (z : zS) (n : Nat) (ρ : Nat → Int) (x : aRes) : Prop := ∃ ρ', aAg ρ ρ' n ∧ match x with
  | .inr r => n ≤ r.1.1 ∧ ∃ zr, zRun X.2.1 T (o + d) mi pc z zr ∧ aDen X ρ' r.1 zr.1 ∧ aRo ρ' r.1.1 r.2 zr.2
  | .inl (pc', st') => n ≤ st'.1.1 ∧ ∃ z', (∀ zr, zRun X.2.1 T (o + d) mi pc' z' zr → zRun X.2.1 T (o + d) mi pc z zr) ∧ aStD X ρ' st' z'
theorem aEnd.back {o : Nat} {X : aX} {T : zT} {d mi pc pc2 : Nat} {z z2 : zS} {n n2 : Nat} {ρ ρ2 : Nat → Int} {x : aRes} (h : aEnd o X T d mi pc2 z2 n2 ρ2 x) (ha : aAg ρ ρ2 n) (hn : n ≤ n2) (hb : ∀ zr, zRun X.2.1 T (o + d) mi pc2 z2 zr → zRun X.2.1 T (o + d) mi pc z zr) : aEnd o X T d mi pc z n ρ x := by
  obtain ⟨ρ', a1, h⟩ := h
  refine ⟨ρ', ha.trans a1 hn, ?_⟩
  match x, h with
  | .inr r, ⟨h1, zr, h2, h3⟩ => exact ⟨Nat.le_trans hn h1, zr, hb _ h2, h3⟩
  | .inl (pc', st'), ⟨h1, z', h2, h3⟩ => exact ⟨Nat.le_trans hn h1, z', fun zr hz => hb _ (h2 zr hz), h3⟩
def aGoOK (o : Nat) (X : aX) (T : zT) (f : aGo) : Prop := ∀ d mi t cuts first pc st rs, (∀ pc i, z_at t pc = some i → T mi pc = some i) → f d mi t cuts first pc st = some rs → ∀ ρ z, aStD X ρ st z → ∃ x ∈ rs, aEnd o X T d mi pc z st.1.1 ρ x
section AS
variable {o : Nat} {X : aX} {T : zT} {Ks : List aK}
theorem a_after_ok {f : aGo} (hf : aGoOK o X T f) {d mi : Nat} {t : List (List (Option zX))} {cuts : Nat} {nx : Nat} (ht : ∀ pc i, z_at t pc = some i → T mi pc = some i) {q : aQ} {L : aL} {S : List aV} {M : zL} {Z : List zV} {ρ ρ' : Nat → Int} {r : aRs} {zr : zR} {rs : List aRes} (hr : f d mi t cuts false nx (r.1, L, a_pushO r.2 S) = some rs) (hL : aRL ρ q.1 L M) (hS : aRl ρ q.1 S Z) (ha : aAg ρ ρ' q.1) (hn : q.1 ≤ r.1.1) (g : aDen X ρ' r.1 zr.1) (hv : aRo ρ' r.1.1 r.2 zr.2) : ∃ x ∈ rs, aEnd o X T d mi nx (zr.1, M, zpush zr.2 Z) r.1.1 ρ' x :=
  hf d mi t cuts false nx _ rs ht hr ρ' (zr.1, M, zpush zr.2 Z) ⟨g, hL.mono hn ha, a_pushO_ok hv (hS.mono hn ha)⟩
theorem a_cont_ok (hX : aOK X) (hK : ∀ κ ∈ Ks, aSpecO o X.1 X.2.1 X.2.2.1 T κ) (hT : ∀ mi t, x_nth zMT mi = some t → ∀ pc i, z_at t pc = some i → T mi pc = some i) {f : aGo} (hf : aGoOK o X T f) {d mi pc : Nat} {t : List (List (Option zX))} {cuts : Nat} (ht : ∀ pc i, z_at t pc = some i → T mi pc = some i) {i : zX} (hi : T mi pc = some i) {z : zS} {zo : zO} (hz : zi X.2.1 i z = some zo) {u : aOut} {rs : List aRes} (hr : a_cont X.1 X.2.2.2.2 Ks f d mi t cuts u = some rs) {ρ : Nat → Int} {n : Nat} (hn : n ≤ aOutN u) (hd : aOutD X ρ u zo) : ∃ x ∈ rs, aEnd o X T d mi pc z n ρ x := by
  match u, zo, hd with
  | .inl r, .inl w, hd =>
    cases hr
    exact ⟨_, List.mem_cons_self, ρ, aAg.refl _ _, hn, w, zRun.ret hi hz, hd⟩
  | .inr (.inl (pc', st)), .inr (.inl (pc2, z')), ⟨hp, hd⟩ =>
    cases hp
    obtain ⟨x, hx, he⟩ := hf d mi t cuts false pc' st rs ht hr ρ z' hd
    exact ⟨x, hx, he.back (aAg.refl _ _) hn (fun zr hzr => zRun.step hi hz hzr)⟩
  | .inr (.inr (mj, as, nx, st)), .inr (.inr (mj', bs, nx', z')), ⟨h1, h2, has, hd⟩ =>
    cases h1
    cases h2
    obtain ⟨zh, zM, zZ⟩ := z'
    cases d with
    | zero => cases hr
    | succ d =>
      have hr : (match a_pick X.1 X.2.2.2.2 d mj st.1 as Ks with
        | some rets => a_gath (fun r => f (d + 1) mi t cuts false nx (r.1, st.2.1, a_pushO r.2 st.2.2)) rets
        | none => match x_nth zMT mj with
          | some t' => match f d mj t' 0 true 0 (st.1, a_args as 0, []) with
            | some rs => a_gath (fun x => match x with
              | .inr r => f (d + 1) mi t cuts false nx (r.1, st.2.1, a_pushO r.2 st.2.2)
              | .inl _ => none) rs
            | none => none
          | none => none) = some rs := hr
      cases hp : a_pick X.1 X.2.2.2.2 d mj st.1 as Ks with
      | some rets =>
        rw [hp] at hr
        obtain ⟨zr, hrun, x, hx, ρ', b1, b2, b3, b4⟩ := a_pick_ok hX hd.1 has hK hp
        obtain ⟨rx, hrx, hsub⟩ := a_gath_ok hr x hx
        obtain ⟨y, hy, he⟩ := a_after_ok hf ht hrx hd.2.1 hd.2.2 b1 b2 b3 b4
        exact ⟨y, hsub y hy, he.back (fun i hi => b1 i (Nat.lt_of_lt_of_le hi hn)) (Nat.le_trans hn b2) (fun w hw => zRun.call hi hz hrun hw)⟩
      | none =>
        rw [hp] at hr
        cases hm : x_nth zMT mj with
        | none => rw [hm] at hr; cases hr
        | some t' =>
          rw [hm] at hr
          have hr : (match f d mj t' 0 true 0 (st.1, a_args as 0, []) with
            | some rs => a_gath (fun x => match x with
              | .inr r => f (d + 1) mi t cuts false nx (r.1, st.2.1, a_pushO r.2 st.2.2)
              | .inl _ => none) rs
            | none => none) = some rs := hr
          cases hq : f d mj t' 0 true 0 (st.1, a_args as 0, []) with
          | none => rw [hq] at hr; cases hr
          | some rs0 =>
            rw [hq] at hr
            obtain ⟨x, hx, ρ', b1, b2⟩ := hf d mj t' 0 true 0 _ rs0 (hT mj t' hm) hq ρ (zh, zargs 0 bs, []) ⟨hd.1, (a_args_ok 0 has).2, trivial⟩
            obtain ⟨rx, hrx, hsub⟩ := a_gath_ok hr x hx
            match x, hrx, b2 with
            | .inl _, hrx, _ => cases hrx
            | .inr r, hrx, ⟨c1, zr, hrun, c2, c3⟩ =>
              obtain ⟨y, hy, he⟩ := a_after_ok hf ht hrx hd.2.1 hd.2.2 b1 c1 c2 c3
              exact ⟨y, hsub y hy, he.back (fun i hi => b1 i (Nat.lt_of_lt_of_le hi hn)) (Nat.le_trans hn c1) (fun w hw => zRun.call hi hz hrun hw)⟩
theorem a_run_ok (hX : aOK X) (hK : ∀ κ ∈ Ks, aSpecO o X.1 X.2.1 X.2.2.1 T κ) (hT : ∀ mi t, x_nth zMT mi = some t → ∀ pc i, z_at t pc = some i → T mi pc = some i) {lm : aLm} (hlm : aLmOK X lm) (hs : aHt) : ∀ n : Nat, aGoOK o X T (a_run X.1 X.2.2.2.2 lm hs Ks n)
  | 0 => fun d mi t cuts first pc st rs ht hr => by cases hr
  | n + 1 => by
    intro d mi t cuts first pc st rs ht hr ρ z g
    have hr : cond (!first && a_bit cuts pc) (some [.inl (pc, st)]) (a_hints lm mi pc (fun st => match z_at t pc with
      | some i => match ai X.1 X.2.2.2.2 i st.1 st.2.1 st.2.2 with
        | some outs => a_gath (a_cont X.1 X.2.2.2.2 Ks (a_run X.1 X.2.2.2.2 lm hs Ks n) d mi t cuts) outs
        | none => none
      | none => none) hs st) = some rs := hr
    rcases x_condT hr with ⟨-, hr⟩ | ⟨-, hr⟩
    · cases hr
      exact ⟨_, List.mem_cons_self, ρ, aAg.refl _ _, Nat.le_refl _, z, fun _ h => h, g⟩
    · obtain ⟨st1, r1, f1, s1, ρ1, a1, n1, g1⟩ := a_hints_ok hlm hr g
      cases hi : z_at t pc with
      | none => rw [hi] at f1; cases f1
      | some i =>
        rw [hi] at f1
        have f1 : (match ai X.1 X.2.2.2.2 i st1.1 st1.2.1 st1.2.2 with
          | some outs => a_gath (a_cont X.1 X.2.2.2.2 Ks (a_run X.1 X.2.2.2.2 lm hs Ks n) d mi t cuts) outs
          | none => none) = some r1 := f1
        cases ho : ai X.1 X.2.2.2.2 i st1.1 st1.2.1 st1.2.2 with
        | none => rw [ho] at f1; cases f1
        | some outs =>
          rw [ho] at f1
          obtain ⟨zo, hz, u, hmu, ρ2, a2, n2, hd⟩ := ai_ok hX i ρ1 st1.1 st1.2.1 st1.2.2 outs z.1 z.2.1 z.2.2 ho g1.1 g1.2.1 g1.2.2
          obtain ⟨rx, hrx, hsub⟩ := a_gath_ok f1 u hmu
          obtain ⟨x, hx, he⟩ := a_cont_ok hX hK hT (a_run_ok hX hK hT hlm hs n) ht (ht pc i hi) hz hrx n2 hd
          obtain ⟨ρ3, a3, h3⟩ := he
          exact ⟨x, s1 x (hsub x hx), aEnd.back ⟨ρ3, a3, h3⟩ (a1.trans a2 n1) n1 (fun _ h => h)⟩
end AS
