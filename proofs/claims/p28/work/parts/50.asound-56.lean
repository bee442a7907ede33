section
/-! THE WATCHER'S RUNS HOLD -/
def aLmOK (X : aX) (lm : aLm) : Prop := ∀ k w bs st l, lm k w bs st = some l → ∀ ρ z, aStD X ρ st z → ∃ st' ∈ l, ∃ ρ', aAg ρ ρ' st.1.1 ∧ st.1.1 ≤ st'.1.1 ∧ aStD X ρ' st' z
theorem a_splitR_ok {X : aX} {ρ : Nat → Int} {v : aV} {L : aL} {S : List aV} {z : zS} {zv : zV} : ∀ {bs : List Int} {q : aQ} {l : List aS}, a_splitR v L S bs q = some l → aStD X ρ (q, L, S) z → aR ρ q.1 v zv → ∃ st' ∈ l, st'.1.1 = q.1 ∧ aStD X ρ st' z
  | [], q, l, hr, g, hv => by
    cases hr
    exact ⟨_, List.mem_cons_self, rfl, g⟩
  | b :: bs, q, l, hr, g, hv => by
    have hr : a_br 0 q v (0, 0, b) (fun q => some [(q, L, S)]) (a_splitR v L S bs) = some l := hr
    obtain ⟨q', r', h1, h2, -, h4, h5⟩ := a_br_ok (zy := (0, b)) hr g.1 hv ⟨Nat.zero_le _, rfl⟩
    have g' : aStD X ρ (q', L, S) z := ⟨h4, by show aRL ρ q'.1 L _; rw [h2]; exact g.2.1, by show aRl ρ q'.1 S _; rw [h2]; exact g.2.2⟩
    rcases h5 with ⟨-, h5⟩ | ⟨-, h5⟩
    · cases h5
      exact ⟨_, h1 _ List.mem_cons_self, h2, g'⟩
    · obtain ⟨st', k1, k2, k3⟩ := a_splitR_ok h5 g' (by rw [h2]; exact hv)
      exact ⟨st', h1 _ k1, k2.trans h2, k3⟩
theorem a_hint_ok {X : aX} {lm : aLm} (hlm : aLmOK X lm) {k w : Nat} {bs : List Int} {st : aS} {l : List aS} (hr : a_hint lm k w bs st = some l) {ρ : Nat → Int} {z : zS} (g : aStD X ρ st z) : ∃ st' ∈ l, ∃ ρ', aAg ρ ρ' st.1.1 ∧ st.1.1 ≤ st'.1.1 ∧ aStD X ρ' st' z := by
  cases k with
  | zero =>
    have hr : a_split w bs st = some l := hr
    unfold a_split at hr
    split at hr
    · rename_i v hv
      obtain ⟨zv, -, h2⟩ := a_lget_ok g.2.1 hv
      rcases x_condT hr with ⟨-, hr⟩ | ⟨-, hr⟩
      · obtain ⟨st', k1, k2, k3⟩ := a_splitR_ok (X := X) (z := z) hr g h2
        exact ⟨st', k1, ρ, aAg.refl _ _, Nat.le_of_eq k2.symm, k3⟩
      · cases hr
    · cases hr
  | succ k => exact hlm k w bs st l hr ρ z g
theorem a_hints_ok {β : Type} {X : aX} {lm : aLm} (hlm : aLmOK X lm) {mi pc : Nat} {f : aS → Option (List β)} : ∀ {hs : aHt} {st : aS} {r : List β}, a_hints lm mi pc f hs st = some r → ∀ {ρ : Nat → Int} {z : zS}, aStD X ρ st z → ∃ st' r', f st' = some r' ∧ (∀ o ∈ r', o ∈ r) ∧ ∃ ρ', aAg ρ ρ' st.1.1 ∧ st.1.1 ≤ st'.1.1 ∧ aStD X ρ' st' z
  | [], st, r, hr, ρ, z, g => ⟨st, r, hr, fun _ h => h, ρ, aAg.refl _ _, Nat.le_refl _, g⟩
  | x :: hs, st, r, hr, ρ, z, g => by
    have hr : cond (Nat.beq x.1 mi && Nat.beq x.2.1 pc) (match a_hint lm x.2.2.1 x.2.2.2.1 x.2.2.2.2 st with
      | some l => a_gath (fun st => a_hints lm mi pc f hs st) l
      | none => none) (a_hints lm mi pc f hs st) = some r := hr
    rcases x_condT hr with ⟨-, hr⟩ | ⟨-, hr⟩
    · cases hq : a_hint lm x.2.2.1 x.2.2.2.1 x.2.2.2.2 st with
      | none => rw [hq] at hr; cases hr
      | some l =>
        rw [hq] at hr
        obtain ⟨st1, m1, ρ1, a1, n1, g1⟩ := a_hint_ok hlm hq g
        obtain ⟨rx, hrx, hsub⟩ := a_gath_ok hr st1 m1
        obtain ⟨st2, r2, f2, s2, ρ2, a2, n2, g2⟩ := a_hints_ok hlm hrx g1
        exact ⟨st2, r2, f2, fun o ho => hsub o (s2 o ho), ρ2, a1.trans a2 n1, Nat.le_trans n1 n2, g2⟩
    · exact a_hints_ok hlm hr g
theorem a_args_ok {ρ : Nat → Int} {n : Nat} : ∀ {as : List aV} {bs : List zV} (i : Nat), aRl ρ n as bs → (∀ x ∈ a_args as i, i ≤ x.1) ∧ aRL ρ n (a_args as i) (zargs i bs)
  | [], [], i, _ => ⟨fun x hx => (by cases hx), fun x hx => (by cases hx)⟩
  | v :: vs, z :: zs, i, ⟨hv, hvs⟩ => by
    have e0 : a_args (v :: vs) i = (i, v) :: a_args vs (cond (Nat.beq (a_cat v) 2) (i + 2) (i + 1)) := rfl
    have ei : (if zcat z = 2 then i + 2 else i + 1) = cond (Nat.beq (a_cat v) 2) (i + 2) (i + 1) := by
      rw [a_cat_ok hv]
      cases hb : Nat.beq (a_cat v) 2 with
      | true => rw [if_pos (Nat.eq_of_beq_eq_true hb)]; rfl
      | false => rw [if_neg (Nat.ne_of_beq_eq_false hb)]; rfl
    have hi : i + 1 ≤ cond (Nat.beq (a_cat v) 2) (i + 2) (i + 1) := by
      cases Nat.beq (a_cat v) 2 with
      | true => show i + 1 ≤ i + 2; omega
      | false => exact Nat.le_refl _
    obtain ⟨k1, k2⟩ := a_args_ok (cond (Nat.beq (a_cat v) 2) (i + 2) (i + 1)) hvs
    rw [e0]
    refine ⟨fun x hx => ?_, fun x hx => ?_⟩
    · rcases List.mem_cons.mp hx with e | e
      · rw [e]; exact Nat.le_refl _
      · have := k1 x e; omega
    · show ∃ w, (if x.1 = i then some z else zargs (if zcat z = 2 then i + 2 else i + 1) zs x.1) = some w ∧ _
      rcases List.mem_cons.mp hx with e | e
      · rw [e]
        exact ⟨z, if_pos rfl, hv⟩
      · have := k1 x e
        rw [if_neg (by omega), ei]
        exact k2 x e
theorem a_pushO_ok {ρ : Nat → Int} {n : Nat} {v : Option aV} {w : Option zV} {S : List aV} {Z : List zV} (hv : aRo ρ n v w) (hS : aRl ρ n S Z) : aRl ρ n (a_pushO v S) (zpush w Z) := by
  match v, w, hv with
  | none, none, _ => exact hS
  | some v, some w, hv => exact ⟨hv, hS⟩
-- an end: it returned, or it has come to a cut
def aEnd (o : Nat) (X : aX) (T : zT) (d mi pc : Nat) (z : zS) (n : Nat) (ρ : Nat → Int) (x : aRes) : Prop := ∃ ρ', aAg ρ ρ' n ∧ match x with
  | .inr r => n ≤ r.1.1 ∧ ∃ zr, zRun X.2.1 T (o + d) mi pc z zr ∧ aDen X ρ' r.1 zr.1 ∧ aRo ρ' r.1.1 r.2 zr.2
  | .inl (pc', st') => n ≤ st'.1.1 ∧ ∃ z', (∀ zr, zRun X.2.1 T (o + d) mi pc' z' zr → zRun X.2.1 T (o + d) mi pc z zr) ∧ aStD X ρ' st' z'
theorem aEnd.back {o : Nat} {X : aX} {T : zT} {d mi pc pc2 : Nat} {z z2 : zS} {n n2 : Nat} {ρ ρ2 : Nat → Int} {x : aRes} (h : aEnd o X T d mi pc2 z2 n2 ρ2 x) (ha : aAg ρ ρ2 n) (hn : n ≤ n2) (hb : ∀ zr, zRun X.2.1 T (o + d) mi pc2 z2 zr → zRun X.2.1 T (o + d) mi pc z zr) : aEnd o X T d mi pc z n ρ x := by
  obtain ⟨ρ', a1, h⟩ := h
  refine ⟨ρ', ha.trans a1 hn, ?_⟩
  match x, h with
  | .inr r, ⟨h1, zr, h2, h3⟩ => exact ⟨Nat.le_trans hn h1, zr, hb _ h2, h3⟩
  | .inl (pc', st'), ⟨h1, z', h2, h3⟩ => exact ⟨Nat.le_trans hn h1, z', fun zr hz => hb _ (h2 zr hz), h3⟩
def aGoOK (o : Nat) (X : aX) (T : zT) (f : aGo) : Prop := ∀ d mi t cuts first pc st rs, (∀ pc i, z_at t pc = some i → T mi pc = some i) → f d mi t cuts first pc st = some rs → ∀ ρ z, aStD X ρ st z → ∃ x ∈ rs, aEnd o X T d mi pc z st.1.1 ρ x
section AS
variable {o : Nat} {X : aX} {T : zT} {Ks : List aK}
theorem a_after_ok {f : aGo} (hf : aGoOK o X T f) {d mi : Nat} {t : List (List (Option zX))} {cuts : Nat} {nx : Nat} (ht : ∀ pc i, z_at t pc = some i → T mi pc = some i) {q : aQ} {L : aL} {S : List aV} {M : zL} {Z : List zV} {ρ ρ' : Nat → Int} {r : aRs} {zr : zR} {rs : List aRes} (hr : f d mi t cuts false nx (r.1, L, a_pushO r.2 S) = some rs) (hL : aRL ρ q.1 L M) (hS : aRl ρ q.1 S Z) (ha : aAg ρ ρ' q.1) (hn : q.1 ≤ r.1.1) (g : aDen X ρ' r.1 zr.1) (hv : aRo ρ' r.1.1 r.2 zr.2) : ∃ x ∈ rs, aEnd o X T d mi nx (zr.1, M, zpush zr.2 Z) r.1.1 ρ' x :=
  hf d mi t cuts false nx _ rs ht hr ρ' (zr.1, M, zpush zr.2 Z) ⟨g, hL.mono hn ha, a_pushO_ok hv (hS.mono hn ha)⟩
theorem a_cont_ok (hX : aOK X) (hK : ∀ κ ∈ Ks, aSpecO o X.1 X.2.1 X.2.2.1 T κ) (hT : ∀ mi t, x_nth zMT mi = some t → ∀ pc i, z_at t pc = some i → T mi pc = some i) {f : aGo} (hf : aGoOK o X T f) {d mi pc : Nat} {t : List (List (Option zX))} {cuts : Nat} (ht : ∀ pc i, z_at t pc = some i → T mi pc = some i) {i : zX} (hi : T mi pc = some i) {z : zS} {zo : zO} (hz : zi X.2.1 i z = some zo) {u : aOut} {rs : List aRes} (hr : a_cont X.1 X.2.2.2.2 Ks f d mi t cuts u = some rs) {ρ : Nat → Int} {n : Nat} (hn : n ≤ aOutN u) (hd : aOutD X ρ u zo) : ∃ x ∈ rs, aEnd o X T d mi pc z n ρ x := by
  match u, zo, hd with
  | .inl r, .inl w, hd =>
    cases hr
    exact ⟨_, List.mem_cons_self, ρ, aAg.refl _ _, hn, w, zRun.ret hi hz, hd⟩
  | .inr (.inl (pc', st)), .inr (.inl (pc2, z')), ⟨hp, hd⟩ =>
    cases hp
    obtain ⟨x, hx, he⟩ := hf d mi t cuts false pc' st rs ht hr ρ z' hd
    exact ⟨x, hx, he.back (aAg.refl _ _) hn (fun zr hzr => zRun.step hi hz hzr)⟩
  | .inr (.inr (mj, as, nx, st)), .inr (.inr (mj', bs, nx', z')), ⟨h1, h2, has, hd⟩ =>
    cases h1
    cases h2
    obtain ⟨zh, zM, zZ⟩ := z'
    cases d with
    | zero => cases hr
    | succ d =>
      have hr : (match a_pick X.1 X.2.2.2.2 d mj st.1 as Ks with
        | some rets => a_gath (fun r => f (d + 1) mi t cuts false nx (r.1, st.2.1, a_pushO r.2 st.2.2)) rets
        | none => match x_nth zMT mj with
          | some t' => match f d mj t' 0 true 0 (st.1, a_args as 0, []) with
            | some rs => a_gath (fun x => match x with
              | .inr r => f (d + 1) mi t cuts false nx (r.1, st.2.1, a_pushO r.2 st.2.2)
              | .inl _ => none) rs
            | none => none
          | none => none) = some rs := hr
      cases hp : a_pick X.1 X.2.2.2.2 d mj st.1 as Ks with
      | some rets =>
        rw [hp] at hr
        obtain ⟨zr, hrun, x, hx, ρ', b1, b2, b3, b4⟩ := a_pick_ok hX hd.1 has hK hp
        obtain ⟨rx, hrx, hsub⟩ := a_gath_ok hr x hx
        obtain ⟨y, hy, he⟩ := a_after_ok hf ht hrx hd.2.1 hd.2.2 b1 b2 b3 b4
        exact ⟨y, hsub y hy, he.back (fun i hi => b1 i (Nat.lt_of_lt_of_le hi hn)) (Nat.le_trans hn b2) (fun w hw => zRun.call hi hz hrun hw)⟩
      | none =>
        rw [hp] at hr
        cases hm : x_nth zMT mj with
        | none => rw [hm] at hr; cases hr
        | some t' =>
          rw [hm] at hr
          have hr : (match f d mj t' 0 true 0 (st.1, a_args as 0, []) with
            | some rs => a_gath (fun x => match x with
              | .inr r => f (d + 1) mi t cuts false nx (r.1, st.2.1, a_pushO r.2 st.2.2)
              | .inl _ => none) rs
            | none => none) = some rs := hr
          cases hq : f d mj t' 0 true 0 (st.1, a_args as 0, []) with
          | none => rw [hq] at hr; cases hr
          | some rs0 =>
            rw [hq] at hr
            obtain ⟨x, hx, ρ', b1, b2⟩ := hf d mj t' 0 true 0 _ rs0 (hT mj t' hm) hq ρ (zh, zargs 0 bs, []) ⟨hd.1, (a_args_ok 0 has).2, trivial⟩
            obtain ⟨rx, hrx, hsub⟩ := a_gath_ok hr x hx
            match x, hrx, b2 with
            | .inl _, hrx, _ => cases hrx
            | .inr r, hrx, ⟨c1, zr, hrun, c2, c3⟩ =>
              obtain ⟨y, hy, he⟩ := a_after_ok hf ht hrx hd.2.1 hd.2.2 b1 c1 c2 c3
              exact ⟨y, hsub y hy, he.back (fun i hi => b1 i (Nat.lt_of_lt_of_le hi hn)) (Nat.le_trans hn c1) (fun w hw => zRun.call hi hz hrun hw)⟩
theorem a_run_ok (hX : aOK X) (hK : ∀ κ ∈ Ks, aSpecO o X.1 X.2.1 X.2.2.1 T κ) (hT : ∀ mi t, x_nth zMT mi = some t → ∀ pc i, z_at t pc = some i → T mi pc = some i) {lm : aLm} (hlm : aLmOK X lm) (hs : aHt) : ∀ n : Nat, aGoOK o X T (a_run X.1 X.2.2.2.2 lm hs Ks n)
  | 0 => fun d mi t cuts first pc st rs ht hr => by cases hr
  | n + 1 => by
    intro d mi t cuts first pc st rs ht hr ρ z g
    have hr : cond (!first && a_bit cuts pc) (some [.inl (pc, st)]) (a_hints lm mi pc (fun st => match z_at t pc with
      | some i => match ai X.1 X.2.2.2.2 i st.1 st.2.1 st.2.2 with
        | some outs => a_gath (a_cont X.1 X.2.2.2.2 Ks (a_run X.1 X.2.2.2.2 lm hs Ks n) d mi t cuts) outs
        | none => none
      | none => none) hs st) = some rs := hr
    rcases x_condT hr with ⟨-, hr⟩ | ⟨-, hr⟩
    · cases hr
      exact ⟨_, List.mem_cons_self, ρ, aAg.refl _ _, Nat.le_refl _, z, fun _ h => h, g⟩
    · obtain ⟨st1, r1, f1, s1, ρ1, a1, n1, g1⟩ := a_hints_ok hlm hr g
      cases hi : z_at t pc with
      | none => rw [hi] at f1; cases f1
      | some i =>
        rw [hi] at f1
        have f1 : (match ai X.1 X.2.2.2.2 i st1.1 st1.2.1 st1.2.2 with
          | some outs => a_gath (a_cont X.1 X.2.2.2.2 Ks (a_run X.1 X.2.2.2.2 lm hs Ks n) d mi t cuts) outs
          | none => none) = some r1 := f1
        cases ho : ai X.1 X.2.2.2.2 i st1.1 st1.2.1 st1.2.2 with
        | none => rw [ho] at f1; cases f1
        | some outs =>
          rw [ho] at f1
          obtain ⟨zo, hz, u, hmu, ρ2, a2, n2, hd⟩ := ai_ok hX i ρ1 st1.1 st1.2.1 st1.2.2 outs z.1 z.2.1 z.2.2 ho g1.1 g1.2.1 g1.2.2
          obtain ⟨rx, hrx, hsub⟩ := a_gath_ok f1 u hmu
          obtain ⟨x, hx, he⟩ := a_cont_ok hX hK hT (a_run_ok hX hK hT hlm hs n) ht (ht pc i hi) hz hrx n2 hd
          obtain ⟨ρ3, a3, h3⟩ := he
          exact ⟨x, s1 x (hsub x hx), aEnd.back ⟨ρ3, a3, h3⟩ (a1.trans a2 n1) n1 (fun _ h => h)⟩
end AS
end
section
/-! A CONTRACT THAT THE KERNEL CHECKED HOLDS -/
-- measures fall
def aLex : Nat → List Int → List Int → Prop
  | 0, _, _ => False
  | k + 1, n :: ns, o :: os => (n < o ∧ 0 ≤ n) ∨ (n ≤ o ∧ aLex k ns os)
  | _ + 1, _, _ => False
theorem aLex.up : ∀ {k : Nat} {ns os : List Int}, aLex k ns os → aLex (k + 1) ns os
  | 0, _, _, h => h.elim
  | k + 1, n :: ns, o :: os, h => by
    rcases h with h | ⟨h1, h2⟩
    · exact Or.inl h
    · exact Or.inr ⟨h1, aLex.up h2⟩
  | k + 1, [], _, h => h.elim
  | k + 1, _ :: _, [], h => h.elim
theorem aLex.le {k : Nat} {ns os : List Int} (h : aLex k ns os) : ∀ k', k ≤ k' → aLex k' ns os
  | 0, hk => by
    have : k = 0 := by omega
    rw [this] at h
    exact h
  | k' + 1, hk => by
    by_cases e : k = k' + 1
    · rw [← e]; exact h
    · exact (aLex.le h k' (by omega)).up
theorem aLex_acc : ∀ (k : Nat) (os : List Int), Acc (aLex k) os
  | 0, os => ⟨_, fun _ h => h.elim⟩
  | k + 1, [] => ⟨_, fun ns h => by cases ns <;> exact h.elim⟩
  | k + 1, o :: os => by
    have key : ∀ (m : Nat) (os : List Int), ∀ o : Int, o.toNat = m → Acc (aLex (k + 1)) (o :: os) := by
      intro m
      induction m using Nat.strongRecOn with
      | ind m ihm =>
        intro os
        induction aLex_acc k os with
        | intro os _ iho =>
          intro o ho
          refine ⟨_, fun ns h => ?_⟩
          match ns, h with
          | n :: ns, h =>
            rcases h with ⟨h1, h2⟩ | ⟨h1, h2⟩
            · exact ihm n.toNat (by omega) ns n rfl
            · by_cases e : n.toNat = m
              · exact iho ns h2 n e
              · exact ihm n.toNat (by omega) ns n rfl
    exact key _ os o rfl
def aMs (ρ : Nat → Int) (ms : List aF) : List Int := ms.map fun m => alin ρ m.1 + m.2
theorem aMs_ag {ρ ρ' : Nat → Int} {n : Nat} (ha : aAg ρ ρ' n) : ∀ {ms : List aF}, (∀ x ∈ ms, aScope n x.1) → aMs ρ' ms = aMs ρ ms
  | [], _ => rfl
  | m :: ms, h => by
    show (alin ρ' m.1 + m.2) :: aMs ρ' ms = (alin ρ m.1 + m.2) :: aMs ρ ms
    rw [alin_ag ha (h m List.mem_cons_self), aMs_ag ha (fun x hx => h x (List.mem_cons_of_mem _ hx))]
theorem a_lexR_ok {X : aX} {q : aQ} {h : zH} {ρ σ : Nat → Int} {N : Nat} {θ : aTh} (g : aDen X ρ q h) (hs : aThS q.1 N θ) (hσ : aVal ρ σ θ) : ∀ {ns os : List aF}, a_lexR q θ ns os = true → aLex ns.length (aMs σ ns) (aMs ρ os)
  | [], os, h => by cases h
  | n :: ns, [], h => by cases h
  | n :: ns, o :: os, h => by
    have h : (match a_subF θ n.1 with
      | some r => (a_ent q.2.1 q.2.2.1 3 (a_less r.1 o.1) (o.2 - n.2 - r.2 - 1) && a_ent q.2.1 q.2.2.1 3 (a_less [] r.1) (n.2 + r.2)) || (a_ent q.2.1 q.2.2.1 3 (a_less r.1 o.1) (o.2 - n.2 - r.2) && a_lexR q θ ns os)
      | none => false) = true := h
    cases hq : a_subF θ n.1 with
    | none => rw [hq] at h; cases h
    | some r =>
      rw [hq] at h
      have e := (a_subF_ok hs hq).2 ρ σ hσ
      have h : ((a_ent q.2.1 q.2.2.1 3 (a_less r.1 o.1) (o.2 - n.2 - r.2 - 1) && a_ent q.2.1 q.2.2.1 3 (a_less [] r.1) (n.2 + r.2)) || (a_ent q.2.1 q.2.2.1 3 (a_less r.1 o.1) (o.2 - n.2 - r.2) && a_lexR q θ ns os)) = true := h
      rw [Bool.or_eq_true, Bool.and_eq_true, Bool.and_eq_true] at h
      show (alin σ n.1 + n.2 < alin ρ o.1 + o.2 ∧ 0 ≤ alin σ n.1 + n.2) ∨ (alin σ n.1 + n.2 ≤ alin ρ o.1 + o.2 ∧ aLex ns.length (aMs σ ns) (aMs ρ os))
      rcases h with ⟨h1, h2⟩ | ⟨h1, h2⟩
      · have k1 := a_ent_ok g.1 3 h1
        have k2 := a_ent_ok g.1 3 h2
        rw [a_less_ok] at k1 k2
        have e0 : alin ρ [] = 0 := rfl
        exact Or.inl ⟨by omega, by omega⟩
      · have k1 := a_ent_ok g.1 3 h1
        rw [a_less_ok] at k1
        exact Or.inr ⟨by omega, a_lexR_ok g hs hσ h2⟩
section AC
variable {o : Nat} {X : aX} {T : zT} {Ks : List aK}
theorem a_retOK_ok {k : Nat} {r p : aRs} (hr : a_retOK X.1 k r p = true) {ρ : Nat → Int} {zr : zR} (hk : k ≤ r.1.1) (g : aDen X ρ r.1 zr.1) (hv : aRo ρ r.1.1 r.2 zr.2) : ∃ σ, aAg ρ σ k ∧ k ≤ p.1.1 ∧ aDen X σ p.1 zr.1 ∧ aRo σ p.1.1 p.2 zr.2 := by
  unfold a_retOK at hr
  have fin : ∀ {θ0 : aTh} {b : Bool}, a_bindOK p.1.1 r.1 (fun θ => some (a_rest X.1.2.2 p.1 r.1 θ)) p.1.2.2.2.1 θ0 = some b → b = true → aThS r.1.1 p.1.1 θ0 → k ≤ p.1.1 → aExt (a_id k) θ0 → (∀ σ, aVal ρ σ θ0 → aRo σ p.1.1 p.2 zr.2) → ∃ σ, aAg ρ σ k ∧ k ≤ p.1.1 ∧ aDen X σ p.1 zr.1 ∧ aRo σ p.1.1 p.2 zr.2 := by
    intro θ0 b hb hbt hs hkp hid hret
    obtain ⟨θ, hb, e1, s1, k1⟩ := a_bindOK_ok g hb hs
    have hb := Option.some.inj hb
    rw [hbt] at hb
    have hσ := aSig_val ρ θ
    obtain ⟨r1, r2, r3⟩ := a_rest_ok (X := X) hb g (fun h => h) s1 hσ
    exact ⟨aSig ρ θ, a_id_ag (hid.trans e1) hσ, hkp, ⟨r1, g.2.1, k1 _ hσ, r2, g.2.2.2.2.1, r3⟩, hret _ (hσ.sub e1)⟩
  generalize hp2 : p.2 = pv at hr fin ⊢
  generalize hr2 : r.2 = rv at hr hv
  match pv, rv, hr, hv with
  | none, none, hr, hv =>
    split at hr
    · rename_i b hb
      rw [Bool.and_eq_true] at hr
      have hkp := Nat.le_of_ble_eq_true hr.2
      exact fin hb hr.1 (a_id_scope hk hkp) hkp (aExt.refl _) (fun σ _ => by
        match hz : zr.2, hv with
        | none, _ => trivial)
    · cases hr
  | some pv, some v, hr, hv =>
    split at hr
    · rename_i b hb
      rw [Bool.and_eq_true] at hr
      have hkp := Nat.le_of_ble_eq_true hr.2
      match hz : zr.2, hv with
      | some w, hv =>
        obtain ⟨θ, hb, e1, s1, k1⟩ := a_bindK_ok hb g.1.1 hv (a_id_scope hk hkp)
        rw [hz] at fin
        exact fin hb hr.1 s1 hkp e1 (fun σ hσ => k1 σ hσ)
    · cases hr
  | none, some _, hr, _ => cases hr
  | some _, none, hr, _ => cases hr
theorem a_cutOK_ok {k : Nat} {olds : Option (List aF)} {st : aS} {c : aCut} (hr : a_cutOK X.1 k olds st c = true) {ρ : Nat → Int} {z : zS} (hk : k ≤ st.1.1) (g : aStD X ρ st z) : ∃ σ, aAg ρ σ k ∧ k ≤ c.2.1.1.1 ∧ aStD X σ c.2.1 z ∧ ∀ os, olds = some os → aLex c.2.2.length (aMs σ c.2.2) (aMs ρ os) := by
  unfold a_cutOK at hr
  split at hr
  · rename_i b hb
    rw [Bool.and_eq_true] at hr
    have hkp := Nat.le_of_ble_eq_true hr.2
    obtain ⟨θ1, hb, e1, s1, k1⟩ := a_bindLK_ok g.1.1.1 g.2.1 hb (a_id_scope hk hkp)
    obtain ⟨θ2, hb, e2, s2, k2⟩ := a_bindsK_ok g.1.1.1 hb g.2.2 s1
    obtain ⟨θ, hb, e3, s3, k3⟩ := a_bindOK_ok g.1 hb s2
    have hb := Option.some.inj hb
    rw [hr.1, Bool.and_eq_true] at hb
    have hσ := aSig_val ρ θ
    obtain ⟨r1, r2, r3⟩ := a_rest_ok (X := X) hb.1 g.1 (fun h => h) s3 hσ
    refine ⟨aSig ρ θ, a_id_ag (e1.trans (e2.trans e3)) hσ, hkp, ⟨⟨r1, g.1.2.1, k3 _ hσ, r2, g.1.2.2.2.2.1, r3⟩, k1 _ (hσ.sub (e2.trans e3)), k2 _ (hσ.sub e3)⟩, fun os ho => ?_⟩
    have hl := hb.2
    rw [ho] at hl
    exact a_lexR_ok g.1 s3 hσ hl
  · cases hr
-- a run's good end
def aGood (o : Nat) (X : aX) (T : zT) (κ : aK) (d mi pc : Nat) (z : zS) (ρ : Nat → Int) : Prop := ∃ zr, zRun X.2.1 T (o + d) mi pc z zr ∧ ∃ p ∈ κ.2.2.2.2.2, ∃ ρ', aAg ρ ρ' κ.2.2.1.1 ∧ κ.2.2.1.1 ≤ p.1.1 ∧ aDen X ρ' p.1 zr.1 ∧ aRo ρ' p.1.1 p.2 zr.2
-- or it has come to a cut, its measures fallen
def aNext (o : Nat) (X : aX) (T : zT) (κ : aK) (cuts : List aCut) (d mi pc : Nat) (z : zS) (ρ : Nat → Int) (olds : Option (List aF)) (n : Nat) : Prop := ∃ c ∈ cuts, ∃ σ z', aAg ρ σ κ.2.2.1.1 ∧ κ.2.2.1.1 ≤ c.2.1.1.1 ∧ aStD X σ c.2.1 z' ∧ (∀ zr, zRun X.2.1 T (o + d) mi c.1 z' zr → zRun X.2.1 T (o + d) mi pc z zr) ∧ ∀ os, olds = some os → (∀ x ∈ os, aScope n x.1) → aLex c.2.2.length (aMs σ c.2.2) (aMs ρ os)
theorem a_from_ok (hX : aOK X) (hK : ∀ κ ∈ Ks, aSpecO o X.1 X.2.1 X.2.2.1 T κ) (hT : ∀ mi t, x_nth zMT mi = some t → ∀ pc i, z_at t pc = some i → T mi pc = some i) {lm : aLm} (hlm : aLmOK X lm) {hs : aHt} {n : Nat} {κ : aK} {cuts : List aCut} {t : List (List (Option zX))} (ht : ∀ pc i, z_at t pc = some i → T κ.1 pc = some i) (hm : X.2.2.2.2 = κ.2.2.2.2.1) {olds : Option (List aF)} {pc : Nat} {st : aS} (hr : a_from X.1 lm hs Ks n κ cuts t olds pc st = true) {ρ : Nat → Int} {z : zS} (hk : κ.2.2.1.1 ≤ st.1.1) (g : aStD X ρ st z) : aGood o X T κ κ.2.1 κ.1 pc z ρ ∨ aNext o X T κ cuts κ.2.1 κ.1 pc z ρ olds st.1.1 := by
  unfold a_from at hr
  rw [← hm, a_bN_eq] at hr
  split at hr
  · rename_i rs hrs
    obtain ⟨x, hx, ρ1, a1, hend⟩ := a_run_ok hX hK hT hlm hs n _ _ _ _ _ _ _ _ ht hrs ρ z g
    have hf := a_all_ok hr x hx
    match x, hf, hend with
    | .inr r, hf, ⟨n1, zr, hrun, g1, v1⟩ =>
      obtain ⟨p, hp, hq⟩ := a_any_ok (show a_any (a_retOK X.1 κ.2.2.1.1 r) κ.2.2.2.2.2 = true from hf)
      obtain ⟨σ, b1, b2, b3, b4⟩ := a_retOK_ok hq (Nat.le_trans hk n1) g1 v1
      exact Or.inl ⟨zr, hrun, p, hp, σ, (fun i hi => (b1 i hi).trans (a1 i (Nat.lt_of_lt_of_le hi hk))), b2, b3, b4⟩
    | .inl (pc', st'), hf, ⟨n1, z', hrun, g1⟩ =>
      obtain ⟨c, hc, hq⟩ := a_any_ok (show a_any (fun c => Nat.beq c.1 pc' && a_cutOK X.1 κ.2.2.1.1 olds st' c) cuts = true from hf)
      rw [Bool.and_eq_true] at hq
      have hpc := Nat.eq_of_beq_eq_true hq.1
      obtain ⟨σ, b1, b2, b3, b4⟩ := a_cutOK_ok hq.2 (Nat.le_trans hk n1) g1
      rw [← hpc] at hrun
      exact Or.inr ⟨c, hc, σ, z', (fun i hi => (b1 i hi).trans (a1 i (Nat.lt_of_lt_of_le hi hk))), b2, b3, hrun, fun os ho hsc => by
        have := b4 os ho
        rw [aMs_ag a1 hsc] at this
        exact this⟩
  · cases hr
theorem aGood.back {κ : aK} {d mi pc pc2 : Nat} {z z2 : zS} {ρ ρ2 : Nat → Int} (h : aGood o X T κ d mi pc2 z2 ρ2) (ha : aAg ρ ρ2 κ.2.2.1.1) (hb : ∀ zr, zRun X.2.1 T (o + d) mi pc2 z2 zr → zRun X.2.1 T (o + d) mi pc z zr) : aGood o X T κ d mi pc z ρ := by
  obtain ⟨zr, h1, p, hp, ρ', b1, b2⟩ := h
  exact ⟨zr, hb _ h1, p, hp, ρ', fun i hi => (b1 i hi).trans (ha i hi), b2⟩
theorem a_maxlen (cuts : List aCut) : ∃ K, ∀ c ∈ cuts, c.2.2.length ≤ K := by
  induction cuts with
  | nil => exact ⟨0, fun c hc => by cases hc⟩
  | cons a l ih =>
    obtain ⟨K, hK⟩ := ih
    refine ⟨K + a.2.2.length, fun c hc => ?_⟩
    rcases List.mem_cons.mp hc with e | e
    · rw [e]; omega
    · have := hK c e; omega
theorem a_loop_ok (hX : aOK X) (hK : ∀ κ ∈ Ks, aSpecO o X.1 X.2.1 X.2.2.1 T κ) (hT : ∀ mi t, x_nth zMT mi = some t → ∀ pc i, z_at t pc = some i → T mi pc = some i) {lm : aLm} (hlm : aLmOK X lm) {hs : aHt} {n : Nat} {κ : aK} {cuts : List aCut} {t : List (List (Option zX))} (ht : ∀ pc i, z_at t pc = some i → T κ.1 pc = some i) (hm : X.2.2.2.2 = κ.2.2.2.2.1) (hc : a_all (fun c => a_all (fun x => a_scp c.2.1.1.1 x.1) c.2.2 && a_from X.1 lm hs Ks n κ cuts t (some c.2.2) c.1 c.2.1) cuts = true) {pc : Nat} {st : aS} (hr : a_from X.1 lm hs Ks n κ cuts t none pc st = true) {ρ : Nat → Int} {z : zS} (hk : κ.2.2.1.1 ≤ st.1.1) (g : aStD X ρ st z) : aGood o X T κ κ.2.1 κ.1 pc z ρ := by
  obtain ⟨K, hKl⟩ := a_maxlen cuts
  have key : ∀ v : List Int, ∀ c ∈ cuts, κ.2.2.1.1 ≤ c.2.1.1.1 → ∀ ρ z, aStD X ρ c.2.1 z → aMs ρ c.2.2 = v → aGood o X T κ κ.2.1 κ.1 c.1 z ρ := by
    intro v
    induction aLex_acc K v with
    | intro v _ ih =>
      intro c hcm hck ρ z g hv
      have hcc := a_all_ok hc c hcm
      rw [Bool.and_eq_true] at hcc
      rcases a_from_ok hX hK hT hlm ht hm hcc.2 hck g with h | ⟨c', hc', σ, z', b1, b2, b3, b4, b5⟩
      · exact h
      · have hl := b5 c.2.2 rfl (fun x hx p hp => Nat.le_of_ble_eq_true (a_all_ok (a_all_ok hcc.1 x hx) p hp))
        rw [hv] at hl
        exact (ih _ (hl.le K (hKl c' hc')) c' hc' b2 σ z' b3 rfl).back b1 b4
  rcases a_from_ok hX hK hT hlm ht hm hr hk g with h | ⟨c', hc', σ, z', b1, b2, b3, b4, -⟩
  · exact h
  · exact (key _ c' hc' b2 σ z' b3 rfl).back b1 b4
end AC
theorem a_check_sound {o : Nat} {G : aG} {D : zD} {Fl : Nat → zH → Prop} {T : zT} {Ks : List aK} (hX : ∀ h m, aOK (aG0 G, D, Fl, h, m)) (hT : ∀ mi t, x_nth zMT mi = some t → ∀ pc i, z_at t pc = some i → T mi pc = some i) {lm : aLm} (hlm : ∀ h m, aLmOK (aG0 G, D, Fl, h, m) lm) {hs : aHt} {n : Nat} {κ : aK} {cuts : List aCut} (hr : a_check (aG0 G) lm hs Ks n κ cuts = true) (hK : ∀ κ ∈ Ks, aSpecO o G D Fl T κ) : aSpecO o G D Fl T κ := by
  unfold a_check at hr
  split at hr
  · rename_i t ht
    rw [Bool.and_eq_true] at hr
    intro ρ h bs g has
    exact a_loop_ok (X := (aG0 G, D, Fl, h, κ.2.2.2.2.1)) (hX _ _) hK hT (hlm _ _) (hT _ _ ht) rfl hr.2 hr.1 (Nat.le_refl _) (z := (h, zargs 0 bs, [])) ⟨g, (a_args_ok 0 has).2, trivial⟩
  · cases hr
end
section
/-! HINTS BEYOND LOCALS: kind 1 splits a place of the overlay (cell, index, then bounds); kind 2 tightens a value of the stack by facts -/
noncomputable def a_tight (i : Nat) (v : aV) (lo hi : Int) (st : aS) : Option (List aS) := cond (a_leq st.1 (0, 0, lo) v 0 && a_leq st.1 v (0, 0, hi) 0) (match a_get st.1.2.1 i with
  | some w => x_kZ (a_max w.1 (lo - v.2.2)) (fun l => x_kZ (a_min w.2 (hi - v.2.2)) (fun u => some [((st.1.1, (i, l, u) :: st.1.2.1, st.1.2.2), st.2)]))
  | none => x_kZ (lo - v.2.2) (fun l => x_kZ (hi - v.2.2) (fun u => some [((st.1.1, (i, l, u) :: st.1.2.1, st.1.2.2), st.2)]))) none
noncomputable def aLmS : aLm := fun k w bs st => match k with
  | 0 => match bs with
    | r :: o :: bs => match a_oget st.1.2.2.2.1 r.toNat 0 o with
      | some v => cond (Nat.beq v.1 0) (a_splitR v st.2.1 st.2.2 bs st.1) none
      | none => none
    | _ => none
  | 1 => match bs with
    | [lo, hi] => match x_nth st.2.2 w with
      | some (t, i + 1, o) => a_tight i (t, i + 1, o) lo hi st
      | some (t, 0, o) => some [st]
      | _ => none
    | _ => none
  | _ => none
theorem aRl_nth {ρ : Nat → Int} {n : Nat} : ∀ {S : List aV} {Z : List zV} {w : Nat} {v : aV}, aRl ρ n S Z → S[w]? = some v → ∃ z, aR ρ n v z
  | [], _, _, _, _, h => by cases h
  | _ :: _, [], _, _, hR, _ => hR.elim
  | a :: S, z :: Z, 0, v, ⟨h1, _⟩, h => by
    cases h
    exact ⟨z, h1⟩
  | a :: S, z :: Z, w + 1, v, ⟨_, h2⟩, h => aRl_nth h2 (by rw [List.getElem?_cons_succ] at h; exact h)
theorem aLmS_ok (X : aX) : aLmOK X aLmS := by
  intro k w bs st l hr ρ z g
  match k, hr with
  | 0, hr =>
    match bs, hr with
    | r :: o :: bs, hr =>
      have hr : (match a_oget st.1.2.2.2.1 r.toNat 0 o with
        | some v => cond (Nat.beq v.1 0) (a_splitR v st.2.1 st.2.2 bs st.1) none
        | none => none) = some l := hr
      split at hr
      · rename_i v hv
        obtain ⟨-, h2⟩ := a_oget_ok g.1.2.2.1 hv
        rcases x_condT hr with ⟨-, hr⟩ | ⟨-, hr⟩
        · obtain ⟨st', k1, k2, k3⟩ := a_splitR_ok (X := X) (z := z) hr g h2
          exact ⟨st', k1, ρ, aAg.refl _ _, Nat.le_of_eq k2.symm, k3⟩
        · cases hr
      · cases hr
    | [], hr => cases hr
    | [_], hr => cases hr
  | 1, hr =>
    match bs, hr with
    | [lo, hi], hr =>
      have hr : (match x_nth st.2.2 w with
        | some (t, i + 1, o) => a_tight i (t, i + 1, o) lo hi st
        | some (t, 0, o) => some [st]
        | _ => none) = some l := hr
      split at hr
      · rename_i t i o hv
        rw [x_nth_eq] at hv
        obtain ⟨zv, h1, -⟩ := aRl_nth g.2.2 hv
        unfold a_tight at hr
        rcases x_condT hr with ⟨hc, hr⟩ | ⟨-, hr⟩
        · rw [Bool.and_eq_true] at hc
          have d1 := a_leq_ok g.1 hc.1
          have d2 := a_leq_ok g.1 hc.2
          have d1 : lo ≤ ρ i + o + 0 := d1
          have d2 : ρ i + o ≤ hi + 0 := d2
          have fin : ∀ l u : Int, l ≤ ρ i → ρ i ≤ u → ∃ st' ∈ [((st.1.1, (i, l, u) :: st.1.2.1, st.1.2.2), st.2)], ∃ ρ', aAg ρ ρ' st.1.1 ∧ st.1.1 ≤ st'.1.1 ∧ aStD X ρ' st' z := fun l u hl hu => by
            refine ⟨_, List.mem_cons_self, ρ, aAg.refl _ _, Nat.le_refl _, g.1.bound (fun x hx => ?_), g.2.1, g.2.2⟩
            rcases List.mem_cons.mp hx with e | e
            · rw [e]
              exact ⟨h1, hl, hu⟩
            · exact g.1.1.1 x e
          split at hr
          · rename_i w hw
            obtain ⟨-, w1, w2⟩ := a_get_ok g.1.1.1 hw
            rw [x_kZ_eq, x_kZ_eq] at hr
            cases hr
            have m1 := a_max_ok w.1 (lo - o)
            have m2 := a_min_ok w.2 (hi - o)
            exact fin (a_max w.1 (lo - o)) (a_min w.2 (hi - o)) (by omega) (by omega)
          · rw [x_kZ_eq, x_kZ_eq] at hr
            cases hr
            exact fin _ _ (by show lo - o ≤ ρ i; omega) (by show ρ i ≤ hi - o; omega)
        · cases hr
      · cases hr
        exact ⟨_, List.mem_cons_self, ρ, aAg.refl _ _, Nat.le_refl _, g⟩
      · cases hr
    | [], hr => cases hr
    | [_], hr => cases hr
    | _ :: _ :: _ :: _, hr => cases hr
  | _ + 2, hr => cases hr
end
section
/-! ROWS OF STEPS. A flag speaks of a range of rows (30 b + i: the reference's; 160 + 60 o + i: those of the class's o-th Orders), 155 of the rows of block 4 below newSteps -/
def a_ord (o : Nat) : Nat := match o with
  | 0 => 18
  | 1 => 34
  | 2 => 49
  | 3 => 65
  | 4 => 80
  | _ => 95
noncomputable def a_ordI (r : Nat) : Option Nat := cond (Nat.beq r 18) (some 0) (cond (Nat.beq r 34) (some 1) (cond (Nat.beq r 49) (some 2) (cond (Nat.beq r 65) (some 3) (cond (Nat.beq r 80) (some 4) (cond (Nat.beq r 95) (some 5) none)))))
theorem a_ordI_ok {r o : Nat} (h : a_ordI r = some o) : o < 6 ∧ a_ord o = r := by
  unfold a_ordI at h
  rcases x_condT h with ⟨e, h⟩ | ⟨-, h⟩
  · cases h; exact ⟨by omega, (Nat.eq_of_beq_eq_true e).symm⟩
  rcases x_condT h with ⟨e, h⟩ | ⟨-, h⟩
  · cases h; exact ⟨by omega, (Nat.eq_of_beq_eq_true e).symm⟩
  rcases x_condT h with ⟨e, h⟩ | ⟨-, h⟩
  · cases h; exact ⟨by omega, (Nat.eq_of_beq_eq_true e).symm⟩
  rcases x_condT h with ⟨e, h⟩ | ⟨-, h⟩
  · cases h; exact ⟨by omega, (Nat.eq_of_beq_eq_true e).symm⟩
  rcases x_condT h with ⟨e, h⟩ | ⟨-, h⟩
  · cases h; exact ⟨by omega, (Nat.eq_of_beq_eq_true e).symm⟩
  rcases x_condT h with ⟨e, h⟩ | ⟨-, h⟩
  · cases h; exact ⟨by omega, (Nat.eq_of_beq_eq_true e).symm⟩
  · cases h
-- cell and place of what decides, place of the other that decides, cell and place of the first and the second
def rPl (j : Nat) : Nat × Nat × Nat × Nat × Nat × Nat × Nat := if j < 150 then (126, 550 * (j / 30) + 277 + 9 * (j % 30), 550 * (j / 30) + 277 + 9 * (j % 30) + 6, 126, 550 * (j / 30) + 277 + 9 * (j % 30) + 1, 126, 550 * (j / 30) + 277 + 9 * (j % 30) + 2) else (a_ord ((j - 160) / 60) + 1, (j - 160) % 60, (j - 160) % 60, a_ord ((j - 160) / 60) + 2, (j - 160) % 60, a_ord ((j - 160) / 60) + 3, (j - 160) % 60)
def rTau (j : Nat) : Nat := if j < 150 then 0 else 1
noncomputable def a_rowK {β : Type} (j : Nat) (f : Nat → Nat → Nat → Nat → Nat → Nat → Nat → Option β) : Option β := cond (Nat.blt j 150) (x_kN (550 * (j / 30) + 277 + 9 * (j % 30)) (fun w => f 126 w (w + 6) 126 (w + 1) 126 (w + 2))) (x_kN ((j - 160) % 60) (fun i => x_kN (a_ord ((j - 160) / 60)) (fun r => f (r + 1) i i (r + 2) i (r + 3) i)))
theorem a_rowK_eq {β : Type} {j : Nat} {f : Nat → Nat → Nat → Nat → Nat → Nat → Nat → Option β} : a_rowK j f = f (rPl j).1 (rPl j).2.1 (rPl j).2.2.1 (rPl j).2.2.2.1 (rPl j).2.2.2.2.1 (rPl j).2.2.2.2.2.1 (rPl j).2.2.2.2.2.2 := by
  unfold a_rowK
  by_cases h : j < 150
  · have e : rPl j = (126, 550 * (j / 30) + 277 + 9 * (j % 30), 550 * (j / 30) + 277 + 9 * (j % 30) + 6, 126, 550 * (j / 30) + 277 + 9 * (j % 30) + 1, 126, 550 * (j / 30) + 277 + 9 * (j % 30) + 2) := if_pos h
    rw [show Nat.blt j 150 = true from Nat.ble_eq_true_of_le h, e, cond_true, x_kN_eq]
  · have e : rPl j = (a_ord ((j - 160) / 60) + 1, (j - 160) % 60, (j - 160) % 60, a_ord ((j - 160) / 60) + 2, (j - 160) % 60, a_ord ((j - 160) / 60) + 3, (j - 160) % 60) := if_neg h
    rw [show Nat.blt j 150 = false from Bool.eq_false_iff.mpr (fun e => h (Nat.le_of_ble_eq_true e)), e, cond_false, x_kN_eq, x_kN_eq]
-- what the two that decide ask of first and second; -1: nothing
noncomputable def a_nd0 (k t : Int) : Int × Int := cond (@decide (k = 0) (a_decEqZ _ _) || @decide (k = 2) (a_decEqZ _ _)) (2, 47) (cond (@decide (k = 1) (a_decEqZ _ _)) (2, -1) (cond (@decide (k = 3) (a_decEqZ _ _)) (2, 2) (cond (@decide (k = 4) (a_decEqZ _ _)) (2, 12) (cond (@decide (k = 5) (a_decEqZ _ _)) (5, -1) (cond (@decide (k = 7) (a_decEqZ _ _)) (cond (@decide (t = 0) (a_decEqZ _ _)) (2, 47) (cond (@decide (t = 1) (a_decEqZ _ _)) (5, -1) (-1, -1))) (cond (@decide (k = 8) (a_decEqZ _ _)) (99, -1) (-1, -1)))))))
noncomputable def a_nd1 (k : Int) : Int × Int := cond (@decide (k = 8) (a_decEqZ _ _) || (@decide (k = 10) (a_decEqZ _ _) || @decide (k = 16) (a_decEqZ _ _))) (2, 47) (cond (@decide (k = 9) (a_decEqZ _ _)) (2, -1) (cond (@decide (k = 11) (a_decEqZ _ _)) (2, 2) (cond (@decide (k = 12) (a_decEqZ _ _)) (2, 12) (cond (@decide (k = 13) (a_decEqZ _ _) || @decide (k = 17) (a_decEqZ _ _)) (5, -1) (cond (@decide (k = 19) (a_decEqZ _ _)) (99, -1) (-1, -1))))))
noncomputable def a_nd (τ : Nat) (k t : Int) : Int × Int := match τ with
  | 0 => a_nd0 k t
  | _ => a_nd1 k
theorem a_nd_t {τ : Nat} {k t : Int} (h : τ ≠ 0 ∨ k ≠ 7) : a_nd τ k t = a_nd τ k 0 := by
  cases τ with
  | succ n => rfl
  | zero =>
    have h : k ≠ 7 := h.resolve_left (fun h => h rfl)
    show a_nd0 k t = a_nd0 k 0
    unfold a_nd0
    rw [a_decN h]
    rfl
def rB (m x : Int) : Prop := 0 ≤ m → 0 ≤ x ∧ x ≤ m
def rOK (j : Nat) (h : zH) : Prop := rB (a_nd (rTau j) (h (rPl j).1 (rPl j).2.1).2 (h (rPl j).1 (rPl j).2.2.1).2).1 (h (rPl j).2.2.2.1 (rPl j).2.2.2.2.1).2 ∧ rB (a_nd (rTau j) (h (rPl j).1 (rPl j).2.1).2 (h (rPl j).1 (rPl j).2.2.1).2).2 (h (rPl j).2.2.2.2.2.1 (rPl j).2.2.2.2.2.2).2
noncomputable def a_fr (j : Nat) : Nat × Nat := cond (Nat.blt j 155) (30 * (j / 31), 30 * (j / 31) + j % 31) (cond (Nat.blt j 156) (0, 0) (cond (Nat.blt j 187) (j - 156, 30) (cond (Nat.blt j 217) (120 + (j - 187), 121 + (j - 187)) (cond (Nat.blt j 223) (160 + 60 * (j - 217), 220 + 60 * (j - 217)) (cond (Nat.blt j 284) (160, 160 + (j - 223)) (cond (Nat.blt j 345) (160 + (j - 284), 220) (0, 0)))))))
def rFl (j : Nat) (h : zH) : Prop := if j = 155 then ∀ x : Nat, 120 ≤ x → x < 150 → (x : Int) - 120 < (h 121 25).2 → rOK x h else ∀ x, (a_fr j).1 ≤ x → x < (a_fr j).2 → rOK x h
/-! the steps of the hints -/
noncomputable def a_okb (q : aQ) (r o : Nat) (m : Int) : Bool := cond (@decide (m < 0) (a_decLt _ _)) true (match a_oget q.2.2.2.1 r 0 (Int.ofNat o) with
  | some v => (match a_rngK q.2.1 v (fun lo hi => some (@decide (0 ≤ lo) (a_decLe _ _) && @decide (hi ≤ m) (a_decLe _ _))) with
    | some b => b
    | none => false)
  | none => false)
noncomputable def a_okR (q : aQ) (ra oa rb ob : Nat) (nd : Int × Int) : Bool := a_okb q ra oa nd.1 && a_okb q rb ob nd.2
noncomputable def a_rgood (q : aQ) (j : Nat) : Bool := match a_rowK j (fun rk ok ot ra oa rb ob => match a_oget q.2.2.2.1 rk 0 (Int.ofNat ok) with
  | none => none
  | some vk => a_rngK q.2.1 vk (fun lo hi => cond (@decide (lo = hi) (a_decEqZ _ _)) (cond (Nat.blt j 150) (cond (@decide (lo = 7) (a_decEqZ _ _)) (match a_oget q.2.2.2.1 rk 0 (Int.ofNat ot) with
    | none => none
    | some vt => a_rngK q.2.1 vt (fun l2 h2 => cond (@decide (l2 = h2) (a_decEqZ _ _)) (some (a_okR q ra oa rb ob (a_nd0 7 l2))) none)) (some (a_okR q ra oa rb ob (a_nd0 lo 0)))) (some (a_okR q ra oa rb ob (a_nd1 lo)))) none)) with
  | some b => b
  | none => false
noncomputable def a_eqV (v w : Option aV) : Bool := match v, w with
  | some v, some w => Nat.beq v.1 w.1 && (Nat.beq v.2.1 w.2.1 && @decide (v.2.2 = w.2.2) (a_decEqZ _ _))
  | _, _ => false
noncomputable def a_alike (q : aQ) (a b : Nat) : Bool := match a_rowK a (fun rk ok ot ra oa rb ob => a_rowK b (fun rk' ok' ot' ra' oa' rb' ob' => some (a_eqV (a_oget q.2.2.2.1 rk 0 (Int.ofNat ok)) (a_oget q.2.2.2.1 rk' 0 (Int.ofNat ok')) && (a_eqV (a_oget q.2.2.2.1 rk 0 (Int.ofNat ot)) (a_oget q.2.2.2.1 rk' 0 (Int.ofNat ot')) && (a_eqV (a_oget q.2.2.2.1 ra 0 (Int.ofNat oa)) (a_oget q.2.2.2.1 ra' 0 (Int.ofNat oa')) && a_eqV (a_oget q.2.2.2.1 rb 0 (Int.ofNat ob)) (a_oget q.2.2.2.1 rb' 0 (Int.ofNat ob'))))))) with
  | some b => b
  | none => false
def a_setF (q : aQ) (fl : List Nat) : aQ := (q.1, q.2.1, q.2.2.1, q.2.2.2.1, fl)
def a_setO (q : aQ) (O : aO) : aQ := (q.1, q.2.1, q.2.2.1, O, q.2.2.2.2)
noncomputable def a_has (q : aQ) (x : Nat) : Bool := a_any (fun j => Nat.ble (a_fr j).1 x && Nat.blt x (a_fr j).2) q.2.2.2.2 || (a_memN 155 q.2.2.2.2 && (Nat.ble 120 x && (Nat.blt x 150 && (match a_oget q.2.2.2.1 121 0 25 with
  | some v => (match a_rngK q.2.1 v (fun lo _ => some (@decide ((x : Int) - 120 < lo) (a_decLt _ _))) with
    | some b => b
    | none => false)
  | none => false))))
noncomputable def a_allN (p : Nat → Bool) (j0 n : Nat) : Bool := Nat.rec (motive := fun _ => Bool) true (fun i ih => p (j0 + i) && ih) n
-- each of the rows lo .. + n follows; sr: the first of those that may be alike
noncomputable def a_covR (q : aQ) (sr lo n : Nat) : Bool := a_allN (fun x => a_has q x || (a_rgood q x || (Nat.beq (rTau (sr + (x - lo))) (rTau x) && (a_has q (sr + (x - lo)) && a_alike q (sr + (x - lo)) x)))) lo n
noncomputable def a_cov {β : Type} (sr t : Nat) (q : aQ) (f : aQ → Option β) : Option β := cond (a_memN t q.2.2.2.2) (f q) (cond (Nat.beq t 155) (match a_oget q.2.2.2.1 121 0 25 with
    | some v => a_rngK q.2.1 v (fun _ hi => cond (@decide (hi ≤ 30) (a_decLe _ _) && a_covR q 120 120 hi.toNat) (f (a_setF q (155 :: q.2.2.2.2))) (f q))
    | none => f q) (cond (Nat.blt t 345) (x_kN (a_fr t).1 (fun lo => x_kN ((a_fr t).2 - lo) (fun n => cond (a_covR q sr lo n) (x_kN t (fun t => f (a_setF q (t :: q.2.2.2.2)))) (f q)))) (f q)))
noncomputable def a_cover {β : Type} (f : aQ → Option β) (ts : List Int) : aQ → Option β := List.rec (motive := fun _ => aQ → Option β) f (fun t _ ih q => a_cov (a_fr t.toNat).1 t.toNat q ih) ts
noncomputable def a_coverP {β : Type} (t r : Nat) (o : Int) (q : aQ) (f : aQ → Option β) : Option β := match a_oget q.2.2.2.1 r 0 o with
  | some v => a_rngK q.2.1 v (fun lo hi => cond (@decide (lo = hi) (a_decEqZ _ _) && @decide (0 ≤ lo) (a_decLe _ _)) (x_kN (t + lo.toNat) (fun t => a_cov (a_fr t).1 t q f)) (f q))
  | none => f q
noncomputable def a_coverL {β : Type} (L : aL) (t loc m d : Nat) (q : aQ) (f : aQ → Option β) : Option β := match a_lget L loc with
  | some v => a_rngK q.2.1 v (fun lo hi => cond (@decide (lo = hi) (a_decEqZ _ _) && @decide (0 ≤ lo) (a_decLe _ _)) (x_kN (t + (lo.toNat - m) / d) (fun t => a_cov (a_fr t).1 t q f)) (f q))
  | none => f q
noncomputable def a_dropF {β : Type} (j0 n : Nat) (q : aQ) (f : aQ → Option β) : Option β := x_spine (a_flt (fun j => Nat.blt j j0 || Nat.ble (j0 + n) j) q.2.2.2.2) (fun fl => f (a_setF q fl))
noncomputable def a_dropO {β : Type} (p : (Nat × Nat × Int) × aV → Bool) (q : aQ) (f : aQ → Option β) : Option β := x_spine (a_flt p q.2.2.2.1) (fun O => f (a_setO q O))
-- all places of an int cell, read
noncomputable def a_readAK {β : Type} (r : Nat) (f : aQ → Option β) (n : Nat) : aQ → Option β := Nat.rec (motive := fun _ => aQ → Option β) f (fun i ih q => match a_oget q.2.2.2.1 r 0 (Int.ofNat i) with
  | some _ => ih q
  | none => x_kN (q.1 + 1) (fun n => x_kN i (fun i => ih (n, q.2.1, q.2.2.1, ((r, 0, Int.ofNat i), (0, n, 0)) :: q.2.2.2.1, q.2.2.2.2)))) n
noncomputable def a_ofR {β : Type} (L : aL) (loc : Nat) (f : Nat → Option β) : Option β := match a_lget L loc with
  | some v => cond (Nat.beq v.1 2 && (a_isC v && @decide (0 ≤ v.2.2) (a_decLe _ _))) (match a_ordI v.2.2.toNat with
    | some o => f o
    | none => none) none
  | none => none
noncomputable def a_openC {β : Type} (L : aL) (loc : Nat) (q : aQ) (f : aQ → Option β) : Option β := a_ofR L loc (fun o => cond (a_memN (217 + o) q.2.2.2.2) (a_readAK (a_ord o + 1) (a_readAK (a_ord o + 2) (a_readAK (a_ord o + 3) f 60) 60) 60 q) (f q))
noncomputable def a_moveC {β : Type} (L : aL) (l0 l1 : Nat) (q : aQ) (f : aQ → Option β) : Option β := a_ofR L l0 (fun a => a_ofR L l1 (fun b => a_cov (160 + 60 * a) (217 + b) q (fun q => a_dropO (fun e => !(Nat.beq e.1.1 (a_ord a + 1) || (Nat.beq e.1.1 (a_ord a + 2) || (Nat.beq e.1.1 (a_ord a + 3) || (Nat.beq e.1.1 (a_ord b + 1) || (Nat.beq e.1.1 (a_ord b + 2) || Nat.beq e.1.1 (a_ord b + 3))))))) q f)))
noncomputable def a_derive {β : Type} (L : aL) (l0 l1 : Nat) (c : Int) (q : aQ) (f : aQ → Option β) : Option β := match a_lget L l0, a_lget L l1 with
  | some (_, i + 1, o), some (_, i' + 1, o') => cond (!Nat.beq i i' && a_ent q.2.1 q.2.2.1 3 [(1, i), (1, i')] (c - o - o')) (x_kZ (c - o - o') (fun b => f (a_fact q ([(1, i), (1, i')], b)))) (f q)
  | some _, some _ => f q
  | _, _ => none
noncomputable def a_rebase {β : Type} (r : Nat) (o : Int) (q : aQ) (f : aQ → Option β) (js : List Int) : Option β := match a_oget q.2.2.2.1 r 0 o with
  | some (_, i + 1, c) => List.rec (motive := fun _ => aQ → Option β) f (fun j _ ih q => x_kN j.toNat (fun j => cond (Nat.beq j i || !Nat.blt j q.1) (ih q) (cond (a_ent q.2.1 q.2.2.1 3 [(1, j), (-1, i)] (-1 + c)) (x_kZ (-1 + c) (fun b => ih (a_fact q ([(1, j), (-1, i)], b)))) (cond (a_ent q.2.1 q.2.2.1 3 [(1, j), (-1, i)] (0 + c)) (x_kZ (0 + c) (fun b => ih (a_fact q ([(1, j), (-1, i)], b)))) (ih q))))) js q
  | _ => f q
-- a copying of blocks, behind each row
noncomputable def a_blk {β : Type} (q : aQ) (L : aL) (x : Int) (f : Nat → Option β) : Option β := cond (@decide (x < 0) (a_decLt _ _)) (x_kN (-1 - x).toNat f) (match a_lget L x.toNat with
  | some v => a_rngK q.2.1 v (fun lo hi => cond (@decide (lo = hi) (a_decEqZ _ _) && @decide (0 ≤ lo) (a_decLe _ _)) (x_kN lo.toNat f) none)
  | none => none)
noncomputable def a_keep126 (e : (Nat × Nat × Int) × aV) : Bool := !Nat.beq e.1.1 126 || (Nat.beq e.1.2.1 0 && Nat.blt (e.1.2.2.toNat % 550) 4)
noncomputable def a_keepA (e : (Nat × Nat × Int) × aV) : Bool := !Nat.beq e.1.1 126 || (Nat.beq e.1.2.1 0 && (Nat.blt (e.1.2.2.toNat % 550) 4 || (Nat.ble 245 (e.1.2.2.toNat % 550) && Nat.ble (e.1.2.2.toNat % 550) 262)))
noncomputable def a_rowstep {β : Type} (L : aL) (loc : Nat) (off a b : Int) (q : aQ) (f : aQ → Option β) : Option β := match a_lget L loc with
  | some v => a_rngK q.2.1 v (fun lo hi => cond (@decide (lo = hi) (a_decEqZ _ _) && @decide (0 ≤ lo + off) (a_decLe _ _)) (x_kN (lo + off).toNat (fun k => cond (Nat.blt k 277) (cond (Nat.beq (k % 16) 15) (a_dropO a_keepA q f) (f q)) (cond (Nat.blt 547 k || !Nat.beq ((k - 277) % 9) 0) (f q) (a_blk q L a (fun a => a_blk q L b (fun b => x_kN ((k - 277) / 9) (fun i => a_cov (30 * a) (31 * b + i) q (fun q => a_cov 0 (cond (Nat.beq b 0) (156 + cond (Nat.ble 30 i) 30 (i + 1)) 600) q (fun q => x_spine (a_flt (fun j => Nat.blt j (31 * b) || Nat.ble (31 * b + i) j) q.2.2.2.2) (fun fl => a_dropO a_keep126 (a_setF q fl) f)))))))))) none)
  | none => none
-- where companies stand: a copying of it; all 0; and so on the ground
def a_alR (b : Nat) : Nat := match b with
  | 5 => 127
  | _ => 126
def a_alB (b : Nat) : Nat := match b with
  | 5 => 0
  | b => 550 * b
def a_alP : List Nat := [0, 1, 245, 246, 247, 248, 249, 250, 257, 258, 259, 260, 261, 262]
def a_zeP : List Nat := [2445, 2446, 2447, 2448, 2449, 2450, 2457, 2458, 2459, 2460, 2461, 2462]
noncomputable def a_alls (p : Nat → Bool) (l : List Nat) : Bool := List.rec (motive := fun _ => Bool) true (fun i _ ih => p i && ih) l
noncomputable def a_atK {β : Type} (L : aL) (q : aQ) (loc : Nat) (k : Int) (f g : Unit → Option β) : Option β := match a_lget L loc with
  | some v => a_rngK q.2.1 v (fun lo hi => cond (@decide (lo = k) (a_decEqZ _ _) && @decide (hi = k) (a_decEqZ _ _)) (f ()) (g ()))
  | none => none
noncomputable def a_moveA {β : Type} (L : aL) (loc : Nat) (k a b : Int) (q : aQ) (f : aQ → Option β) : Option β := a_atK L q loc k (fun _ => a_blk q L a (fun a => a_blk q L b (fun b => cond (Nat.ble a 5 && (Nat.ble b 5 && (a_memN (345 + a) q.2.2.2.2 && (!a_memN (345 + b) q.2.2.2.2 && a_alls (fun i => a_eqV (a_oget q.2.2.2.1 (a_alR a) 0 (Int.ofNat (a_alB a + i))) (a_oget q.2.2.2.1 (a_alR b) 0 (Int.ofNat (a_alB b + i)))) a_alP)))) (x_kN (345 + b) (fun t => f (a_setF q (t :: q.2.2.2.2)))) (f q)))) (fun _ => f q)
noncomputable def a_zeroA {β : Type} (L : aL) (loc : Nat) (k : Int) (q : aQ) (f : aQ → Option β) : Option β := a_atK L q loc k (fun _ => cond (a_alls (fun i => match a_oget q.2.2.2.1 126 0 (Int.ofNat i) with
  | some v => a_isC v && @decide (v.2.2 = 0) (a_decEqZ _ _)
  | none => false) a_zeP) (f (a_setF q (352 :: q.2.2.2.2))) (f q)) (fun _ => f q)
noncomputable def a_zeA {β : Type} (q : aQ) (f : aQ → Option β) : Option β := cond (a_memN 352 q.2.2.2.2 && !a_memN 349 q.2.2.2.2) (f (a_setF q (349 :: q.2.2.2.2))) (f q)
-- up to place k: what is known of cell r is let go, but for what stands; behind it: all from place m on
noncomputable def a_keepR {β : Type} (L : aL) (loc : Nat) (k : Int) (r : Nat) (m : Int) (q : aQ) (f : aQ → Option β) : Option β := match a_lget L loc with
  | some v => a_rngK q.2.1 v (fun lo _ => cond (@decide (lo ≤ k) (a_decLe _ _)) (a_dropO (fun e => !Nat.beq e.1.1 r || (Nat.beq e.1.2.1 0 && (@decide (e.1.2.2 < 4) (a_decLt _ _) || (@decide (245 ≤ e.1.2.2) (a_decLe _ _) && @decide (e.1.2.2 ≤ 262) (a_decLe _ _))))) q f) (a_dropO (fun e => !Nat.beq e.1.1 r || (Nat.beq e.1.2.1 0 && @decide (e.1.2.2 < m) (a_decLt _ _))) q f))
  | none => none
-- a row is read: its kinds apart
noncomputable def a_kinds (vk : aV) (pay : Int → aQ → Option (List aS)) (L : aL) (S : List aV) (ks : List Int) : aQ → Option (List aS) := List.rec (motive := fun _ => aQ → Option (List aS)) (fun q => some [(q, L, S)]) (fun k _ ih q => a_br 2 q vk (0, 0, k) (pay k) ih) ks
noncomputable def a_rowb1 {β : Type} (r o : Nat) (m : Int) (q : aQ) (f : aQ → Option β) : Option β := cond (@decide (m < 0) (a_decLt _ _)) (f q) (a_newK 0 0 m q (fun q v => x_kN o (fun o => f (a_addO q ((r, 0, Int.ofNat o), v)))))
noncomputable def a_rowread (loc : Nat) (st : aS) : Option (List aS) := match a_lget st.2.1 loc with
  | some vw => a_rngK st.1.2.1 vw (fun lo hi => cond (@decide (lo = hi) (a_decEqZ _ _) && @decide (277 ≤ lo) (a_decLe _ _)) (x_kN ((lo.toNat - 277) / 9) (fun j => cond (Nat.beq lo.toNat (277 + 9 * j) && (Nat.blt j 30 && a_has st.1 j)) (x_kN lo.toNat (fun w => match a_oget st.1.2.2.2.1 126 0 (Int.ofNat w) with
    | some vk => a_kinds vk (fun k q => cond (@decide (k = 7) (a_decEqZ _ _)) (match a_oget q.2.2.2.1 126 0 (Int.ofNat (w + 6)) with
        | some vt => a_kinds vt (fun t q => a_rowb1 126 (w + 1) (a_nd0 7 t).1 q (fun q => a_rowb1 126 (w + 2) (a_nd0 7 t).2 q (fun q => some [(q, st.2.1, st.2.2)]))) st.2.1 st.2.2 [-1, 0, 1, 2] q
        | none => some [(q, st.2.1, st.2.2)]) (a_rowb1 126 (w + 1) (a_nd0 k 0).1 q (fun q => a_rowb1 126 (w + 2) (a_nd0 k 0).2 q (fun q => some [(q, st.2.1, st.2.2)])))) st.2.1 st.2.2 [0, 1, 2, 3, 4, 5, 6, 7, 8, 9] st.1
    | none => none)) none)) none)
  | none => none
noncomputable def a_bdK {β : Type} (v : aV) (m : Int) (q : aQ) (f : aQ → Option (List β)) : Option (List β) := cond (@decide (m < 0) (a_decLt _ _)) (f q) (a_leK q v (0, 0, m) 0 (fun q => a_leK q (0, 0, 0) v 0 f))
noncomputable def a_rowreadC (loc r0 : Nat) (o0 : Int) (st : aS) : Option (List aS) := match a_lget st.2.1 loc, a_oget st.1.2.2.2.1 r0 0 o0 with
  | some vi, some vo => cond (a_isC vo && @decide (0 ≤ vo.2.2) (a_decLe _ _)) (match a_ordI vo.2.2.toNat with
    | some o => cond (a_memN (217 + o) st.1.2.2.2.2) (a_rngK st.1.2.1 vi (fun lo hi => cond (@decide (0 ≤ lo) (a_decLe _ _) && @decide (hi < 60) (a_decLt _ _)) (a_idxK vi lo hi (fun s of => match a_oget st.1.2.2.2.1 (a_ord o + 1) s of, a_oget st.1.2.2.2.1 (a_ord o + 2) s of, a_oget st.1.2.2.2.1 (a_ord o + 3) s of with
      | some vk, some va, some vb => a_kinds vk (fun k q => a_bdK va (a_nd1 k).1 q (fun q => a_bdK vb (a_nd1 k).2 q (fun q => some [(q, st.2.1, st.2.2)]))) st.2.1 st.2.2 [0, 1, 2, 3, 4, 5, 6, 7, 8, 9, 10, 11, 12, 13, 14, 15, 16, 17, 18, 19, 20, 21] st.1
      | _, _, _ => none)) none)) none
    | none => none) none
  | _, _ => none
noncomputable def a_one1 (st : aS) (g : (aQ → Option (List aS)) → Option (List aS)) : Option (List aS) := g (fun q => some [(q, st.2.1, st.2.2)])
noncomputable def a_splitL (loc r0 : Nat) (o0 : Int) (d : Nat) (st : aS) : Option (List aS) := match a_lget st.2.1 loc, a_oget st.1.2.2.2.1 r0 0 o0 with
  | some vi, some v => a_rngK st.1.2.1 vi (fun lo hi => cond (@decide (lo = hi) (a_decEqZ _ _) && (@decide (0 ≤ lo) (a_decLe _ _) && Nat.beq v.1 0)) (x_kN lo.toNat (fun k => cond (Nat.beq (k % d) 0) (x_kZ (Int.ofNat (k / d + 1)) (fun b => a_splitR v st.2.1 st.2.2 [b] st.1)) (some [st]))) none)
  | _, _ => none
noncomputable def aLmR : aLm := fun k w bs st => match k, bs with
  | 2, [l] => a_rowread l.toNat st
  | 3, ts => a_one1 st (fun f => a_cover f ts st.1)
  | 4, [t, r, o] => a_one1 st (a_coverP t.toNat r.toNat o st.1)
  | 5, [t, l, m, d] => a_one1 st (a_coverL st.2.1 t.toNat l.toNat m.toNat d.toNat st.1)
  | 8, [l, r, o] => a_rowreadC l.toNat r.toNat o st
  | 10, [l, o, a, b] => a_one1 st (a_rowstep st.2.1 l.toNat o a b st.1)
  | 11, [j, n] => a_one1 st (a_dropF j.toNat n.toNat st.1)
  | 12, [l] => a_one1 st (a_openC st.2.1 l.toNat st.1)
  | 13, [a, b] => a_one1 st (a_moveC st.2.1 a.toNat b.toNat st.1)
  | 15, [a, b, c] => a_one1 st (a_derive st.2.1 a.toNat b.toNat c st.1)
  | 16, [r, lo, hi] => a_one1 st (a_dropO (fun e => !(Nat.beq e.1.1 r.toNat && (!Nat.beq e.1.2.1 0 || (@decide (lo ≤ e.1.2.2) (a_decLe _ _) && @decide (e.1.2.2 ≤ hi) (a_decLe _ _))))) st.1)
  | 17, r :: o :: js => a_one1 st (fun f => a_rebase r.toNat o st.1 f js)
  | 18, [l, k, a, b] => a_one1 st (a_moveA st.2.1 l.toNat k a b st.1)
  | 19, [l, k] => a_one1 st (a_zeroA st.2.1 l.toNat k st.1)
  | 20, [_] => a_one1 st (a_zeA st.1)
  | 21, [l, k, r, m] => a_one1 st (a_keepR st.2.1 l.toNat k r.toNat m st.1)
  | 29, [l, r, o, d] => a_splitL l.toNat r.toNat o d.toNat st
  | 0, _ => aLmS k w bs st
  | 1, _ => aLmS k w bs st
  | _, _ => none
/-! the walk once more, without cond and Decidable (wip/z/genq.py); that it comes to the same -/
noncomputable def aq_ordI (r : Nat) : Option Nat := (Bool.rec (motive := fun _ => _) ((Bool.rec (motive := fun _ => _) ((Bool.rec (motive := fun _ => _) ((Bool.rec (motive := fun _ => _) ((Bool.rec (motive := fun _ => _) ((Bool.rec (motive := fun _ => _) none (some 5) (Nat.beq r 95))) (some 4) (Nat.beq r 80))) (some 3) (Nat.beq r 65))) (some 2) (Nat.beq r 49))) (some 1) (Nat.beq r 34))) (some 0) (Nat.beq r 18))
theorem aq_ordI_e : @aq_ordI = @a_ordI := by
  delta aq_ordI
  try simp only [a_cqx]
  rfl
noncomputable def aq_rowK {β : Type} (j : Nat) (f : Nat → Nat → Nat → Nat → Nat → Nat → Nat → Option β) : Option β := (Bool.rec (motive := fun _ => _) (x_kN ((j - 160) % 60) (fun i => x_kN (a_ord ((j - 160) / 60)) (fun r => f (r + 1) i i (r + 2) i (r + 3) i))) (x_kN (550 * (j / 30) + 277 + 9 * (j % 30)) (fun w => f 126 w (w + 6) 126 (w + 1) 126 (w + 2))) (Nat.blt j 150))
theorem aq_rowK_e : @aq_rowK = @a_rowK := by
  delta aq_rowK
  try simp only [a_cqx]
  rfl
noncomputable def aq_nd0 (k t : Int) : Int × Int := (Bool.rec (motive := fun _ => _) ((Bool.rec (motive := fun _ => _) ((Bool.rec (motive := fun _ => _) ((Bool.rec (motive := fun _ => _) ((Bool.rec (motive := fun _ => _) ((Bool.rec (motive := fun _ => _) ((Bool.rec (motive := fun _ => _) (-1, -1) (99, -1) ((a_eqZ (k) (8))))) ((Bool.rec (motive := fun _ => _) ((Bool.rec (motive := fun _ => _) (-1, -1) (5, -1) ((a_eqZ (t) (1))))) (2, 47) ((a_eqZ (t) (0))))) ((a_eqZ (k) (7))))) (5, -1) ((a_eqZ (k) (5))))) (2, 12) ((a_eqZ (k) (4))))) (2, 2) ((a_eqZ (k) (3))))) (2, -1) ((a_eqZ (k) (1))))) (2, 47) ((Bool.rec (motive := fun _ => Bool) ((a_eqZ (k) (2))) true ((a_eqZ (k) (0))))))
theorem aq_nd0_e : @aq_nd0 = @a_nd0 := by
  delta aq_nd0
  simp only [a_eqZ_q, a_aq, a_oq, a_nq]
  try simp only [a_cqx]
  rfl
noncomputable def aq_nd1 (k : Int) : Int × Int := (Bool.rec (motive := fun _ => _) ((Bool.rec (motive := fun _ => _) ((Bool.rec (motive := fun _ => _) ((Bool.rec (motive := fun _ => _) ((Bool.rec (motive := fun _ => _) ((Bool.rec (motive := fun _ => _) (-1, -1) (99, -1) ((a_eqZ (k) (19))))) (5, -1) ((Bool.rec (motive := fun _ => Bool) ((a_eqZ (k) (17))) true ((a_eqZ (k) (13))))))) (2, 12) ((a_eqZ (k) (12))))) (2, 2) ((a_eqZ (k) (11))))) (2, -1) ((a_eqZ (k) (9))))) (2, 47) ((Bool.rec (motive := fun _ => Bool) (((Bool.rec (motive := fun _ => Bool) ((a_eqZ (k) (16))) true ((a_eqZ (k) (10)))))) true ((a_eqZ (k) (8))))))
theorem aq_nd1_e : @aq_nd1 = @a_nd1 := by
  delta aq_nd1
  simp only [a_eqZ_q, a_aq, a_oq, a_nq]
  try simp only [a_cqx]
  rfl
noncomputable def aq_fr (j : Nat) : Nat × Nat := (Bool.rec (motive := fun _ => _) ((Bool.rec (motive := fun _ => _) ((Bool.rec (motive := fun _ => _) ((Bool.rec (motive := fun _ => _) ((Bool.rec (motive := fun _ => _) ((Bool.rec (motive := fun _ => _) ((Bool.rec (motive := fun _ => _) (0, 0) (160 + (j - 284), 220) (Nat.blt j 345))) (160, 160 + (j - 223)) (Nat.blt j 284))) (160 + 60 * (j - 217), 220 + 60 * (j - 217)) (Nat.blt j 223))) (120 + (j - 187), 121 + (j - 187)) (Nat.blt j 217))) (j - 156, 30) (Nat.blt j 187))) (0, 0) (Nat.blt j 156))) (30 * (j / 31), 30 * (j / 31) + j % 31) (Nat.blt j 155))
theorem aq_fr_e : @aq_fr = @a_fr := by
  delta aq_fr
  try simp only [a_cqx]
  rfl
noncomputable def aq_okb (q : aQ) (r o : Nat) (m : Int) : Bool := cond ((a_ltZ (m) (0))) true (match aq_oget q.2.2.2.1 r 0 (Int.ofNat o) with
  | some v => (match aq_rngK q.2.1 v (fun lo hi => some ((Bool.rec (motive := fun _ => Bool) false ((a_leZ (hi) (m))) ((a_leZ (0) (lo)))))) with
    | some b => b
    | none => false)
  | none => false)
theorem aq_okb_e : @aq_okb = @a_okb := by
  delta aq_okb
  simp only [aq_rngK_e, aq_oget_e, a_leZ_q, a_ltZ_q, a_aq, a_oq, a_nq]
  rfl
noncomputable def aq_okR (q : aQ) (ra oa rb ob : Nat) (nd : Int × Int) : Bool := (Bool.rec (motive := fun _ => Bool) false (aq_okb q rb ob nd.2) (aq_okb q ra oa nd.1))
theorem aq_okR_e : @aq_okR = @a_okR := by
  delta aq_okR
  simp only [aq_okb_e, a_aq, a_oq, a_nq]
  rfl
noncomputable def aq_rgood (q : aQ) (j : Nat) : Bool := match aq_rowK j (fun rk ok ot ra oa rb ob => match aq_oget q.2.2.2.1 rk 0 (Int.ofNat ok) with
  | none => none
  | some vk => aq_rngK q.2.1 vk (fun lo hi => cond ((a_eqZ (lo) (hi))) (cond (Nat.blt j 150) (cond ((a_eqZ (lo) (7))) (match aq_oget q.2.2.2.1 rk 0 (Int.ofNat ot) with
    | none => none
    | some vt => aq_rngK q.2.1 vt (fun l2 h2 => cond ((a_eqZ (l2) (h2))) (some (aq_okR q ra oa rb ob (aq_nd0 7 l2))) none)) (some (aq_okR q ra oa rb ob (aq_nd0 lo 0)))) (some (aq_okR q ra oa rb ob (aq_nd1 lo)))) none)) with
  | some b => b
  | none => false
theorem aq_rgood_e : @aq_rgood = @a_rgood := by
  delta aq_rgood
  simp only [aq_rngK_e, aq_oget_e, aq_rowK_e, aq_nd0_e, aq_nd1_e, aq_okR_e, a_eqZ_q]
  rfl
noncomputable def aq_eqV (v w : Option aV) : Bool := match v, w with
  | some v, some w => (Bool.rec (motive := fun _ => Bool) false (((Bool.rec (motive := fun _ => Bool) false ((a_eqZ (v.2.2) (w.2.2))) (Nat.beq v.2.1 w.2.1)))) (Nat.beq v.1 w.1))
  | _, _ => false
theorem aq_eqV_e : @aq_eqV = @a_eqV := by
  delta aq_eqV
  simp only [a_eqZ_q, a_aq, a_oq, a_nq]
  rfl
noncomputable def aq_alike (q : aQ) (a b : Nat) : Bool := match aq_rowK a (fun rk ok ot ra oa rb ob => aq_rowK b (fun rk' ok' ot' ra' oa' rb' ob' => some ((Bool.rec (motive := fun _ => Bool) false (((Bool.rec (motive := fun _ => Bool) false (((Bool.rec (motive := fun _ => Bool) false (aq_eqV (aq_oget q.2.2.2.1 rb 0 (Int.ofNat ob)) (aq_oget q.2.2.2.1 rb' 0 (Int.ofNat ob'))) (aq_eqV (aq_oget q.2.2.2.1 ra 0 (Int.ofNat oa)) (aq_oget q.2.2.2.1 ra' 0 (Int.ofNat oa')))))) (aq_eqV (aq_oget q.2.2.2.1 rk 0 (Int.ofNat ot)) (aq_oget q.2.2.2.1 rk' 0 (Int.ofNat ot')))))) (aq_eqV (aq_oget q.2.2.2.1 rk 0 (Int.ofNat ok)) (aq_oget q.2.2.2.1 rk' 0 (Int.ofNat ok'))))))) with
  | some b => b
  | none => false
theorem aq_alike_e : @aq_alike = @a_alike := by
  delta aq_alike
  simp only [aq_oget_e, aq_rowK_e, aq_eqV_e, a_aq, a_oq, a_nq]
  rfl
noncomputable def aq_has (q : aQ) (x : Nat) : Bool := (Bool.rec (motive := fun _ => Bool) (((Bool.rec (motive := fun _ => Bool) false (((Bool.rec (motive := fun _ => Bool) false (((Bool.rec (motive := fun _ => Bool) false ((match aq_oget q.2.2.2.1 121 0 25 with
  | some v => (match aq_rngK q.2.1 v (fun lo _ => some ((a_ltZ ((x : Int) - 120) (lo)))) with
    | some b => b
    | none => false)
  | none => false)) (Nat.blt x 150)))) (Nat.ble 120 x)))) (aq_memN 155 q.2.2.2.2)))) true (aq_any (fun j => (Bool.rec (motive := fun _ => Bool) false (Nat.blt x (aq_fr j).2) (Nat.ble (aq_fr j).1 x))) q.2.2.2.2))
theorem aq_has_e : @aq_has = @a_has := by
  delta aq_has
  simp only [aq_rngK_e, aq_oget_e, aq_any_e, aq_memN_e, aq_fr_e, a_ltZ_q, a_aq, a_oq, a_nq]
  rfl
noncomputable def aq_allN (p : Nat → Bool) (j0 n : Nat) : Bool := Nat.rec (motive := fun _ => Bool) true (fun i ih => (Bool.rec (motive := fun _ => Bool) false (ih) (p (j0 + i)))) n
theorem aq_allN_e : @aq_allN = @a_allN := by
  delta aq_allN
  simp only [a_aq, a_oq, a_nq]
  rfl
noncomputable def aq_covR (q : aQ) (sr lo n : Nat) : Bool := aq_allN (fun x => (Bool.rec (motive := fun _ => Bool) (((Bool.rec (motive := fun _ => Bool) (((Bool.rec (motive := fun _ => Bool) false (((Bool.rec (motive := fun _ => Bool) false (aq_alike q (sr + (x - lo)) x) (aq_has q (sr + (x - lo)))))) (Nat.beq (rTau (sr + (x - lo))) (rTau x))))) true (aq_rgood q x)))) true (aq_has q x))) lo n
theorem aq_covR_e : @aq_covR = @a_covR := by
  delta aq_covR
  simp only [aq_rgood_e, aq_alike_e, aq_has_e, aq_allN_e, a_aq, a_oq, a_nq]
  rfl
noncomputable def aq_cov {β : Type} (sr t : Nat) (q : aQ) (f : aQ → Option β) : Option β := (Bool.rec (motive := fun _ => _) ((Bool.rec (motive := fun _ => _) ((Bool.rec (motive := fun _ => _) (f q) (x_kN (aq_fr t).1 (fun lo => x_kN ((aq_fr t).2 - lo) (fun n => (Bool.rec (motive := fun _ => _) (f q) (x_kN t (fun t => f (a_setF q (t :: q.2.2.2.2)))) (aq_covR q sr lo n))))) (Nat.blt t 345))) (match aq_oget q.2.2.2.1 121 0 25 with
    | some v => aq_rngK q.2.1 v (fun _ hi => (Bool.rec (motive := fun _ => _) (f q) (f (a_setF q (155 :: q.2.2.2.2))) ((Bool.rec (motive := fun _ => Bool) false (aq_covR q 120 120 hi.toNat) ((a_leZ (hi) (30)))))))
    | none => f q) (Nat.beq t 155))) (f q) (aq_memN t q.2.2.2.2))
theorem aq_cov_e : @aq_cov = @a_cov := by
  delta aq_cov
  simp only [aq_rngK_e, aq_oget_e, aq_memN_e, aq_fr_e, aq_covR_e, a_leZ_q, a_aq, a_oq, a_nq]
  try simp only [a_cqx]
  rfl
noncomputable def aq_cover {β : Type} (f : aQ → Option β) (ts : List Int) : aQ → Option β := List.rec (motive := fun _ => aQ → Option β) f (fun t _ ih q => aq_cov (aq_fr t.toNat).1 t.toNat q ih) ts
theorem aq_cover_e : @aq_cover = @a_cover := by
  delta aq_cover
  simp only [aq_fr_e, aq_cov_e]
  rfl
noncomputable def aq_coverP {β : Type} (t r : Nat) (o : Int) (q : aQ) (f : aQ → Option β) : Option β := match aq_oget q.2.2.2.1 r 0 o with
  | some v => aq_rngK q.2.1 v (fun lo hi => (Bool.rec (motive := fun _ => _) (f q) (x_kN (t + lo.toNat) (fun t => aq_cov (aq_fr t).1 t q f)) ((Bool.rec (motive := fun _ => Bool) false ((a_leZ (0) (lo))) ((a_eqZ (lo) (hi)))))))
  | none => f q
theorem aq_coverP_e : @aq_coverP = @a_coverP := by
  delta aq_coverP
  simp only [aq_rngK_e, aq_oget_e, aq_fr_e, aq_cov_e, a_leZ_q, a_eqZ_q, a_aq, a_oq, a_nq]
  try simp only [a_cqx]
  rfl
noncomputable def aq_coverL {β : Type} (L : aL) (t loc m d : Nat) (q : aQ) (f : aQ → Option β) : Option β := match aq_lget L loc with
  | some v => aq_rngK q.2.1 v (fun lo hi => (Bool.rec (motive := fun _ => _) (f q) (x_kN (t + (lo.toNat - m) / d) (fun t => aq_cov (aq_fr t).1 t q f)) ((Bool.rec (motive := fun _ => Bool) false ((a_leZ (0) (lo))) ((a_eqZ (lo) (hi)))))))
  | none => f q
theorem aq_coverL_e : @aq_coverL = @a_coverL := by
  delta aq_coverL
  simp only [aq_rngK_e, aq_lget_e, aq_fr_e, aq_cov_e, a_leZ_q, a_eqZ_q, a_aq, a_oq, a_nq]
  try simp only [a_cqx]
  rfl
noncomputable def aq_dropF {β : Type} (j0 n : Nat) (q : aQ) (f : aQ → Option β) : Option β := x_spine (aq_flt (fun j => (Bool.rec (motive := fun _ => Bool) (Nat.ble (j0 + n) j) true (Nat.blt j j0))) q.2.2.2.2) (fun fl => f (a_setF q fl))
theorem aq_dropF_e : @aq_dropF = @a_dropF := by
  delta aq_dropF
  simp only [aq_flt_e, a_aq, a_oq, a_nq]
  rfl
noncomputable def aq_dropO {β : Type} (p : (Nat × Nat × Int) × aV → Bool) (q : aQ) (f : aQ → Option β) : Option β := x_spine (aq_flt p q.2.2.2.1) (fun O => f (a_setO q O))
theorem aq_dropO_e : @aq_dropO = @a_dropO := by
  delta aq_dropO
  simp only [aq_flt_e]
  rfl
noncomputable def aq_readAK {β : Type} (r : Nat) (f : aQ → Option β) (n : Nat) : aQ → Option β := Nat.rec (motive := fun _ => aQ → Option β) f (fun i ih q => match aq_oget q.2.2.2.1 r 0 (Int.ofNat i) with
  | some _ => ih q
  | none => x_kN (q.1 + 1) (fun n => x_kN i (fun i => ih (n, q.2.1, q.2.2.1, ((r, 0, Int.ofNat i), (0, n, 0)) :: q.2.2.2.1, q.2.2.2.2)))) n
theorem aq_readAK_e : @aq_readAK = @a_readAK := by
  delta aq_readAK
  simp only [aq_oget_e]
  rfl
noncomputable def aq_ofR {β : Type} (L : aL) (loc : Nat) (f : Nat → Option β) : Option β := match aq_lget L loc with
  | some v => (Bool.rec (motive := fun _ => _) none (match aq_ordI v.2.2.toNat with
    | some o => f o
    | none => none) ((Bool.rec (motive := fun _ => Bool) false (((Bool.rec (motive := fun _ => Bool) false ((a_leZ (0) (v.2.2))) (a_isC v)))) (Nat.beq v.1 2))))
  | none => none
theorem aq_ofR_e : @aq_ofR = @a_ofR := by
  delta aq_ofR
  simp only [aq_lget_e, aq_ordI_e, a_leZ_q, a_aq, a_oq, a_nq]
  try simp only [a_cqx]
  rfl
noncomputable def aq_openC {β : Type} (L : aL) (loc : Nat) (q : aQ) (f : aQ → Option β) : Option β := aq_ofR L loc (fun o => (Bool.rec (motive := fun _ => _) (f q) (aq_readAK (a_ord o + 1) (aq_readAK (a_ord o + 2) (aq_readAK (a_ord o + 3) f 60) 60) 60 q) (aq_memN (217 + o) q.2.2.2.2)))
theorem aq_openC_e : @aq_openC = @a_openC := by
  delta aq_openC
  simp only [aq_memN_e, aq_readAK_e, aq_ofR_e]
  try simp only [a_cqx]
  rfl
noncomputable def aq_moveC {β : Type} (L : aL) (l0 l1 : Nat) (q : aQ) (f : aQ → Option β) : Option β := aq_ofR L l0 (fun a => aq_ofR L l1 (fun b => aq_cov (160 + 60 * a) (217 + b) q (fun q => aq_dropO (fun e => (Bool.rec (motive := fun _ => Bool) true false (((Bool.rec (motive := fun _ => Bool) (((Bool.rec (motive := fun _ => Bool) (((Bool.rec (motive := fun _ => Bool) (((Bool.rec (motive := fun _ => Bool) (((Bool.rec (motive := fun _ => Bool) (Nat.beq e.1.1 (a_ord b + 3)) true (Nat.beq e.1.1 (a_ord b + 2))))) true (Nat.beq e.1.1 (a_ord b + 1))))) true (Nat.beq e.1.1 (a_ord a + 3))))) true (Nat.beq e.1.1 (a_ord a + 2))))) true (Nat.beq e.1.1 (a_ord a + 1))))))) q f)))
theorem aq_moveC_e : @aq_moveC = @a_moveC := by
  delta aq_moveC
  simp only [aq_cov_e, aq_dropO_e, aq_ofR_e, a_aq, a_oq, a_nq]
  rfl
noncomputable def aq_derive {β : Type} (L : aL) (l0 l1 : Nat) (c : Int) (q : aQ) (f : aQ → Option β) : Option β := match aq_lget L l0, aq_lget L l1 with
  | some (_, i + 1, o), some (_, i' + 1, o') => (Bool.rec (motive := fun _ => _) (f q) (x_kZ (c - o - o') (fun b => f (a_fact q ([(1, i), (1, i')], b)))) ((Bool.rec (motive := fun _ => Bool) false (aq_ent q.2.1 q.2.2.1 3 [(1, i), (1, i')] (c - o - o')) ((Bool.rec (motive := fun _ => Bool) true false (Nat.beq i i'))))))
  | some _, some _ => f q
  | _, _ => none
theorem aq_derive_e : @aq_derive = @a_derive := by
  delta aq_derive
  simp only [aq_ent_e, aq_lget_e, a_aq, a_oq, a_nq]
  try simp only [a_cqx]
  rfl
noncomputable def aq_rebase {β : Type} (r : Nat) (o : Int) (q : aQ) (f : aQ → Option β) (js : List Int) : Option β := match aq_oget q.2.2.2.1 r 0 o with
  | some (_, i + 1, c) => List.rec (motive := fun _ => aQ → Option β) f (fun j _ ih q => x_kN j.toNat (fun j => (Bool.rec (motive := fun _ => _) ((Bool.rec (motive := fun _ => _) ((Bool.rec (motive := fun _ => _) (ih q) (x_kZ (0 + c) (fun b => ih (a_fact q ([(1, j), (-1, i)], b)))) (aq_ent q.2.1 q.2.2.1 3 [(1, j), (-1, i)] (0 + c)))) (x_kZ (-1 + c) (fun b => ih (a_fact q ([(1, j), (-1, i)], b)))) (aq_ent q.2.1 q.2.2.1 3 [(1, j), (-1, i)] (-1 + c)))) (ih q) ((Bool.rec (motive := fun _ => Bool) ((Bool.rec (motive := fun _ => Bool) true false (Nat.blt j q.1))) true (Nat.beq j i)))))) js q
  | _ => f q
theorem aq_rebase_e : @aq_rebase = @a_rebase := by
  delta aq_rebase
  simp only [aq_ent_e, aq_oget_e, a_aq, a_oq, a_nq]
  try simp only [a_cqx]
  rfl
noncomputable def aq_blk {β : Type} (q : aQ) (L : aL) (x : Int) (f : Nat → Option β) : Option β := (Bool.rec (motive := fun _ => _) (match aq_lget L x.toNat with
  | some v => aq_rngK q.2.1 v (fun lo hi => (Bool.rec (motive := fun _ => _) none (x_kN lo.toNat f) ((Bool.rec (motive := fun _ => Bool) false ((a_leZ (0) (lo))) ((a_eqZ (lo) (hi)))))))
  | none => none) (x_kN (-1 - x).toNat f) ((a_ltZ (x) (0))))
theorem aq_blk_e : @aq_blk = @a_blk := by
  delta aq_blk
  simp only [aq_rngK_e, aq_lget_e, a_leZ_q, a_ltZ_q, a_eqZ_q, a_aq, a_oq, a_nq]
  try simp only [a_cqx]
  rfl
noncomputable def aq_keep126 (e : (Nat × Nat × Int) × aV) : Bool := (Bool.rec (motive := fun _ => Bool) (((Bool.rec (motive := fun _ => Bool) false (Nat.blt (e.1.2.2.toNat % 550) 4) (Nat.beq e.1.2.1 0)))) true ((Bool.rec (motive := fun _ => Bool) true false (Nat.beq e.1.1 126))))
theorem aq_keep126_e : @aq_keep126 = @a_keep126 := by
  delta aq_keep126
  simp only [a_aq, a_oq, a_nq]
  rfl
noncomputable def aq_keepA (e : (Nat × Nat × Int) × aV) : Bool := (Bool.rec (motive := fun _ => Bool) (((Bool.rec (motive := fun _ => Bool) false (((Bool.rec (motive := fun _ => Bool) (((Bool.rec (motive := fun _ => Bool) false (Nat.ble (e.1.2.2.toNat % 550) 262) (Nat.ble 245 (e.1.2.2.toNat % 550))))) true (Nat.blt (e.1.2.2.toNat % 550) 4)))) (Nat.beq e.1.2.1 0)))) true ((Bool.rec (motive := fun _ => Bool) true false (Nat.beq e.1.1 126))))
theorem aq_keepA_e : @aq_keepA = @a_keepA := by
  delta aq_keepA
  simp only [a_aq, a_oq, a_nq]
  rfl
noncomputable def aq_rowstep {β : Type} (L : aL) (loc : Nat) (off a b : Int) (q : aQ) (f : aQ → Option β) : Option β := match aq_lget L loc with
  | some v => aq_rngK q.2.1 v (fun lo hi => (Bool.rec (motive := fun _ => _) none (x_kN (lo + off).toNat (fun k => (Bool.rec (motive := fun _ => _) ((Bool.rec (motive := fun _ => _) (aq_blk q L a (fun a => aq_blk q L b (fun b => x_kN ((k - 277) / 9) (fun i => aq_cov (30 * a) (31 * b + i) q (fun q => aq_cov 0 ((Bool.rec (motive := fun _ => _) 600 (156 + cond (Nat.ble 30 i) 30 (i + 1)) (Nat.beq b 0))) q (fun q => x_spine (aq_flt (fun j => (Bool.rec (motive := fun _ => Bool) (Nat.ble (31 * b + i) j) true (Nat.blt j (31 * b)))) q.2.2.2.2) (fun fl => aq_dropO aq_keep126 (a_setF q fl) f))))))) (f q) ((Bool.rec (motive := fun _ => Bool) ((Bool.rec (motive := fun _ => Bool) true false (Nat.beq ((k - 277) % 9) 0))) true (Nat.blt 547 k))))) ((Bool.rec (motive := fun _ => _) (f q) (aq_dropO aq_keepA q f) (Nat.beq (k % 16) 15))) (Nat.blt k 277)))) ((Bool.rec (motive := fun _ => Bool) false ((a_leZ (0) (lo + off))) ((a_eqZ (lo) (hi)))))))
  | none => none
theorem aq_rowstep_e : @aq_rowstep = @a_rowstep := by
  delta aq_rowstep
  simp only [aq_rngK_e, aq_flt_e, aq_lget_e, aq_cov_e, aq_dropO_e, aq_blk_e, aq_keep126_e, aq_keepA_e, a_leZ_q, a_eqZ_q, a_aq, a_oq, a_nq]
  try simp only [a_cqx]
  rfl
noncomputable def aq_alls (p : Nat → Bool) (l : List Nat) : Bool := List.rec (motive := fun _ => Bool) true (fun i _ ih => (Bool.rec (motive := fun _ => Bool) false (ih) (p i))) l
theorem aq_alls_e : @aq_alls = @a_alls := by
  delta aq_alls
  simp only [a_aq, a_oq, a_nq]
  rfl
noncomputable def aq_atK {β : Type} (L : aL) (q : aQ) (loc : Nat) (k : Int) (f g : Unit → Option β) : Option β := match aq_lget L loc with
  | some v => aq_rngK q.2.1 v (fun lo hi => (Bool.rec (motive := fun _ => _) (g ()) (f ()) ((Bool.rec (motive := fun _ => Bool) false ((a_eqZ (hi) (k))) ((a_eqZ (lo) (k)))))))
  | none => none
theorem aq_atK_e : @aq_atK = @a_atK := by
  delta aq_atK
  simp only [aq_rngK_e, aq_lget_e, a_eqZ_q, a_aq, a_oq, a_nq]
  try simp only [a_cqx]
  rfl
noncomputable def aq_moveA {β : Type} (L : aL) (loc : Nat) (k a b : Int) (q : aQ) (f : aQ → Option β) : Option β := aq_atK L q loc k (fun _ => aq_blk q L a (fun a => aq_blk q L b (fun b => (Bool.rec (motive := fun _ => _) (f q) (x_kN (345 + b) (fun t => f (a_setF q (t :: q.2.2.2.2)))) ((Bool.rec (motive := fun _ => Bool) false (((Bool.rec (motive := fun _ => Bool) false (((Bool.rec (motive := fun _ => Bool) false (((Bool.rec (motive := fun _ => Bool) false (aq_alls (fun i => aq_eqV (aq_oget q.2.2.2.1 (a_alR a) 0 (Int.ofNat (a_alB a + i))) (aq_oget q.2.2.2.1 (a_alR b) 0 (Int.ofNat (a_alB b + i)))) a_alP) ((Bool.rec (motive := fun _ => Bool) true false (aq_memN (345 + b) q.2.2.2.2)))))) (aq_memN (345 + a) q.2.2.2.2)))) (Nat.ble b 5)))) (Nat.ble a 5))))))) (fun _ => f q)
theorem aq_moveA_e : @aq_moveA = @a_moveA := by
  delta aq_moveA
  simp only [aq_oget_e, aq_memN_e, aq_eqV_e, aq_blk_e, aq_alls_e, aq_atK_e, a_aq, a_oq, a_nq]
  try simp only [a_cqx]
  rfl
noncomputable def aq_zeroA {β : Type} (L : aL) (loc : Nat) (k : Int) (q : aQ) (f : aQ → Option β) : Option β := aq_atK L q loc k (fun _ => (Bool.rec (motive := fun _ => _) (f q) (f (a_setF q (352 :: q.2.2.2.2))) (aq_alls (fun i => match aq_oget q.2.2.2.1 126 0 (Int.ofNat i) with
  | some v => (Bool.rec (motive := fun _ => Bool) false ((a_eqZ (v.2.2) (0))) (a_isC v))
  | none => false) a_zeP))) (fun _ => f q)
theorem aq_zeroA_e : @aq_zeroA = @a_zeroA := by
  delta aq_zeroA
  simp only [aq_oget_e, aq_alls_e, aq_atK_e, a_eqZ_q, a_aq, a_oq, a_nq]
  try simp only [a_cqx]
  rfl
noncomputable def aq_zeA {β : Type} (q : aQ) (f : aQ → Option β) : Option β := (Bool.rec (motive := fun _ => _) (f q) (f (a_setF q (349 :: q.2.2.2.2))) ((Bool.rec (motive := fun _ => Bool) false ((Bool.rec (motive := fun _ => Bool) true false (aq_memN 349 q.2.2.2.2))) (aq_memN 352 q.2.2.2.2))))
theorem aq_zeA_e : @aq_zeA = @a_zeA := by
  delta aq_zeA
  simp only [aq_memN_e, a_aq, a_oq, a_nq]
  try simp only [a_cqx]
  rfl
noncomputable def aq_keepR {β : Type} (L : aL) (loc : Nat) (k : Int) (r : Nat) (m : Int) (q : aQ) (f : aQ → Option β) : Option β := match aq_lget L loc with
  | some v => aq_rngK q.2.1 v (fun lo _ => (Bool.rec (motive := fun _ => _) (aq_dropO (fun e => (Bool.rec (motive := fun _ => Bool) (((Bool.rec (motive := fun _ => Bool) false ((a_ltZ (e.1.2.2) (m))) (Nat.beq e.1.2.1 0)))) true ((Bool.rec (motive := fun _ => Bool) true false (Nat.beq e.1.1 r))))) q f) (aq_dropO (fun e => (Bool.rec (motive := fun _ => Bool) (((Bool.rec (motive := fun _ => Bool) false (((Bool.rec (motive := fun _ => Bool) (((Bool.rec (motive := fun _ => Bool) false ((a_leZ (e.1.2.2) (262))) ((a_leZ (245) (e.1.2.2)))))) true ((a_ltZ (e.1.2.2) (4)))))) (Nat.beq e.1.2.1 0)))) true ((Bool.rec (motive := fun _ => Bool) true false (Nat.beq e.1.1 r))))) q f) ((a_leZ (lo) (k)))))
  | none => none
theorem aq_keepR_e : @aq_keepR = @a_keepR := by
  delta aq_keepR
  simp only [aq_rngK_e, aq_lget_e, aq_dropO_e, a_leZ_q, a_ltZ_q, a_aq, a_oq, a_nq]
  try simp only [a_cqx]
  rfl
noncomputable def aq_kinds (vk : aV) (pay : Int → aQ → Option (List aS)) (L : aL) (S : List aV) (ks : List Int) : aQ → Option (List aS) := List.rec (motive := fun _ => aQ → Option (List aS)) (fun q => some [(q, L, S)]) (fun k _ ih q => aq_br 2 q vk (0, 0, k) (pay k) ih) ks
theorem aq_kinds_e : @aq_kinds = @a_kinds := by
  delta aq_kinds
  simp only [aq_br_e]
  rfl
noncomputable def aq_rowb1 {β : Type} (r o : Nat) (m : Int) (q : aQ) (f : aQ → Option β) : Option β := (Bool.rec (motive := fun _ => _) (a_newK 0 0 m q (fun q v => x_kN o (fun o => f (a_addO q ((r, 0, Int.ofNat o), v))))) (f q) ((a_ltZ (m) (0))))
theorem aq_rowb1_e : @aq_rowb1 = @a_rowb1 := by
  delta aq_rowb1
  simp only [a_ltZ_q]
  try simp only [a_cqx]
  rfl
noncomputable def aq_rowread (loc : Nat) (st : aS) : Option (List aS) := match aq_lget st.2.1 loc with
  | some vw => aq_rngK st.1.2.1 vw (fun lo hi => (Bool.rec (motive := fun _ => _) none (x_kN ((lo.toNat - 277) / 9) (fun j => (Bool.rec (motive := fun _ => _) none (x_kN lo.toNat (fun w => match aq_oget st.1.2.2.2.1 126 0 (Int.ofNat w) with
    | some vk => aq_kinds vk (fun k q => (Bool.rec (motive := fun _ => _) (aq_rowb1 126 (w + 1) (aq_nd0 k 0).1 q (fun q => aq_rowb1 126 (w + 2) (aq_nd0 k 0).2 q (fun q => some [(q, st.2.1, st.2.2)]))) (match aq_oget q.2.2.2.1 126 0 (Int.ofNat (w + 6)) with
        | some vt => aq_kinds vt (fun t q => aq_rowb1 126 (w + 1) (aq_nd0 7 t).1 q (fun q => aq_rowb1 126 (w + 2) (aq_nd0 7 t).2 q (fun q => some [(q, st.2.1, st.2.2)]))) st.2.1 st.2.2 [-1, 0, 1, 2] q
        | none => some [(q, st.2.1, st.2.2)]) ((a_eqZ (k) (7))))) st.2.1 st.2.2 [0, 1, 2, 3, 4, 5, 6, 7, 8, 9] st.1
    | none => none)) ((Bool.rec (motive := fun _ => Bool) false (((Bool.rec (motive := fun _ => Bool) false (aq_has st.1 j) (Nat.blt j 30)))) (Nat.beq lo.toNat (277 + 9 * j))))))) ((Bool.rec (motive := fun _ => Bool) false ((a_leZ (277) (lo))) ((a_eqZ (lo) (hi)))))))
  | none => none
theorem aq_rowread_e : @aq_rowread = @a_rowread := by
  delta aq_rowread
  simp only [aq_rngK_e, aq_oget_e, aq_lget_e, aq_nd0_e, aq_has_e, aq_kinds_e, aq_rowb1_e, a_leZ_q, a_eqZ_q, a_aq, a_oq, a_nq]
  try simp only [a_cqx]
  rfl
noncomputable def aq_bdK {β : Type} (v : aV) (m : Int) (q : aQ) (f : aQ → Option (List β)) : Option (List β) := (Bool.rec (motive := fun _ => _) (aq_leK q v (0, 0, m) 0 (fun q => aq_leK q (0, 0, 0) v 0 f)) (f q) ((a_ltZ (m) (0))))
theorem aq_bdK_e : @aq_bdK = @a_bdK := by
  delta aq_bdK
  simp only [aq_leK_e, a_ltZ_q]
  try simp only [a_cqx]
  rfl
noncomputable def aq_rowreadC (loc r0 : Nat) (o0 : Int) (st : aS) : Option (List aS) := match aq_lget st.2.1 loc, aq_oget st.1.2.2.2.1 r0 0 o0 with
  | some vi, some vo => (Bool.rec (motive := fun _ => _) none (match aq_ordI vo.2.2.toNat with
    | some o => (Bool.rec (motive := fun _ => _) none (aq_rngK st.1.2.1 vi (fun lo hi => (Bool.rec (motive := fun _ => _) none (aq_idxK vi lo hi (fun s of => match aq_oget st.1.2.2.2.1 (a_ord o + 1) s of, aq_oget st.1.2.2.2.1 (a_ord o + 2) s of, aq_oget st.1.2.2.2.1 (a_ord o + 3) s of with
      | some vk, some va, some vb => aq_kinds vk (fun k q => aq_bdK va (aq_nd1 k).1 q (fun q => aq_bdK vb (aq_nd1 k).2 q (fun q => some [(q, st.2.1, st.2.2)]))) st.2.1 st.2.2 [0, 1, 2, 3, 4, 5, 6, 7, 8, 9, 10, 11, 12, 13, 14, 15, 16, 17, 18, 19, 20, 21] st.1
      | _, _, _ => none)) ((Bool.rec (motive := fun _ => Bool) false ((a_ltZ (hi) (60))) ((a_leZ (0) (lo)))))))) (aq_memN (217 + o) st.1.2.2.2.2))
    | none => none) ((Bool.rec (motive := fun _ => Bool) false ((a_leZ (0) (vo.2.2))) (a_isC vo))))
  | _, _ => none
theorem aq_rowreadC_e : @aq_rowreadC = @a_rowreadC := by
  delta aq_rowreadC
  simp only [aq_rngK_e, aq_oget_e, aq_lget_e, aq_idxK_e, aq_memN_e, aq_ordI_e, aq_nd1_e, aq_kinds_e, aq_bdK_e, a_leZ_q, a_ltZ_q, a_aq, a_oq, a_nq]
  try simp only [a_cqx]
  rfl
noncomputable def aq_splitL (loc r0 : Nat) (o0 : Int) (d : Nat) (st : aS) : Option (List aS) := match aq_lget st.2.1 loc, aq_oget st.1.2.2.2.1 r0 0 o0 with
  | some vi, some v => aq_rngK st.1.2.1 vi (fun lo hi => (Bool.rec (motive := fun _ => _) none (x_kN lo.toNat (fun k => (Bool.rec (motive := fun _ => _) (some [st]) (x_kZ (Int.ofNat (k / d + 1)) (fun b => aq_splitR v st.2.1 st.2.2 [b] st.1)) (Nat.beq (k % d) 0)))) ((Bool.rec (motive := fun _ => Bool) false (((Bool.rec (motive := fun _ => Bool) false (Nat.beq v.1 0) ((a_leZ (0) (lo)))))) ((a_eqZ (lo) (hi)))))))
  | _, _ => none
theorem aq_splitL_e : @aq_splitL = @a_splitL := by
  delta aq_splitL
  simp only [aq_rngK_e, aq_oget_e, aq_lget_e, aq_splitR_e, a_leZ_q, a_eqZ_q, a_aq, a_oq, a_nq]
  try simp only [a_cqx]
  rfl
noncomputable def aqLmR : aLm := fun k w bs st => match k, bs with
  | 2, [l] => aq_rowread l.toNat st
  | 3, ts => a_one1 st (fun f => aq_cover f ts st.1)
  | 4, [t, r, o] => a_one1 st (aq_coverP t.toNat r.toNat o st.1)
  | 5, [t, l, m, d] => a_one1 st (aq_coverL st.2.1 t.toNat l.toNat m.toNat d.toNat st.1)
  | 8, [l, r, o] => aq_rowreadC l.toNat r.toNat o st
  | 10, [l, o, a, b] => a_one1 st (aq_rowstep st.2.1 l.toNat o a b st.1)
  | 11, [j, n] => a_one1 st (aq_dropF j.toNat n.toNat st.1)
  | 12, [l] => a_one1 st (aq_openC st.2.1 l.toNat st.1)
  | 13, [a, b] => a_one1 st (aq_moveC st.2.1 a.toNat b.toNat st.1)
  | 15, [a, b, c] => a_one1 st (aq_derive st.2.1 a.toNat b.toNat c st.1)
  | 16, [r, lo, hi] => a_one1 st (aq_dropO (fun e => (Bool.rec (motive := fun _ => Bool) true false (((Bool.rec (motive := fun _ => Bool) false (((Bool.rec (motive := fun _ => Bool) (((Bool.rec (motive := fun _ => Bool) false ((a_leZ (e.1.2.2) (hi))) ((a_leZ (lo) (e.1.2.2)))))) true ((Bool.rec (motive := fun _ => Bool) true false (Nat.beq e.1.2.1 0)))))) (Nat.beq e.1.1 r.toNat)))))) st.1)
  | 17, r :: o :: js => a_one1 st (fun f => aq_rebase r.toNat o st.1 f js)
  | 18, [l, k, a, b] => a_one1 st (aq_moveA st.2.1 l.toNat k a b st.1)
  | 19, [l, k] => a_one1 st (aq_zeroA st.2.1 l.toNat k st.1)
  | 20, [_] => a_one1 st (aq_zeA st.1)
  | 21, [l, k, r, m] => a_one1 st (aq_keepR st.2.1 l.toNat k r.toNat m st.1)
  | 29, [l, r, o, d] => aq_splitL l.toNat r.toNat o d.toNat st
  | 0, _ => aLmS k w bs st
  | 1, _ => aLmS k w bs st
  | _, _ => none
theorem aqLmR_e : @aqLmR = @aLmR := by
  delta aqLmR
  simp only [aq_cover_e, aq_coverP_e, aq_coverL_e, aq_dropF_e, aq_dropO_e, aq_openC_e, aq_moveC_e, aq_derive_e, aq_rebase_e, aq_rowstep_e, aq_moveA_e, aq_zeroA_e, aq_zeA_e, aq_keepR_e, aq_rowread_e, aq_rowreadC_e, aq_splitL_e, a_leZ_q, a_aq, a_oq, a_nq]
  rfl
end
section
/-! the hints of rows hold -/
def aThen {β : Type} (X : aX) (ρ : Nat → Int) (q : aQ) (h : zH) (f : aQ → Option β) (r : β) : Prop := ∃ q' ρ', f q' = some r ∧ aAg ρ ρ' q.1 ∧ q.1 ≤ q'.1 ∧ aDen X ρ' q' h
section TH
variable {β : Type} {X : aX} {ρ : Nat → Int} {q : aQ} {h : zH} {f : aQ → Option β} {r : β}
theorem aThen.here (hr : f q = some r) (g : aDen X ρ q h) : aThen X ρ q h f r := ⟨q, ρ, hr, aAg.refl _ _, Nat.le_refl _, g⟩
theorem aThen.same {q1 : aQ} (hr : f q1 = some r) (hq : q1.1 = q.1) (g : aDen X ρ q1 h) : aThen X ρ q h f r := ⟨q1, ρ, hr, aAg.refl _ _, Nat.le_of_eq hq.symm, g⟩
theorem aThen.bind {g : aQ → Option β} (h1 : aThen X ρ q h g r) (h2 : ∀ q' ρ', g q' = some r → aDen X ρ' q' h → aThen X ρ' q' h f r) : aThen X ρ q h f r := by
  obtain ⟨q', ρ', e1, e2, e3, e4⟩ := h1
  obtain ⟨q2, ρ2, d1, d2, d3, d4⟩ := h2 q' ρ' e1 e4
  exact ⟨q2, ρ2, d1, e2.trans d2 e3, Nat.le_trans e3 d3, d4⟩
theorem aDen.setF (g : aDen X ρ q h) {fl : List Nat} (hf : ∀ j ∈ fl, X.2.2.1 j h) : aDen X ρ (a_setF q fl) h := ⟨g.1, g.2.1, g.2.2.1, hf, g.2.2.2.2⟩
theorem aDen.setO (g : aDen X ρ q h) {O : aO} (hO : aOv ρ q.1 O h) : aDen X ρ (a_setO q O) h := ⟨g.1, g.2.1, hO, g.2.2.2.1, g.2.2.2.2⟩
theorem a_ogetN (g : aDen X ρ q h) {r o : Nat} {v : aV} (hv : a_oget q.2.2.2.1 r 0 (Int.ofNat o) = some v) : aR ρ q.1 v (h r o) := (a_oget_ok g.2.2.1 hv).2
theorem a_okb_ok (g : aDen X ρ q h) {r o : Nat} {m : Int} (hb : a_okb q r o m = true) : rB m (h r o).2 := by
  intro hm
  unfold a_okb at hb
  rw [show @decide (m < 0) (a_decLt _ _) = false from a_decN (by omega)] at hb
  have hb : (match a_oget q.2.2.2.1 r 0 (Int.ofNat o) with
    | some v => (match a_rngK q.2.1 v (fun lo hi => some (@decide (0 ≤ lo) (a_decLe _ _) && @decide (hi ≤ m) (a_decLe _ _))) with
      | some b => b
      | none => false)
    | none => false) = true := hb
  split at hb
  · rename_i v hv
    have hR := a_ogetN g hv
    split at hb
    · rename_i b hk
      obtain ⟨lo, hi, k1, k2, k3⟩ := a_rngK_ok hk g.1.1
      cases k1
      rw [Bool.and_eq_true, a_dec_eq, a_dec_eq] at hb
      rw [← aR_val hR] at k2 k3
      omega
    · cases hb
  · cases hb
theorem a_okR_ok (g : aDen X ρ q h) {ra oa rb ob : Nat} {nd : Int × Int} (hb : a_okR q ra oa rb ob nd = true) : rB nd.1 (h ra oa).2 ∧ rB nd.2 (h rb ob).2 := by
  unfold a_okR at hb
  rw [Bool.and_eq_true] at hb
  exact ⟨a_okb_ok g hb.1, a_okb_ok g hb.2⟩
theorem a_rgood_ok (g : aDen X ρ q h) {j : Nat} (hb : a_rgood q j = true) : rOK j h := by
  unfold a_rgood at hb
  rw [a_rowK_eq] at hb
  split at hb
  · rename_i b hk
    subst hb
    split at hk
    · cases hk
    · rename_i vk hv
      have hR := a_ogetN g hv
      obtain ⟨lo, hi, hk, k2, k3⟩ := a_rngK_ok hk g.1.1
      rw [← aR_val hR] at k2 k3
      rcases x_condT hk with ⟨e, hk⟩ | ⟨-, hk⟩
      · rw [a_dec_eq] at e
        have ek : (h (rPl j).1 (rPl j).2.1).2 = lo := by omega
        unfold rOK
        rw [ek]
        rcases x_condT hk with ⟨e1, hk⟩ | ⟨e1, hk⟩
        · have e1 : j < 150 := Nat.le_of_ble_eq_true e1
          have et : rTau j = 0 := if_pos e1
          rw [et]
          rcases x_condT hk with ⟨e2, hk⟩ | ⟨e2, hk⟩
          · rw [a_dec_eq] at e2
            split at hk
            · cases hk
            · rename_i vt hvt
              have hRt := a_ogetN g hvt
              obtain ⟨l2, h2, hk, m2, m3⟩ := a_rngK_ok hk g.1.1
              rw [← aR_val hRt] at m2 m3
              rcases x_condT hk with ⟨e3, hk⟩ | ⟨-, hk⟩
              · rw [a_dec_eq] at e3
                have e4 : (h (rPl j).1 (rPl j).2.2.1).2 = l2 := by omega
                rw [e4, e2]
                exact a_okR_ok g (Option.some.inj hk)
              · cases hk
          · rw [a_decF] at e2
            rw [a_nd_t (Or.inr e2)]
            exact a_okR_ok g (Option.some.inj hk)
        · have e1 : ¬ j < 150 := fun e => by rw [show Nat.blt j 150 = true from Nat.ble_eq_true_of_le e] at e1; cases e1
          have et : rTau j = 1 := if_neg e1
          rw [et]
          exact a_okR_ok g (Option.some.inj hk)
      · cases hk
  · cases hb
theorem a_eqV_ok (g : aDen X ρ q h) {r o r' o' : Nat} (hb : a_eqV (a_oget q.2.2.2.1 r 0 (Int.ofNat o)) (a_oget q.2.2.2.1 r' 0 (Int.ofNat o')) = true) : h r' o' = h r o := by
  unfold a_eqV at hb
  split at hb
  · rename_i v w hv hw
    simp only [Bool.and_eq_true, a_dec_eq] at hb
    have e : v = w := Prod.ext (Nat.eq_of_beq_eq_true hb.1) (Prod.ext (Nat.eq_of_beq_eq_true hb.2.1) hb.2.2)
    rw [(a_ogetN g hv).2, (a_ogetN g hw).2, e]
  · cases hb
theorem a_alike_ok (g : aDen X ρ q h) {a b : Nat} (hb : a_alike q a b = true) (ht : rTau a = rTau b) (ha : rOK a h) : rOK b h := by
  unfold a_alike at hb
  rw [a_rowK_eq, a_rowK_eq] at hb
  simp only [Bool.and_eq_true] at hb
  obtain ⟨h1, h2, h3, h4⟩ := hb
  unfold rOK
  rw [a_eqV_ok g h1, a_eqV_ok g h2, a_eqV_ok g h3, a_eqV_ok g h4, ← ht]
  exact ha
theorem a_allN_ok {p : Nat → Bool} {j0 : Nat} : ∀ {n : Nat}, a_allN p j0 n = true → ∀ i, i < n → p (j0 + i) = true
  | 0, _, i, hi => absurd hi (Nat.not_lt_zero i)
  | n + 1, hb, i, hi => by
    have hb : (p (j0 + n) && a_allN p j0 n) = true := hb
    rw [Bool.and_eq_true] at hb
    rcases Nat.lt_or_ge i n with e | e
    · exact a_allN_ok hb.2 i e
    · rw [show i = n by omega]; exact hb.1
end TH
def aFlOK (X : aX) : Prop := ∀ j h, j < 345 → (X.2.2.1 j h ↔ rFl j h)
section RW
variable {β : Type} {X : aX} {ρ : Nat → Int} {q : aQ} {h : zH} {f : aQ → Option β} {r : β}
theorem rFl_n {j : Nat} (hj : j ≠ 155) : rFl j h ↔ ∀ x, (a_fr j).1 ≤ x → x < (a_fr j).2 → rOK x h := by
  unfold rFl
  rw [if_neg hj]
theorem rFl_155 : rFl 155 h ↔ ∀ x : Nat, 120 ≤ x → x < 150 → (x : Int) - 120 < (h 121 25).2 → rOK x h := by
  unfold rFl
  rw [if_pos rfl]
theorem a_fr_hi {j : Nat} (hj : 345 ≤ j) : a_fr j = (0, 0) := by
  have e : ∀ m, m ≤ 345 → Nat.blt j m = false := fun m hm => Bool.eq_false_iff.mpr (fun e => by have := Nat.le_of_ble_eq_true e; omega)
  unfold a_fr
  rw [e 155 (by omega), e 156 (by omega), e 187 (by omega), e 217 (by omega), e 223 (by omega), e 284 (by omega), e 345 (by omega)]
  rfl
theorem a_has_ok (hFl : aFlOK X) (g : aDen X ρ q h) {x : Nat} (hb : a_has q x = true) : rOK x h := by
  unfold a_has at hb
  rw [Bool.or_eq_true] at hb
  rcases hb with hb | hb
  · obtain ⟨j, hj, hc⟩ := a_any_ok hb
    rw [Bool.and_eq_true] at hc
    have c1 := Nat.le_of_ble_eq_true hc.1
    have c2 : x < (a_fr j).2 := Nat.le_of_ble_eq_true hc.2
    have j1 : j < 345 := by
      rcases Nat.lt_or_ge j 345 with e | e
      · exact e
      · rw [a_fr_hi e] at c2
        exact absurd c2 (Nat.not_lt_zero _)
    have j2 : j ≠ 155 := fun e => by
      rw [e] at c2
      exact absurd c2 (Nat.not_lt_zero _)
    exact (rFl_n j2).mp ((hFl j h (by omega)).mp (g.2.2.2.1 j hj)) x c1 c2
  · simp only [Bool.and_eq_true] at hb
    obtain ⟨b1, b2, b3, b4⟩ := hb
    split at b4
    · rename_i v hv
      split at b4
      · rename_i b hk
        obtain ⟨lo, hi, k1, k2, k3⟩ := a_rngK_ok hk g.1.1
        cases k1
        rw [a_dec_eq] at b4
        rw [← aR_val (a_ogetN (o := 25) g hv)] at k2 k3
        exact rFl_155.mp ((hFl 155 h (by omega)).mp (g.2.2.2.1 155 (a_memN_ok b1))) x (Nat.le_of_ble_eq_true b2) (Nat.le_of_ble_eq_true b3) (by omega)
      · cases b4
    · cases b4
theorem a_covR_ok (hFl : aFlOK X) (g : aDen X ρ q h) {sr lo n : Nat} (hb : a_covR q sr lo n = true) : ∀ x, lo ≤ x → x < lo + n → rOK x h := by
  intro x h1 h2
  have := a_allN_ok hb (x - lo) (by omega)
  rw [show lo + (x - lo) = x by omega, Bool.or_eq_true, Bool.or_eq_true, Bool.and_eq_true, Bool.and_eq_true] at this
  rcases this with e | e | e
  · exact a_has_ok hFl g e
  · exact a_rgood_ok g e
  · exact a_alike_ok g e.2.2 (Nat.eq_of_beq_eq_true e.1) (a_has_ok hFl g e.2.1)
theorem a_cov_ok (hFl : aFlOK X) {sr t : Nat} (hr : a_cov sr t q f = some r) (g : aDen X ρ q h) : aThen X ρ q h f r := by
  have add : ∀ t, t < 345 → rFl t h → f (a_setF q (t :: q.2.2.2.2)) = some r → aThen X ρ q h f r := fun t ht hf hr => aThen.same hr rfl (g.setF fun j hj => by
    rcases List.mem_cons.mp hj with e | e
    · rw [e]; exact (hFl t h ht).mpr hf
    · exact g.2.2.2.1 j e)
  unfold a_cov at hr
  rcases x_condT hr with ⟨-, hr⟩ | ⟨-, hr⟩
  · exact aThen.here hr g
  rcases x_condT hr with ⟨-, hr⟩ | ⟨h155, hr⟩
  · split at hr
    · rename_i v hv
      obtain ⟨lo, hi, hr, k2, k3⟩ := a_rngK_ok hr g.1.1
      rw [← aR_val (a_ogetN (o := 25) g hv)] at k2 k3
      rcases x_condT hr with ⟨hc, hr⟩ | ⟨-, hr⟩
      · rw [Bool.and_eq_true, a_dec_eq] at hc
        exact add 155 (by omega) (rFl_155.mpr fun x x1 x2 x3 => a_covR_ok hFl g hc.2 x x1 (by omega)) hr
      · exact aThen.here hr g
    · exact aThen.here hr g
  rcases x_condT hr with ⟨ht, hr⟩ | ⟨-, hr⟩
  · rw [x_kN_eq, x_kN_eq] at hr
    rcases x_condT hr with ⟨hc, hr⟩ | ⟨-, hr⟩
    · rw [x_kN_eq] at hr
      have hn : t ≠ 155 := fun e => by rw [e] at h155; cases h155
      exact add t (Nat.le_of_ble_eq_true ht) ((rFl_n hn).mpr fun x x1 x2 => a_covR_ok hFl g hc x x1 (by omega)) hr
    · exact aThen.here hr g
  · exact aThen.here hr g
theorem a_cover_ok (hFl : aFlOK X) {f : aQ → Option β} : ∀ {ts : List Int} {q : aQ} {ρ : Nat → Int}, a_cover f ts q = some r → aDen X ρ q h → aThen X ρ q h f r
  | [], q, _, hr, g => aThen.here hr g
  | t :: ts, q, ρ, hr, g => by
    have hr : a_cov (a_fr t.toNat).1 t.toNat q (a_cover f ts) = some r := hr
    obtain ⟨q', ρ', e1, e2, e3, e4⟩ := a_cov_ok hFl hr g
    obtain ⟨q2, ρ2, d1, d2, d3, d4⟩ := a_cover_ok hFl e1 e4
    exact ⟨q2, ρ2, d1, e2.trans d2 e3, Nat.le_trans e3 d3, d4⟩
theorem a_rngK_any {γ : Type} {E : aB} {v : aV} {k : Int → Int → Option γ} {r : γ} (h : a_rngK E v k = some r) : ∃ lo hi, k lo hi = some r := by
  obtain ⟨t, s, o⟩ := v
  cases s with
  | zero => exact ⟨o, o, h⟩
  | succ i =>
    unfold a_rngK at h
    dsimp only at h
    split at h
    · rw [x_kZ_eq, x_kZ_eq] at h
      exact ⟨_, _, h⟩
    · cases h
theorem a_coverP_ok (hFl : aFlOK X) {t r0 : Nat} {o : Int} (hr : a_coverP t r0 o q f = some r) (g : aDen X ρ q h) : aThen X ρ q h f r := by
  unfold a_coverP at hr
  split at hr
  · obtain ⟨lo, hi, hr⟩ := a_rngK_any hr
    rcases x_condT hr with ⟨-, hr⟩ | ⟨-, hr⟩
    · rw [x_kN_eq] at hr
      exact a_cov_ok hFl hr g
    · exact aThen.here hr g
  · exact aThen.here hr g
theorem a_coverL_ok (hFl : aFlOK X) {L : aL} {t loc m d : Nat} (hr : a_coverL L t loc m d q f = some r) (g : aDen X ρ q h) : aThen X ρ q h f r := by
  unfold a_coverL at hr
  split at hr
  · obtain ⟨lo, hi, hr⟩ := a_rngK_any hr
    rcases x_condT hr with ⟨-, hr⟩ | ⟨-, hr⟩
    · rw [x_kN_eq] at hr
      exact a_cov_ok hFl hr g
    · exact aThen.here hr g
  · exact aThen.here hr g
theorem a_blk_ok {γ : Type} {L : aL} {x : Int} {f : Nat → Option γ} {r : γ} (hr : a_blk q L x f = some r) : ∃ b, f b = some r := by
  unfold a_blk at hr
  rcases x_condT hr with ⟨-, hr⟩ | ⟨-, hr⟩
  · rw [x_kN_eq] at hr
    exact ⟨_, hr⟩
  · split at hr
    · obtain ⟨lo, hi, hr⟩ := a_rngK_any hr
      rcases x_condT hr with ⟨-, hr⟩ | ⟨-, hr⟩
      · rw [x_kN_eq] at hr
        exact ⟨_, hr⟩
      · cases hr
    · cases hr
end RW
end
section
theorem a_notF {b : Bool} (h : (!b) = false) : b = true := by cases b with
  | true => rfl
  | false => cases h
section TH2
variable {β : Type} {X : aX} {ρ : Nat → Int} {q : aQ} {h : zH} {f : aQ → Option β} {r : β}
theorem a_dropF_ok {j0 n : Nat} (hr : a_dropF j0 n q f = some r) (g : aDen X ρ q h) : aThen X ρ q h f r := by
  unfold a_dropF at hr
  rw [x_spine_eq] at hr
  exact aThen.same hr rfl (g.setF fun j hj => g.2.2.2.1 j (a_flt_mem hj).1)
theorem a_dropO_ok {p : (Nat × Nat × Int) × aV → Bool} (hr : a_dropO p q f = some r) (g : aDen X ρ q h) : aThen X ρ q h f r := by
  unfold a_dropO at hr
  rw [x_spine_eq] at hr
  exact aThen.same hr rfl (g.setO fun e he => g.2.2.1 e (a_flt_mem he).1)
theorem aDen.cell (g : aDen X ρ q h) {r k : Nat} {v : aV} (hv : aR ρ q.1 v (h r k)) : aDen X ρ (a_addO q ((r, 0, Int.ofNat k), v)) h := g.setO fun e he => by
  rcases List.mem_cons.mp he with e' | e'
  · rw [e']
    exact ⟨Nat.zero_le _, Int.natCast_nonneg k, hv⟩
  · exact g.2.2.1 e e'
theorem a_readAK_ok {r0 : Nat} {f : aQ → Option β} : ∀ {n : Nat} {ρ : Nat → Int} {q : aQ}, (∀ k, k < n → (h r0 k).1 = 0) → a_readAK r0 f n q = some r → aDen X ρ q h → aThen X ρ q h f r
  | 0, _, _, _, hr, g => aThen.here hr g
  | n + 1, ρ, q, hi, hr, g => by
    have hr : (match a_oget q.2.2.2.1 r0 0 (Int.ofNat n) with
      | some _ => a_readAK r0 f n q
      | none => x_kN (q.1 + 1) (fun m => x_kN n (fun i => a_readAK r0 f n (m, q.2.1, q.2.2.1, ((r0, 0, Int.ofNat i), (0, m, 0)) :: q.2.2.2.1, q.2.2.2.2)))) = some r := hr
    split at hr
    · exact a_readAK_ok (fun k hk => hi k (Nat.lt_succ_of_lt hk)) hr g
    · rw [x_kN_eq, x_kN_eq] at hr
      have g1 := g.push (z := (h r0 n).2) (Int.le_refl _) (Int.le_refl _)
      have g2 := g1.bound (E := q.2.1) (fun x hx => g1.1.1 x (List.mem_cons_of_mem _ hx))
      have hv : aR (aup ρ q.1 (h r0 n).2) (q.1 + 1) (0, q.1 + 1, 0) (h r0 n) := by
        refine ⟨Nat.le_refl _, ?_⟩
        show h r0 n = (0, aup ρ q.1 (h r0 n).2 q.1 + 0)
        rw [aup_at, Int.add_zero, ← hi n (Nat.lt_succ_self n)]
      have g3 := g2.cell (r := r0) (k := n) hv
      obtain ⟨q', ρ', e1, e2, e3, e4⟩ := a_readAK_ok (fun k hk => hi k (Nat.lt_succ_of_lt hk)) hr g3
      exact ⟨q', ρ', e1, (aup_ag ρ q.1 (h r0 n).2).trans e2 (Nat.le_succ _), Nat.le_trans (Nat.le_succ _) e3, e4⟩
theorem a_ofR_ok {γ : Type} {L : aL} {loc : Nat} {f : Nat → Option γ} {r : γ} (hr : a_ofR L loc f = some r) : ∃ o, o < 6 ∧ f o = some r := by
  unfold a_ofR at hr
  split at hr
  · rcases x_condT hr with ⟨-, hr⟩ | ⟨-, hr⟩
    · split at hr
      · rename_i o ho
        exact ⟨o, (a_ordI_ok ho).1, hr⟩
      · cases hr
    · cases hr
  · cases hr
def aIntOK (X : aX) : Prop := ∀ h, aTyped X.1.1 h → (∀ k, k < 2750 → (h 126 k).1 = 0) ∧ ∀ o, o < 6 → ∀ k, k < 60 → (h (a_ord o + 1) k).1 = 0 ∧ (h (a_ord o + 2) k).1 = 0 ∧ (h (a_ord o + 3) k).1 = 0
theorem a_openC_ok (hI : aIntOK X) {L : aL} {loc : Nat} (hr : a_openC L loc q f = some r) (g : aDen X ρ q h) : aThen X ρ q h f r := by
  obtain ⟨o, ho, hr⟩ := a_ofR_ok hr
  rcases x_condT hr with ⟨-, hr⟩ | ⟨-, hr⟩
  · have hi := (hI h g.2.1).2 o ho
    exact (a_readAK_ok (fun k hk => (hi k hk).1) hr g).bind fun q' ρ' hr g => (a_readAK_ok (fun k hk => (hi k hk).2.1) hr g).bind fun q' ρ' hr g => a_readAK_ok (fun k hk => (hi k hk).2.2) hr g
  · exact aThen.here hr g
theorem a_moveC_ok (hFl : aFlOK X) {L : aL} {l0 l1 : Nat} (hr : a_moveC L l0 l1 q f = some r) (g : aDen X ρ q h) : aThen X ρ q h f r := by
  obtain ⟨a, ha, hr⟩ := a_ofR_ok hr
  obtain ⟨b, hb, hr⟩ := a_ofR_ok hr
  exact (a_cov_ok hFl hr g).bind fun q' ρ' hr g => a_dropO_ok hr g
theorem a_derive_ok {L : aL} {M : zL} {l0 l1 : Nat} {c : Int} (hr : a_derive L l0 l1 c q f = some r) (g : aDen X ρ q h) (hL : aRL ρ q.1 L M) : aThen X ρ q h f r := by
  unfold a_derive at hr
  split at hr
  · rename_i t i o t' i' o' h1 h2
    rcases x_condT hr with ⟨hc, hr⟩ | ⟨-, hr⟩
    · rw [Bool.and_eq_true] at hc
      rw [x_kZ_eq] at hr
      obtain ⟨z1, -, r1⟩ := a_lget_ok hL h1
      obtain ⟨z2, -, r2⟩ := a_lget_ok hL h2
      refine aThen.same hr rfl (g.fact (fun p hp => ?_) (a_ent_ok g.1 3 hc.2))
      have i1 : i + 1 ≤ q.1 := r1.1
      have i2 : i' + 1 ≤ q.1 := r2.1
      rcases List.mem_cons.mp hp with e | e
      · rw [e]; exact i1
      · rcases List.mem_cons.mp e with e | e
        · rw [e]; exact i2
        · exact absurd e List.not_mem_nil
    · exact aThen.here hr g
  · exact aThen.here hr g
  · cases hr
theorem a_rebase_ok {r0 : Nat} {o0 : Int} {js : List Int} (hr : a_rebase r0 o0 q f js = some r) (g : aDen X ρ q h) : aThen X ρ q h f r := by
  unfold a_rebase at hr
  split at hr
  · rename_i t i c hv
    have hi : i + 1 ≤ q.1 := (a_oget_ok g.2.2.1 hv).2.1
    clear hv
    induction js generalizing q ρ with
    | nil => exact aThen.here hr g
    | cons j js ih =>
      have hr : x_kN j.toNat (fun j => cond (Nat.beq j i || !Nat.blt j q.1) (List.rec (motive := fun _ => aQ → Option β) f (fun j _ ih q => x_kN j.toNat (fun j => cond (Nat.beq j i || !Nat.blt j q.1) (ih q) (cond (a_ent q.2.1 q.2.2.1 3 [(1, j), (-1, i)] (-1 + c)) (x_kZ (-1 + c) (fun b => ih (a_fact q ([(1, j), (-1, i)], b)))) (cond (a_ent q.2.1 q.2.2.1 3 [(1, j), (-1, i)] (0 + c)) (x_kZ (0 + c) (fun b => ih (a_fact q ([(1, j), (-1, i)], b)))) (ih q))))) js q) (cond (a_ent q.2.1 q.2.2.1 3 [(1, j), (-1, i)] (-1 + c)) (x_kZ (-1 + c) (fun b => List.rec (motive := fun _ => aQ → Option β) f (fun j _ ih q => x_kN j.toNat (fun j => cond (Nat.beq j i || !Nat.blt j q.1) (ih q) (cond (a_ent q.2.1 q.2.2.1 3 [(1, j), (-1, i)] (-1 + c)) (x_kZ (-1 + c) (fun b => ih (a_fact q ([(1, j), (-1, i)], b)))) (cond (a_ent q.2.1 q.2.2.1 3 [(1, j), (-1, i)] (0 + c)) (x_kZ (0 + c) (fun b => ih (a_fact q ([(1, j), (-1, i)], b)))) (ih q))))) js (a_fact q ([(1, j), (-1, i)], b)))) (cond (a_ent q.2.1 q.2.2.1 3 [(1, j), (-1, i)] (0 + c)) (x_kZ (0 + c) (fun b => List.rec (motive := fun _ => aQ → Option β) f (fun j _ ih q => x_kN j.toNat (fun j => cond (Nat.beq j i || !Nat.blt j q.1) (ih q) (cond (a_ent q.2.1 q.2.2.1 3 [(1, j), (-1, i)] (-1 + c)) (x_kZ (-1 + c) (fun b => ih (a_fact q ([(1, j), (-1, i)], b)))) (cond (a_ent q.2.1 q.2.2.1 3 [(1, j), (-1, i)] (0 + c)) (x_kZ (0 + c) (fun b => ih (a_fact q ([(1, j), (-1, i)], b)))) (ih q))))) js (a_fact q ([(1, j), (-1, i)], b)))) (List.rec (motive := fun _ => aQ → Option β) f (fun j _ ih q => x_kN j.toNat (fun j => cond (Nat.beq j i || !Nat.blt j q.1) (ih q) (cond (a_ent q.2.1 q.2.2.1 3 [(1, j), (-1, i)] (-1 + c)) (x_kZ (-1 + c) (fun b => ih (a_fact q ([(1, j), (-1, i)], b)))) (cond (a_ent q.2.1 q.2.2.1 3 [(1, j), (-1, i)] (0 + c)) (x_kZ (0 + c) (fun b => ih (a_fact q ([(1, j), (-1, i)], b)))) (ih q))))) js q)))) = some r := hr
      rw [x_kN_eq] at hr
      rcases x_condT hr with ⟨-, hr⟩ | ⟨hn, hr⟩
      · exact ih g hr hi
      · rw [Bool.or_eq_false_iff] at hn
        have hlt := Nat.le_of_ble_eq_true (a_notF hn.2)
        rcases x_condT hr with ⟨he, hr⟩ | ⟨-, hr⟩
        · rw [x_kZ_eq] at hr
          have g' := g.fact (x := ([(1, _), (-1, i)], -1 + c)) (fun p hp => by
            rcases List.mem_cons.mp hp with e | e
            · rw [e]; exact hlt
            · rcases List.mem_cons.mp e with e | e
              · rw [e]; exact hi
              · exact absurd e List.not_mem_nil) (a_ent_ok g.1 3 he)
          obtain ⟨q', ρ', e1, e2, e3, e4⟩ := ih g' hr hi
          exact ⟨q', ρ', e1, e2, e3, e4⟩
        rcases x_condT hr with ⟨he, hr⟩ | ⟨-, hr⟩
        · rw [x_kZ_eq] at hr
          have g' := g.fact (x := ([(1, _), (-1, i)], 0 + c)) (fun p hp => by
            rcases List.mem_cons.mp hp with e | e
            · rw [e]; exact hlt
            · rcases List.mem_cons.mp e with e | e
              · rw [e]; exact hi
              · exact absurd e List.not_mem_nil) (a_ent_ok g.1 3 he)
          obtain ⟨q', ρ', e1, e2, e3, e4⟩ := ih g' hr hi
          exact ⟨q', ρ', e1, e2, e3, e4⟩
        · exact ih g hr hi
  · exact aThen.here hr g
end TH2
end
section
section TH3
variable {β : Type} {X : aX} {ρ : Nat → Int} {q : aQ} {h : zH} {f : aQ → Option β} {r : β}
theorem a_rowstep_ok (hFl : aFlOK X) {L : aL} {loc : Nat} {off a b : Int} (hr : a_rowstep L loc off a b q f = some r) (g : aDen X ρ q h) : aThen X ρ q h f r := by
  unfold a_rowstep at hr
  split at hr
  · obtain ⟨lo, hi, hr⟩ := a_rngK_any hr
    rcases x_condT hr with ⟨-, hr⟩ | ⟨-, hr⟩
    · rw [x_kN_eq] at hr
      rcases x_condT hr with ⟨-, hr⟩ | ⟨-, hr⟩
      · rcases x_condT hr with ⟨-, hr⟩ | ⟨-, hr⟩
        · exact a_dropO_ok hr g
        · exact aThen.here hr g
      rcases x_condT hr with ⟨-, hr⟩ | ⟨-, hr⟩
      · exact aThen.here hr g
      · obtain ⟨a', hr⟩ := a_blk_ok hr
        obtain ⟨b', hr⟩ := a_blk_ok hr
        rw [x_kN_eq] at hr
        refine (a_cov_ok hFl hr g).bind fun q1 ρ1 hr g1 => (a_cov_ok hFl hr g1).bind fun q2 ρ2 hr g2 => ?_
        rw [x_spine_eq] at hr
        have k := a_dropO_ok hr (g2.setF fun j hj => g2.2.2.2.1 j (a_flt_mem hj).1)
        exact k
    · cases hr
  · cases hr
def aRes1 (X : aX) (ρ : Nat → Int) (n : Nat) (z : zS) (st : aS) : Prop := ∃ ρ', aAg ρ ρ' n ∧ n ≤ st.1.1 ∧ aStD X ρ' st z
theorem aStD.with {L : aL} {S : List aV} {z : zS} {q' : aQ} (g : aStD X ρ (q, L, S) z) (h1 : q'.1 = q.1) (h2 : aDen X ρ q' z.1) : aStD X ρ (q', L, S) z := ⟨h2, by show aRL ρ q'.1 _ _; rw [h1]; exact g.2.1, by show aRl ρ q'.1 _ _; rw [h1]; exact g.2.2⟩
theorem aStD.then {L : aL} {S : List aV} {z : zS} {l : List aS} (g : aStD X ρ (q, L, S) z) (hr : aThen X ρ q z.1 (fun q => some [(q, L, S)]) l) : ∃ st' ∈ l, aRes1 X ρ q.1 z st' := by
  obtain ⟨q', ρ', e1, e2, e3, e4⟩ := hr
  cases e1
  exact ⟨_, List.mem_cons_self, ρ', e2, e3, e4, g.2.1.mono e3 e2, g.2.2.mono e3 e2⟩
theorem a_kinds_ok {vk : aV} {zk : zV} {pay : Int → aQ → Option (List aS)} {L : aL} {S : List aV} {z : zS} : ∀ {ks : List Int} {q : aQ} {l : List aS}, a_kinds vk pay L S ks q = some l → aStD X ρ (q, L, S) z → aR ρ q.1 vk zk → (∀ k q' l', pay k q' = some l' → q'.1 = q.1 → q'.2.2.2 = q.2.2.2 → aStD X ρ (q', L, S) z → zk.2 = k → ∃ st' ∈ l', aRes1 X ρ q.1 z st') → ∃ st' ∈ l, aRes1 X ρ q.1 z st'
  | [], q, l, hr, g, hk, hp => by
    have hr : some [(q, L, S)] = some l := hr
    cases hr
    exact ⟨_, List.mem_cons_self, ρ, aAg.refl _ _, Nat.le_refl _, g⟩
  | k :: ks, q, l, hr, g, hk, hp => by
    have hr : a_br 2 q vk (0, 0, k) (pay k) (a_kinds vk pay L S ks) = some l := hr
    obtain ⟨q', r', m1, m2, m3, m4, m5⟩ := a_br_ok (zy := (0, k)) hr g.1 hk ⟨Nat.zero_le _, rfl⟩
    have g' := g.with m2 m4
    rcases m5 with ⟨e, hr⟩ | ⟨-, hr⟩
    · have e : zk.2 = k := a_ofDec e
      obtain ⟨st', h1, h2⟩ := hp k q' r' hr m2 m3 g' e
      exact ⟨st', m1 _ h1, h2⟩
    · obtain ⟨st', h1, h2⟩ := a_kinds_ok hr g' (by rw [m2]; exact hk) (fun k q2 l' a b c d e => by
        rw [m2]
        exact hp k q2 l' a (b.trans m2) (c.trans m3) d e)
      rw [m2] at h2
      exact ⟨st', m1 _ h1, h2⟩
theorem a_rowb1_ok {r0 o : Nat} {m : Int} (hr : a_rowb1 r0 o m q f = some r) (g : aDen X ρ q h) (hB : rB m (h r0 o).2) (ht : (h r0 o).1 = 0) : aThen X ρ q h f r := by
  unfold a_rowb1 at hr
  rcases x_condT hr with ⟨-, hr⟩ | ⟨hm, hr⟩
  · exact aThen.here hr g
  · rw [a_decF] at hm
    obtain ⟨b1, b2⟩ := hB (by omega)
    obtain ⟨q', v, ρ', hr, e1, e2, e3, e4⟩ := a_newK_ok hr g b1 b2
    have hr : f (a_addO q' ((r0, 0, Int.ofNat o), v)) = some r := (x_kN_eq o (fun o => f (a_addO q' ((r0, 0, Int.ofNat o), v)))).symm.trans hr
    have e4 : aR ρ' q'.1 v (h r0 o) := by rw [show h r0 o = (0, (h r0 o).2) from Prod.ext ht rfl]; exact e4
    exact ⟨_, ρ', hr, e1, e2, e3.cell e4⟩
theorem rPl_0 {j : Nat} (hj : j < 30) : rPl j = (126, 277 + 9 * j, 277 + 9 * j + 6, 126, 277 + 9 * j + 1, 126, 277 + 9 * j + 2) := by
  unfold rPl
  rw [if_pos (by omega), Nat.div_eq_of_lt hj, Nat.mod_eq_of_lt hj]
theorem a_rowread_ok (hFl : aFlOK X) (hI : aIntOK X) {loc : Nat} {st : aS} {z : zS} {l : List aS} (hr : a_rowread loc st = some l) (g : aStD X ρ st z) : ∃ st' ∈ l, aRes1 X ρ st.1.1 z st' := by
  obtain ⟨q, L, S⟩ := st
  unfold a_rowread at hr
  dsimp only at hr
  split at hr
  · rename_i vw hw
    obtain ⟨lo, hi, hr⟩ := a_rngK_any hr
    rcases x_condT hr with ⟨-, hr⟩ | ⟨-, hr⟩
    · rw [x_kN_eq] at hr
      obtain ⟨j, hj⟩ : ∃ j, j = (lo.toNat - 277) / 9 := ⟨_, rfl⟩
      rw [← hj] at hr
      rcases x_condT hr with ⟨hc, hr⟩ | ⟨-, hr⟩
      · rw [x_kN_eq] at hr
        simp only [Bool.and_eq_true] at hc
        obtain ⟨c1, c2, c3⟩ := hc
        have c1 := Nat.eq_of_beq_eq_true c1
        have c2 : j < 30 := Nat.le_of_ble_eq_true c2
        rw [c1] at hr
        have hok : rOK j z.1 := a_has_ok hFl g.1 c3
        have hi := (hI z.1 g.1.2.1).1
        unfold rOK at hok
        rw [rPl_0 c2, show rTau j = 0 from if_pos (by omega)] at hok
        dsimp only at hok
        split at hr
        · rename_i vk hvk
          have hRk := a_ogetN g.1 hvk
          refine a_kinds_ok hr g hRk fun k q' l' hr e1 e2 g' ek => ?_
          rw [ek] at hok
          rcases x_condT hr with ⟨h7, hr⟩ | ⟨h7, hr⟩
          · rw [a_dec_eq] at h7
            rw [h7] at hok
            split at hr
            · rename_i vt hvt
              have hRt := a_ogetN g'.1 hvt
              have := a_kinds_ok hr g' hRt fun t q2 l2 hr d1 d2 g2 et => by
                rw [et] at hok
                rw [← d1]
                exact g2.then ((a_rowb1_ok hr g2.1 hok.1 (hi _ (by omega))).bind fun q3 ρ3 hr g3 => a_rowb1_ok hr g3 hok.2 (hi _ (by omega)))
              rw [e1] at this
              exact this
            · cases hr
              exact ⟨_, List.mem_cons_self, ρ, aAg.refl _ _, Nat.le_of_eq e1.symm, g'⟩
          · rw [a_decF] at h7
            rw [a_nd_t (Or.inr h7)] at hok
            rw [← e1]
            exact g'.then ((a_rowb1_ok hr g'.1 hok.1 (hi _ (by omega))).bind fun q3 ρ3 hr g3 => a_rowb1_ok hr g3 hok.2 (hi _ (by omega)))
        · cases hr
      · cases hr
    · cases hr
  · cases hr
end TH3
end
