/-! A CELL OUT OF REACH: code that never takes the one field that names it changes nothing in it -/
def oV (u : Nat) (v : zV) : Prop := ¬ (v.1 = 2 ∧ v.2.toNat = u)
def oS (u : Nat) (S : List zV) : Prop := ∀ v ∈ S, oV u v
def oLo (u : Nat) (L : zL) : Prop := ∀ i v, L i = some v → oV u v
def oH (u r0 k0 : Nat) (h : zH) : Prop := ∀ a b, vCode a b = some 4 → ¬ (a = r0 ∧ b = k0) → oV u (h a b)
theorem oV_t {u : Nat} {v : zV} (h : v.1 ≠ 2) : oV u v := fun e => h e.1
theorem oS_c {u : Nat} {v : zV} {S : List zV} : oS u (v :: S) ↔ oV u v ∧ oS u S := List.forall_mem_cons
theorem oS_nil {u : Nat} : oS u [] := fun _ h => absurd h List.not_mem_nil
theorem oLo.put1 {u : Nat} {L : zL} (hL : oLo u L) {i : Nat} {v : zV} (hv : oV u v) : oLo u (zput1 L i v) := by
  intro k w hk
  unfold zput1 at hk
  by_cases e : k = i
  · rw [if_pos e] at hk; cases hk; exact hv
  · rw [if_neg e] at hk
    cases hl : L k with
    | none => rw [hl] at hk; cases hk
    | some x =>
      rw [hl] at hk
      have hk : (if k + 1 = i ∧ zcat x = 2 then none else some x) = some w := hk
      split at hk
      · cases hk
      · cases hk; exact hL k _ hl
theorem oLo.put2 {u : Nat} {L : zL} (hL : oLo u L) {i : Nat} {v : zV} (hv : oV u v) : oLo u (zput2 L i v) := by
  intro k w hk
  unfold zput2 at hk
  by_cases e : k = i
  · rw [if_pos e] at hk; cases hk; exact hv
  · rw [if_neg e] at hk
    by_cases e2 : k = i + 1
    · rw [if_pos e2] at hk; cases hk
    · rw [if_neg e2] at hk
      cases hl : L k with
      | none => rw [hl] at hk; cases hk
      | some x =>
        rw [hl] at hk
        have hk : (if k + 1 = i ∧ zcat x = 2 then none else some x) = some w := hk
        split at hk
        · cases hk
        · cases hk; exact hL k _ hl
theorem oLo_args {u : Nat} : ∀ {vs : List zV} {i : Nat}, oS u vs → oLo u (zargs i vs)
  | [], _, _, k, w, hk => by cases hk
  | v :: vs, i, hS, k, w, hk => by
    have hk : (if k = i then some v else zargs (if zcat v = 2 then i + 2 else i + 1) vs k) = some w := hk
    by_cases e : k = i
    · rw [if_pos e] at hk; cases hk; exact (oS_c.mp hS).1
    · rw [if_neg e] at hk; exact oLo_args (oS_c.mp hS).2 k w hk
theorem oS_take {u : Nat} : ∀ {n : Nat} {S acc : List zV} {p : List zV × List zV}, ztake n S acc = some p → oS u S → oS u acc → oS u p.1 ∧ oS u p.2
  | 0, S, acc, p, h, h1, h2 => by cases h; exact ⟨h2, h1⟩
  | n + 1, v :: S, acc, p, h, h1, h2 => oS_take (n := n) (S := S) (acc := v :: acc) h (oS_c.mp h1).2 (oS_c.mpr ⟨(oS_c.mp h1).1, h2⟩)
  | n + 1, [], acc, p, h, _, _ => by cases h
def oO (u : Nat) (o : zO) : Prop := match o with
  | .inl r => ∀ v, r.2 = some v → oV u v
  | .inr (.inl q) => oLo u q.2.2.1 ∧ oS u q.2.2.2
  | .inr (.inr q) => oS u q.2.1 ∧ oLo u q.2.2.2.2.1 ∧ oS u q.2.2.2.2.2
-- an instruction that doesn't take the field (and takes fields that are there)
def guI (ci k0 : Nat) (i : zX) : Bool := match i with
  | (0, _, a, _, _, _) => !(a == 2)
  | (20, _, a, b, _, _) => !(a == ci && b == k0) && (match vFt[a]? with
    | some l => (l[b]?).isSome
    | none => false)
  | _ => true
def guOK (inS : Nat → Nat → Bool) (ci k0 : Nat) (T : zT) : Prop := ∀ mi pc i, inS mi pc = true → T mi pc = some i → guI ci k0 i = true
theorem zisO_code {a b : Nat} {r : Int} (h : zisO a r = true) (hb : (match vFt[a]? with
    | some l => (l[b]?).isSome
    | none => false) = true) : ∃ c, vCode r.toNat b = some c := by
  unfold zisO at h
  split at h
  · rename_i q hq
    have e : q.1 = a := eq_of_beq h
    cases hl : vFt[a]? with
    | none => rw [hl] at hb; cases hb
    | some l =>
      rw [hl] at hb
      obtain ⟨c, hc⟩ := Option.isSome_iff_exists.mp hb
      refine ⟨c, ?_⟩
      unfold vCode
      rw [hq]
      show (match vFt[q.1]? with
        | some l => l[b]?
        | none => none) = some c
      rw [e, hl]
      exact hc
  · cases h
theorem zarr_code {c : Nat} {r i : Int} (h : zarr c r i = true) : vCode r.toNat i.toNat = some c ∧ ∃ q, zShape[r.toNat]? = some (.inl q) := by
  unfold zarr at h
  split at h
  · rename_i q hq
    rw [Bool.and_eq_true, Bool.and_eq_true] at h
    have e1 : zcode q.1 = c := eq_of_beq h.1
    have e2 : 0 ≤ i := of_decide_eq_true h.2.1
    have e3 : i < (q.2 : Int) := of_decide_eq_true h.2.2
    refine ⟨?_, q, hq⟩
    unfold vCode
    rw [hq]
    show (if i.toNat < q.2 then some (zcode q.1) else none) = some c
    rw [if_pos (by omega), e1]
  · cases h
/-- what is taken out of the heap is no name of the cell -/
theorem oH.at {u r0 k0 : Nat} {h : zH} (hH : oH u r0 k0 h) (hv : zHv h) {a b c : Nat} (hc : vCode a b = some c) (hn : ¬ (a = r0 ∧ b = k0)) : oV u (h a b) := by
  by_cases e : c = 4
  · rw [e] at hc; exact hH a b hc hn
  · refine oV_t ?_
    rw [hv.1 a b c hc e]
    unfold vTag
    split <;> decide
theorem oV_0 {u : Nat} {z : Int} : oV u (0, z) := oV_t (show (0 : Nat) ≠ 2 by decide)
theorem oV_1 {u : Nat} {z : Int} : oV u (1, z) := oV_t (show (1 : Nat) ≠ 2 by decide)
theorem zi_o {D : zD} {st : zS} {o : zO} {u ci k0 r0 w : Nat} (hs : zShape[r0]? = some (.inr (ci, w))) (hH : oH u r0 k0 st.1) (hv : zHv st.1) (hL : oLo u st.2.1) (hS : oS u st.2.2) : ∀ {i : zX}, guI ci k0 i = true → zi D i st = some o → oO u o
  | (0, nx, a, b, z, cs), hO, h => by
    have h : z_push nx a z st = some o := h
    have hO : (!(a == 2)) = true := hO
    cases h
    refine ⟨hL, oS_c.mpr ⟨oV_t (fun e => ?_), hS⟩⟩
    have e : a = 2 := e
    rw [e] at hO
    exact absurd hO (by decide)
  | (1, nx, a, b, z, cs), _, h => by cases h; exact ⟨hL, hS⟩
  | (2, nx, a, b, z, cs), _, h => by
    have h : z_load nx a b st = some o := h
    unfold z_load znx at h
    repeat' split at h
    all_goals first | (cases h; done) | (cases h; exact ⟨hL, oS_c.mpr ⟨hL _ _ (by assumption), hS⟩⟩)
  | (3, nx, a, b, z, cs), _, h => by
    have h : z_store1 nx a b st = some o := h
    unfold z_store1 znx at h
    repeat' split at h
    all_goals first | (cases h; done) | (cases h; rw [‹st.2.2 = _›] at hS; simp only [oS_c] at hS; exact ⟨hL.put1 hS.1, hS.2⟩)
  | (4, nx, a, b, z, cs), _, h => by
    have h : z_store2 nx a st = some o := h
    unfold z_store2 znx at h
    repeat' split at h
    all_goals first | (cases h; done) | (cases h; rw [‹st.2.2 = _›] at hS; simp only [oS_c] at hS; exact ⟨hL.put2 hS.1, hS.2⟩)
  | (5, nx, a, b, z, cs), _, h => by
    have h : z_iinc nx a z st = some o := h
    unfold z_iinc znx at h
    repeat' split at h
    all_goals first | (cases h; done) | (cases h; exact ⟨hL.put1 oV_0, hS⟩)
  | (6, nx, a, b, z, cs), _, h => by
    have h : z_un32 nx b st = some o := h
    unfold z_un32 znx at h
    repeat' split at h
    all_goals first | (cases h; done) | (cases h; rw [‹st.2.2 = _›] at hS; simp only [oS_c] at hS; exact ⟨hL, by simp only [oS_c, oV_0, oV_1, hS, and_self]⟩)
  | (7, nx, a, b, z, cs), _, h => by
    have h : z_bin32 nx b st = some o := h
    unfold z_bin32 znx at h
    repeat' split at h
    all_goals first | (cases h; done) | (cases h; rw [‹st.2.2 = _›] at hS; simp only [oS_c] at hS; exact ⟨hL, by simp only [oS_c, oV_0, oV_1, hS, and_self]⟩)
  | (8, nx, a, b, z, cs), _, h => by
    have h : z_div32 nx b st = some o := h
    unfold z_div32 znx at h
    repeat' split at h
    all_goals first | (cases h; done) | (cases h; rw [‹st.2.2 = _›] at hS; simp only [oS_c] at hS; exact ⟨hL, by simp only [oS_c, oV_0, oV_1, hS, and_self]⟩)
  | (9, nx, a, b, z, cs), _, h => by
    have h : z_neg64 nx st = some o := h
    unfold z_neg64 znx at h
    repeat' split at h
    all_goals first | (cases h; done) | (cases h; rw [‹st.2.2 = _›] at hS; simp only [oS_c] at hS; exact ⟨hL, by simp only [oS_c, oV_0, oV_1, hS, and_self]⟩)
  | (10, nx, a, b, z, cs), _, h => by
    have h : z_bin64 nx b st = some o := h
    unfold z_bin64 znx at h
    repeat' split at h
    all_goals first | (cases h; done) | (cases h; rw [‹st.2.2 = _›] at hS; simp only [oS_c] at hS; exact ⟨hL, by simp only [oS_c, oV_0, oV_1, hS, and_self]⟩)
  | (11, nx, a, b, z, cs), _, h => by
    have h : z_div64 nx b st = some o := h
    unfold z_div64 znx at h
    repeat' split at h
    all_goals first | (cases h; done) | (cases h; rw [‹st.2.2 = _›] at hS; simp only [oS_c] at hS; exact ⟨hL, by simp only [oS_c, oV_0, oV_1, hS, and_self]⟩)
  | (12, nx, a, b, z, cs), _, h => by
    have h : z_sh64 nx b st = some o := h
    unfold z_sh64 znx at h
    repeat' split at h
    all_goals first | (cases h; done) | (cases h; rw [‹st.2.2 = _›] at hS; simp only [oS_c] at hS; exact ⟨hL, by simp only [oS_c, oV_0, oV_1, hS, and_self]⟩)
  | (13, nx, a, b, z, cs), _, h => by
    have h : z_i2l nx st = some o := h
    unfold z_i2l znx at h
    repeat' split at h
    all_goals first | (cases h; done) | (cases h; rw [‹st.2.2 = _›] at hS; simp only [oS_c] at hS; exact ⟨hL, by simp only [oS_c, oV_0, oV_1, hS, and_self]⟩)
  | (14, nx, a, b, z, cs), _, h => by
    have h : z_l2i nx st = some o := h
    unfold z_l2i znx at h
    repeat' split at h
    all_goals first | (cases h; done) | (cases h; rw [‹st.2.2 = _›] at hS; simp only [oS_c] at hS; exact ⟨hL, by simp only [oS_c, oV_0, oV_1, hS, and_self]⟩)
  | (15, nx, a, b, z, cs), _, h => by
    have h : z_stk nx b st = some o := h
    unfold z_stk znx at h
    repeat' split at h
    all_goals first | (cases h; done) | (cases h; rw [‹st.2.2 = _›] at hS; simp only [oS_c] at hS; exact ⟨hL, by simp only [oS_c, oV_0, oV_1, hS, and_self]⟩)
  | (16, nx, a, b, z, cs), _, h => by
    have h : z_if nx a b st = some o := h
    unfold z_if znx at h
    repeat' split at h
    all_goals first | (cases h; done) | (cases h; rw [‹st.2.2 = _›] at hS; simp only [oS_c] at hS; exact ⟨hL, by simp only [oS_c, oV_0, oV_1, hS, and_self]⟩)
  | (17, nx, a, b, z, cs), _, h => by
    have h : z_icmp nx a b st = some o := h
    unfold z_icmp znx at h
    repeat' split at h
    all_goals first | (cases h; done) | (cases h; rw [‹st.2.2 = _›] at hS; simp only [oS_c] at hS; exact ⟨hL, by simp only [oS_c, oV_0, oV_1, hS, and_self]⟩)
  | (18, nx, a, b, z, cs), _, h => by
    have h : z_lcmp nx st = some o := h
    unfold z_lcmp znx at h
    repeat' split at h
    all_goals first | (cases h; done) | (cases h; rw [‹st.2.2 = _›] at hS; simp only [oS_c] at hS; exact ⟨hL, by simp only [oS_c, oV_0, oV_1, hS, and_self]⟩)
  | (19, nx, a, b, z, cs), _, h => by
    have h : z_sw nx cs st = some o := h
    unfold z_sw znx at h
    repeat' split at h
    all_goals first | (cases h; done) | (cases h; rw [‹st.2.2 = _›] at hS; simp only [oS_c] at hS; exact ⟨hL, by simp only [oS_c, oV_0, oV_1, hS, and_self]⟩)
  | (20, nx, a, b, z, cs), hO, h => by
    have h : z_getf nx a b st = some o := h
    unfold z_getf znx at h
    repeat' split at h
    · rename_i r S heq hz
      have hO : (!(a == ci && b == k0) && (match vFt[a]? with
        | some l => (l[b]?).isSome
        | none => false)) = true := hO
      rw [Bool.and_eq_true, Bool.not_eq_true'] at hO
      obtain ⟨c, hc⟩ := zisO_code hz hO.2
      cases h
      rw [heq, oS_c] at hS
      refine ⟨hL, oS_c.mpr ⟨hH.at hv hc (fun e => ?_), hS.2⟩⟩
      unfold zisO at hz
      rw [e.1, hs] at hz
      have e3 : ci = a := eq_of_beq (hz : (ci == a) = true)
      rw [← e3, e.2, beq_self_eq_true, beq_self_eq_true] at hO
      exact absurd hO.1 (by decide)
    all_goals cases h
  | (21, nx, a, b, z, cs), _, h => by
    have h : z_putf nx a b z st = some o := h
    unfold z_putf znx at h
    repeat' split at h
    all_goals first | (cases h; done) | (cases h; rw [‹st.2.2 = _›] at hS; simp only [oS_c] at hS; exact ⟨hL, by simp only [oS_c, oV_0, oV_1, hS, and_self]⟩)
  | (22, nx, a, b, z, cs), _, h => by
    have h : z_ald D nx a st = some o := h
    unfold z_ald znx at h
    repeat' split at h
    · rename_i i r S heq hz
      cases h
      rw [heq, oS_c, oS_c] at hS
      refine ⟨hL, oS_c.mpr ⟨hH.at hv (zarr_code hz).1 (fun e => ?_), hS.2.2⟩⟩
      obtain ⟨_, q, hq⟩ := zarr_code hz
      rw [e.1, hs] at hq
      cases hq
    · cases h
    · cases h; rw [‹st.2.2 = _›] at hS; simp only [oS_c] at hS; exact ⟨hL, oS_c.mpr ⟨oV_0, hS.2.2⟩⟩
    all_goals cases h
  | (23, nx, a, b, z, cs), _, h => by
    have h : z_ast nx a st = some o := h
    unfold z_ast znx at h
    repeat' split at h
    all_goals first | (cases h; done) | (cases h; rw [‹st.2.2 = _›] at hS; simp only [oS_c] at hS; exact ⟨hL, by simp only [oS_c, oV_0, oV_1, hS, and_self]⟩)
  | (24, nx, a, b, z, cs), _, h => by
    have h : z_alen D nx st = some o := h
    unfold z_alen znx at h
    repeat' split at h
    all_goals first | (cases h; done) | (cases h; rw [‹st.2.2 = _›] at hS; simp only [oS_c] at hS; exact ⟨hL, by simp only [oS_c, oV_0, oV_1, hS, and_self]⟩)
  | (25, nx, a, b, z, cs), _, h => by
    have h : z_slen D nx st = some o := h
    unfold z_slen znx at h
    repeat' split at h
    all_goals first | (cases h; done) | (cases h; rw [‹st.2.2 = _›] at hS; simp only [oS_c] at hS; exact ⟨hL, by simp only [oS_c, oV_0, oV_1, hS, and_self]⟩)
  | (26, nx, a, b, z, cs), _, h => by
    have h : z_char D nx st = some o := h
    unfold z_char znx at h
    repeat' split at h
    all_goals first | (cases h; done) | (cases h; rw [‹st.2.2 = _›] at hS; simp only [oS_c] at hS; exact ⟨hL, by simp only [oS_c, oV_0, oV_1, hS, and_self]⟩)
  | (27, nx, a, b, z, cs), _, h => by
    have h : z_math nx b st = some o := h
    unfold z_math znx at h
    repeat' split at h
    all_goals first | (cases h; done) | (cases h; rw [‹st.2.2 = _›] at hS; simp only [oS_c] at hS; exact ⟨hL, by simp only [oS_c, oV_0, oV_1, hS, and_self]⟩)
  | (28, nx, a, b, z, cs), _, h => by
    have h : z_copy nx a st = some o := h
    unfold z_copy znx at h
    repeat' split at h
    all_goals first | (cases h; done) | (cases h; rw [‹st.2.2 = _›] at hS; simp only [oS_c] at hS; exact ⟨hL, by simp only [oS_c, oV_0, oV_1, hS, and_self]⟩)
  | (29, nx, a, b, z, cs), _, h => by
    have h : z_call nx a b z (cs.head?.elim 0 (fun q => q.2)) st = some o := h
    unfold z_call at h
    repeat' split at h
    all_goals first | (cases h; done) | (rename_i hk _; cases h; exact ⟨(oS_take hk hS oS_nil).1, hL, (oS_take hk hS oS_nil).2⟩)
  | (30, nx, a, b, z, cs), _, h => by
    have h : z_ret b a st = some o := h
    unfold z_ret at h
    repeat' split at h
    all_goals first | (cases h; done) | (cases h; intro v hv; cases hv; done) | (cases h; intro v hv; cases hv; rw [‹st.2.2 = _›] at hS; simp only [oS_c] at hS; exact hS.1)
  | (n + 31, nx, a, b, z, cs), _, h => by cases h
theorem zi_oh {D : zD} {st : zS} {o : zO} {u r0 k0 : Nat} (hH : oH u r0 k0 st.1) (hS : oS u st.2.2) : ∀ {i : zX}, zi D i st = some o → oH u r0 k0 (zOh o) ∧ ∀ k, zOh o u k = st.1 u k
  | (0, nx, a, b, z, cs), h => by cases h; exact ⟨hH, fun _ => rfl⟩
  | (1, nx, a, b, z, cs), h => by cases h; exact ⟨hH, fun _ => rfl⟩
  | (2, nx, a, b, z, cs), h => by rw [zh_load h]; exact ⟨hH, fun _ => rfl⟩
  | (3, nx, a, b, z, cs), h => by rw [zh_store1 h]; exact ⟨hH, fun _ => rfl⟩
  | (4, nx, a, b, z, cs), h => by rw [zh_store2 h]; exact ⟨hH, fun _ => rfl⟩
  | (5, nx, a, b, z, cs), h => by rw [zh_iinc h]; exact ⟨hH, fun _ => rfl⟩
  | (6, nx, a, b, z, cs), h => by rw [zh_un32 h]; exact ⟨hH, fun _ => rfl⟩
  | (7, nx, a, b, z, cs), h => by rw [zh_bin32 h]; exact ⟨hH, fun _ => rfl⟩
  | (8, nx, a, b, z, cs), h => by rw [zh_div32 h]; exact ⟨hH, fun _ => rfl⟩
  | (9, nx, a, b, z, cs), h => by rw [zh_neg64 h]; exact ⟨hH, fun _ => rfl⟩
  | (10, nx, a, b, z, cs), h => by rw [zh_bin64 h]; exact ⟨hH, fun _ => rfl⟩
  | (11, nx, a, b, z, cs), h => by rw [zh_div64 h]; exact ⟨hH, fun _ => rfl⟩
  | (12, nx, a, b, z, cs), h => by rw [zh_sh64 h]; exact ⟨hH, fun _ => rfl⟩
  | (13, nx, a, b, z, cs), h => by rw [zh_i2l h]; exact ⟨hH, fun _ => rfl⟩
  | (14, nx, a, b, z, cs), h => by rw [zh_l2i h]; exact ⟨hH, fun _ => rfl⟩
  | (15, nx, a, b, z, cs), h => by rw [zh_stk h]; exact ⟨hH, fun _ => rfl⟩
  | (16, nx, a, b, z, cs), h => by rw [zh_if h]; exact ⟨hH, fun _ => rfl⟩
  | (17, nx, a, b, z, cs), h => by rw [zh_icmp h]; exact ⟨hH, fun _ => rfl⟩
  | (18, nx, a, b, z, cs), h => by rw [zh_lcmp h]; exact ⟨hH, fun _ => rfl⟩
  | (19, nx, a, b, z, cs), h => by rw [zh_sw h]; exact ⟨hH, fun _ => rfl⟩
  | (20, nx, a, b, z, cs), h => by rw [zh_getf h]; exact ⟨hH, fun _ => rfl⟩
  | (21, nx, a, b, z, cs), h => by
    have h : z_putf nx a b z st = some o := h
    unfold z_putf znx at h
    split at h
    · rename_i v r S heq
      split at h
      · cases h
        rw [heq, oS_c, oS_c] at hS
        refine ⟨fun x y hc hn => ?_, fun k => zset_ne (fun e => hS.2.1 ⟨rfl, e.1.symm⟩)⟩
        show oV u (zset st.1 r.toNat b v x y)
        by_cases e : x = r.toNat ∧ y = b
        · obtain ⟨rfl, rfl⟩ := e
          rw [zset_same]
          exact hS.1
        · rw [zset_ne e]
          exact hH x y hc hn
      · cases h
    · cases h
  | (22, nx, a, b, z, cs), h => by rw [zh_ald h]; exact ⟨hH, fun _ => rfl⟩
  | (23, nx, a, b, z, cs), h => by
    have h : z_ast nx a st = some o := h
    unfold z_ast znx at h
    split at h
    · rename_i v i r S heq
      split at h
      · rename_i hz
        cases h
        rw [heq, oS_c, oS_c, oS_c] at hS
        refine ⟨fun x y hc hn => ?_, fun k => zset_ne (fun e => hS.2.2.1 ⟨rfl, e.1.symm⟩)⟩
        show oV u (zset st.1 r.toNat i.toNat v x y)
        by_cases e : x = r.toNat ∧ y = i.toNat
        · obtain ⟨rfl, rfl⟩ := e
          rw [(zarr_code hz.1).1] at hc
          have := Option.some.inj hc
          have := hz.2.2
          omega
        · rw [zset_ne e]
          exact hH x y hc hn
      · cases h
    · cases h
  | (24, nx, a, b, z, cs), h => by rw [zh_alen h]; exact ⟨hH, fun _ => rfl⟩
  | (25, nx, a, b, z, cs), h => by rw [zh_slen h]; exact ⟨hH, fun _ => rfl⟩
  | (26, nx, a, b, z, cs), h => by rw [zh_char h]; exact ⟨hH, fun _ => rfl⟩
  | (27, nx, a, b, z, cs), h => by rw [zh_math h]; exact ⟨hH, fun _ => rfl⟩
  | (28, nx, a, b, z, cs), h => by
    have h : z_copy nx a st = some o := h
    unfold z_copy znx at h
    split at h
    · rename_i n dp r1 sp r0' S heq
      split at h
      · rename_i hz
        cases h
        rw [heq, oS_c, oS_c, oS_c, oS_c, oS_c] at hS
        refine ⟨fun x y hc hn => ?_, fun k => if_neg (fun e => hS.2.2.1 ⟨rfl, e.1.symm⟩)⟩
        show oV u (if x = r1.toNat ∧ dp.toNat ≤ y ∧ y < dp.toNat + n.toNat then st.1 r0'.toNat (sp.toNat + (y - dp.toNat)) else st.1 x y)
        by_cases e : x = r1.toNat ∧ dp.toNat ≤ y ∧ y < dp.toNat + n.toNat
        · have hr := hz.2.1
          unfold zroom at hr
          rw [← e.1] at hr
          unfold vCode at hc
          split at hr
          · rename_i q hq
            rw [hq] at hc
            rw [Bool.and_eq_true] at hr
            have e1 : zcode q.1 = a := eq_of_beq hr.1
            have hc : (if y < q.2 then some (zcode q.1) else none) = some 4 := hc
            split at hc
            · have := Option.some.inj hc
              have := hz.2.2.2
              omega
            · cases hc
          · cases hr
        · rw [if_neg e]
          exact hH x y hc hn
      · cases h
    · cases h
  | (29, nx, a, b, z, cs), h => by rw [zh_call h]; exact ⟨hH, fun _ => rfl⟩
  | (30, nx, a, b, z, cs), h => by rw [zh_ret h]; exact ⟨hH, fun _ => rfl⟩
  | (n + 31, nx, a, b, z, cs), h => by cases h
theorem zEv_un {D : zD} {T : zT} {inS : Nat → Nat → Bool} {u ci k0 cj kj r0 w : Nat} (hs : zShape[r0]? = some (.inr (ci, w))) (hO : vOK T) (hW : fwOK inS cj kj T) (hG : guOK inS ci k0 T) : ∀ {n mi pc : Nat} {st : zS} {r : zR}, zEv D T n mi pc st = some r → inS mi pc = true → zHv st.1 → oH u r0 k0 st.1 → oLo u st.2.1 → oS u st.2.2 → (zHv r.1 ∧ oH u r0 k0 r.1) ∧ (∀ k, r.1 u k = st.1 u k) ∧ ∀ v, r.2 = some v → oV u v := by
  intro n
  induction n with
  | zero => intro mi pc st r h; cases h
  | succ n ih =>
    intro mi pc st r h hI hv hH hL hS
    cases hi : T mi pc with
    | none =>
      have h : zEvA D T (zEv D T n) mi pc st = some r := h
      unfold zEvA at h
      rw [hi] at h
      cases h
    | some i =>
      rw [zEv_s hi] at h
      have hf := hW mi pc i hI hi
      cases hz : zi D i st with
      | none => rw [hz] at h; cases h
      | some o =>
        have g1 := zi_o hs hH hv hL hS (hG mi pc i hI hi) hz
        obtain ⟨g2, g3⟩ := zi_oh hH hS hz
        have g4 : zHv (zOh o) := zi_hv (hO mi pc i hi) hv hz
        rw [hz] at h
        match o, h, g1, g2, g3, g4, hz with
        | .inl q, h, g1, g2, g3, g4, _ => cases h; exact ⟨⟨g4, g2⟩, g3, g1⟩
        | .inr (.inl q), h, g1, g2, g3, g4, hz =>
          obtain ⟨a1, a2, a3⟩ := ih h (zi_nx hf hz) g4 g2 g1.1 g1.2
          exact ⟨a1, fun k => (a2 k).trans (g3 k), a3⟩
        | .inr (.inr q), h, g1, g2, g3, g4, hz =>
          obtain ⟨c1, c2⟩ := zi_cl hf hz
          have h : (match zEv D T n q.1 0 (q.2.2.2.1, zargs 0 q.2.1, []) with
            | none => none
            | some r1 => zEv D T n mi q.2.2.1 (r1.1, q.2.2.2.2.1, zpush r1.2 q.2.2.2.2.2)) = some r := h
          cases hc : zEv D T n q.1 0 (q.2.2.2.1, zargs 0 q.2.1, []) with
          | none => rw [hc] at h; cases h
          | some r1 =>
            rw [hc] at h
            obtain ⟨⟨b0, b1⟩, b2, b3⟩ := ih hc c2 g4 g2 (oLo_args g1.1) oS_nil
            have hp : oS u (zpush r1.2 q.2.2.2.2.2) := by
              cases hr : r1.2 with
              | none => exact g1.2.2
              | some v => exact oS_c.mpr ⟨b3 v hr, g1.2.2⟩
            obtain ⟨a1, a2, a3⟩ := ih h c1 b0 b1 g1.2.1 hp
            exact ⟨a1, fun k => ((a2 k).trans (b2 k)).trans (g3 k), a3⟩
/-- such a run changes nothing in the cell out of reach -/
theorem vP_un {D : zD} {T : zT} {inS : Nat → Nat → Bool} {u ci k0 cj kj r0 w : Nat} (hs : zShape[r0]? = some (.inr (ci, w))) (hO : vOK T) (hW : fwOK inS cj kj T) (hG : guOK inS ci k0 T) {N mi pc : Nat} {h : zH} {l : List (Option zV)} {S : List zV} (hI : inS mi pc = true) (hH : oH u r0 k0 h) (hL : oLo u (vL l)) (hS : oS u S) : vP D T N mi pc h l S (fun r => oH u r0 k0 r.1 ∧ ∀ k, r.1 u k = h u k) := fun hv _ _ _ he => by
  obtain ⟨a, b, _⟩ := zEv_un hs hO hW hG he hI hv hH hL hS
  exact ⟨a.2, b⟩
