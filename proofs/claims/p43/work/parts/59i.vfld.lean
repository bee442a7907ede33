/-! A FIELD THAT NOTHING WRITES: code closed under going on and calling, without a putfield of it -/
def fwS (inS : Nat → Nat → Bool) (ci k mi : Nat) (i : zX) : Bool := match i with
  | (16, nx, a, _, _, _) => inS mi nx && inS mi a
  | (17, nx, a, _, _, _) => inS mi nx && inS mi a
  | (19, nx, _, _, _, cs) => inS mi nx && cs.all (fun q => inS mi q.2)
  | (21, nx, a, b, _, _) => inS mi nx && !(a == ci && b == k)
  | (29, nx, a, _, _, _) => inS mi nx && inS a 0
  | (30, _, _, _, _, _) => true
  | (_, nx, _, _, _, _) => inS mi nx
def fwOK (inS : Nat → Nat → Bool) (ci k : Nat) (T : zT) : Prop := ∀ mi pc i, inS mi pc = true → T mi pc = some i → fwS inS ci k mi i = true
theorem zi_fr {D : zD} {st : zS} {o : zO} {inS : Nat → Nat → Bool} {ci k mi r0 w : Nat} (hs : zShape[r0]? = some (.inr (ci, w))) : ∀ {i : zX}, fwS inS ci k mi i = true → zi D i st = some o → zOh o r0 k = st.1 r0 k
  | (0, nx, a, b, z, cs), _, h => by cases h; rfl
  | (1, nx, a, b, z, cs), _, h => by cases h; rfl
  | (2, nx, a, b, z, cs), _, h => by rw [zh_load h]
  | (3, nx, a, b, z, cs), _, h => by rw [zh_store1 h]
  | (4, nx, a, b, z, cs), _, h => by rw [zh_store2 h]
  | (5, nx, a, b, z, cs), _, h => by rw [zh_iinc h]
  | (6, nx, a, b, z, cs), _, h => by rw [zh_un32 h]
  | (7, nx, a, b, z, cs), _, h => by rw [zh_bin32 h]
  | (8, nx, a, b, z, cs), _, h => by rw [zh_div32 h]
  | (9, nx, a, b, z, cs), _, h => by rw [zh_neg64 h]
  | (10, nx, a, b, z, cs), _, h => by rw [zh_bin64 h]
  | (11, nx, a, b, z, cs), _, h => by rw [zh_div64 h]
  | (12, nx, a, b, z, cs), _, h => by rw [zh_sh64 h]
  | (13, nx, a, b, z, cs), _, h => by rw [zh_i2l h]
  | (14, nx, a, b, z, cs), _, h => by rw [zh_l2i h]
  | (15, nx, a, b, z, cs), _, h => by rw [zh_stk h]
  | (16, nx, a, b, z, cs), _, h => by rw [zh_if h]
  | (17, nx, a, b, z, cs), _, h => by rw [zh_icmp h]
  | (18, nx, a, b, z, cs), _, h => by rw [zh_lcmp h]
  | (19, nx, a, b, z, cs), _, h => by rw [zh_sw h]
  | (20, nx, a, b, z, cs), _, h => by rw [zh_getf h]
  | (21, nx, a, b, z, cs), hO, h => by
    have hO : (inS mi nx && !(a == ci && b == k)) = true := hO
    rw [Bool.and_eq_true, Bool.not_eq_true'] at hO
    have h : z_putf nx a b z st = some o := h
    unfold z_putf znx at h
    split at h
    · rename_i v r S hS
      split at h
      · rename_i hc
        cases h
        show zset st.1 r.toNat b v r0 k = st.1 r0 k
        refine zset_ne (fun e => ?_)
        obtain ⟨e1, e2⟩ := e
        have hr := hc.1
        unfold zisO at hr
        rw [← e1, hs] at hr
        have hr : (ci == a) = true := hr
        have e3 : ci = a := eq_of_beq hr
        rw [← e3, e2, beq_self_eq_true, beq_self_eq_true] at hO
        exact absurd hO.2 (by decide)
      · cases h
    · cases h
  | (22, nx, a, b, z, cs), _, h => by rw [zh_ald h]
  | (23, nx, a, b, z, cs), _, h => by
    have h : z_ast nx a st = some o := h
    unfold z_ast znx at h
    split at h
    · rename_i v i r S hS
      split at h
      · rename_i hc
        cases h
        show zset st.1 r.toNat i.toNat v r0 k = st.1 r0 k
        refine zset_ne (fun e => ?_)
        have hr := hc.1
        unfold zarr at hr
        rw [← e.1, hs] at hr
        cases hr
      · cases h
    · cases h
  | (24, nx, a, b, z, cs), _, h => by rw [zh_alen h]
  | (25, nx, a, b, z, cs), _, h => by rw [zh_slen h]
  | (26, nx, a, b, z, cs), _, h => by rw [zh_char h]
  | (27, nx, a, b, z, cs), _, h => by rw [zh_math h]
  | (28, nx, a, b, z, cs), _, h => by
    have h : z_copy nx a st = some o := h
    unfold z_copy znx at h
    split at h
    · rename_i n dp r1 sp r0' S hS
      split at h
      · rename_i hc
        cases h
        show zcopy st.1 r0'.toNat sp.toNat r1.toNat dp.toNat n.toNat r0 k = st.1 r0 k
        refine if_neg (fun e => ?_)
        have hr := hc.2.1
        unfold zroom at hr
        rw [← e.1, hs] at hr
        cases hr
      · cases h
    · cases h
  | (29, nx, a, b, z, cs), _, h => by rw [zh_call h]
  | (30, nx, a, b, z, cs), _, h => by rw [zh_ret h]
  | (n + 31, nx, a, b, z, cs), _, h => by cases h
/-- where a step goes on -/
theorem zi_nx {D : zD} {st : zS} {inS : Nat → Nat → Bool} {ci k mi : Nat} {q : Nat × zS} : ∀ {i : zX}, fwS inS ci k mi i = true → zi D i st = some (.inr (.inl q)) → inS mi q.1 = true := by
  intro i hf h
  obtain ⟨op, nx, a, b, z, cs⟩ := i
  match op, hf, h with
  | 0, hf, h => cases h; exact hf
  | 1, hf, h => cases h; exact hf
  | 2, hf, h =>
    have h : z_load nx a b st = _ := h
    unfold z_load znx at h
    repeat' split at h
    all_goals first | (cases h; exact hf) | cases h
  | 3, hf, h =>
    have h : z_store1 nx a b st = _ := h
    unfold z_store1 znx at h
    repeat' split at h
    all_goals first | (cases h; exact hf) | cases h
  | 4, hf, h =>
    have h : z_store2 nx a st = _ := h
    unfold z_store2 znx at h
    repeat' split at h
    all_goals first | (cases h; exact hf) | cases h
  | 5, hf, h =>
    have h : z_iinc nx a z st = _ := h
    unfold z_iinc znx at h
    repeat' split at h
    all_goals first | (cases h; exact hf) | cases h
  | 6, hf, h =>
    have h : z_un32 nx b st = _ := h
    unfold z_un32 znx at h
    repeat' split at h
    all_goals first | (cases h; exact hf) | cases h
  | 7, hf, h =>
    have h : z_bin32 nx b st = _ := h
    unfold z_bin32 znx at h
    repeat' split at h
    all_goals first | (cases h; exact hf) | cases h
  | 8, hf, h =>
    have h : z_div32 nx b st = _ := h
    unfold z_div32 znx at h
    repeat' split at h
    all_goals first | (cases h; exact hf) | cases h
  | 9, hf, h =>
    have h : z_neg64 nx st = _ := h
    unfold z_neg64 znx at h
    repeat' split at h
    all_goals first | (cases h; exact hf) | cases h
  | 10, hf, h =>
    have h : z_bin64 nx b st = _ := h
    unfold z_bin64 znx at h
    repeat' split at h
    all_goals first | (cases h; exact hf) | cases h
  | 11, hf, h =>
    have h : z_div64 nx b st = _ := h
    unfold z_div64 znx at h
    repeat' split at h
    all_goals first | (cases h; exact hf) | cases h
  | 12, hf, h =>
    have h : z_sh64 nx b st = _ := h
    unfold z_sh64 znx at h
    repeat' split at h
    all_goals first | (cases h; exact hf) | cases h
  | 13, hf, h =>
    have h : z_i2l nx st = _ := h
    unfold z_i2l znx at h
    repeat' split at h
    all_goals first | (cases h; exact hf) | cases h
  | 14, hf, h =>
    have h : z_l2i nx st = _ := h
    unfold z_l2i znx at h
    repeat' split at h
    all_goals first | (cases h; exact hf) | cases h
  | 15, hf, h =>
    have h : z_stk nx b st = _ := h
    unfold z_stk znx at h
    repeat' split at h
    all_goals first | (cases h; exact hf) | cases h
  | 16, hf, h =>
    have hf : (inS mi nx && inS mi a) = true := hf
    rw [Bool.and_eq_true] at hf
    have h : z_if nx a b st = _ := h
    unfold z_if at h
    split at h
    · have h : znx _ _ = some (.inr (.inl q)) := h
      unfold znx at h
      cases h
      show inS mi (if _ then a else nx) = true
      split
      · exact hf.2
      · exact hf.1
    · cases h
  | 17, hf, h =>
    have hf : (inS mi nx && inS mi a) = true := hf
    rw [Bool.and_eq_true] at hf
    have h : z_icmp nx a b st = _ := h
    unfold z_icmp at h
    split at h
    · have h : znx _ _ = some (.inr (.inl q)) := h
      unfold znx at h
      cases h
      show inS mi (if _ then a else nx) = true
      split
      · exact hf.2
      · exact hf.1
    · cases h
  | 18, hf, h =>
    have h : z_lcmp nx st = _ := h
    unfold z_lcmp at h
    split at h
    · have h : znx nx _ = some (.inr (.inl q)) := h
      unfold znx at h
      cases h
      exact hf
    · cases h
  | 19, hf, h =>
    have hf : (inS mi nx && cs.all (fun q => inS mi q.2)) = true := hf
    rw [Bool.and_eq_true] at hf
    have h : z_sw nx cs st = _ := h
    unfold z_sw at h
    split at h
    · rename_i x S hS
      have h : znx _ _ = some (.inr (.inl q)) := h
      unfold znx at h
      cases h
      have key : ∀ l : List (Int × Nat), l.all (fun q => inS mi q.2) = true → inS mi (zfind nx x l) = true := by
        intro l
        induction l with
        | nil => exact fun _ => hf.1
        | cons c l ih =>
          intro h2
          have h2 : (inS mi c.2 && l.all (fun q => inS mi q.2)) = true := h2
          rw [Bool.and_eq_true] at h2
          show inS mi (if x = c.1 then c.2 else zfind nx x l) = true
          split
          · exact h2.1
          · exact ih h2.2
      exact key cs hf.2
    · cases h
  | 20, hf, h =>
    have h : z_getf nx a b st = _ := h
    unfold z_getf znx at h
    repeat' split at h
    all_goals first | (cases h; exact hf) | cases h
  | 21, hf, h =>
    have hf : (inS mi nx && !(a == ci && b == k)) = true := hf
    rw [Bool.and_eq_true] at hf
    have h : z_putf nx a b z st = _ := h
    unfold z_putf znx at h
    repeat' split at h
    all_goals first | (cases h; exact hf.1) | cases h
  | 22, hf, h =>
    have h : z_ald D nx a st = _ := h
    unfold z_ald znx at h
    repeat' split at h
    all_goals first | (cases h; exact hf) | cases h
  | 23, hf, h =>
    have h : z_ast nx a st = _ := h
    unfold z_ast znx at h
    repeat' split at h
    all_goals first | (cases h; exact hf) | cases h
  | 24, hf, h =>
    have h : z_alen D nx st = _ := h
    unfold z_alen znx at h
    repeat' split at h
    all_goals first | (cases h; exact hf) | cases h
  | 25, hf, h =>
    have h : z_slen D nx st = _ := h
    unfold z_slen znx at h
    repeat' split at h
    all_goals first | (cases h; exact hf) | cases h
  | 26, hf, h =>
    have h : z_char D nx st = _ := h
    unfold z_char znx at h
    repeat' split at h
    all_goals first | (cases h; exact hf) | cases h
  | 27, hf, h =>
    have h : z_math nx b st = _ := h
    unfold z_math at h
    split at h
    · split at h
      · unfold znx at h; cases h; exact hf
      · cases h
    · split at h
      · unfold znx at h; cases h; exact hf
      · cases h
    · split at h
      · unfold znx at h; cases h; exact hf
      · cases h
    · split at h
      · have h : znx nx _ = some (.inr (.inl q)) := h
        unfold znx at h; cases h; exact hf
      · cases h
    · cases h
  | 28, hf, h =>
    have h : z_copy nx a st = _ := h
    unfold z_copy znx at h
    repeat' split at h
    all_goals first | (cases h; exact hf) | cases h
  | 29, hf, h =>
    have h : z_call nx a b z (cs.head?.elim 0 (fun q => q.2)) st = _ := h
    unfold z_call at h
    repeat' split at h
    all_goals cases h
  | 30, hf, h =>
    have h : z_ret b a st = _ := h
    unfold z_ret at h
    repeat' split at h
    all_goals cases h
  | n + 31, hf, h => cases h
theorem zi_cl {D : zD} {st : zS} {inS : Nat → Nat → Bool} {ci k mi : Nat} {q : Nat × List zV × Nat × zS} : ∀ {i : zX}, fwS inS ci k mi i = true → zi D i st = some (.inr (.inr q)) → inS mi q.2.2.1 = true ∧ inS q.1 0 = true := by
  intro i hf h
  obtain ⟨op, nx, a, b, z, cs⟩ := i
  match op, hf, h with
  | 0, hf, h => cases h
  | 1, hf, h => cases h
  | 2, hf, h =>
    have h : z_load nx a b st = _ := h
    unfold z_load znx at h
    repeat' split at h
    all_goals cases h
  | 3, hf, h =>
    have h : z_store1 nx a b st = _ := h
    unfold z_store1 znx at h
    repeat' split at h
    all_goals cases h
  | 4, hf, h =>
    have h : z_store2 nx a st = _ := h
    unfold z_store2 znx at h
    repeat' split at h
    all_goals cases h
  | 5, hf, h =>
    have h : z_iinc nx a z st = _ := h
    unfold z_iinc znx at h
    repeat' split at h
    all_goals cases h
  | 6, hf, h =>
    have h : z_un32 nx b st = _ := h
    unfold z_un32 znx at h
    repeat' split at h
    all_goals cases h
  | 7, hf, h =>
    have h : z_bin32 nx b st = _ := h
    unfold z_bin32 znx at h
    repeat' split at h
    all_goals cases h
  | 8, hf, h =>
    have h : z_div32 nx b st = _ := h
    unfold z_div32 znx at h
    repeat' split at h
    all_goals cases h
  | 9, hf, h =>
    have h : z_neg64 nx st = _ := h
    unfold z_neg64 znx at h
    repeat' split at h
    all_goals cases h
  | 10, hf, h =>
    have h : z_bin64 nx b st = _ := h
    unfold z_bin64 znx at h
    repeat' split at h
    all_goals cases h
  | 11, hf, h =>
    have h : z_div64 nx b st = _ := h
    unfold z_div64 znx at h
    repeat' split at h
    all_goals cases h
  | 12, hf, h =>
    have h : z_sh64 nx b st = _ := h
    unfold z_sh64 znx at h
    repeat' split at h
    all_goals cases h
  | 13, hf, h =>
    have h : z_i2l nx st = _ := h
    unfold z_i2l znx at h
    repeat' split at h
    all_goals cases h
  | 14, hf, h =>
    have h : z_l2i nx st = _ := h
    unfold z_l2i znx at h
    repeat' split at h
    all_goals cases h
  | 15, hf, h =>
    have h : z_stk nx b st = _ := h
    unfold z_stk znx at h
    repeat' split at h
    all_goals cases h
  | 16, hf, h =>
    have h : z_if nx a b st = _ := h
    unfold z_if at h
    split at h
    · have h : znx _ _ = some (.inr (.inr q)) := h
      unfold znx at h
      cases h
    · cases h
  | 17, hf, h =>
    have h : z_icmp nx a b st = _ := h
    unfold z_icmp at h
    split at h
    · have h : znx _ _ = some (.inr (.inr q)) := h
      unfold znx at h
      cases h
    · cases h
  | 18, hf, h =>
    have h : z_lcmp nx st = _ := h
    unfold z_lcmp at h
    split at h
    · have h : znx nx _ = some (.inr (.inr q)) := h
      unfold znx at h
      cases h
    · cases h
  | 19, hf, h =>
    have h : z_sw nx cs st = _ := h
    unfold z_sw at h
    split at h
    · have h : znx _ _ = some (.inr (.inr q)) := h
      unfold znx at h
      cases h
    · cases h
  | 20, hf, h =>
    have h : z_getf nx a b st = _ := h
    unfold z_getf znx at h
    repeat' split at h
    all_goals cases h
  | 21, hf, h =>
    have h : z_putf nx a b z st = _ := h
    unfold z_putf znx at h
    repeat' split at h
    all_goals cases h
  | 22, hf, h =>
    have h : z_ald D nx a st = _ := h
    unfold z_ald znx at h
    repeat' split at h
    all_goals cases h
  | 23, hf, h =>
    have h : z_ast nx a st = _ := h
    unfold z_ast znx at h
    repeat' split at h
    all_goals cases h
  | 24, hf, h =>
    have h : z_alen D nx st = _ := h
    unfold z_alen znx at h
    repeat' split at h
    all_goals cases h
  | 25, hf, h =>
    have h : z_slen D nx st = _ := h
    unfold z_slen znx at h
    repeat' split at h
    all_goals cases h
  | 26, hf, h =>
    have h : z_char D nx st = _ := h
    unfold z_char znx at h
    repeat' split at h
    all_goals cases h
  | 27, hf, h =>
    have h : z_math nx b st = _ := h
    unfold z_math at h
    split at h
    · split at h
      · unfold znx at h; cases h
      · cases h
    · split at h
      · unfold znx at h; cases h
      · cases h
    · split at h
      · unfold znx at h; cases h
      · cases h
    · split at h
      · have h : znx nx _ = some (.inr (.inr q)) := h
        unfold znx at h; cases h
      · cases h
    · cases h
  | 28, hf, h =>
    have h : z_copy nx a st = _ := h
    unfold z_copy znx at h
    repeat' split at h
    all_goals cases h
  | 29, hf, h =>
    have hf : (inS mi nx && inS a 0) = true := hf
    rw [Bool.and_eq_true] at hf
    have h : z_call nx a b z (cs.head?.elim 0 (fun q => q.2)) st = _ := h
    unfold z_call at h
    repeat' split at h
    all_goals first | (cases h; exact hf) | cases h
  | 30, hf, h =>
    have h : z_ret b a st = _ := h
    unfold z_ret at h
    repeat' split at h
    all_goals cases h
  | n + 31, hf, h => cases h
theorem zi_inl {D : zD} {st : zS} {q : zR} : ∀ {i : zX}, zi D i st = some (.inl q) → i.1 = 30 := by
  intro i h
  obtain ⟨op, nx, a, b, z, cs⟩ := i
  match op, h with
  | 0, h => cases h
  | 1, h => cases h
  | 2, h =>
    have h : z_load nx a b st = _ := h
    unfold z_load znx at h
    repeat' split at h
    all_goals cases h
  | 3, h =>
    have h : z_store1 nx a b st = _ := h
    unfold z_store1 znx at h
    repeat' split at h
    all_goals cases h
  | 4, h =>
    have h : z_store2 nx a st = _ := h
    unfold z_store2 znx at h
    repeat' split at h
    all_goals cases h
  | 5, h =>
    have h : z_iinc nx a z st = _ := h
    unfold z_iinc znx at h
    repeat' split at h
    all_goals cases h
  | 6, h =>
    have h : z_un32 nx b st = _ := h
    unfold z_un32 znx at h
    repeat' split at h
    all_goals cases h
  | 7, h =>
    have h : z_bin32 nx b st = _ := h
    unfold z_bin32 znx at h
    repeat' split at h
    all_goals cases h
  | 8, h =>
    have h : z_div32 nx b st = _ := h
    unfold z_div32 znx at h
    repeat' split at h
    all_goals cases h
  | 9, h =>
    have h : z_neg64 nx st = _ := h
    unfold z_neg64 znx at h
    repeat' split at h
    all_goals cases h
  | 10, h =>
    have h : z_bin64 nx b st = _ := h
    unfold z_bin64 znx at h
    repeat' split at h
    all_goals cases h
  | 11, h =>
    have h : z_div64 nx b st = _ := h
    unfold z_div64 znx at h
    repeat' split at h
    all_goals cases h
  | 12, h =>
    have h : z_sh64 nx b st = _ := h
    unfold z_sh64 znx at h
    repeat' split at h
    all_goals cases h
  | 13, h =>
    have h : z_i2l nx st = _ := h
    unfold z_i2l znx at h
    repeat' split at h
    all_goals cases h
  | 14, h =>
    have h : z_l2i nx st = _ := h
    unfold z_l2i znx at h
    repeat' split at h
    all_goals cases h
  | 15, h =>
    have h : z_stk nx b st = _ := h
    unfold z_stk znx at h
    repeat' split at h
    all_goals cases h
  | 16, h =>
    have h : z_if nx a b st = _ := h
    unfold z_if at h
    split at h
    · have h : znx _ _ = some (.inl q) := h
      unfold znx at h
      cases h
    · cases h
  | 17, h =>
    have h : z_icmp nx a b st = _ := h
    unfold z_icmp at h
    split at h
    · have h : znx _ _ = some (.inl q) := h
      unfold znx at h
      cases h
    · cases h
  | 18, h =>
    have h : z_lcmp nx st = _ := h
    unfold z_lcmp at h
    split at h
    · have h : znx nx _ = some (.inl q) := h
      unfold znx at h
      cases h
    · cases h
  | 19, h =>
    have h : z_sw nx cs st = _ := h
    unfold z_sw at h
    split at h
    · have h : znx _ _ = some (.inl q) := h
      unfold znx at h
      cases h
    · cases h
  | 20, h =>
    have h : z_getf nx a b st = _ := h
    unfold z_getf znx at h
    repeat' split at h
    all_goals cases h
  | 21, h =>
    have h : z_putf nx a b z st = _ := h
    unfold z_putf znx at h
    repeat' split at h
    all_goals cases h
  | 22, h =>
    have h : z_ald D nx a st = _ := h
    unfold z_ald znx at h
    repeat' split at h
    all_goals cases h
  | 23, h =>
    have h : z_ast nx a st = _ := h
    unfold z_ast znx at h
    repeat' split at h
    all_goals cases h
  | 24, h =>
    have h : z_alen D nx st = _ := h
    unfold z_alen znx at h
    repeat' split at h
    all_goals cases h
  | 25, h =>
    have h : z_slen D nx st = _ := h
    unfold z_slen znx at h
    repeat' split at h
    all_goals cases h
  | 26, h =>
    have h : z_char D nx st = _ := h
    unfold z_char znx at h
    repeat' split at h
    all_goals cases h
  | 27, h =>
    have h : z_math nx b st = _ := h
    unfold z_math at h
    split at h
    · split at h
      · unfold znx at h; cases h
      · cases h
    · split at h
      · unfold znx at h; cases h
      · cases h
    · split at h
      · unfold znx at h; cases h
      · cases h
    · split at h
      · have h : znx nx _ = some (.inl q) := h
        unfold znx at h; cases h
      · cases h
    · cases h
  | 28, h =>
    have h : z_copy nx a st = _ := h
    unfold z_copy znx at h
    repeat' split at h
    all_goals cases h
  | 29, h =>
    have h : z_call nx a b z (cs.head?.elim 0 (fun q => q.2)) st = _ := h
    unfold z_call at h
    repeat' split at h
    all_goals cases h
  | 30, h =>
    rfl
  | n + 31, h => cases h
theorem zEv_fr {D : zD} {T : zT} {inS : Nat → Nat → Bool} {ci k r0 w : Nat} (hs : zShape[r0]? = some (.inr (ci, w))) (hW : fwOK inS ci k T) : ∀ {n mi pc : Nat} {st : zS} {r : zR}, zEv D T n mi pc st = some r → inS mi pc = true → r.1 r0 k = st.1 r0 k := by
  intro n
  induction n with
  | zero => intro mi pc st r h; cases h
  | succ n ih =>
    intro mi pc st r h hS
    cases hi : T mi pc with
    | none =>
      have h : zEvA D T (zEv D T n) mi pc st = some r := h
      unfold zEvA at h
      rw [hi] at h
      cases h
    | some i =>
      rw [zEv_s hi] at h
      have hf := hW mi pc i hS hi
      cases hz : zi D i st with
      | none => rw [hz] at h; cases h
      | some o =>
        have g := zi_fr (k := k) hs hf hz
        rw [hz] at h
        match o, h, g, hz with
        | .inl q, h, g, _ => cases h; exact g
        | .inr (.inl q), h, g, hz => exact (ih h (zi_nx hf hz)).trans g
        | .inr (.inr q), h, g, hz =>
          obtain ⟨c1, c2⟩ := zi_cl hf hz
          have h : (match zEv D T n q.1 0 (q.2.2.2.1, zargs 0 q.2.1, []) with
            | none => none
            | some r1 => zEv D T n mi q.2.2.1 (r1.1, q.2.2.2.2.1, zpush r1.2 q.2.2.2.2.2)) = some r := h
          cases hc : zEv D T n q.1 0 (q.2.2.2.1, zargs 0 q.2.1, []) with
          | none => rw [hc] at h; cases h
          | some r1 => rw [hc] at h; exact ((ih h c1).trans (ih hc c2)).trans g
/-- what any run comes to keeps the field -/
theorem vP_fr {D : zD} {T : zT} {inS : Nat → Nat → Bool} {ci k r0 w : Nat} (hs : zShape[r0]? = some (.inr (ci, w))) (hW : fwOK inS ci k T) {N mi pc : Nat} {h : zH} {l : List (Option zV)} {S : List zV} (hS : inS mi pc = true) : vP D T N mi pc h l S (fun r => r.1 r0 k = h r0 k) := fun _ _ _ _ he => zEv_fr hs hW he hS
