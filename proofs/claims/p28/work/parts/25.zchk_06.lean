def zTys : List (Nat → FieldType) := [tyX0, tyX1, tyX2, tyX3, tyX4, tyX5, tyX6, tyX7, tyX8, tyX9, tyX10, tyX11, tyX12]
theorem zcls {ci : Nat} {q : vw_C} {ty : Nat → FieldType} (h : vwCl[ci]? = some q) (ht : zTys[ci]? = some ty) : zNs[ci]? = some q.2.2 ∧ (∀ w ∈ u_ws q.1 q.2.1 q.2.2, w ∈ xTB) ∧ (∀ k, k < q.2.2 → parseFieldDescriptor (q.2.1 k).2.2.1 = some (ty k)) ∧ (∀ a, a < q.2.2 → ∀ b, b < q.2.2 → a ≠ b → (q.2.1 a).2.1 ≠ (q.2.1 b).2.1) := by
  match ci, h, ht with
  | 0, h, ht => cases h; cases ht; exact ⟨rfl, xin_0, tyX0_ok, nmX0⟩
  | 1, h, ht => cases h; cases ht; exact ⟨rfl, xin_1, tyX1_ok, nmX1⟩
  | 2, h, ht => cases h; cases ht; exact ⟨rfl, xin_2, tyX2_ok, nmX2⟩
  | 3, h, ht => cases h; cases ht; exact ⟨rfl, xin_3, tyX3_ok, nmX3⟩
  | 4, h, ht => cases h; cases ht; exact ⟨rfl, xin_4, tyX4_ok, nmX4⟩
  | 5, h, ht => cases h; cases ht; exact ⟨rfl, xin_5, tyX5_ok, nmX5⟩
  | 6, h, ht => cases h; cases ht; exact ⟨rfl, xin_6, tyX6_ok, nmX6⟩
  | 7, h, ht => cases h; cases ht; exact ⟨rfl, xin_7, tyX7_ok, nmX7⟩
  | 8, h, ht => cases h; cases ht; exact ⟨rfl, xin_8, tyX8_ok, nmX8⟩
  | 9, h, ht => cases h; cases ht; exact ⟨rfl, xin_9, tyX9_ok, nmX9⟩
  | 10, h, ht => cases h; cases ht; exact ⟨rfl, xin_10, tyX10_ok, nmX10⟩
  | 11, h, ht => cases h; cases ht; exact ⟨rfl, xin_11, tyX11_ok, nmX11⟩
  | 12, h, ht => cases h; cases ht; exact ⟨rfl, xin_12, tyX12_ok, nmX12⟩
  | ci + 13, h, ht => simp [vwCl] at h
abbrev zMh : Type := Nat × Bool × Nat × zIx × zIx × zIx × zIx
noncomputable def zmchk (y : zY) (q : zMh) : Bool :=
  Nat.ble y.2.2.1 41 && (plainName y.1.cls && (zhas q.2.2.2.2.1 (.initialized y.1.cls) && (decide (y.1.cls ≠ "java/lang/invoke/MethodHandle") && (decide (y.1.cls ≠ "java/lang/invoke/VarHandle") && (decide ((parseMethodDescriptor y.1.desc).map (fun d => d.parameters.length) = some q.1) && (match q.2.1 with
    | true => zhas q.2.2.2.2.2.1 (.static y.1)
    | false => zhas q.2.2.2.2.2.1 (.instanceMethod y.1) && (zhas q.2.2.2.2.2.2 (.selects y.1.cls y.1 y.1) && (match x_nth vwCl q.2.2.1 with
      | some r => decide (y.1.cls = r.1)
      | none => false))))))))
def zMhOK (M : List (zY × zMh)) : Prop := ∀ q ∈ M, zmchk q.1 q.2 = true ∧ Cond.code q.1.1 q.1.2.1 q.1.2.2.1 q.1.2.2.2 ∈ xTB
