noncomputable def tTb (k : Nat) : List Cond := match k with
  | 1 => tables_1_1
  | 3 => tables_1_3
  | 9 => tables_1_9
  | _ => []
theorem tTb_in {k : Nat} {w : Cond} (h : w ∈ tTb k) : w ∈ lw_tbl := by
  match k, h with
  | 1, h => exact List.mem_append_right _ (List.mem_append_left _ h)
  | 3, h => exact List.mem_append_right _ (List.mem_append_right _ (List.mem_append_right _ (List.mem_append_left _ h)))
  | 9, h => exact List.mem_append_right _ (List.mem_append_right _ (List.mem_append_right _ (List.mem_append_right _ (List.mem_append_right _ (List.mem_append_right _ (List.mem_append_right _ (List.mem_append_right _ (List.mem_append_right _ h))))))))
  | 0, h => cases h
  | 2, h => cases h
  | 4, h => cases h
  | 5, h => cases h
  | 6, h => cases h
  | 7, h => cases h
  | 8, h => cases h
  | k + 10, h => cases h
noncomputable def t_hasAll : List Cond → List (Nat × Nat) → Bool
  | [], _ => true
  | w :: ws, q :: ps => ((match x_nth (tTb q.1) q.2 with
    | some v => decide (v = w)
    | none => false) && goodWord w) && t_hasAll ws ps
  | _ :: _, [] => false
