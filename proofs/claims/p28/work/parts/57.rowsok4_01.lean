section TH4
variable {X : aX} {ρ : Nat → Int} {q : aQ} {h : zH}
theorem a_alls_ok {p : Nat → Bool} : ∀ {l : List Nat}, a_alls p l = true → ∀ i ∈ l, p i = true
  | [], _, i, hi => absurd hi List.not_mem_nil
  | a :: l, h, i, hi => by
    have h : (p a && a_alls p l) = true := h
    rw [Bool.and_eq_true] at h
    rcases List.mem_cons.mp hi with e | e
    · rw [e]; exact h.1
    · exact a_alls_ok h.2 i e
end TH4
section TH4
variable {X : aX} {ρ : Nat → Int} {q : aQ} {h : zH}
theorem a_atK_any {γ : Type} {L : aL} {loc : Nat} {k : Int} {f g : Unit → Option γ} {r : γ} (hr : a_atK L q loc k f g = some r) : f () = some r ∨ g () = some r := by
  unfold a_atK at hr
  split at hr
  · obtain ⟨lo, hi, hr⟩ := a_rngK_any hr
    rcases x_condT hr with ⟨-, hr⟩ | ⟨-, hr⟩
    · exact Or.inl hr
    · exact Or.inr hr
  · cases hr
end TH4
section TH4
variable {X : aX} {ρ : Nat → Int} {q : aQ} {h : zH}
theorem rIn_mem {B k : Nat} (h : rIn B k) : ∃ i, k = B + i ∧ (i ∈ a_alP ∧ 2 ≤ i) ∧ (B = 2200 → k ∈ a_zeP) := by
  refine ⟨k - B, by unfold rIn at h; omega, ?_, ?_⟩
  · have : k - B = 245 ∨ k - B = 246 ∨ k - B = 247 ∨ k - B = 248 ∨ k - B = 249 ∨ k - B = 250 ∨ k - B = 257 ∨ k - B = 258 ∨ k - B = 259 ∨ k - B = 260 ∨ k - B = 261 ∨ k - B = 262 := by unfold rIn at h; omega
    refine ⟨?_, by omega⟩
    rcases this with e | e | e | e | e | e | e | e | e | e | e | e <;> rw [e] <;> decide
  · intro hB
    subst hB
    have : k = 2445 ∨ k = 2446 ∨ k = 2447 ∨ k = 2448 ∨ k = 2449 ∨ k = 2450 ∨ k = 2457 ∨ k = 2458 ∨ k = 2459 ∨ k = 2460 ∨ k = 2461 ∨ k = 2462 := by unfold rIn at h; omega
    rcases this with e | e | e | e | e | e | e | e | e | e | e | e <;> rw [e] <;> decide
end TH4
section TH4
variable {X : aX} {ρ : Nat → Int} {q : aQ} {h : zH}
theorem rFx_al {b : Nat} (hb : b ≤ 5) (h : zH) : rFx (345 + b) h ↔ rAl h (a_alR b) (a_alB b) := by
  match b, hb with
  | 0, _ => exact Iff.rfl
  | 1, _ => exact Iff.rfl
  | 2, _ => exact Iff.rfl
  | 3, _ => exact Iff.rfl
  | 4, _ => exact Iff.rfl
  | 5, _ => exact Iff.rfl
  | n + 6, h => omega
end TH4
