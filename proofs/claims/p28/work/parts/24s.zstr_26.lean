theorem tPc_blind (P : zP) (adV : Nat → Nat) (vs : List Value) : FrameBlind (tPc P adV vs) := fun a U g mk q => ⟨q.1, tX.moved (s := U) (U := U.calling g mk a) (Vm.Alike.refl U.vm) q.2⟩
theorem tPc_at {P : zP} {adV : Nat → Nat} {vs : List Value} {s : State} {H : Heap} (h : tX P adV s H) : ∀ U : State, U.heap = H → s.WarmedH U.vm → tPc P adV vs vs.toArray U := fun U hU hW => ⟨rfl, by rw [hU]; exact h.moved hW.alike⟩
theorem t_after {P : zP} {p : Program} {l : Launch} {e : Env} {R : Room} {s : State} {m : MethodId} {args a : Array Value} {below : List Frame} {meth : Method} {c : Code} {H : Heap} {locs : List Loc} {cells slots pc : Nat} {ls : Array Slot} {st0 rest : List Value} {Q : State → Prop} {ov : Option Value}
    (hrun : va_Run p l e R s m args below meth c H locs cells slots 0 0 (F0 m pc ls st0) rest (tQc ov a) (fun z => P.1 ≤ z))
    (kk : ∀ L : List Loc, (∀ q ∈ L, P.1 ≤ q.base) → W p l e R s m args below meth c H (locs ++ L) cells slots Q (F0 m (pc + 3) ls (ov.toList ++ rest))) : W p l e R s m args below meth c H locs cells slots Q (F0 m pc ls st0) := by
  intro T hT X
  obtain ⟨v, st₀, t, T', L, h0, X', hL, e1, e2, ⟨hv, hh⟩, st⟩ := hrun T hT X
  cases hv
  obtain ⟨t2, a1, b1⟩ := kk L hL T' (by rw [e1, hh, h0]) X'
  exact ⟨t2, st t2 a1, b1⟩
