def zA0 : zA := fun a k => if a = 2 then (if k = 0 then 1 else 0) else if a = 3 then 1 else if a = 4 then 2 else if a = 7 then -1 else if a = 12 then (if k < 4 then -1 else 0) else if a = 13 then (if k = 0 then -1 else 0) else if a = 14 then (if k = 9 then 64 else 0) else if a = 25 then (if k = 0 then 1 else 0) else if a = 26 then (if k = 0 then 2 else 0) else if a = 27 then (if k = 0 then -1 else 0) else 0
theorem J_start : JJ 0 zA0 := by
  have h2 : ∀ i, i < 6 → zA0 2 i ≠ 0 → i = 0 := by decide
  refine ⟨by omega, by omega, ?_, ?_, ?_, ?_, ?_, ?_, ?_⟩
  · refine ⟨by decide, fun i hi hs => ?_, fun i hi hs => ?_, by decide, by decide, ?_, by decide, by decide, by decide⟩
    · have e := h2 i hi hs
      subst e
      refine ⟨by decide, by decide, by decide, by decide⟩
    · have e := h2 i hi hs
      subst e
      decide
    · intro i hi hs
      have : ∀ i, i < 6 → ¬ (zA0 2 i = 2 ∨ zA0 2 i = 3) := by decide
      exact absurd hs (this i hi)
  · unfold JC; decide
  · refine ⟨by decide, by decide, by decide, by decide, fun p hp => ⟨Or.inl rfl, fun h => ?_⟩, fun p hp h => absurd rfl h, fun u hu h => absurd rfl h⟩
    have : (16 : Int) ≤ 0 := h
    omega
  · refine ⟨fun i hi hs q hq => ?_, fun c hc r hr => ?_, fun u hu h => absurd rfl h.1⟩
    · have e := h2 i hi hs
      subst e
      have hq : (q : Int) < 4 * 1 := hq
      left
      show (if 64 * 0 + q < 4 then (-1 : Int) else 0) = -1
      rw [if_pos (by omega)]
    · have hr : (r : Int) < 0 := hr
      omega
  · exact fun u hu h => absurd rfl h
  · exact fun h => absurd rfl h
  · exact ⟨by decide, by decide, by decide, by decide⟩
