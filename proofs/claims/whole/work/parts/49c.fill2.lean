theorem a_wds_pt {a : Nat} {ptrs : Int} : ∀ (k w : Nat) (A : zA) (c j : Nat), a_wds a ptrs k w A c j = if c = 15 ∧ a + w ≤ j ∧ j < a + w + k then (if ((j - a : Nat) : Int) < ptrs then -1 else 0) else A c j := by
  intro k
  induction k with
  | zero => intro w A c j; rw [a_wds, if_neg (by omega)]
  | succ k ih =>
    intro w A c j
    rw [a_wds, ih]
    by_cases e : c = 15 ∧ a + (w + 1) ≤ j ∧ j < a + (w + 1) + k
    · rw [if_pos e, if_pos (show c = 15 ∧ a + w ≤ j ∧ j < a + w + (k + 1) by omega)]
    · rw [if_neg e]
      unfold aset
      by_cases e2 : c = 15 ∧ j = a + w
      · rw [if_pos e2, if_pos (show c = 15 ∧ a + w ≤ j ∧ j < a + w + (k + 1) by omega), e2.2, show a + w - a = w by omega]
      · rw [if_neg e2, if_neg (by omega)]
section FIL2
variable {N : Int} {A : zA}
theorem J_fillS {u : Nat} {size ptrs : Int} (hJ : JJ N A) (hu : u < 128) (h18 : A 18 u = 0) (h16 : A 16 (u / 8) = a_slot size) (h17 : A 17 (u / 8) = 0) (hal : (2 * ((u % 8 : Nat) : Int)) % a_slot size = 0) (s1 : 1 ≤ size) (s2 : size ≤ 64) (p1 : 0 ≤ ptrs) (p2 : ptrs ≤ size) : JJ N (a_fillS A (2 * u) size ptrs (if A 14 5 = 0 then 0 else 1)) ∧ okf (a_fillS A (2 * u) size ptrs (if A 14 5 = 0 then 0 else 1) 17) (a_fillS A (2 * u) size ptrs (if A 14 5 = 0 then 0 else 1) 18) (a_fillS A (2 * u) size ptrs (if A 14 5 = 0 then 0 else 1) 20) (2 * (u : Int)) ∧ (A 14 5 ≠ 0 → a_fillS A (2 * u) size ptrs (if A 14 5 = 0 then 0 else 1) 20 u = 1) ∧ a_fillS A (2 * u) size ptrs (if A 14 5 = 0 then 0 else 1) 14 = A 14 := by
  have hX : ∀ c j, a_fillS A (2 * u) size ptrs (if A 14 5 = 0 then 0 else 1) c j = if c = 15 ∧ 2 * u ≤ j ∧ j < 2 * u + size.toNat then (if ((j - 2 * u : Nat) : Int) < ptrs then -1 else 0) else if c = 20 ∧ j = u then (if A 14 5 = 0 then 0 else 1) else if c = 19 ∧ j = u then ptrs else if c = 18 ∧ j = u then size else if c = 33 ∧ j = 2 * u then A 14 5 else if c = 28 ∧ j = u then ptrs else A c j := by
    intro c j
    unfold a_fillS
    rw [a_wds_pt, show 2 * u / 2 = u by omega]
    rfl
  have rr : ∀ a, [15, 20, 19, 18, 33, 28].elem a = false → a_fillS A (2 * u) size ptrs (if A 14 5 = 0 then 0 else 1) a = A a := by
    intro a ha
    have a1 : a ≠ 15 := fun e => by subst e; cases ha
    have a2 : a ≠ 20 := fun e => by subst e; cases ha
    have a3 : a ≠ 19 := fun e => by subst e; cases ha
    have a4 : a ≠ 18 := fun e => by subst e; cases ha
    have a5 : a ≠ 33 := fun e => by subst e; cases ha
    have a6 : a ≠ 28 := fun e => by subst e; cases ha
    funext j
    rw [hX, if_neg (fun w => a1 w.1), if_neg (fun w => a2 w.1), if_neg (fun w => a3 w.1), if_neg (fun w => a4 w.1), if_neg (fun w => a5 w.1), if_neg (fun w => a6 w.1)]
  generalize a_fillS A (2 * u) size ptrs (if A 14 5 = 0 then 0 else 1) = B at *
  have b15 : ∀ j, B 15 j = if 2 * u ≤ j ∧ j < 2 * u + size.toNat then (if ((j - 2 * u : Nat) : Int) < ptrs then -1 else 0) else A 15 j := fun j => by rw [hX]; simp
  have b20 : ∀ j, B 20 j = if j = u then (if A 14 5 = 0 then 0 else 1) else A 20 j := fun j => by rw [hX]; simp
  have b19 : ∀ j, B 19 j = if j = u then ptrs else A 19 j := fun j => by rw [hX]; simp
  have b18 : ∀ j, B 18 j = if j = u then size else A 18 j := fun j => by rw [hX]; simp
  have b33 : ∀ j, B 33 j = if j = 2 * u then A 14 5 else A 33 j := fun j => by rw [hX]; simp
  have b28 : ∀ j, B 28 j = if j = u then ptrs else A 28 j := fun j => by rw [hX]; simp
  clear hX
  obtain ⟨n1, n2, hF, hC, hH, hV, hK, hM, hN⟩ := hJ
  have g := a_slot_rg (n := size) (by omega) s2
  have hHB : JH B := by
    unfold JH
    rw [rr 16 rfl, rr 17 rfl, rr 14 rfl]
    obtain ⟨x1, x2, x3, x4, x5, x6, x7⟩ := hH
    refine ⟨x1, x2, fun v hv => ?_, x4, x5, x6, fun v hv h => ?_⟩
    · obtain ⟨y1, y2, y3, y4, y5, y6⟩ := x3 v hv
      rw [b18, b19, b20]
      by_cases e : v = u
      · rw [if_pos e, if_pos e, if_pos e]
        refine ⟨by omega, s2, p1, by omega, ?_, ?_⟩ <;> split <;> omega
      · rw [if_neg e, if_neg e, if_neg e]
        exact ⟨y1, y2, y3, y4, y5, y6⟩
    · rw [b18] at h ⊢
      rw [b19, b28]
      by_cases e : v = u
      · rw [if_pos e, if_pos e, if_pos e, e, h16]
        exact ⟨rfl, hal, p2, rfl⟩
      · rw [if_neg e] at h
        rw [if_neg e, if_neg e, if_neg e]
        exact x7 v hv h
  have h18B : B 18 u ≠ 0 := by rw [b18, if_pos rfl]; omega
  -- words of other objects stay
  have out : ∀ v, v < 128 → A 18 v ≠ 0 → ∀ w : Nat, (w : Int) < A 18 v → B 15 (2 * v + w) = A 15 (2 * v + w) := by
    intro v hv hz w hw
    have hne : v ≠ u := fun e => hz (by rw [e]; exact h18)
    have hzB : B 18 v = A 18 v := by rw [b18, if_neg hne]
    rw [b15, if_neg]
    rintro ⟨w1, w2⟩
    rcases Nat.lt_or_gt_of_ne hne with c | c
    · have := hHB.dis hv hu (by rw [hzB]; exact hz) h18B c
      rw [hzB] at this
      omega
    · have := hHB.dis hu hv h18B (by rw [hzB]; exact hz) c
      rw [b18, if_pos rfl] at this
      omega
  have lvB : ∀ v, lvf (A 17) (A 18) (A 20) v → lvf (B 17) (B 18) (B 20) v := by
    intro v h
    have hne : v ≠ u := fun e => h.1 (by rw [e]; exact h18)
    refine ⟨by rw [b18, if_neg hne]; exact h.1, ?_⟩
    rw [rr 17 rfl, b20, if_neg hne]
    exact h.2
  have okB : ∀ p, okf (A 17) (A 18) (A 20) p → okf (B 17) (B 18) (B 20) p := fun p h => h.elim Or.inl (fun h => Or.inr ⟨h.1, h.2.1, h.2.2.1, lvB _ h.2.2.2⟩)
  have h16B : ∀ v, v < 128 → A 18 v ≠ 0 → A 19 v ≤ A 18 v ∧ A 28 v = A 19 v := fun v hv h => (hH.2.2.2.2.2.2 v hv h).2.2
  refine ⟨⟨n1, n2, JF_c rr (by decide) (by rw [rr 14 rfl]) hF, JC_c rr (by decide) hC, hHB, ?_, ?_, ?_, JN_c rr (by rw [rr 14 rfl]) (by rw [rr 14 rfl]) hN⟩, Or.inr ⟨by omega, by omega, by omega, ?_⟩, fun hm => ?_, rr 14 rfl⟩
  · unfold JV
    obtain ⟨v1, v2, v3⟩ := hV
    refine ⟨fun i hi hs q hq => ?_, fun c hc r hr => ?_, fun v hv hl w hw => ?_⟩
    · rw [rr 2 rfl] at hs
      rw [rr 3 rfl] at hq
      rw [rr 12 rfl]
      exact okB _ (v1 i hi hs q hq)
    · rw [rr 22 rfl] at hr
      rw [rr 21 rfl]
      exact okB _ (v2 c hc r hr)
    · by_cases e : v = u
      · rw [b19, if_pos e] at hw
        rw [e, b15, if_pos (by omega), if_pos (by omega)]
        exact Or.inl rfl
      · rw [b19, if_neg e] at hw
        have hl1 : A 18 v ≠ 0 := by have := hl.1; rw [b18, if_neg e] at this; exact this
        have hl2 : lvf (A 17) (A 18) (A 20) v := ⟨hl1, by have := hl.2; rw [rr 17 rfl, b20, if_neg e] at this; exact this⟩
        rw [out v hv hl1 w (by have := h16B v hv hl1; omega)]
        exact okB _ (v3 v hv hl2 w hw)
  · intro v hv h1 h2
    rw [rr 17 rfl] at h1
    have e : v ≠ u := fun e => h1 (by rw [e]; exact h17)
    rw [b18, if_neg e] at h2
    rw [rr 34 rfl, b20, if_neg e]
    exact hK v hv h1 h2
  · intro hm
    rw [rr 14 rfl] at hm ⊢
    have hm1 : A 14 5 = 1 := hH.co.1.resolve_left hm
    have h0 : A 20 u = 0 := by
      apply Decidable.byContradiction
      intro e
      exact (hM hm).2.1 u hu e h18
    obtain ⟨⟨m1, m1'⟩, m2, ⟨m3, m3'⟩, m4, ⟨m5, m5'⟩, m6, m7, m8⟩ := hM hm
    rw [if_neg hm] at b20
    have mono : ∀ v, A 20 v ≠ 0 → B 20 v ≠ 0 := by
      intro v h
      rw [b20]
      split
      · omega
      · exact h
    have mkB : ∀ p, mkf (A 20) p → mkf (B 20) p := fun p h => h.elim Or.inl (fun h => Or.inr (mono _ h))
    have cl : ∀ S, clf (B 18) (B 24) (B 33) (B 28) (B 15) S → clf (A 18) (A 24) (A 33) (A 28) (A 15) (fun a => S a ∧ a ≠ 2 * u) := by
      rintro S ⟨c1, c2⟩
      refine ⟨fun a a1 a2 a3 a4 a5 => ?_, fun a a1 a2 a3 a4 w hw p hp e hy => ?_⟩
      · have hne : a ≠ 2 * u := fun e => by rw [e, show 2 * u / 2 = u by omega, h18] at a3; omega
        refine ⟨c1 a a1 a2 ?_ ?_ ?_, hne⟩
        · rw [b18, if_neg (by omega)]; exact a3
        · rw [rr 24 rfl]; exact a4
        · rw [b33, if_neg hne]; exact a5
      · obtain ⟨a4, hne⟩ := a4
        have hz : A 18 (a / 2) ≠ 0 := by omega
        have hq := h16B (a / 2) (by omega) hz
        have hbo : B 15 (a + w) = A 15 (a + w) := by
          have := out (a / 2) (by omega) hz w (by omega)
          rw [show 2 * (a / 2) = a by omega] at this
          exact this
        have hpu : p ≠ 2 * u := by
          intro e9
          have := hV.2.2 (a / 2) (by omega) ⟨hz, Or.inl (J_un hH hm (by omega))⟩ w (by omega)
          rw [show 2 * (a / 2) = a by omega, e, e9] at this
          rcases this with x | ⟨-, -, -, x, -⟩
          · omega
          · rw [show (((2 * u : Nat) : Int) / 2).toNat = u by omega] at x
            exact x h18
        refine ⟨c2 a a1 a2 ?_ a4 w ?_ p hp ?_ ?_, hpu⟩
        · rw [b18, if_neg (by omega)]; exact a3
        · rw [b28, if_neg (by omega)]; exact hw
        · rw [hbo]; exact e
        · rw [b33, if_neg hpu]; exact hy
    have dkB : ∀ p, dkA A p → dkA B p := by
      rintro p (h | h | ⟨h1, h2⟩)
      · exact Or.inl h
      · refine Or.inr (Or.inl ?_)
        rw [b20, if_neg (fun e => by rw [e, h0] at h; omega)]
        exact h
      · exact Or.inr (Or.inr ⟨h1, fun S hS => (h2 _ (cl S hS)).1⟩)
    refine ⟨⟨fun v hv => ?_, fun a ha => ?_⟩, fun v hv h => ?_, ⟨fun j hj => ?_, fun j k hj hk => ?_⟩, fun v hv h hn w hw => ?_, ⟨fun i hi hs hsc q hq => ?_, fun c hc r hr => ?_⟩, fun a ha h => ?_, fun S hS v hv h => ?_, ?_⟩
    · rw [b33, b20]
      by_cases e : v = u
      · rw [if_pos (by omega), if_pos e, if_pos rfl]; exact hm1
      · rw [if_neg (by omega), if_neg e]; exact m1 v hv
    · rw [rr 24 rfl, b33]
      refine ⟨(m1' a ha).1, ?_⟩
      split
      · exact Or.inr hm1
      · exact (m1' a ha).2
    · rw [b20] at h
      rw [b18]
      by_cases e : v = u
      · rw [if_pos e]; omega
      · rw [if_neg e] at h ⊢; exact m2 v hv h
    · obtain ⟨v, v1, v2, v3⟩ := m3 j hj
      refine ⟨v, v1, by rw [rr 23 rfl]; exact v2, ?_⟩
      rw [b20, if_neg (fun e => by rw [e, h0] at v3; omega)]
      exact v3
    · rw [rr 23 rfl]; exact m3' j k hj hk
    · by_cases e : v = u
      · rw [b19, if_pos e] at hw
        rw [e, b15, if_pos (by omega), if_pos (by omega)]
        exact Or.inl rfl
      · rw [b19, if_neg e] at hw
        rw [b20, if_neg e] at h
        rw [rr 23 rfl] at hn
        have hz := m2 v hv h
        have hq := h16B v hv hz
        rw [out v hv hz w (by omega)]
        exact mkB _ (m4 v hv h hn w hw)
    · rw [rr 2 rfl] at hs
      rw [rr 6 rfl] at hsc
      rw [rr 3 rfl] at hq
      rw [rr 12 rfl]
      exact dkB _ (m5 i hi hs hsc q hq)
    · rw [rr 22 rfl] at hr
      rw [rr 21 rfl]
      exact dkB _ (m5' c hc r hr)
    · rw [rr 24 rfl] at h
      exact ⟨(m6 a ha h).1, mono _ (m6 a ha h).2⟩
    · rw [b20] at h
      by_cases e : v = u
      · rw [if_pos e] at h; omega
      · rw [if_neg e] at h
        exact (m7 _ (cl S hS) v hv h).1
    · rw [rr 31 rfl]
      have : zsum (fun v => if B 20 v = 2 then (1 : Int) else 0) 128 0 = zsum (fun v => if A 20 v = 2 then (1 : Int) else 0) 128 0 := by
        refine zsum_ext 128 0 (fun j _ _ => ?_)
        rw [b20]
        by_cases e : j = u
        · rw [if_pos e, e, h0]; decide
        · rw [if_neg e]
      rw [this]
      exact m8
  · refine ⟨?_, Or.inl ?_⟩
    · rw [show (2 * (u : Int) / 2).toNat = u by omega]; exact h18B
    · rw [show (2 * (u : Int) / 2).toNat = u by omega, rr 17 rfl]; exact h17
  · rw [b20, if_pos rfl, if_neg hm]
end FIL2
