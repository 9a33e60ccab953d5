abbrev seatOk (B : zA) (slot r : Int) : Prop := ∃ u : Nat, u < 128 ∧ r = 2 * (u : Int) ∧ B 18 u = 0 ∧ B 16 (u / 8) = slot ∧ B 17 (u / 8) = 0 ∧ (2 * ((u % 8 : Nat) : Int)) % slot = 0
theorem a_sweep_145 {A : zA} {p : Nat} : a_sweep A p 14 5 = A 14 5 := a_sweep_at (by decide) (by decide) (by decide) (by decide) (by decide)
section SEA2
variable {N : Int} {A : zA}
theorem J_spans {slot : Int} (hs : slot = 2 ∨ slot = 4 ∨ slot = 8) : ∀ (k p : Nat) (A : zA), p + k = 16 → JJ N A → JJ N (a_spans slot k p A).2 ∧ (a_spans slot k p A).2 14 5 = A 14 5 ∧ ((a_spans slot k p A).1 ≠ -1 → seatOk (a_spans slot k p A).2 slot (a_spans slot k p A).1) := by
  intro k
  induction k with
  | zero => intro p A h hJ; exact ⟨hJ, rfl, fun h => absurd rfl h⟩
  | succ k ih =>
    intro p A h hJ
    rw [a_spans]
    split
    · have hB : JJ N (if A 17 p = 0 then A else a_sweep A p) ∧ (if A 17 p = 0 then A else a_sweep A p) 17 p = 0 ∧ (if A 17 p = 0 then A else a_sweep A p) 14 5 = A 14 5 := by
        by_cases e : A 17 p = 0
        · simp only [if_pos e]; exact ⟨hJ, e, trivial⟩
        · simp only [if_neg e]
          exact ⟨J_sweep hJ (by omega) e, by rw [a_sweep_17, if_pos rfl], a_sweep_145⟩
      generalize (if A 17 p = 0 then A else a_sweep A p) = B at *
      obtain ⟨b1, b2, b3⟩ := hB
      by_cases e : a_open B p slot = -1
      · simp only [if_pos e]
        obtain ⟨i1, i2, i3⟩ := ih (p + 1) B (by omega) b1
        exact ⟨i1, i2.trans b3, i3⟩
      · simp only [if_neg e]
        refine ⟨b1, b3, fun _ => ?_⟩
        have e1 : B 16 p = slot := by
          apply Decidable.byContradiction
          intro e2
          apply e
          rw [a_open, if_neg e2]
        have e3 : a_open B p slot = a_openF B p slot 8 0 := by rw [a_open, if_pos e1]
        rw [e3] at e ⊢
        rcases a_openF_rg (A := B) (p := p) (slot := slot) (by omega) 8 0 (by omega) with h1 | ⟨h1, h2, ⟨j, h3⟩, h4⟩
        · exact absurd h1 e
        · generalize a_openF B p slot 8 0 = r at *
          refine ⟨(r / 2).toNat, by omega, ?_, h4, ?_, ?_, ?_⟩
          · rcases hs with e9 | e9 | e9 <;> rw [e9] at h3 <;> omega
          · rw [show (r / 2).toNat / 8 = p by omega]; exact e1
          · rw [show (r / 2).toNat / 8 = p by omega]; exact b2
          · rcases hs with e9 | e9 | e9 <;> rw [e9] at h3 ⊢ <;> omega
    · exact ih (p + 1) A (by omega) hJ
theorem J_newS {size : Int} (hJ : JJ N A) (s1 : 1 ≤ size) (s2 : size ≤ 64) : JJ N (a_newS A (a_slot size)).2 ∧ (a_newS A (a_slot size)).2 14 5 = A 14 5 ∧ ((a_newS A (a_slot size)).1 ≠ -1 → seatOk (a_newS A (a_slot size)).2 (a_slot size) (a_newS A (a_slot size)).1) := by
  have g := a_slot_rg (n := size) (by omega) s2
  have g2 := a_slot_le (n := size) (by omega) s2
  have hw := a_wide_rg (k := a_slot size) (by omega) g.2
  have gd : (a_slot size = 2 ∨ a_slot size = 4 ∨ a_slot size = 8) ∨ (16 ≤ a_slot size ∧ (a_slot size = 16 ∨ a_slot size = 32 ∨ a_slot size = 48 ∨ a_slot size = 64) ∧ a_wide (a_slot size) = a_slot size / 16) := by
    by_cases e : a_slot size < 16
    · exact Or.inl (g2.2.2.1 e)
    · right
      have := g2.2.2.2 (by omega)
      omega
  have gw : a_slot size < 16 → a_wide (a_slot size) = 1 := fun e => by rw [a_wide, if_pos e]
  generalize a_slot size = slot at *
  unfold a_newS
  by_cases e : a_run A (a_wide slot) = -1
  · rw [if_pos e]
    exact ⟨hJ, rfl, fun h => absurd rfl h⟩
  rw [if_neg e]
  obtain ⟨r1, r2, r3⟩ := (a_run_rg (A := A) hw.1).resolve_left e
  generalize a_run A (a_wide slot) = r at *
  generalize a_wide slot = wd at *
  have b16 : ∀ k, aset (a_fillP 1 wd.toNat r.toNat A) 16 r.toNat slot 16 k = if k = r.toNat then slot else if r.toNat ≤ k ∧ k < r.toNat + wd.toNat then 1 else A 16 k := by
    intro k
    by_cases e1 : k = r.toNat
    · rw [if_pos e1, e1, as_same]
    · rw [if_neg e1, as_ix e1, a_fillP_pt]
      by_cases e2 : r.toNat ≤ k ∧ k < r.toNat + wd.toNat
      · rw [if_pos e2, if_pos ⟨e2.1, e2.2, by omega⟩]
      · rw [if_neg e2, if_neg (fun w => e2 ⟨w.1, w.2.1⟩)]
  have rr : ∀ a, [16].elem a = false → aset (a_fillP 1 wd.toNat r.toNat A) 16 r.toNat slot a = A a := by
    intro a ha
    have h : a ≠ 16 := fun e => by subst e; cases ha
    funext j
    rw [as_id h, a_fillP_at h]
  show JJ N (aset (a_fillP 1 wd.toNat r.toNat A) 16 r.toNat slot) ∧ aset (a_fillP 1 wd.toNat r.toNat A) 16 r.toNat slot 14 5 = A 14 5 ∧ (16 * r ≠ -1 → seatOk (aset (a_fillP 1 wd.toNat r.toNat A) 16 r.toNat slot) slot (16 * r))
  generalize aset (a_fillP 1 wd.toNat r.toNat A) 16 r.toNat slot = B at *
  obtain ⟨n1, n2, hF, hC, hH, hV, hK, hM, hN⟩ := hJ
  have out : ∀ p, p < 16 → 1 ≤ A 16 p → B 16 p = A 16 p := by
    intro p hp h
    have hn : ¬ (r.toNat ≤ p ∧ p < r.toNat + wd.toNat) := fun w => by
      have := r3 p (by omega) (by omega)
      omega
    rw [b16, if_neg (by omega), if_neg hn]
  have z18 : A 18 (8 * r.toNat) = 0 := by
    apply Decidable.byContradiction
    intro h
    have q := (hH.2.2.2.2.2.2 (8 * r.toNat) (by omega) h).1
    have q : A 16 (8 * r.toNat / 8) = a_slot (A 18 (8 * r.toNat)) := q
    rw [show 8 * r.toNat / 8 = r.toNat by omega, r3 r.toNat (by omega) (by omega)] at q
    have y := hH.2.2.1 (8 * r.toNat) (by omega)
    have := a_slot_rg y.1 y.2.1
    omega
  have z17 : A 17 r.toNat = 0 := by
    apply Decidable.byContradiction
    intro h
    have q := (hH.2.2.2.2.2.1 r.toNat (by omega) h).1
    have q : 2 ≤ A 16 r.toNat := q
    rw [r3 r.toNat (by omega) (by omega)] at q
    omega
  refine ⟨⟨n1, n2, JF_c rr (by decide) (by rw [rr 14 rfl]) hF, JC_c rr (by decide) hC, ?_, JV_c rr (by decide) hV, JK_c rr (by decide) hK, JM_c rr (by decide) (by rw [rr 14 rfl]) (by rw [rr 14 rfl]) hM, JN_c rr (by rw [rr 14 rfl]) (by rw [rr 14 rfl]) hN⟩, by rw [rr 14 rfl], fun _ => ⟨8 * r.toNat, by omega, by omega, by rw [rr 18 rfl]; exact z18, ?_, ?_, ?_⟩⟩
  · unfold JH
    rw [rr 17 rfl, rr 18 rfl, rr 19 rfl, rr 20 rfl, rr 28 rfl, rr 14 rfl]
    obtain ⟨x1, x2, x3, x4, x5, x6, x7⟩ := hH
    refine ⟨fun p hp => ?_, x2, x3, x4, fun p hp => ?_, fun p hp h => ?_, fun u hu h => ?_⟩
    · rw [b16]
      split
      · omega
      · split
        · omega
        · exact x1 p hp
    · by_cases e1 : p = r.toNat
      · rw [b16 p, if_pos e1]
        refine ⟨by omega, fun h => ⟨by omega, fun j j1 j2 => ?_⟩⟩
        rw [b16, if_neg (by omega), if_pos (by omega)]
      · by_cases e2 : r.toNat ≤ p ∧ p < r.toNat + wd.toNat
        · rw [b16 p, if_neg e1, if_pos e2]
          exact ⟨Or.inr (Or.inl rfl), fun h => by omega⟩
        · have e3 : B 16 p = A 16 p := by rw [b16 p, if_neg e1, if_neg e2]
          rw [e3]
          obtain ⟨y1, y2⟩ := x5 p hp
          refine ⟨y1, fun h => ⟨(y2 h).1, fun j j1 j2 => ?_⟩⟩
          have hj := (y2 h).2 j j1 j2
          have hb := (y2 h).1
          have hb : (p : Int) + A 16 p / 16 ≤ 16 := hb
          have hj : A 16 (p + j) = 1 := hj
          rw [out (p + j) (by omega) (by omega)]
          exact hj
    · obtain ⟨y1, y2⟩ := x6 p hp h
      have y1 : 2 ≤ A 16 p := y1
      refine ⟨?_, y2⟩
      rw [out p hp (by omega)]
      exact y1
    · obtain ⟨y1, y2⟩ := x7 u hu h
      have y := x3 u hu
      have := a_slot_rg y.1 y.2.1
      have y1' : A 16 (u / 8) = a_slot (A 18 u) := y1
      rw [out (u / 8) (by omega) (by omega)]
      exact ⟨y1, y2⟩
  · rw [show 8 * r.toNat / 8 = r.toNat by omega, b16, if_pos rfl]
  · rw [show 8 * r.toNat / 8 = r.toNat by omega, rr 17 rfl]; exact z17
  · rw [show 8 * r.toNat % 8 = 0 by omega]
    exact Int.zero_emod _
theorem J_seat {size : Int} (hJ : JJ N A) (s1 : 1 ≤ size) (s2 : size ≤ 64) : JJ N (a_seat A (a_slot size)).2 ∧ (a_seat A (a_slot size)).2 14 5 = A 14 5 ∧ ((a_seat A (a_slot size)).1 ≠ -1 → seatOk (a_seat A (a_slot size)).2 (a_slot size) (a_seat A (a_slot size)).1) := by
  have g2 := a_slot_le (n := size) (by omega) s2
  by_cases e : a_slot size < 16
  · have h := J_spans (g2.2.2.1 e) 16 0 A (by omega) hJ
    have ee : a_seat A (a_slot size) = if (a_spans (a_slot size) 16 0 A).1 = -1 then a_newS (a_spans (a_slot size) 16 0 A).2 (a_slot size) else a_spans (a_slot size) 16 0 A := by
      unfold a_seat
      rw [if_pos e]
    rw [ee]
    generalize a_spans (a_slot size) 16 0 A = q at *
    obtain ⟨h1, h2, h3⟩ := h
    by_cases e2 : q.1 = -1
    · rw [if_pos e2]
      obtain ⟨i1, i2, i3⟩ := J_newS h1 s1 s2
      exact ⟨i1, i2.trans h2, i3⟩
    · rw [if_neg e2]
      exact ⟨h1, h2, h3⟩
  · have ee : a_seat A (a_slot size) = a_newS A (a_slot size) := by
      unfold a_seat
      rw [if_neg e]
      exact if_pos rfl
    rw [ee]
    exact J_newS hJ s1 s2
theorem J_place {size ptrs : Int} (hJ : JJ N A) (s1 : 1 ≤ size) (s2 : size ≤ 64) (p1 : 0 ≤ ptrs) (p2 : ptrs ≤ size) : ∀ q, a_place A size ptrs (if A 14 5 = 0 then 0 else 1) = q → JJ N q.2 ∧ q.2 14 5 = A 14 5 ∧ (q.1 ≠ -1 → okf (q.2 17) (q.2 18) (q.2 20) q.1 ∧ (A 14 5 ≠ 0 → mkf (q.2 20) q.1)) := by
  rintro q rfl
  obtain ⟨h1, h2, h3⟩ := J_seat hJ s1 s2
  have ee : a_place A size ptrs (if A 14 5 = 0 then 0 else 1) = if (a_seat A (a_slot size)).1 = -1 then a_seat A (a_slot size) else ((a_seat A (a_slot size)).1, a_fillS (a_seat A (a_slot size)).2 (a_seat A (a_slot size)).1.toNat size ptrs (if A 14 5 = 0 then 0 else 1)) := rfl
  rw [ee, ← h2]
  clear ee
  generalize a_seat A (a_slot size) = s at *
  by_cases e : s.1 = -1
  · rw [if_pos e]
    exact ⟨h1, rfl, fun w => absurd e w⟩
  · rw [if_neg e]
    obtain ⟨u, u1, u2, u3, u4, u5, u6⟩ := h3 e
    obtain ⟨f1, f2, f3, f4⟩ := J_fillS h1 u1 u3 u4 u5 u6 s1 s2 p1 p2
    rw [u2, show (2 * (u : Int)).toNat = 2 * u by omega]
    refine ⟨f1, ?_, fun _ => ⟨f2, fun hm => Or.inr ?_⟩⟩
    · show a_fillS s.2 (2 * u) size ptrs (if s.2 14 5 = 0 then 0 else 1) 14 5 = _
      rw [f4]
    · show a_fillS s.2 (2 * u) size ptrs (if s.2 14 5 = 0 then 0 else 1) 20 (2 * (u : Int) / 2).toNat ≠ 0
      rw [show (2 * (u : Int) / 2).toNat = u by omega, f3 hm]
      decide
end SEA2
