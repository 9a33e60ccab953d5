theorem a_unsw_pt : ∀ (n p : Nat) (A : zA) (a k : Nat), a_unsw n p A a k = if a = 17 ∧ p ≤ k ∧ k < p + n then (if 2 ≤ A 16 k then 1 else 0) else A a k := by
  intro n
  induction n with
  | zero => intro p A a k; rw [a_unsw, if_neg (by omega)]
  | succ n ih =>
    intro p A a k
    rw [a_unsw, ih]
    by_cases e : a = 17 ∧ p ≤ k ∧ k < p + (n + 1)
    · rw [if_pos e]
      by_cases e2 : k = p
      · subst e2
        rw [if_neg (by omega), e.1, as_same]
      · rw [if_pos (by omega), as_id (by decide)]
    · rw [if_neg e, if_neg (by omega)]
      unfold aset
      rw [if_neg (by omega)]
theorem a_swF_18 : ∀ (n u : Nat) (A : zA) (v : Nat), a_swF n u A 18 v = if (u ≤ v ∧ v < u + n) ∧ A 20 v = 0 then 0 else A 18 v := by
  intro n
  induction n with
  | zero => intro u A v; rw [a_swF, if_neg (by omega)]
  | succ n ih =>
    intro u A v
    rw [a_swF, ih]
    have e20 : a_swU A u 20 v = A 20 v := by
      unfold a_swU
      split
      · rw [as_id (by decide), as_id (by decide), as_id (by decide)]
      · rfl
    have e18 : a_swU A u 18 v = if v = u ∧ A 20 v = 0 then 0 else A 18 v := by
      unfold a_swU
      split
      · rename_i w
        rw [as_id (by decide), as_id (by decide)]
        by_cases e : v = u
        · subst e
          rw [as_same, if_pos ⟨rfl, w.2⟩]
        · rw [as_ix e, if_neg (fun x => e x.1)]
      · rename_i w
        by_cases e : v = u ∧ A 20 v = 0
        · rw [if_pos e]
          obtain ⟨e1, e2⟩ := e
          subst e1
          apply Decidable.byContradiction
          intro e3
          exact w ⟨e3, e2⟩
        · rw [if_neg e]
    rw [e20, e18]
    by_cases h0 : A 20 v = 0
    · by_cases h1 : u ≤ v ∧ v < u + (n + 1)
      · rw [if_pos (c := (u ≤ v ∧ v < u + (n + 1)) ∧ A 20 v = 0) ⟨h1, h0⟩]
        by_cases h2 : v = u
        · rw [if_neg (by omega), if_pos ⟨h2, h0⟩]
        · rw [if_pos ⟨by omega, h0⟩]
      · rw [if_neg (c := (u ≤ v ∧ v < u + (n + 1)) ∧ A 20 v = 0) (fun w => h1 w.1), if_neg (by omega), if_neg (by omega)]
    · rw [if_neg (fun w => h0 w.2), if_neg (fun w => h0 w.2), if_neg (fun w => h0 w.2)]
theorem a_swF_19 : ∀ (n u : Nat) (A : zA) (v : Nat), (A 20 v ≠ 0 ∨ ¬ (u ≤ v ∧ v < u + n)) → a_swF n u A 19 v = A 19 v := by
  intro n
  induction n with
  | zero => intro u A v h; rfl
  | succ n ih =>
    intro u A v h
    rw [a_swF]
    have e20 : a_swU A u 20 v = A 20 v := by
      unfold a_swU
      split
      · rw [as_id (by decide), as_id (by decide), as_id (by decide)]
      · rfl
    rw [ih _ _ _ (h.elim (fun e => Or.inl (by rw [e20]; exact e)) (fun e => Or.inr (by omega)))]
    unfold a_swU
    split
    · rename_i w
      rw [as_id (by decide)]
      have : v ≠ u := by
        rintro rfl
        exact h.elim (fun e => e w.2) (fun e => by omega)
      rw [as_ix this, as_id (by decide)]
    · rfl
theorem a_swF_19z : ∀ (n u : Nat) (A : zA) (v : Nat), a_swF n u A 19 v = 0 ∨ a_swF n u A 19 v = A 19 v := by
  intro n
  induction n with
  | zero => intro u A v; exact Or.inr rfl
  | succ n ih =>
    intro u A v
    rw [a_swF]
    rcases ih (u + 1) (a_swU A u) v with e | e
    · exact Or.inl e
    · rw [e]
      unfold a_swU
      split
      · rw [as_id (by decide)]
        unfold aset
        by_cases e2 : (19 : Nat) = 19 ∧ v = u
        · rw [if_pos e2]; exact Or.inl rfl
        · rw [if_neg e2, if_neg (by omega)]; exact Or.inr rfl
      · exact Or.inr rfl
theorem a_fillP_pt {v : Int} : ∀ (n p : Nat) (A : zA) (k : Nat), a_fillP v n p A 16 k = if p ≤ k ∧ k < p + n ∧ k < 16 then v else A 16 k := by
  intro n
  induction n with
  | zero => intro p A k; rw [a_fillP, if_neg (by omega)]
  | succ n ih =>
    intro p A k
    rw [a_fillP]
    split
    · rw [ih]
      by_cases e : p ≤ k ∧ k < p + (n + 1) ∧ k < 16
      · rw [if_pos e]
        by_cases e2 : k = p
        · subst e2
          rw [if_neg (by omega), as_same]
        · rw [if_pos (by omega)]
      · rw [if_neg e, if_neg (by omega), as_ix (by omega)]
    · rw [if_neg (by omega)]
theorem zsum_nn {f : Nat → Int} : ∀ (k i : Nat), (∀ j, 0 ≤ f j) → zsum f k i = 0 → ∀ j, i ≤ j → j < i + k → f j = 0 := by
  intro k
  induction k with
  | zero => intro i h e j h1 h2; omega
  | succ k ih =>
    intro i h e j h1 h2
    rw [zsum] at e
    have hz : 0 ≤ zsum f k (i + 1) := by
      have : ∀ (k i : Nat), 0 ≤ zsum f k i := by
        intro k
        induction k with
        | zero => intro i; simp [zsum]
        | succ k ih => intro i; rw [zsum]; have := ih (i + 1); have := h i; omega
      exact this k (i + 1)
    have := h i
    by_cases e2 : j = i
    · rw [e2]; omega
    · exact ih (i + 1) h (by omega) j (by omega) (by omega)
section SWP
variable {N : Int} {A : zA}
theorem J_endM (hJ : JJ N A) (hm : A 14 5 ≠ 0) (hL : ¬ a_left A) : JJ N (a_endM A) := by
  have hH := hJ.2.2.2.2.1
  have hpn : A 14 4 = 0 := by
    have := hH.co.2.1
    have : ¬ 0 < A 14 4 := fun e => hL (Or.inl e)
    omega
  have hnx : a_next A = -1 := Decidable.byContradiction fun e => hL (Or.inr e)
  have hsc : ∀ i, i < 6 → A 2 i ≠ 0 → A 6 i ≠ 0 := by
    have : ∀ (k i : Nat), a_nextF A k i = -1 → ∀ j, i ≤ j → j < i + k → A 2 j ≠ 0 → A 6 j ≠ 0 := by
      intro k
      induction k with
      | zero => intro i h j h1 h2; omega
      | succ k ih =>
        intro i h j h1 h2 hs
        rw [a_nextF] at h
        split at h
        · omega
        · rename_i w
          by_cases e : j = i
          · subst e; exact fun e2 => w ⟨hs, e2⟩
          · exact ih (i + 1) h j (by omega) (by omega) hs
    intro i hi hs
    exact this 6 0 hnx i (by omega) (by omega) hs
  have mk : ∀ p, dkA A p → mkf (A 20) p := fun p h => J_mark hJ hm hpn h
  have hJ' := hJ
  obtain ⟨n1, n2, hF, hC, -, hV, hK, hM, hN⟩ := hJ
  obtain ⟨m1, m2, m3, m4, ⟨m5, m5'⟩, m6⟩ := hM hm
  have hB : iHp (aset (a_unsw 16 0 (aset A 14 5 0)) 14 8 0) := iHp_ (iHp_unsw 16 0 (iHp_ hH.hp (fun e => by omega) (fun e => by omega) (fun e => by omega) (fun e => by omega))) (fun e => by omega) (fun e => by omega) (fun e => by omega) (fun e => by omega)
  have hg := a_keptW_rg hB
  have hr : ∀ a, [14, 17, 34].elem a = false → a_endM A a = A a := fun a ha => by
    have h14 : a ≠ 14 := fun e => by subst e; cases ha
    have h17 : a ≠ 17 := fun e => by subst e; cases ha
    have h34 : a ≠ 34 := fun e => by subst e; cases ha
    unfold a_endM
    rw [ar_rne h34, as_rne h14, as_rne h14]
    funext j
    rw [a_unsw_pt, if_neg (fun w => h17 w.1), as_id h14]
  have q17 : ∀ p, p < 16 → a_endM A 17 p = if 2 ≤ A 16 p then 1 else 0 := fun p hp => by
    unfold a_endM
    rw [ar_rne (by decide), as_id (by decide), as_id (by decide), a_unsw_pt, if_pos ⟨rfl, by omega, by omega⟩, as_id (by decide)]
  have q34 : a_endM A 34 = fun j => if j % 2 = 0 ∧ A 18 (j / 2) ≠ 0 ∧ A 20 (j / 2) ≠ 0 then 1 else 0 := by
    unfold a_endM
    rw [ar_row]
  have q5 : a_endM A 14 5 = 0 := by
    unfold a_endM
    rw [ar_rne (by decide), as_ix (by decide), as_ix (by decide), a_unsw_pt, if_neg (by omega), as_same]
  have q4 : a_endM A 14 4 = A 14 4 := by
    unfold a_endM
    rw [ar_rne (by decide), as_ix (by decide), as_ix (by decide), a_unsw_pt, if_neg (by omega), as_ix (by decide)]
  have q0 : a_endM A 14 0 = A 14 0 := by
    unfold a_endM
    rw [ar_rne (by decide), as_ix (by decide), as_ix (by decide), a_unsw_pt, if_neg (by omega), as_ix (by decide)]
  have q8 : a_endM A 14 8 = 0 := by
    unfold a_endM
    rw [ar_rne (by decide), as_ix (by decide), as_same]
  have q9 : 64 ≤ a_endM A 14 9 ∧ a_endM A 14 9 ≤ 4096 := by
    unfold a_endM
    rw [ar_rne (by decide), as_same]
    split <;> omega
  have key : ∀ u, u < 128 → A 20 u ≠ 0 → lvf (a_endM A 17) (A 18) (A 20) u := fun u hu h => ⟨m2 u hu h, Or.inr h⟩
  have ok' : ∀ p, okf (A 17) (A 18) (A 20) p → mkf (A 20) p → okf (a_endM A 17) (A 18) (A 20) p := by
    intro p h1 h2
    rcases h1 with e | ⟨p1, p2, p3, p4⟩
    · exact Or.inl e
    · exact Or.inr ⟨p1, p2, p3, key _ (by omega) (h2.resolve_left (by omega))⟩
  generalize a_endM A = B at *
  refine ⟨n1, n2, JF_c hr (by decide) q0 hF, JC_c hr (by decide) hC, ?_, ?_, ?_, fun h => absurd q5 h, ⟨by omega, by omega, q9.1, q9.2⟩⟩
  · unfold JH
    rw [hr 16 rfl, hr 18 rfl, hr 19 rfl, hr 20 rfl, hr 28 rfl, q5, q4]
    obtain ⟨x1, x2, x3, x4, x5, x6, x7⟩ := hH
    refine ⟨x1, fun p hp => ?_, x3, ⟨Or.inl rfl, x4.2⟩, x5, fun p hp h => ⟨?_, rfl⟩, x7⟩
    · rw [q17 p hp]; split
      · exact Or.inr rfl
      · exact Or.inl rfl
    · rw [q17 p hp] at h
      split at h
      · assumption
      · exact absurd rfl h
  · unfold JV
    rw [hr 2 rfl, hr 3 rfl, hr 12 rfl, hr 21 rfl, hr 22 rfl, hr 15 rfl, hr 18 rfl, hr 19 rfl, hr 20 rfl]
    obtain ⟨v1, v2, v3⟩ := hV
    refine ⟨fun i hi hs q hq => ok' _ (v1 i hi hs q hq) (mk _ (m5 i hi hs (hsc i hi hs) q hq)), fun c hc r hrr => ok' _ (v2 c hc r hrr) (mk _ (m5' c hc r hrr)), fun u hu hl w hw => ?_⟩
    have hn : A 20 u ≠ 0 := by
      rcases hl.2 with e | e
      · exfalso
        rw [q17 (u / 8) (by omega)] at e
        have hk := (hH.2.2.2.2.2.2 u hu hl.1).1
        have hs := a_slot_rg (hH.2.2.1 u hu).1 (hH.2.2.1 u hu).2.1
        have hk : A 16 (u / 8) = a_slot (A 18 u) := hk
        rw [if_pos (by omega)] at e
        omega
      · exact e
    exact ok' _ (v3 u hu ⟨hl.1, Or.inl (J_un hH hm (by omega))⟩ w hw) (m4 u hu hn (fun ⟨j, j1, _⟩ => by omega) w hw)
  · intro u hu h1 h2
    rw [hr 18 rfl] at h2
    rw [q34, hr 20 rfl]
    show (if 2 * u % 2 = 0 ∧ A 18 (2 * u / 2) ≠ 0 ∧ A 20 (2 * u / 2) ≠ 0 then (1 : Int) else 0) = _
    rw [show 2 * u / 2 = u by omega]
    by_cases e : A 20 u ≠ 0
    · rw [if_pos ⟨by omega, h2, e⟩, if_pos e]
    · rw [if_neg (fun w => e w.2.2), if_neg e]
theorem J_sweep {p : Nat} (hJ : JJ N A) (hp : p < 16) (hu0 : A 17 p ≠ 0) : JJ N (a_sweep A p) := by
  obtain ⟨n1, n2, hF, hC, hH, hV, hK, hM, hN⟩ := hJ
  have hm : A 14 5 = 0 := (hH.2.2.2.2.2.1 p hp hu0).2
  have hkp : 2 ≤ A 16 p := (hH.2.2.2.2.2.1 p hp hu0).1
  have hkb := hH.1 p hp
  have hkb : 0 ≤ A 16 p ∧ A 16 p ≤ 64 := hkb
  have hwd := a_wide_rg hkb.1 hkb.2
  have e16 : ∀ k, a_sweep A p 16 k = if a_kept A p = 0 ∧ (p ≤ k ∧ k < p + (a_wide (A 16 p)).toNat ∧ k < 16) then 0 else A 16 k := by
    intro k
    unfold a_sweep
    split
    · rename_i w
      rw [a_fillP_pt, a_swF_at (by decide) (by decide) (by omega), as_id (by decide)]
      by_cases e : p ≤ k ∧ k < p + (a_wide (A 16 p)).toNat ∧ k < 16
      · rw [if_pos e, if_pos ⟨w, e⟩]
      · rw [if_neg e, if_neg (fun x => e x.2)]
    · rename_i w
      rw [a_swF_at (by decide) (by decide) (by omega), as_id (by decide), if_neg (fun x => w x.1)]
  have e17 : ∀ k, a_sweep A p 17 k = if k = p then 0 else A 17 k := by
    intro k
    have h1 : aset A 17 p 0 17 k = if k = p then 0 else A 17 k := by rw [as_row]
    unfold a_sweep
    split
    · rw [a_fillP_at (by decide), a_swF_at (by decide) (by decide) (by omega), h1]
    · rw [a_swF_at (by decide) (by decide) (by omega), h1]
  have e18 : ∀ k, a_sweep A p 18 k = if (8 * p ≤ k ∧ k < 8 * p + 8) ∧ A 20 k = 0 then 0 else A 18 k := by
    intro k
    unfold a_sweep
    split
    · rw [a_fillP_at (by decide), a_swF_18, as_id (by decide), as_id (by decide)]
    · rw [a_swF_18, as_id (by decide), as_id (by decide)]
  have e19 : ∀ k, (A 20 k ≠ 0 ∨ ¬ (8 * p ≤ k ∧ k < 8 * p + 8)) → a_sweep A p 19 k = A 19 k := by
    intro k h
    unfold a_sweep
    split
    · rw [a_fillP_at (by decide), a_swF_19 _ _ _ _ (by rw [as_id (by decide)]; exact h), as_id (by decide)]
    · rw [a_swF_19 _ _ _ _ (by rw [as_id (by decide)]; exact h), as_id (by decide)]
  have hr : ∀ a, a ≠ 16 → a ≠ 17 → a ≠ 18 → a ≠ 19 → a ≠ 14 → a_sweep A p a = A a := fun a a1 a2 a3 a4 a5 => funext fun j => a_sweep_at a3 a4 (fun e => a5 e.1) a1 a2
  have e14 : ∀ k, k ≠ 1 → a_sweep A p 14 k = A 14 k := fun k hk => a_sweep_at (by decide) (by decide) (fun e => hk e.2) (by decide) (by decide)
  have hp2 := iHp_sweep hH.hp p
  have kept0 : a_kept A p = 0 → ∀ u, 8 * p ≤ u → u < 8 * p + 8 → A 18 u ≠ 0 → A 20 u = 0 := by
    intro e u h1 h2 h3
    have := zsum_nn (f := fun u => if A 18 u ≠ 0 ∧ A 20 u ≠ 0 then (1 : Int) else 0) 8 (8 * p) (fun j => by split <;> omega) e u h1 h2
    apply Decidable.byContradiction
    intro e9
    simp only [if_pos (show A 18 u ≠ 0 ∧ A 20 u ≠ 0 from ⟨h3, e9⟩)] at this
    omega
  have sz' : ∀ u, a_sweep A p 18 u ≠ 0 → A 18 u ≠ 0 ∧ a_sweep A p 18 u = A 18 u ∧ (A 20 u ≠ 0 ∨ ¬ (8 * p ≤ u ∧ u < 8 * p + 8)) := by
    intro u h
    rw [e18] at h ⊢
    by_cases e : (8 * p ≤ u ∧ u < 8 * p + 8) ∧ A 20 u = 0
    · rw [if_pos e] at h; exact absurd rfl h
    · rw [if_neg e] at h ⊢
      refine ⟨h, rfl, ?_⟩
      by_cases e2 : A 20 u = 0
      · exact Or.inr (fun w => e ⟨w, e2⟩)
      · exact Or.inl e2
  have lv1 : ∀ u, u < 128 → lvf (A 17) (A 18) (A 20) u → lvf (a_sweep A p 17) (a_sweep A p 18) (A 20) u := by
    intro u hu h
    have hns : ¬ ((8 * p ≤ u ∧ u < 8 * p + 8) ∧ A 20 u = 0) := by
      rintro ⟨w1, w2⟩
      rcases h.2 with e | e
      · rw [show u / 8 = p by omega] at e; exact hu0 e
      · exact e w2
    refine ⟨by rw [e18, if_neg hns]; exact h.1, ?_⟩
    rcases h.2 with e | e
    · left
      rw [e17]
      split
      · rfl
      · exact e
    · exact Or.inr e
  have lv2 : ∀ u, lvf (a_sweep A p 17) (a_sweep A p 18) (A 20) u → lvf (A 17) (A 18) (A 20) u := by
    intro u h
    obtain ⟨s1, s2, s3⟩ := sz' u h.1
    refine ⟨s1, ?_⟩
    rcases h.2 with e | e
    · rw [e17] at e
      by_cases e2 : u / 8 = p
      · exact Or.inr (s3.resolve_right (fun w => w (by omega)))
      · rw [if_neg e2] at e; exact Or.inl e
    · exact Or.inr e
  have ok1 : ∀ q, okf (A 17) (A 18) (A 20) q → okf (a_sweep A p 17) (a_sweep A p 18) (A 20) q := fun q h => h.elim Or.inl (fun h => Or.inr ⟨h.1, h.2.1, h.2.2.1, lv1 _ (by omega) h.2.2.2⟩)
  have kd' : ∀ u, u < 128 → a_sweep A p 18 u ≠ 0 → a_sweep A p 16 (u / 8) = A 16 (u / 8) := by
    intro u hu h
    obtain ⟨s1, s2, s3⟩ := sz' u h
    rw [e16]
    rw [if_neg]
    rintro ⟨w1, w2, w3, w4⟩
    by_cases e : u / 8 = p
    · have := s3.resolve_right (fun w => w (by omega))
      exact this (kept0 w1 u (by omega) (by omega) s1)
    · have hk := (hH.2.2.2.2.2.2 u hu s1).1
      have hk : A 16 (u / 8) = a_slot (A 18 u) := hk
      have hs := a_slot_rg (hH.2.2.1 u hu).1 (hH.2.2.1 u hu).2.1
      have hbig : 16 ≤ A 16 p := by
        apply Decidable.byContradiction
        intro e9
        have : a_wide (A 16 p) = 1 := by rw [a_wide, if_pos (by omega)]
        omega
      have ew : a_wide (A 16 p) = A 16 p / 16 := by rw [a_wide, if_neg (by omega)]
      have := ((hH.2.2.2.2.1 p hp).2 hbig).2 (u / 8 - p) (by omega) (by show ((u / 8 - p : Nat) : Int) < A 16 p / 16; omega)
      have this : A 16 (p + (u / 8 - p)) = 1 := this
      rw [show p + (u / 8 - p) = u / 8 by omega] at this
      omega
  generalize a_sweep A p = B at *
  refine ⟨n1, n2, ?_, ?_, ?_, ?_, ?_, fun h => absurd ((e14 5 (by decide)).trans hm) h, ?_⟩
  · unfold JF
    rw [hr 2 (by decide) (by decide) (by decide) (by decide) (by decide), hr 3 (by decide) (by decide) (by decide) (by decide) (by decide), hr 4 (by decide) (by decide) (by decide) (by decide) (by decide), hr 5 (by decide) (by decide) (by decide) (by decide) (by decide), hr 6 (by decide) (by decide) (by decide) (by decide) (by decide), hr 7 (by decide) (by decide) (by decide) (by decide) (by decide), hr 8 (by decide) (by decide) (by decide) (by decide) (by decide), hr 9 (by decide) (by decide) (by decide) (by decide) (by decide), hr 10 (by decide) (by decide) (by decide) (by decide) (by decide), hr 11 (by decide) (by decide) (by decide) (by decide) (by decide), hr 13 (by decide) (by decide) (by decide) (by decide) (by decide), hr 25 (by decide) (by decide) (by decide) (by decide) (by decide), hr 26 (by decide) (by decide) (by decide) (by decide) (by decide), hr 27 (by decide) (by decide) (by decide) (by decide) (by decide), hr 29 (by decide) (by decide) (by decide) (by decide) (by decide), hr 30 (by decide) (by decide) (by decide) (by decide) (by decide), hr 32 (by decide) (by decide) (by decide) (by decide) (by decide), e14 0 (by decide)]
    exact hF
  · unfold JC
    rw [hr 22 (by decide) (by decide) (by decide) (by decide) (by decide)]
    exact hC
  · obtain ⟨x1, x2, x3, x4, x5, x6, x7⟩ := hH
    unfold JH
    rw [hr 20 (by decide) (by decide) (by decide) (by decide) (by decide), hr 28 (by decide) (by decide) (by decide) (by decide) (by decide), e14 5 (by decide), e14 4 (by decide)]
    have hp23 := hp2.2.2
    rw [hr 20 (by decide) (by decide) (by decide) (by decide) (by decide)] at hp23
    refine ⟨hp2.1, hp2.2.1, hp23, x4, fun q hq => ?_, fun q hq h => ?_, fun u hu h => ?_⟩
    · obtain ⟨y1, y2⟩ := x5 q hq
      rw [e16]
      by_cases e : a_kept A p = 0 ∧ (p ≤ q ∧ q < p + (a_wide (A 16 p)).toNat ∧ q < 16)
      · rw [if_pos e]
        exact ⟨Or.inl rfl, fun h => by omega⟩
      · rw [if_neg e]
        refine ⟨y1, fun h => ⟨(y2 h).1, fun j j1 j2 => ?_⟩⟩
        have hj := (y2 h).2 j j1 j2
        have hj : A 16 (q + j) = 1 := hj
        have hq16 : (q : Int) + A 16 q / 16 ≤ 16 := (y2 h).1
        have j2 : (j : Int) < A 16 q / 16 := j2
        rw [e16, if_neg]
        · exact hj
        · rintro ⟨w1, w2, w3, w4⟩
          have ew : ∀ t : Nat, 1 ≤ t → p + t < p + (a_wide (A 16 p)).toNat → A 16 (p + t) = 1 := by
            intro t t1 t2
            have hbig : 16 ≤ A 16 p := by
              apply Decidable.byContradiction
              intro e9
              have : a_wide (A 16 p) = 1 := by rw [a_wide, if_pos (by omega)]
              omega
            have ew : a_wide (A 16 p) = A 16 p / 16 := by rw [a_wide, if_neg (by omega)]
            exact ((x5 p hp).2 hbig).2 t t1 (by show (t : Int) < A 16 p / 16; omega)
          rcases Nat.lt_trichotomy q p with c | c | c
          · have := (y2 h).2 (p - q) (by omega) (by show ((p - q : Nat) : Int) < A 16 q / 16; omega)
            have this : A 16 (q + (p - q)) = 1 := this
            rw [show q + (p - q) = p by omega] at this
            omega
          · apply e
            exact ⟨w1, by omega, by omega, hq⟩
          · have h16 : 16 ≤ A 16 q := h
            have := ew (q - p) (by omega) (by omega)
            rw [show p + (q - p) = q by omega] at this
            omega
    · rw [e17] at h
      by_cases e : q = p
      · rw [if_pos e] at h; exact absurd rfl h
      · rw [if_neg e] at h
        obtain ⟨y1, y2⟩ := x6 q hq h
        have y1 : 2 ≤ A 16 q := y1
        refine ⟨?_, hm⟩
        rw [e16, if_neg]
        · exact y1
        · rintro ⟨w1, w2, w3, w4⟩
          have hbig : 16 ≤ A 16 p := by
            apply Decidable.byContradiction
            intro e9
            have : a_wide (A 16 p) = 1 := by rw [a_wide, if_pos (by omega)]
            omega
          have ew : a_wide (A 16 p) = A 16 p / 16 := by rw [a_wide, if_neg (by omega)]
          have := ((x5 p hp).2 hbig).2 (q - p) (by omega) (by show ((q - p : Nat) : Int) < A 16 p / 16; omega)
          have this : A 16 (p + (q - p)) = 1 := this
          rw [show p + (q - p) = q by omega] at this
          omega
    · obtain ⟨s1, s2, s3⟩ := sz' u h
      rw [kd' u hu h, s2, e19 u s3]
      exact x7 u hu s1
  · obtain ⟨v1, v2, v3⟩ := hV
    unfold JV
    rw [hr 2 (by decide) (by decide) (by decide) (by decide) (by decide), hr 3 (by decide) (by decide) (by decide) (by decide) (by decide), hr 12 (by decide) (by decide) (by decide) (by decide) (by decide), hr 21 (by decide) (by decide) (by decide) (by decide) (by decide), hr 22 (by decide) (by decide) (by decide) (by decide) (by decide), hr 15 (by decide) (by decide) (by decide) (by decide) (by decide), hr 20 (by decide) (by decide) (by decide) (by decide) (by decide)]
    refine ⟨fun i hi hs q hq => ok1 _ (v1 i hi hs q hq), fun c hc r hrr => ok1 _ (v2 c hc r hrr), fun u hu hl w hw => ?_⟩
    rw [e19 u (sz' u hl.1).2.2] at hw
    exact ok1 _ (v3 u hu (lv2 u hl) w hw)
  · intro u hu h1 h2
    rw [e17] at h1
    obtain ⟨s1, s2, s3⟩ := sz' u h2
    by_cases e : u / 8 = p
    · rw [if_pos e] at h1; exact absurd rfl h1
    · rw [if_neg e] at h1
      rw [hr 34 (by decide) (by decide) (by decide) (by decide) (by decide), hr 20 (by decide) (by decide) (by decide) (by decide) (by decide)]
      exact hK u hu h1 s1
  · unfold JN
    rw [e14 8 (by decide), e14 9 (by decide)]
    exact hN
theorem J_kp (hJ : JJ N A) {p : Nat} (hp : p < 16) (h : A 17 p ≠ 0) : iKp A p := by
  have hH := hJ.2.2.2.2.1
  have hkb : 0 ≤ A 16 p ∧ A 16 p ≤ 64 := hH.1 p hp
  refine ⟨?_, fun u h1 h2 h3 => ?_⟩
  · unfold a_wide
    split
    · omega
    · exact ((hH.2.2.2.2.1 p hp).2 (by show 16 ≤ A 16 p; omega)).1
  · have := hJ.2.2.2.2.2.2.1 u (by omega) (by rw [show u / 8 = p by omega]; exact h) h3
    have this : A 34 (2 * u) = if A 20 u ≠ 0 then 1 else 0 := this
    rw [this]
    by_cases e : A 20 u = 0
    · rw [if_neg (fun w => w e)]
      exact ⟨⟨fun _ => e, fun _ => rfl⟩, by omega, by omega⟩
    · rw [if_pos e]
      exact ⟨⟨fun w => by omega, fun w => absurd w e⟩, by omega, by omega⟩
theorem J_sws {most : Int} : ∀ (k p : Nat) (n : Int) (A : zA), p + k = 16 → JJ N A → JJ N (a_sws most k p n A).2 := by
  intro k
  induction k with
  | zero => intro p n A hp h; exact h
  | succ k ih =>
    intro p n A hp h
    rw [a_sws]
    split
    · split
      · exact ih _ _ _ (by omega) h
      · rename_i w
        exact ih _ _ _ (by omega) (J_sweep h (by omega) w)
    · exact h
theorem J_sweeps {most : Int} (h : JJ N A) : JJ N (a_sweeps A most).2 := J_sws 16 0 0 A (by omega) h
end SWP
