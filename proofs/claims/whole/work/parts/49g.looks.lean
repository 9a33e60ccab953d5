def c_scn (most : Int) : Nat → Nat → Int → zA → Int × zA
  | 0, _, n, A => (n, A)
  | k + 1, i, n, A => if n < most then (if A 2 i ≠ 0 ∧ A 6 i = 0 then c_scn most k (i + 1) (n + 1) (a_scan A i) else c_scn most k (i + 1) n A) else (n, A)
theorem a_nextF_first {A : zA} {p : Nat} (hp : A 2 p ≠ 0 ∧ A 6 p = 0) : ∀ (k i : Nat), i ≤ p → p < i + k → (∀ j, i ≤ j → j < p → ¬ (A 2 j ≠ 0 ∧ A 6 j = 0)) → a_nextF A k i = (p : Int) := by
  intro k
  induction k with
  | zero => intro i h1 h2; omega
  | succ k ih =>
    intro i h1 h2 h
    rw [a_nextF]
    by_cases e : i = p
    · rw [if_pos (by rw [e]; exact hp), e]
    · rw [if_neg (h i (by omega) (by omega)), ih (i + 1) (by omega) (by omega) (fun j j1 j2 => h j (by omega) j2)]
theorem a_nextF_c {A B : zA} (h2 : B 2 = A 2) (h6 : B 6 = A 6) : ∀ (k i : Nat), a_nextF B k i = a_nextF A k i := by
  intro k
  induction k with
  | zero => intro i; rfl
  | succ k ih => intro i; rw [a_nextF, a_nextF, h2, h6, ih]
theorem loop_scn {b : Int} : ∀ (k i : Nat) (n : Int) (A : zA) (m : Nat), i + k = 6 → (∀ j, j < i → ¬ (A 2 j ≠ 0 ∧ A 6 j = 0)) → n + m = b → ∃ m' : Nat, (c_scn b k i n A).1 + m' = b ∧ a_loop b m n A = a_loop b m' (c_scn b k i n A).1 (c_scn b k i n A).2 ∧ (m' = 0 ∨ a_next (c_scn b k i n A).2 = -1) ∧ n ≤ (c_scn b k i n A).1 ∧ (c_scn b k i n A).1 ≤ n + k := by
  intro k
  induction k with
  | zero =>
    intro i n A m hi h hm
    refine ⟨m, hm, rfl, Or.inr (a_nextF_none A 6 0 (fun j _ j2 => h j (by omega))), Int.le_refl _, by show n ≤ n + ((0 : Nat) : Int); omega⟩
  | succ k ih =>
    intro i n A m hi h hm
    rw [c_scn]
    by_cases hn : n < b
    · rw [if_pos hn]
      by_cases e : A 2 i ≠ 0 ∧ A 6 i = 0
      · rw [if_pos e]
        obtain ⟨m0, rfl⟩ : ∃ m0, m = m0 + 1 := ⟨m - 1, by omega⟩
        have hx : a_next A = (i : Int) := a_nextF_first e 6 0 (by omega) (by omega) (fun j _ j2 => h j j2)
        have hL : a_left A := Or.inr (by rw [hx]; omega)
        have hpc : a_piece A = a_scan A i := by
          unfold a_piece
          rw [if_pos (by rw [hx]; omega), hx]
          rfl
        have h' : ∀ j, j < i + 1 → ¬ (a_scan A i 2 j ≠ 0 ∧ a_scan A i 6 j = 0) := by
          intro j hj
          rw [a_scan_at (by decide) (by decide) (by decide) (by decide) (by decide) (by decide) (by decide) (by decide), a_scan_at (by decide) (by decide) (by decide) (by decide) (by decide) (by decide) (by decide) (by decide), if_neg (show ¬ (2 = 6 ∧ j = i) by omega)]
          by_cases e9 : j = i
          · rw [if_pos (show 6 = 6 ∧ j = i from ⟨rfl, e9⟩)]
            omega
          · rw [if_neg (show ¬ (6 = 6 ∧ j = i) from fun w => e9 w.2)]
            exact h j (by omega)
        obtain ⟨m', a1, a2, a3, a4, a5⟩ := ih (i + 1) (n + 1) (a_scan A i) m0 (by omega) h' (by omega)
        refine ⟨m', a1, ?_, a3, by omega, by omega⟩
        rw [a_loop, if_pos ⟨hn, hL⟩, hpc]
        exact a2
      · rw [if_neg e]
        obtain ⟨m', a1, a2, a3, a4, a5⟩ := ih (i + 1) n A m (by omega) (fun j hj => by
          by_cases e9 : j = i
          · rw [e9]; exact e
          · exact h j (by omega)) hm
        exact ⟨m', a1, a2, a3, a4, by omega⟩
    · rw [if_neg hn]
      exact ⟨m, hm, rfl, Or.inl (by omega), Int.le_refl _, by show n ≤ n + ((k + 1 : Nat) : Int); omega⟩
theorem c_scn_big {b c : Int} : ∀ (k i : Nat) (n : Int) (A : zA), n + k ≤ b → n + k ≤ c → c_scn b k i n A = c_scn c k i n A := by
  intro k
  induction k with
  | zero => intro i n A h1 h2; rfl
  | succ k ih =>
    intro i n A h1 h2
    rw [c_scn, c_scn, if_pos (show n < b by omega), if_pos (show n < c by omega)]
    by_cases e : A 2 i ≠ 0 ∧ A 6 i = 0
    · rw [if_pos e, if_pos e, ih (i + 1) (n + 1) (a_scan A i) (by omega) (by omega)]
    · rw [if_neg e, if_neg e, ih (i + 1) n A (by omega) (by omega)]
theorem zsum_even {d : Nat → Int} : ∀ (k i : Nat), (∀ u, i ≤ u → u < i + k → d (2 * u + 1) = 0) → zsum d (2 * k) (2 * i) = zsum (fun u => d (2 * u)) k i := by
  intro k
  induction k with
  | zero => intro i h; rfl
  | succ k ih =>
    intro i h
    rw [show 2 * (k + 1) = 2 * k + 1 + 1 by omega, zsum, zsum, zsum, h i (by omega) (by omega), show 2 * i + 1 + 1 = 2 * (i + 1) by omega, ih (i + 1) (fun u h1 h2 => h u (by omega) (by omega))]
    omega
theorem zsum_mono {f g : Nat → Int} : ∀ (k i : Nat), (∀ j, i ≤ j → j < i + k → f j ≤ g j) → zsum f k i ≤ zsum g k i := by
  intro k
  induction k with
  | zero => intro i h; exact Int.le_refl _
  | succ k ih =>
    intro i h
    rw [zsum, zsum]
    have := h i (by omega) (by omega)
    have := ih (i + 1) (fun j h1 h2 => h j (by omega) (by omega))
    omega
section DUE2
variable {N : Int} {A : zA}
theorem J_due {d : Nat → Int} (hJ : JJ N A) (hm : A 14 5 ≠ 0) (hi : q_inv A d) (hs : ∀ a, a < 256 → q_sat A d a) : A 31 0 ≤ zsum d 256 0 ∧ (A 31 0 = zsum d 256 0 ↔ A 14 4 = 0) ∧ zsum d 256 0 ≤ 128 ∧ (A 14 4 = 0 → ∀ u, u < 128 → d (2 * u) = if A 20 u = 2 then 1 else 0) := by
  obtain ⟨i1, i2, i3, i4⟩ := hi
  have hH := hJ.2.2.2.2.1
  obtain ⟨-, m2, -, -, -, -, m7, m8, m9⟩ := hJ.2.2.2.2.2.2.2.1 hm
  have hodd : ∀ u, 0 ≤ u → u < 0 + 128 → d (2 * u + 1) = 0 := by
    intro u _ hu
    rcases i1 (2 * u + 1) with e2 | e2
    · exact e2
    · have := (i2 _ (by omega) e2).1
      omega
  have e256 : zsum d 256 0 = zsum (fun u => d (2 * u)) 128 0 := zsum_even 128 0 hodd
  have cl : clf (A 18) (A 24) (A 33) (A 28) (A 15) (fun a => d a = 1) := by
    refine ⟨fun a a1 a2 a3 a4 a5 => i3 a a1 ?_, fun a a1 a2 a3 a4 w hw p hp e hy => hs a a1 a4 w hw p hp e hy⟩
    unfold q_ini w41
    rw [if_pos a2, if_pos ⟨a3, a4, a5⟩]
  have sub : ∀ u, u < 128 → A 20 u = 2 → d (2 * u) = 1 := fun u hu h => m7 _ cl u hu h
  have le : zsum (fun u => if A 20 u = 2 then (1 : Int) else 0) 128 0 ≤ zsum (fun u => d (2 * u)) 128 0 := by
    refine zsum_mono 128 0 (fun j _ j2 => ?_)
    show (if A 20 j = 2 then (1 : Int) else 0) ≤ d (2 * j)
    by_cases e : A 20 j = 2
    · rw [if_pos e, sub j (by omega) e]; omega
    · rw [if_neg e]
      have := i1 (2 * j)
      omega
  have up : zsum (fun u => d (2 * u)) 128 0 ≤ 128 := zsum_le1 (fun j => by have := i1 (2 * j); omega) 128 0
  have eq : A 14 4 = 0 → ∀ u, u < 128 → d (2 * u) = if A 20 u = 2 then 1 else 0 := by
    intro hpn u hu
    obtain ⟨c1, c2⟩ := J_all hJ hm hpn
    have qc : q_cl A (fun a => a % 2 = 0 ∧ A 20 (a / 2) = 2) := by
      refine ⟨fun a ha h => ?_, fun a ha h w hw p hp e hy => ?_⟩
      · unfold q_ini w41 at h
        by_cases e : a % 2 = 0
        · rw [if_pos e] at h
          by_cases e2 : 0 < A 18 (a / 2) ∧ A 24 a ≠ 0 ∧ A 33 a = 0
          · exact c1 a ha e e2.1 e2.2.1 e2.2.2
          · rw [if_neg e2] at h; omega
        · rw [if_neg e, if_neg (by omega)] at h; omega
      · have hz2 := m2 (a / 2) (by omega) (by rw [h.2]; decide)
        have := (hH.2.2.1 (a / 2) (by omega)).1
        exact c2 a ha h.1 (by omega) h w hw p hp e hy
    by_cases e : A 20 u = 2
    · rw [if_pos e]; exact sub u hu e
    · rw [if_neg e]
      rcases i1 (2 * u) with e2 | e2
      · exact e2
      · have := (i4 _ qc (2 * u) (by omega) e2).2
        rw [show 2 * u / 2 = u by omega] at this
        exact absurd this e
  have hco := hH.co
  refine ⟨by omega, ⟨fun h => by omega, fun h => ?_⟩, by omega, eq⟩
  have : zsum (fun u => d (2 * u)) 128 0 = zsum (fun u => if A 20 u = 2 then (1 : Int) else 0) 128 0 := zsum_ext 128 0 (fun j _ j2 => eq h j (by omega))
  omega
theorem q_inv_c {B : zA} {d : Nat → Int} (h18 : B 18 = A 18) (h24 : B 24 = A 24) (h33 : B 33 = A 33) (h28 : B 28 = A 28) (h15 : B 15 = A 15) (hi : q_inv A d) (hs : ∀ a, a < 256 → q_sat A d a) : q_inv B d ∧ ∀ a, a < 256 → q_sat B d a := by
  have e : ∀ a, q_ini B a = q_ini A a := fun a => by unfold q_ini w41; rw [h18, h24, h33]
  have ec : ∀ S, q_cl B S → q_cl A S := by
    intro S h
    unfold q_cl at h ⊢
    simp only [e] at h
    rw [h28, h15, h33] at h
    exact h
  refine ⟨⟨hi.1, fun a ha h => ?_, fun a ha h => hi.2.2.1 a ha (by rw [← e]; exact h), fun S hS => hi.2.2.2 S (ec S hS)⟩, fun a ha => ?_⟩
  · rw [h18]; exact hi.2.1 a ha h
  · unfold q_sat
    rw [h28, h15, h33]
    exact hs a ha
theorem loop_looks {b D : Int} {A0 : zA} (hD : ∀ B, JJ N B → B 14 5 ≠ 0 → (∀ a, a ≠ 20 → a ≠ 23 → a ≠ 14 → a ≠ 31 → B a = A0 a) → B 31 0 ≤ D ∧ (B 31 0 = D ↔ B 14 4 = 0)) : ∀ (m : Nat) (n : Int) (B : zA), n + m = b → JJ N B → B 14 5 ≠ 0 → a_next B = -1 → (∀ a, a ≠ 20 → a ≠ 23 → a ≠ 14 → a ≠ 31 → B a = A0 a) → ∃ t : Int, (t = m ∨ t = D - B 31 0) ∧ 0 ≤ t ∧ t ≤ m ∧ t ≤ D - B 31 0 ∧ (a_loop b m n B).1 = n + t ∧ (a_loop b m n B).2 31 0 = B 31 0 + t ∧ (∀ a, a ≠ 20 → a ≠ 23 → a ≠ 14 → a ≠ 31 → (a_loop b m n B).2 a = A0 a) ∧ ∀ k, k ≠ 4 → (a_loop b m n B).2 14 k = B 14 k := by
  intro m
  induction m with
  | zero =>
    intro n B hn hJ hm hx hr
    have := hD B hJ hm hr
    exact ⟨0, Or.inl rfl, by omega, by show (0 : Int) ≤ ((0 : Nat) : Int); omega, by omega, by show n = n + 0; omega, by show B 31 0 = B 31 0 + 0; omega, hr, fun k _ => rfl⟩
  | succ m ih =>
    intro n B hn hJ hm hx hr
    obtain ⟨d1, d2⟩ := hD B hJ hm hr
    have hco := hJ.2.2.2.2.1.co
    rw [a_loop]
    by_cases hL : a_left B
    · rw [if_pos ⟨by omega, hL⟩]
      have hpn : 0 < B 14 4 := hL.resolve_right (fun w => w hx)
      obtain ⟨j1, j2⟩ := J_piece hJ hm hL
      have hlt : B 31 0 < D := by
        have : B 31 0 ≠ D := fun w => by have := d2.1 w; omega
        omega
      have hpe : a_piece B = a_look (aset (aset B 31 0 (B 31 0 + 1)) 14 4 (B 14 4 - 1)) (B 23 (B 14 4 - 1).toNat).toNat := by
        unfold a_piece
        rw [if_neg (fun w => w hx), if_pos hpn]
      have hrow : ∀ a, a ≠ 20 → a ≠ 23 → a ≠ 14 → a ≠ 31 → a_piece B a = B a := by
        intro a a1 a2 a3 a4
        funext j
        rw [hpe]
        unfold a_look
        rw [a_mkF_at a1 a2 (fun w => a3 w.1), as_id a3, as_id a4]
      have h14 : ∀ k, k ≠ 4 → a_piece B 14 k = B 14 k := by
        intro k hk
        rw [hpe]
        unfold a_look
        rw [a_mkF_at (by decide) (by decide) (fun w => hk w.2)]
        show aset (aset B 31 0 (B 31 0 + 1)) 14 4 (B 14 4 - 1) 14 k = B 14 k
        rw [as_ix hk, as_id (by decide)]
      have h31 : a_piece B 31 0 = B 31 0 + 1 := by
        rw [hpe]
        unfold a_look
        rw [a_mkF_at (by decide) (by decide) (by decide)]
        exact as_same B 31 0 _
      have hx2 : a_next (a_piece B) = -1 := (a_nextF_c (hrow 2 (by decide) (by decide) (by decide) (by decide)) (hrow 6 (by decide) (by decide) (by decide) (by decide)) 6 0).trans hx
      obtain ⟨t, t0, t1, t2, t3, t4, t5, t6, t7⟩ := ih (n + 1) (a_piece B) (by omega) j1 j2 hx2 (fun a a1 a2 a3 a4 => (hrow a a1 a2 a3 a4).trans (hr a a1 a2 a3 a4))
      rw [h31] at t0 t3 t5
      exact ⟨t + 1, by omega, by omega, by omega, by omega, by rw [t4]; omega, by rw [t5]; omega, t6, fun k hk => (t7 k hk).trans (h14 k hk)⟩
    · rw [if_neg (fun w => hL w.2)]
      have hpn : B 14 4 = 0 := by
        have : ¬ 0 < B 14 4 := fun w => hL (Or.inl w)
        omega
      have := d2.2 hpn
      exact ⟨0, Or.inr (by omega), by omega, by omega, by omega, by show n = n + 0; omega, by show B 31 0 = B 31 0 + 0; omega, hr, fun k _ => rfl⟩
end DUE2
