section FB2
variable {N : Int} {A B : zA}
theorem J_fib {i : Nat} (hJ : JJ N A) (hi : i < 6) (hr : ∀ a, [2, 3, 4, 5, 6, 7, 12, 13, 25, 26, 27, 32].elem a = false → B a = A a) (ho : ∀ j, j < 6 → j ≠ i → B 2 j = A 2 j ∧ B 3 j = A 3 j ∧ B 4 j = A 4 j ∧ B 6 j = A 6 j ∧ B 7 j = A 7 j ∧ B 25 j = A 25 j ∧ B 26 j = A 26 j ∧ B 27 j = A 27 j) (hc : ∀ j, j < 6 → j ≠ i → ∀ q, q < 64 → B 12 (64 * j + q) = A 12 (64 * j + q)) (hf : ∀ j, j < 6 → j ≠ i → ∀ q, q < 16 → B 13 (16 * j + q) = A 13 (16 * j + q))
    (b2 : B 2 i = 1) (b3 : 1 ≤ B 3 i ∧ B 3 i ≤ 16) (b13 : ∀ j : Nat, j < 16 → (j : Int) < B 3 i → -1 ≤ B 13 (16 * i + j) ∧ B 13 (16 * i + j) < 4 * ((j : Int) + 1)) (b4 : B 3 i ≤ B 4 i ∧ (B 4 i = 2 ∨ B 4 i = 4 ∨ B 4 i = 8 ∨ B 4 i = 16)) (bl : B 25 i = B 3 i ∧ B 26 i = B 4 i ∧ B 27 i = B 7 i) (b6 : B 6 i = 0 ∨ B 6 i = 1) (b12 : ∀ q : Nat, (q : Int) < 4 * B 3 i → okf (A 17) (A 18) (A 20) (B 12 (64 * i + q)) ∧ (A 14 5 ≠ 0 → B 6 i ≠ 0 → dkA A (B 12 (64 * i + q)))) (b5 : B 32 0 = zsum (fun j => B 5 j) 6 0) : JJ N B := by
  obtain ⟨n1, n2, hF, hC, hH, hV, hK, hM, hN⟩ := hJ
  have e14 : B 14 = A 14 := hr 14 rfl
  refine ⟨n1, n2, ?_, JC_c hr (by decide) hC, JH_c hr (by decide) (by rw [e14]) (by rw [e14]) hH, ?_, JK_c hr (by decide) hK, ?_, JN_c hr (by rw [e14]) (by rw [e14]) hN⟩
  · obtain ⟨f1, f2, f3, f4, f5, f6, f7, f8, f9⟩ := hF
    unfold JF
    rw [hr 8 rfl, hr 9 rfl, hr 10 rfl, hr 11 rfl, hr 29 rfl, hr 30 rfl, e14]
    refine ⟨fun j hj => ?_, fun j hj hs => ?_, fun j hj hs => ?_, fun j hj => ?_, f5, fun j hj hs => ?_, b5, f8, f9⟩
    · by_cases e : j = i
      · rw [e, b2]; omega
      · rw [(ho j hj e).1]; exact f1 j hj
    · by_cases e : j = i
      · rw [e]; exact ⟨b3, b13, b4⟩
      · obtain ⟨o1, o2, o3, -⟩ := ho j hj e
        rw [o1] at hs
        obtain ⟨g1, g2, g3⟩ := f2 j hj hs
        rw [o2, o3]
        exact ⟨g1, fun q q1 q2 => by rw [hf j hj e q q1]; exact g2 q q1 q2, g3⟩
    · by_cases e : j = i
      · rw [e]; exact bl
      · obtain ⟨o1, o2, o3, o4, o5, o6, o7, o8⟩ := ho j hj e
        rw [o1] at hs
        rw [o6, o2, o7, o3, o8, o5]
        exact f3 j hj hs
    · by_cases e : j = i
      · rw [e]; exact b6
      · rw [(ho j hj e).2.2.2.1]; exact f4 j hj
    · by_cases e : j = i
      · rw [e, b2] at hs; omega
      · obtain ⟨o1, o2, -⟩ := ho j hj e
        rw [o1] at hs
        obtain ⟨g1, g2, g3, g4⟩ := f6 j hj hs
        refine ⟨g1, ?_, g3, g4⟩
        rw [← g2]
        have hfr := (f2 j hj (by omega)).1
        unfold wcf
        rw [o2]
        split
        · rfl
        · split
          · exact hf j hj e _ (by omega)
          · rfl
  · obtain ⟨v1, v2, v3⟩ := hV
    unfold JV
    rw [hr 21 rfl, hr 22 rfl, hr 15 rfl, hr 17 rfl, hr 18 rfl, hr 19 rfl, hr 20 rfl]
    refine ⟨fun j hj hs q hq => ?_, v2, v3⟩
    by_cases e : j = i
    · rw [e] at hq ⊢; exact (b12 q hq).1
    · obtain ⟨o1, o2, -⟩ := ho j hj e
      rw [o1] at hs
      rw [o2] at hq
      have := (hF.2.1 j hj hs).1.2
      rw [hc j hj e q (by omega)]
      exact v1 j hj hs q hq
  · unfold JM
    rw [hr 21 rfl, hr 22 rfl, hr 15 rfl, hr 18 rfl, hr 19 rfl, hr 20 rfl, hr 23 rfl, hr 24 rfl, hr 33 rfl, hr 28 rfl, hr 14 rfl, hr 31 rfl]
    intro hm
    obtain ⟨m1, m2, m3, m4, ⟨m5, m5'⟩, m6, m7, m8⟩ := hM hm
    refine ⟨m1, m2, m3, m4, ⟨fun j hj hs hsc q hq => ?_, m5'⟩, m6, m7, m8⟩
    by_cases e : j = i
    · rw [e] at hq hsc ⊢; exact (b12 q hq).2 hm hsc
    · obtain ⟨o1, o2, o3, o4, -⟩ := ho j hj e
      rw [o1] at hs
      rw [o2] at hq
      rw [o4] at hsc
      have := (hF.2.1 j hj hs).1.2
      rw [hc j hj e q (by omega)]
      exact m5 j hj hs hsc q hq
theorem J_ce (hJ : JJ N A) {i : Nat} (hi : i < 6) (hl : A 2 i ≠ 0) {q : Nat} (hq : (q : Int) < 4 * A 3 i) : okf (A 17) (A 18) (A 20) (A 12 (64 * i + q)) ∧ (A 14 5 ≠ 0 → A 6 i ≠ 0 → dkA A (A 12 (64 * i + q))) := ⟨hJ.2.2.2.2.2.1.1 i hi hl q hq, fun hm hc => (hJ.2.2.2.2.2.2.2.1 hm).2.2.2.2.1.1 i hi hl hc q hq⟩
theorem J_leave {f : Int} (hJ : JJ N A) : JJ N (a_leave A f).2 := by
  unfold a_leave
  split
  · rename_i w
    obtain ⟨⟨w1, w2, w3⟩, w4⟩ := w
    have hi : f.toNat < 6 := by omega
    have hl : A 2 f.toNat ≠ 0 := by rw [w3]; decide
    obtain ⟨⟨g1, g2⟩, g3, g4⟩ := hJ.2.2.1.2.1 _ hi hl
    have g1 : 1 ≤ A 3 f.toNat := g1
    have g2 : A 3 f.toNat ≤ 16 := g2
    have hlk := hJ.2.2.1.lk _ hi hl
    have h6 := hJ.2.2.1.2.2.2.1 _ hi
    show JJ N (a_drop A f.toNat)
    have hB : ∀ a, a ≠ 3 → a ≠ 25 → a ≠ 12 → a_drop A f.toNat a = A a := fun a a1 a2 a3 => by unfold a_drop gset; rw [as_rne a3, as_rne a1, as_rne a2]
    have e3 : a_drop A f.toNat 3 f.toNat = A 3 f.toNat - 1 := by unfold a_drop gset; rw [as_id (by decide), as_same]
    have e25 : a_drop A f.toNat 25 f.toNat = A 3 f.toNat - 1 := by unfold a_drop gset; rw [as_id (by decide), as_id (by decide), as_same]
    refine J_fib (i := f.toNat) hJ hi (fun a ha => hB a (fun e => by subst e; cases ha) (fun e => by subst e; cases ha) (fun e => by subst e; cases ha)) (fun j hj hne => ?_) (fun j hj hne q hq => ?_) (fun j hj hne q hq => ?_) ?_ ?_ ?_ ?_ ?_ ?_ ?_ ?_
    · refine ⟨by rw [hB 2 (by decide) (by decide) (by decide)], ?_, by rw [hB 4 (by decide) (by decide) (by decide)], by rw [hB 6 (by decide) (by decide) (by decide)], by rw [hB 7 (by decide) (by decide) (by decide)], ?_, by rw [hB 26 (by decide) (by decide) (by decide)], by rw [hB 27 (by decide) (by decide) (by decide)]⟩
      · unfold a_drop gset
        rw [as_id (by decide), as_ix hne, as_id (by decide)]
      · unfold a_drop gset
        rw [as_id (by decide), as_id (by decide), as_ix hne]
    · unfold a_drop gset
      rw [as_ix (by omega), as_id (by decide), as_id (by decide)]
    · rw [hB 13 (by decide) (by decide) (by decide)]
    · rw [hB 2 (by decide) (by decide) (by decide)]; exact w3
    · rw [e3]; omega
    · intro j j1 j2
      rw [e3] at j2
      rw [hB 13 (by decide) (by decide) (by decide)]
      exact g3 j j1 (by show (j : Int) < A 3 f.toNat; omega)
    · rw [e3, hB 4 (by decide) (by decide) (by decide)]
      have g4 : A 3 f.toNat ≤ A 4 f.toNat ∧ _ := g4
      exact ⟨by omega, g4.2⟩
    · rw [e25, e3, hB 26 (by decide) (by decide) (by decide), hB 4 (by decide) (by decide) (by decide), hB 27 (by decide) (by decide) (by decide), hB 7 (by decide) (by decide) (by decide)]
      exact ⟨rfl, hlk.2⟩
    · rw [hB 6 (by decide) (by decide) (by decide)]; exact h6
    · intro q hq
      rw [e3] at hq
      rw [hB 6 (by decide) (by decide) (by decide)]
      unfold a_drop gset
      by_cases e : 64 * f.toNat + q = 64 * f.toNat + ((A 3 f.toNat - 1 - 1) * 4).toNat
      · rw [e, as_same]
        have := J_ce hJ hi hl (q := ((A 3 f.toNat - 1) * 4).toNat) (by omega)
        exact this
      · rw [as_ix e, as_id (by decide), as_id (by decide)]
        exact J_ce hJ hi hl (by omega)
    · rw [hB 32 (by decide) (by decide) (by decide), hB 5 (by decide) (by decide) (by decide)]
      exact hJ.2.2.1.2.2.2.2.2.2.1
  · exact hJ
theorem J_aim {f k : Int} (hJ : JJ N A) : JJ N (a_aim A f k).2 := by
  unfold a_aim
  split
  · rename_i w
    obtain ⟨⟨w1, w2, w3⟩, w4, w5⟩ := w
    have hi : f.toNat < 6 := by omega
    have hl : A 2 f.toNat ≠ 0 := by rw [w3]; decide
    obtain ⟨⟨g1, g2⟩, g3, g4⟩ := hJ.2.2.1.2.1 _ hi hl
    have g1 : 1 ≤ A 3 f.toNat := g1
    have g2 : A 3 f.toNat ≤ 16 := g2
    show JJ N (aset A 13 (16 * f.toNat + (A 3 f.toNat - 1).toNat) (a_ci A f.toNat k))
    have hB : ∀ a, a ≠ 13 → aset A 13 (16 * f.toNat + (A 3 f.toNat - 1).toNat) (a_ci A f.toNat k) a = A a := fun a a1 => as_rne a1
    refine J_fib (i := f.toNat) hJ hi (fun a ha => hB a (fun e => by subst e; cases ha)) (fun j hj hne => ?_) (fun j hj hne q hq => ?_) (fun j hj hne q hq => ?_) ?_ ?_ ?_ ?_ ?_ ?_ ?_ ?_
    · refine ⟨by rw [hB 2 (by decide)], by rw [hB 3 (by decide)], by rw [hB 4 (by decide)], by rw [hB 6 (by decide)], by rw [hB 7 (by decide)], by rw [hB 25 (by decide)], by rw [hB 26 (by decide)], by rw [hB 27 (by decide)]⟩
    · rw [hB 12 (by decide)]
    · rw [as_ix (by omega)]
    · rw [hB 2 (by decide)]; exact w3
    · rw [hB 3 (by decide)]; exact ⟨g1, g2⟩
    · intro j j1 j2
      rw [hB 3 (by decide)] at j2
      by_cases e : 16 * f.toNat + j = 16 * f.toNat + (A 3 f.toNat - 1).toNat
      · rw [e, as_same, a_ci, if_pos ⟨w4, w5⟩]
        omega
      · rw [as_ix e]; exact g3 j j1 j2
    · rw [hB 3 (by decide), hB 4 (by decide)]; exact g4
    · rw [hB 25 (by decide), hB 3 (by decide), hB 26 (by decide), hB 4 (by decide), hB 27 (by decide), hB 7 (by decide)]
      exact hJ.2.2.1.lk _ hi hl
    · rw [hB 6 (by decide)]; exact hJ.2.2.1.2.2.2.1 _ hi
    · intro q hq
      rw [hB 3 (by decide)] at hq
      rw [hB 6 (by decide), hB 12 (by decide)]
      exact J_ce hJ hi hl hq
    · rw [hB 32 (by decide), hB 5 (by decide)]
      exact hJ.2.2.1.2.2.2.2.2.2.1
  · exact hJ
theorem J_spawn {f k : Int} (hJ : JJ N A) : JJ N (a_spawn A f k).2 := by
  unfold a_spawn
  split
  · rename_i w
    obtain ⟨⟨w1, w2, w3⟩, w4, w5⟩ := w
    have hi : f.toNat < 6 := by omega
    have hl : A 2 f.toNat ≠ 0 := by rw [w3]; decide
    have hg : 0 ≤ a_low A ∧ a_low A < 6 := by
      rcases a_lowF_rg A 6 0 with h1 | ⟨h1, h2, h3⟩
      · exact absurd h1 w5
      · exact ⟨by show 0 ≤ a_lowF A 6 0; omega, by show a_lowF A 6 0 < 6; omega⟩
    have hp := J_pf hJ.2.2.1 hJ.2.2.2.2.2.1 hi hl k
    show JJ N (a_begin A (a_low A).toNat (a_pf A f.toNat k))
    have hi2 : (a_low A).toNat < 6 := by omega
    generalize (a_low A).toNat = i at *
    have hB : ∀ a, a ≠ 2 → a ≠ 3 → a ≠ 25 → a ≠ 4 → a ≠ 26 → a ≠ 6 → a ≠ 7 → a ≠ 27 → a ≠ 12 → a ≠ 13 → a_begin A i (a_pf A f.toNat k) a = A a := fun a a1 a2 a3 a4 a5 a6 a7 a8 a9 a10 => by unfold a_begin gset; rw [as_rne a10, as_rne a9, as_rne a9, as_rne a9, as_rne a9, as_rne a7, as_rne a8, as_rne a6, as_rne a4, as_rne a5, as_rne a2, as_rne a3, as_rne a1]
    have pt : ∀ a j, a ≠ 12 → a ≠ 13 → a_begin A i (a_pf A f.toNat k) a j = aset (gset (aset (gset (gset (aset A 2 i 1) 3 25 i 1) 4 26 i 2) 6 i 0) 7 27 i (-1)) 12 (64 * i + 0) (a_pf A f.toNat k) a j := fun a j a9 a10 => by unfold a_begin; rw [as_id a10, as_id a9, as_id a9, as_id a9]
    have q2 : ∀ j, a_begin A i (a_pf A f.toNat k) 2 j = if j = i then 1 else A 2 j := fun j => by rw [pt 2 j (by decide) (by decide)]; unfold gset aset; simp
    have q3 : ∀ j, a_begin A i (a_pf A f.toNat k) 3 j = if j = i then 1 else A 3 j := fun j => by rw [pt 3 j (by decide) (by decide)]; unfold gset aset; simp
    have q4 : ∀ j, a_begin A i (a_pf A f.toNat k) 4 j = if j = i then 2 else A 4 j := fun j => by rw [pt 4 j (by decide) (by decide)]; unfold gset aset; simp
    have q6 : ∀ j, a_begin A i (a_pf A f.toNat k) 6 j = if j = i then 0 else A 6 j := fun j => by rw [pt 6 j (by decide) (by decide)]; unfold gset aset; simp
    have q7 : ∀ j, a_begin A i (a_pf A f.toNat k) 7 j = if j = i then -1 else A 7 j := fun j => by rw [pt 7 j (by decide) (by decide)]; unfold gset aset; simp
    have q25 : ∀ j, a_begin A i (a_pf A f.toNat k) 25 j = if j = i then 1 else A 25 j := fun j => by rw [pt 25 j (by decide) (by decide)]; unfold gset aset; simp
    have q26 : ∀ j, a_begin A i (a_pf A f.toNat k) 26 j = if j = i then 2 else A 26 j := fun j => by rw [pt 26 j (by decide) (by decide)]; unfold gset aset; simp
    have q27 : ∀ j, a_begin A i (a_pf A f.toNat k) 27 j = if j = i then -1 else A 27 j := fun j => by rw [pt 27 j (by decide) (by decide)]; unfold gset aset; simp
    have q12 : ∀ j, a_begin A i (a_pf A f.toNat k) 12 j = if j = 64 * i + 3 then -1 else if j = 64 * i + 2 then -1 else if j = 64 * i + 1 then -1 else if j = 64 * i + 0 then a_pf A f.toNat k else A 12 j := fun j => by unfold a_begin gset aset; simp
    have q13 : ∀ j, a_begin A i (a_pf A f.toNat k) 13 j = if j = 16 * i + 0 then -1 else A 13 j := fun j => by unfold a_begin gset aset; simp
    refine J_fib (i := i) hJ hi2 (fun a ha => ?_) (fun j hj hne => ?_) (fun j hj hne q hq => ?_) (fun j hj hne q hq => ?_) ?_ ?_ ?_ ?_ ?_ ?_ ?_ ?_
    · exact hB a (fun e => by subst e; cases ha) (fun e => by subst e; cases ha) (fun e => by subst e; cases ha) (fun e => by subst e; cases ha) (fun e => by subst e; cases ha) (fun e => by subst e; cases ha) (fun e => by subst e; cases ha) (fun e => by subst e; cases ha) (fun e => by subst e; cases ha) (fun e => by subst e; cases ha)
    · rw [q2, q3, q4, q6, q7, q25, q26, q27]
      rw [if_neg hne, if_neg hne, if_neg hne, if_neg hne, if_neg hne, if_neg hne, if_neg hne, if_neg hne]
      exact ⟨rfl, rfl, rfl, rfl, rfl, rfl, rfl, rfl⟩
    · rw [q12, if_neg (by omega), if_neg (by omega), if_neg (by omega), if_neg (by omega)]
    · rw [q13, if_neg (by omega)]
    · rw [q2, if_pos rfl]
    · rw [q3, if_pos rfl]; omega
    · intro j j1 j2
      rw [q3, if_pos rfl] at j2
      rw [q13, if_pos (by omega)]
      omega
    · rw [q3, q4, if_pos rfl, if_pos rfl]; omega
    · rw [q25, q3, q26, q4, q27, q7]
      simp only [if_true]
      exact ⟨trivial, trivial, trivial⟩
    · rw [q6, if_pos rfl]; exact Or.inl rfl
    · intro q hq
      rw [q3, if_pos rfl] at hq
      refine ⟨?_, fun _ h9 => absurd (by rw [q6, if_pos rfl]) h9⟩
      rw [q12]
      have : q = 0 ∨ q = 1 ∨ q = 2 ∨ q = 3 := by omega
      rcases this with e | e | e | e
      · rw [if_neg (by omega), if_neg (by omega), if_neg (by omega), if_pos (by omega)]; exact hp
      · rw [if_neg (by omega), if_neg (by omega), if_pos (by omega)]; exact Or.inl rfl
      · rw [if_neg (by omega), if_pos (by omega)]; exact Or.inl rfl
      · rw [if_pos (by omega)]; exact Or.inl rfl
    · rw [hB 32 (by decide) (by decide) (by decide) (by decide) (by decide) (by decide) (by decide) (by decide) (by decide) (by decide), hB 5 (by decide) (by decide) (by decide) (by decide) (by decide) (by decide) (by decide) (by decide) (by decide) (by decide)]
      exact hJ.2.2.1.2.2.2.2.2.2.1
  · exact hJ
theorem J_call {f : Int} (hJ : JJ N A) : JJ N (a_call A f).2 := by
  unfold a_call
  split
  · rename_i w
    obtain ⟨⟨w1, w2, w3⟩, w4⟩ := w
    have hi : f.toNat < 6 := by omega
    have hl : A 2 f.toNat ≠ 0 := by rw [w3]; decide
    obtain ⟨⟨g1, g2⟩, g3, g4, g5⟩ := hJ.2.2.1.2.1 _ hi hl
    have g1 : 1 ≤ A 3 f.toNat := g1
    have g2 : A 3 f.toNat ≤ 16 := g2
    have g4 : A 3 f.toNat ≤ A 4 f.toNat := g4
    have g5 : A 4 f.toNat = 2 ∨ A 4 f.toNat = 4 ∨ A 4 f.toNat = 8 ∨ A 4 f.toNat = 16 := g5
    have hlk := hJ.2.2.1.lk _ hi hl
    have h6 := hJ.2.2.1.2.2.2.1 _ hi
    have h32 : A 32 0 = zsum (fun j => A 5 j) 6 0 := hJ.2.2.1.2.2.2.2.2.2.1
    show JJ N (a_addF A f.toNat)
    generalize hi0 : f.toNat = i at *
    have hBex : ∃ Bm : zA, Bm = (if A 3 i = A 4 i then a_move A i (A 4 i * 2) else A) ∧ (∀ a, a ≠ 4 → a ≠ 26 → a ≠ 5 → a ≠ 32 → Bm a = A a) ∧ (∀ j, j ≠ i → Bm 4 j = A 4 j ∧ Bm 26 j = A 26 j) ∧ Bm 26 i = Bm 4 i ∧ A 3 i + 1 ≤ Bm 4 i ∧ (Bm 4 i = 2 ∨ Bm 4 i = 4 ∨ Bm 4 i = 8 ∨ Bm 4 i = 16) ∧ Bm 32 0 = zsum (fun j => Bm 5 j) 6 0 := by
      refine ⟨_, rfl, ?_⟩
      split
      · rename_i e
        have m4 : ∀ j, a_move A i (A 4 i * 2) 4 j = if j = i then A 4 i * 2 else A 4 j := fun j => by unfold a_move gset aset; simp
        have m26 : ∀ j, a_move A i (A 4 i * 2) 26 j = if j = i then A 4 i * 2 else A 26 j := fun j => by unfold a_move gset aset; simp
        have m5 : a_move A i (A 4 i * 2) 5 = fun j => if j = i then A 5 i + A 3 i else A 5 j := by funext j; unfold a_move gset aset; simp
        have m32 : a_move A i (A 4 i * 2) 32 0 = A 32 0 + A 3 i := by unfold a_move gset aset; simp
        refine ⟨fun a a1 a2 a3 a4 => by unfold a_move gset; rw [as_rne a3, as_rne a4, as_rne a1, as_rne a2], fun j hj => by rw [m4, m26, if_neg hj, if_neg hj]; exact ⟨rfl, rfl⟩, by rw [m26, m4, if_pos rfl, if_pos rfl], ?_, ?_, ?_⟩
        · rw [m4, if_pos rfl]; omega
        · rw [m4, if_pos rfl]; omega
        · rw [m32, m5, zsum_up (f := A 5) (p := i) 6 0 (by omega) (by omega), h32]
          show zsum (A 5) 6 0 + A 3 i = _
          omega
      · rename_i e
        exact ⟨fun a _ _ _ _ => rfl, fun j _ => ⟨rfl, rfl⟩, hlk.2.1, by omega, g5, h32⟩
    obtain ⟨Bm, hBm, x1, x2, x3, x4, x5, x6⟩ := hBex
    have hC : a_addF A i = gset (aset (a_cp4 Bm (64 * i + (A 3 i * 4).toNat) (64 * i + ((A 3 i - 1) * 4).toNat)) 13 (16 * i + (A 3 i).toNat) (A 13 (16 * i + (A 3 i - 1).toNat))) 3 25 i (A 3 i + 1) := by rw [hBm]; rfl
    rw [hC]
    have c4 : ∀ a j, a ≠ 12 → a_cp4 Bm (64 * i + (A 3 i * 4).toNat) (64 * i + ((A 3 i - 1) * 4).toNat) a j = Bm a j := fun a j ha => by unfold a_cp4; rw [if_neg (fun e => ha e.1)]
    have c12 : ∀ j, a_cp4 Bm (64 * i + (A 3 i * 4).toNat) (64 * i + ((A 3 i - 1) * 4).toNat) 12 j = if 64 * i + (A 3 i * 4).toNat ≤ j ∧ j < 64 * i + (A 3 i * 4).toNat + 4 then A 12 (64 * i + ((A 3 i - 1) * 4).toNat + (j - (64 * i + (A 3 i * 4).toNat))) else A 12 j := fun j => by
      unfold a_cp4
      rw [x1 12 (by decide) (by decide) (by decide) (by decide)]
      by_cases e : 64 * i + (A 3 i * 4).toNat ≤ j ∧ j < 64 * i + (A 3 i * 4).toNat + 4
      · rw [if_pos ⟨rfl, e⟩, if_pos e]
      · rw [if_neg (fun w => e w.2), if_neg e]
    generalize hD : a_cp4 Bm (64 * i + (A 3 i * 4).toNat) (64 * i + ((A 3 i - 1) * 4).toNat) = D at *
    have hB : ∀ a j, a ≠ 3 → a ≠ 25 → a ≠ 13 → a ≠ 12 → gset (aset D 13 (16 * i + (A 3 i).toNat) (A 13 (16 * i + (A 3 i - 1).toNat))) 3 25 i (A 3 i + 1) a j = Bm a j := fun a j a1 a2 a3 a4 => by unfold gset; rw [as_id a1, as_id a2, as_id a3, c4 a j a4]
    have b3 : ∀ j, gset (aset D 13 (16 * i + (A 3 i).toNat) (A 13 (16 * i + (A 3 i - 1).toNat))) 3 25 i (A 3 i + 1) 3 j = if j = i then A 3 i + 1 else A 3 j := fun j => by
      unfold gset
      by_cases e : j = i
      · rw [e, as_same, if_pos rfl]
      · rw [as_ix e, as_id (by decide), as_id (by decide), c4 3 j (by decide), if_neg e, x1 3 (by decide) (by decide) (by decide) (by decide)]
    have b25 : ∀ j, gset (aset D 13 (16 * i + (A 3 i).toNat) (A 13 (16 * i + (A 3 i - 1).toNat))) 3 25 i (A 3 i + 1) 25 j = if j = i then A 3 i + 1 else A 25 j := fun j => by
      unfold gset
      by_cases e : j = i
      · rw [e, as_id (by decide), as_same, if_pos rfl]
      · rw [as_id (by decide), as_ix e, as_id (by decide), c4 25 j (by decide), if_neg e, x1 25 (by decide) (by decide) (by decide) (by decide)]
    have b12 : ∀ j, gset (aset D 13 (16 * i + (A 3 i).toNat) (A 13 (16 * i + (A 3 i - 1).toNat))) 3 25 i (A 3 i + 1) 12 j = D 12 j := fun j => by unfold gset; rw [as_id (by decide), as_id (by decide), as_id (by decide)]
    have b13 : ∀ j, gset (aset D 13 (16 * i + (A 3 i).toNat) (A 13 (16 * i + (A 3 i - 1).toNat))) 3 25 i (A 3 i + 1) 13 j = if j = 16 * i + (A 3 i).toNat then A 13 (16 * i + (A 3 i - 1).toNat) else A 13 j := fun j => by
      unfold gset
      rw [as_id (by decide), as_id (by decide)]
      by_cases e : j = 16 * i + (A 3 i).toNat
      · rw [e, as_same, if_pos rfl]
      · rw [as_ix e, if_neg e, c4 13 j (by decide), x1 13 (by decide) (by decide) (by decide) (by decide)]
    generalize gset (aset D 13 (16 * i + (A 3 i).toNat) (A 13 (16 * i + (A 3 i - 1).toNat))) 3 25 i (A 3 i + 1) = E at *
    refine J_fib (i := i) hJ hi (fun a ha => ?_) (fun j hj hne => ?_) (fun j hj hne q hq => ?_) (fun j hj hne q hq => ?_) ?_ ?_ ?_ ?_ ?_ ?_ ?_ ?_
    · funext j
      rw [hB a j (fun e => by subst e; cases ha) (fun e => by subst e; cases ha) (fun e => by subst e; cases ha) (fun e => by subst e; cases ha), x1 a (fun e => by subst e; cases ha) (fun e => by subst e; cases ha) (fun e => by subst e; cases ha) (fun e => by subst e; cases ha)]
    · rw [hB 2 j (by decide) (by decide) (by decide) (by decide), b3, hB 4 j (by decide) (by decide) (by decide) (by decide), hB 6 j (by decide) (by decide) (by decide) (by decide), hB 7 j (by decide) (by decide) (by decide) (by decide), b25, hB 26 j (by decide) (by decide) (by decide) (by decide), hB 27 j (by decide) (by decide) (by decide) (by decide), if_neg hne, if_neg hne, x1 2 (by decide) (by decide) (by decide) (by decide), x1 6 (by decide) (by decide) (by decide) (by decide), x1 7 (by decide) (by decide) (by decide) (by decide), x1 27 (by decide) (by decide) (by decide) (by decide)]
      exact ⟨rfl, rfl, (x2 j hne).1, rfl, rfl, rfl, (x2 j hne).2, rfl⟩
    · rw [b12, c12, if_neg (by omega)]
    · rw [b13, if_neg (by omega)]
    · rw [hB 2 i (by decide) (by decide) (by decide) (by decide), x1 2 (by decide) (by decide) (by decide) (by decide)]; exact w3
    · rw [b3, if_pos rfl]; omega
    · intro j j1 j2
      rw [b3, if_pos rfl] at j2
      rw [b13]
      by_cases e : 16 * i + j = 16 * i + (A 3 i).toNat
      · rw [if_pos e]
        have := g3 (A 3 i - 1).toNat (by omega) (by show ((A 3 i - 1).toNat : Int) < A 3 i; omega)
        have this : -1 ≤ A 13 (16 * i + (A 3 i - 1).toNat) ∧ A 13 (16 * i + (A 3 i - 1).toNat) < 4 * (((A 3 i - 1).toNat : Int) + 1) := this
        omega
      · rw [if_neg e]
        exact g3 j j1 (by show (j : Int) < A 3 i; omega)
    · rw [b3, if_pos rfl, hB 4 i (by decide) (by decide) (by decide) (by decide)]
      exact ⟨x4, x5⟩
    · rw [b25, b3, if_pos rfl, if_pos rfl, hB 26 i (by decide) (by decide) (by decide) (by decide), hB 4 i (by decide) (by decide) (by decide) (by decide), hB 27 i (by decide) (by decide) (by decide) (by decide), hB 7 i (by decide) (by decide) (by decide) (by decide), x1 27 (by decide) (by decide) (by decide) (by decide), x1 7 (by decide) (by decide) (by decide) (by decide)]
      exact ⟨rfl, x3, hlk.2.2⟩
    · rw [hB 6 i (by decide) (by decide) (by decide) (by decide), x1 6 (by decide) (by decide) (by decide) (by decide)]; exact h6
    · intro q hq
      rw [b3, if_pos rfl] at hq
      rw [hB 6 i (by decide) (by decide) (by decide) (by decide), x1 6 (by decide) (by decide) (by decide) (by decide), b12, c12]
      by_cases e : 64 * i + (A 3 i * 4).toNat ≤ 64 * i + q ∧ 64 * i + q < 64 * i + (A 3 i * 4).toNat + 4
      · rw [if_pos e, show 64 * i + ((A 3 i - 1) * 4).toNat + (64 * i + q - (64 * i + (A 3 i * 4).toNat)) = 64 * i + (((A 3 i - 1) * 4).toNat + (q - (A 3 i * 4).toNat)) by omega]
        exact J_ce hJ hi hl (by omega)
      · rw [if_neg e]
        exact J_ce hJ hi hl (by omega)
    · rw [hB 32 0 (by decide) (by decide) (by decide) (by decide), x6]
      exact zsum_congr 6 0 (fun j _ _ => by rw [hB 5 j (by decide) (by decide) (by decide) (by decide)])
  · exact hJ
end FB2
