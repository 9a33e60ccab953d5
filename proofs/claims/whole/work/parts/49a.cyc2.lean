theorem a_sweep_17 {A : zA} {p : Nat} (k : Nat) : a_sweep A p 17 k = if k = p then 0 else A 17 k := by
  have h1 : aset A 17 p 0 17 k = if k = p then 0 else A 17 k := by rw [as_row]
  unfold a_sweep
  split
  · rw [a_fillP_at (by decide), a_swF_at (by decide) (by decide) (by omega), h1]
  · rw [a_swF_at (by decide) (by decide) (by omega), h1]
theorem a_sws_un {most : Int} : ∀ (k p : Nat) (n : Int) (A : zA), p + k = 16 → n + k ≤ most → (∀ q, q < p → A 17 q = 0) → ∀ q, q < 16 → (a_sws most k p n A).2 17 q = 0 := by
  intro k
  induction k with
  | zero => intro p n A hp hn h q hq; exact h q (by omega)
  | succ k ih =>
    intro p n A hp hn h
    rw [a_sws, if_pos (by omega)]
    split
    · rename_i w
      refine ih _ _ _ (by omega) (by omega) (fun q hq => ?_)
      by_cases e : q = p
      · rw [e]; exact w
      · exact h q (by omega)
    · refine ih _ _ _ (by omega) (by omega) (fun q hq => ?_)
      rw [a_sweep_17]
      split
      · rfl
      · exact h q (by omega)
theorem aset_arow {A : zA} {a b k : Nat} {v : Int} {g : Nat → Int} (h : a ≠ b) : aset (arow A b g) a k v = arow (aset A a k v) b g := by
  funext x j
  unfold aset arow
  by_cases e : x = b
  · simp only [if_pos e]
    rw [if_neg (fun w => h (w.1.symm.trans e))]
  · simp only [if_neg e]
theorem a_note_ar {A : zA} {p : Int} {g : Nat → Int} : a_note (arow A 22 g) p = arow (a_note A p) 22 g := by
  unfold a_note a_mk
  simp only [ar_rne (show (14 : Nat) ≠ 22 by decide), ar_rne (show (20 : Nat) ≠ 22 by decide)]
  split
  · rfl
  · split
    · rw [aset_arow (by decide)]
    · rw [aset_arow (by decide), aset_arow (by decide), aset_arow (by decide), aset_arow (by decide)]
theorem ar_ar {A : zA} {b : Nat} {g g' : Nat → Int} {a : Nat} (h : a ≠ b) : arow A b g' a = arow A b g a := by rw [ar_rne h, ar_rne h]
def glf (le : Nat → Int) (c : Nat) (r : Int) : Nat → Int := fun j => if j < c ∨ 4 ≤ j then le j else if j = c then r else 0
section CYC2
variable {N : Int} {A : zA}
theorem J_chF {c : Nat} (hc : c < 4) {le : Nat → Int} (hle : ∀ d : Nat, d < 4 → 0 ≤ le d ∧ le d ≤ (d : Int)) : ∀ (k r : Nat) (B : zA), (r : Int) + k = le c → JJ N (arow B 22 (glf le c r)) → B 14 5 = 1 → (∀ d, d < 4 → ∀ s : Nat, (s : Int) < le d → okf (B 17) (B 18) (B 20) (B 21 (4 * d + s))) → JJ N (arow (a_chF c k r B) 22 (glf le c (le c))) ∧ a_chF c k r B 14 5 = 1 ∧ (∀ d, d < 4 → ∀ s : Nat, (s : Int) < le d → okf (a_chF c k r B 17) (a_chF c k r B 18) (a_chF c k r B 20) (a_chF c k r B 21 (4 * d + s))) ∧ a_chF c k r B 22 = B 22 := by
  intro k
  induction k with
  | zero =>
    intro r B hr hJ hm hok
    rw [show (r : Int) = le c by omega] at hJ
    exact ⟨hJ, hm, hok, rfl⟩
  | succ k ih =>
    intro r B hr hJ hm hok
    rw [a_chF]
    have hp := hok c hc r (by omega)
    generalize hP : B 21 (4 * c + r) = p at *
    have hpx : okf (arow B 22 (glf le c r) 17) (arow B 22 (glf le c r) 18) (arow B 22 (glf le c r) 20) p := by
      rw [ar_rne (by decide), ar_rne (by decide), ar_rne (by decide)]
      exact hp
    obtain ⟨h1, h2, h3⟩ := J_note hJ hpx
    rw [a_note_ar] at h1 h2 h3
    rw [ar_rne (by decide)] at h2
    rw [ar_rne (show (20 : Nat) ≠ 22 by decide), ar_rne (show (20 : Nat) ≠ 22 by decide)] at h3
    rw [ar_rne (show (20 : Nat) ≠ 22 by decide)] at h2
    have hr' : ∀ a, a ≠ 20 → a ≠ 23 → a ≠ 14 → a ≠ 24 → a_note B p a = B a := fun a a1 a2 a3 a4 => funext fun j => a_note_m a1 a2 a3 a4
    have hm2 : a_note B p 14 5 = 1 := by rw [a_note_at (by decide) (by decide) (by omega) (by decide)]; exact hm
    have hok2 : ∀ d, d < 4 → ∀ s : Nat, (s : Int) < le d → okf (a_note B p 17) (a_note B p 18) (a_note B p 20) (a_note B p 21 (4 * d + s)) := by
      intro d hd s hs
      rw [hr' 17 (by decide) (by decide) (by decide) (by decide), hr' 18 (by decide) (by decide) (by decide) (by decide), hr' 21 (by decide) (by decide) (by decide) (by decide)]
      exact ok_mono h3 (hok d hd s hs)
    have h22 : a_note B p 22 = B 22 := hr' 22 (by decide) (by decide) (by decide) (by decide)
    have hmk : mkf (a_note B p 20) p := h2 (by rw [hm]; decide)
    have hpp := hok2 c hc r (by omega)
    have e21 : a_note B p 21 = B 21 := hr' 21 (by decide) (by decide) (by decide) (by decide)
    rw [e21, hP] at hpp
    generalize a_note B p = C at *
    have hJ2 : JJ N (arow C 22 (glf le c ((r + 1 : Nat) : Int))) := by
      refine J_ch h1 (fun a ha => ?_) (fun d hd => ?_) (fun d hd s hs => ?_)
      · exact ar_ar (fun e => by subst e; cases ha)
      · rw [ar_row]
        have := hle d hd
        unfold glf
        split
        · exact this
        · split
          · subst d; omega
          · omega
      · rw [ar_row] at hs
        rw [ar_rne (by decide)]
        by_cases e : d = c ∧ s = r
        · rw [e.1, e.2]
          have hp9 : okf (arow C 22 (glf le c r) 17) (arow C 22 (glf le c r) 18) (arow C 22 (glf le c r) 20) (C 21 (4 * c + r)) := by
            rw [ar_rne (by decide), ar_rne (by decide), ar_rne (by decide), e21, hP]
            exact hpp
          refine ⟨hp9, fun hm9 => J_dk h1 hm9 hp9 ?_⟩
          rw [ar_rne (by decide), ar_rne (by decide), e21, hP]
          exact hmk
        · have hs2 : (s : Int) < arow C 22 (glf le c r) 22 d := by
            rw [ar_row]
            unfold glf at hs ⊢
            by_cases q : d < c ∨ 4 ≤ d
            · rw [if_pos q] at hs ⊢; exact hs
            · rw [if_neg q] at hs ⊢
              by_cases q2 : d = c
              · rw [if_pos q2] at hs ⊢; omega
              · rw [if_neg q2] at hs ⊢; exact hs
          have := J_qe h1 hd hs2
          rw [ar_rne (show (21 : Nat) ≠ 22 by decide)] at this
          exact this
    obtain ⟨i1, i2, i3, i4⟩ := ih (r + 1) C (by omega) hJ2 hm2 hok2
    exact ⟨i1, i2, i3, i4.trans h22⟩
theorem J_chs {le : Nat → Int} (hle : ∀ d : Nat, d < 4 → 0 ≤ le d ∧ le d ≤ (d : Int)) : ∀ (k c : Nat) (B : zA), c + k = 4 → B 22 = le → JJ N (arow B 22 (glf le c 0)) → B 14 5 = 1 → (∀ d, d < 4 → ∀ s : Nat, (s : Int) < le d → okf (B 17) (B 18) (B 20) (B 21 (4 * d + s))) → JJ N (a_chs k c B) ∧ a_chs k c B 14 5 = 1 := by
  intro k
  induction k with
  | zero =>
    intro c B hc h22 hJ hm hok
    refine ⟨?_, hm⟩
    have : arow B 22 (glf le c 0) = B := by
      funext a j
      unfold arow
      by_cases e : a = 22
      · rw [if_pos e, e, h22]
        unfold glf
        rw [if_pos (by omega)]
      · rw [if_neg e]
    rw [this] at hJ
    exact hJ
  | succ k ih =>
    intro c B hc h22 hJ hm hok
    rw [a_chs]
    have h0 := hle c (by omega)
    obtain ⟨i1, i2, i3, i4⟩ := J_chF (show c < 4 by omega) hle (B 22 c).toNat 0 B (by rw [h22]; omega) hJ hm hok
    refine ih (c + 1) _ (by omega) (i4.trans h22) ?_ i2 i3
    have e : glf le c (le c) = glf le (c + 1) 0 := by
      funext j
      unfold glf
      by_cases q : j < c ∨ 4 ≤ j
      · rw [if_pos q, if_pos (by omega)]
      · rw [if_neg q]
        by_cases q2 : j = c
        · rw [if_pos q2, if_pos (by omega), q2]
        · rw [if_neg q2, if_neg (by omega)]
          split <;> rfl
    rw [e] at i1
    exact i1
theorem J_cycle (hJ : JJ N A) : JJ N (a_cycle A) ∧ a_cycle A 14 5 = 1 := by
  have hB := J_sweeps (most := 16) hJ
  have hun : ∀ q, q < 16 → (a_sweeps A 16).2 17 q = 0 := a_sws_un 16 0 0 A (by omega) (by omega) (fun q hq => by omega)
  have ec : a_cycle A = a_chs 4 0 (a_uns 6 0 (aset (arow (arow (arow (aset (aset (aset (a_sweeps A 16).2 14 6 ((a_sweeps A 16).2 14 6 + 1)) 14 5 1) 14 4 0) 20 (fun j => if j < 128 then 0 else aset (aset (aset (a_sweeps A 16).2 14 6 ((a_sweeps A 16).2 14 6 + 1)) 14 5 1) 14 4 0 20 j)) 24 (fun _ => 0)) 33 (fun _ => 0)) 31 0 0)) := rfl
  rw [ec]
  clear ec
  generalize (a_sweeps A 16).2 = B at *
  have hX : ∀ a k, a_uns 6 0 (aset (arow (arow (arow (aset (aset (aset B 14 6 (B 14 6 + 1)) 14 5 1) 14 4 0) 20 (fun j => if j < 128 then 0 else aset (aset (aset B 14 6 (B 14 6 + 1)) 14 5 1) 14 4 0 20 j)) 24 (fun _ => 0)) 33 (fun _ => 0)) 31 0 0) a k = if a = 6 ∧ k < 6 then 0 else if a = 31 ∧ k = 0 then 0 else if a = 33 then 0 else if a = 24 then 0 else if a = 20 ∧ k < 128 then 0 else if a = 14 ∧ k = 4 then 0 else if a = 14 ∧ k = 5 then 1 else if a = 14 ∧ k = 6 then B 14 6 + 1 else B a k := by
    intro a k
    rw [a_uns_pt]
    by_cases h6 : a = 6 ∧ k < 6
    · rw [if_pos ⟨h6.1, by omega, by omega⟩, if_pos h6]
    rw [if_neg (by omega), if_neg h6]
    by_cases h31 : a = 31 ∧ k = 0
    · rw [if_pos h31, h31.1, h31.2, as_same]
    rw [if_neg h31]
    unfold aset arow
    rw [if_neg h31]
    by_cases h33 : a = 33
    · rw [if_pos h33, if_pos h33]
    rw [if_neg h33, if_neg h33]
    by_cases h24 : a = 24
    · rw [if_pos h24, if_pos h24]
    rw [if_neg h24, if_neg h24]
    by_cases h20 : a = 20
    · rw [if_pos h20]
      by_cases hk : k < 128
      · simp only [if_pos hk]; rw [if_pos ⟨h20, hk⟩]
      · simp only [if_neg hk]
        rw [if_neg (show ¬ (a = 20 ∧ k < 128) from fun w => hk w.2), if_neg (by omega), if_neg (by omega), if_neg (by omega), if_neg (by omega), if_neg (by omega), if_neg (by omega), h20]
    rw [if_neg h20, if_neg (show ¬ (a = 20 ∧ k < 128) from fun w => h20 w.1)]
  have rr : ∀ a, [6, 31, 33, 24, 20, 14].elem a = false → a_uns 6 0 (aset (arow (arow (arow (aset (aset (aset B 14 6 (B 14 6 + 1)) 14 5 1) 14 4 0) 20 (fun j => if j < 128 then 0 else aset (aset (aset B 14 6 (B 14 6 + 1)) 14 5 1) 14 4 0 20 j)) 24 (fun _ => 0)) 33 (fun _ => 0)) 31 0 0) a = B a := by
    intro a ha
    funext k
    rw [hX]
    have h6 : a ≠ 6 := fun e => by subst e; cases ha
    have h31 : a ≠ 31 := fun e => by subst e; cases ha
    have h33 : a ≠ 33 := fun e => by subst e; cases ha
    have h24 : a ≠ 24 := fun e => by subst e; cases ha
    have h20 : a ≠ 20 := fun e => by subst e; cases ha
    have h14 : a ≠ 14 := fun e => by subst e; cases ha
    rw [if_neg (by omega), if_neg (by omega), if_neg h33, if_neg h24, if_neg (by omega), if_neg (by omega), if_neg (by omega), if_neg (by omega)]
  generalize a_uns 6 0 (aset (arow (arow (arow (aset (aset (aset B 14 6 (B 14 6 + 1)) 14 5 1) 14 4 0) 20 (fun j => if j < 128 then 0 else aset (aset (aset B 14 6 (B 14 6 + 1)) 14 5 1) 14 4 0 20 j)) 24 (fun _ => 0)) 33 (fun _ => 0)) 31 0 0) = E at *
  have s6 : ∀ k, k < 6 → E 6 k = 0 := fun k hk => by rw [hX, if_pos ⟨rfl, hk⟩]
  have s31 : E 31 0 = 0 := by rw [hX]; simp
  have s33 : ∀ k, E 33 k = 0 := fun k => by rw [hX]; simp
  have s24 : ∀ k, E 24 k = 0 := fun k => by rw [hX]; simp
  have s20 : ∀ k, k < 128 → E 20 k = 0 := fun k hk => by rw [hX]; simp [hk]
  have s4 : E 14 4 = 0 := by rw [hX]; simp
  have s5 : E 14 5 = 1 := by rw [hX]; simp
  have s14 : ∀ k, k ≠ 4 → k ≠ 5 → k ≠ 6 → E 14 k = B 14 k := fun k h4 h5 h6 => by rw [hX]; simp [h4, h5, h6]
  clear hX
  obtain ⟨n1, n2, hF, hC, hH, hV, hK, hM, hN⟩ := hB
  have okB : ∀ p, okf (B 17) (B 18) (B 20) p → okf (E 17) (E 18) (E 20) p := by
    intro p h
    rw [rr 17 rfl, rr 18 rfl]
    rcases h with e | ⟨p1, p2, p3, p4⟩
    · exact Or.inl e
    · exact Or.inr ⟨p1, p2, p3, p4.1, Or.inl (hun _ (by omega))⟩
  have hC' : ∀ d : Nat, d < 4 → 0 ≤ E 22 d ∧ E 22 d ≤ (d : Int) := by rw [rr 22 rfl]; exact hC
  refine J_chs hC' 4 0 E (by omega) rfl ?_ s5 (fun d hd s hs => ?_)
  · have q : ∀ a, a ≠ 22 → arow E 22 (glf (E 22) 0 0) a = E a := fun a ha => ar_rne ha
    have q22 : ∀ c, c < 4 → arow E 22 (glf (E 22) 0 0) 22 c = 0 := by
      intro c hc
      rw [ar_row]
      unfold glf
      rw [if_neg (by omega)]
      split <;> rfl
    generalize arow E 22 (glf (E 22) 0 0) = D at *
    refine ⟨n1, n2, ?_, fun c hc => by rw [q22 c hc]; omega, ?_, ?_, ?_, ?_, ?_⟩
    · unfold JF
      rw [q 2 (by decide), q 3 (by decide), q 4 (by decide), q 5 (by decide), q 6 (by decide), q 7 (by decide), q 8 (by decide), q 9 (by decide), q 10 (by decide), q 11 (by decide), q 13 (by decide), q 25 (by decide), q 26 (by decide), q 27 (by decide), q 29 (by decide), q 30 (by decide), q 32 (by decide), q 14 (by decide)]
      rw [rr 2 rfl, rr 3 rfl, rr 4 rfl, rr 5 rfl, rr 7 rfl, rr 8 rfl, rr 9 rfl, rr 10 rfl, rr 11 rfl, rr 13 rfl, rr 25 rfl, rr 26 rfl, rr 27 rfl, rr 29 rfl, rr 30 rfl, rr 32 rfl, s14 0 (by decide) (by decide) (by decide)]
      obtain ⟨f1, f2, f3, f4, f5⟩ := hF
      exact ⟨f1, f2, f3, fun i hi => Or.inl (s6 i hi), f5⟩
    · unfold JH
      rw [q 16 (by decide), q 17 (by decide), q 18 (by decide), q 19 (by decide), q 20 (by decide), q 28 (by decide), q 14 (by decide), s4, s5, rr 16 rfl, rr 17 rfl, rr 18 rfl, rr 19 rfl, rr 28 rfl]
      obtain ⟨x1, x2, x3, x4, x5, x6, x7⟩ := hH
      refine ⟨x1, x2, fun u hu => ?_, ⟨Or.inr rfl, by omega, by omega⟩, x5, fun p hp h => absurd (hun p hp) h, x7⟩
      obtain ⟨y1, y2, y3, y4, y5, y6⟩ := x3 u hu
      exact ⟨y1, y2, y3, y4, by rw [s20 u hu]; omega, by rw [s20 u hu]; omega⟩
    · unfold JV
      rw [q 2 (by decide), q 3 (by decide), q 12 (by decide), q 21 (by decide), q 15 (by decide), q 17 (by decide), q 18 (by decide), q 19 (by decide), q 20 (by decide)]
      obtain ⟨v1, v2, v3⟩ := hV
      refine ⟨fun i hi hs x hx => ?_, fun c hc r hr => ?_, fun u hu hl w hw => ?_⟩
      · rw [rr 2 rfl] at hs
        rw [rr 3 rfl] at hx
        rw [rr 12 rfl]
        exact okB _ (v1 i hi hs x hx)
      · rw [q22 c hc] at hr
        omega
      · have hl1 := hl.1
        rw [rr 18 rfl] at hl1
        rw [rr 19 rfl] at hw
        rw [rr 15 rfl]
        exact okB _ (v3 u hu ⟨hl1, Or.inl (hun _ (by omega))⟩ w hw)
    · intro u hu h
      rw [q 17 (by decide), rr 17 rfl] at h
      exact absurd (hun _ (by omega)) h
    · unfold JM
      rw [q 2 (by decide), q 3 (by decide), q 6 (by decide), q 12 (by decide), q 21 (by decide), q 15 (by decide), q 18 (by decide), q 19 (by decide), q 20 (by decide), q 23 (by decide), q 24 (by decide), q 33 (by decide), q 28 (by decide), q 31 (by decide), q 14 (by decide), s4, s31]
      intro _
      refine ⟨⟨fun u hu => ?_, fun a ha => ⟨Or.inl (s24 a), Or.inl (s33 a)⟩⟩, fun u hu h => absurd (s20 u hu) h, ⟨fun j hj => by omega, fun j k hj hk => by omega⟩, fun u hu h => absurd (s20 u hu) h, ⟨fun i hi hs h => absurd (s6 i hi) h, fun c hc r hr => ?_⟩, fun a ha h => absurd (s24 a) h, fun S hS u hu h => ?_, ?_, by omega⟩
      · rw [s33, s20 u hu]; decide
      · rw [q22 c hc] at hr
        omega
      · rw [s20 u hu] at h
        omega
      · have : ∀ (k i : Nat), i + k ≤ 128 → zsum (fun u => if E 20 u = 2 then (1 : Int) else 0) k i = 0 := by
          intro k
          induction k with
          | zero => intro i hi; rfl
          | succ k ih =>
            intro i hi
            rw [zsum, ih (i + 1) (by omega)]
            simp only [s20 i (by omega)]
            decide
        rw [this 128 0 (by omega)]
        omega
    · unfold JN
      rw [q 14 (by decide), s14 8 (by decide) (by decide) (by decide), s14 9 (by decide) (by decide) (by decide)]
      exact hN
  · rw [rr 22 rfl] at hs
    rw [rr 21 rfl]
    exact okB _ (hV.2.1 d hd s hs)
end CYC2
