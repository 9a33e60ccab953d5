theorem a_mkF_at {a c d : Nat} (h1 : c ≠ 20) (h2 : c ≠ 23) (h3 : ¬ (c = 14 ∧ d = 4)) : ∀ (k w : Nat) (B : zA), a_mkF a k w B c d = B c d := by
  intro k
  induction k with
  | zero => intro w B; rfl
  | succ k ih => intro w B; rw [a_mkF, ih, a_mk_at h1 h2 h3]
theorem a_shr_at {A : zA} {i c d : Nat} (h1 : c ≠ 4) (h2 : c ≠ 26) (h3 : c ≠ 32) (h4 : c ≠ 5) : a_shr A i c d = A c d := by
  unfold a_shr
  split
  · unfold a_move gset
    rw [as_id h4, as_id h3, as_id h1, as_id h2]
  · rfl
theorem a_scan_at {A : zA} {i c d : Nat} (h1 : c ≠ 4) (h2 : c ≠ 26) (h3 : c ≠ 32) (h4 : c ≠ 5) (h5 : c ≠ 20) (h6 : c ≠ 23) (h7 : c ≠ 14) (h8 : c ≠ 24) : a_scan A i c d = if c = 6 ∧ d = i then 1 else A c d := by
  unfold a_scan
  rw [a_shr_at h1 h2 h3 h4]
  by_cases e : c = 6 ∧ d = i
  · rw [if_pos e, e.1, e.2, as_same]
  · rw [if_neg e]
    by_cases e1 : c = 6
    · rw [e1, as_ix (fun w => e ⟨e1, w⟩), a_noteF_at (by decide) (by decide) (by decide) (by decide)]
    · rw [as_id e1, a_noteF_at h5 h6 h7 h8]
def a_mu (A : zA) : Int := zsum (fun i => if A 2 i ≠ 0 ∧ A 6 i = 0 then 1 else 0) 6 0 + (128 - A 31 0)
theorem zsum_ext {f g : Nat → Int} : ∀ (k i : Nat), (∀ j, i ≤ j → j < i + k → f j = g j) → zsum f k i = zsum g k i := by
  intro k
  induction k with
  | zero => intro i h; rfl
  | succ k ih =>
    intro i h
    rw [zsum, zsum, h i (by omega) (by omega), ih (i + 1) (fun j h1 h2 => h j (by omega) (by omega))]
theorem zsum_ge {f : Nat → Int} (hf : ∀ j, 0 ≤ f j) : ∀ (k i : Nat), 0 ≤ zsum f k i := by
  intro k
  induction k with
  | zero => intro i; exact Int.le_refl 0
  | succ k ih =>
    intro i
    rw [zsum]
    have := ih (i + 1)
    have := hf i
    omega
theorem zsum_le1 {f : Nat → Int} (hf : ∀ j, f j ≤ 1) : ∀ (k i : Nat), zsum f k i ≤ k := by
  intro k
  induction k with
  | zero => intro i; exact Int.le_refl 0
  | succ k ih =>
    intro i
    rw [zsum]
    have := ih (i + 1)
    have := hf i
    omega
theorem a_nextF_none (A : zA) : ∀ (k i : Nat), (∀ j, i ≤ j → j < i + k → ¬ (A 2 j ≠ 0 ∧ A 6 j = 0)) → a_nextF A k i = -1 := by
  intro k
  induction k with
  | zero => intro i h; rfl
  | succ k ih =>
    intro i h
    rw [a_nextF, if_neg (h i (by omega) (by omega)), ih (i + 1) (fun j h1 h2 => h j (by omega) (by omega))]
theorem a_mu_piece {A : zA} (hL : a_left A) : a_mu (a_piece A) = a_mu A - 1 := by
  unfold a_piece
  split
  · rename_i w
    obtain ⟨g1, g2, g3, g4⟩ := (a_next_rg A).resolve_left w
    generalize hi : (a_next A).toNat = i at *
    unfold a_mu
    rw [a_scan_at (by decide) (by decide) (by decide) (by decide) (by decide) (by decide) (by decide) (by decide), if_neg (by omega)]
    have e : zsum (fun j => if a_scan A i 2 j ≠ 0 ∧ a_scan A i 6 j = 0 then (1 : Int) else 0) 6 0 = zsum (fun j => if j = i then 0 else (fun j => if A 2 j ≠ 0 ∧ A 6 j = 0 then (1 : Int) else 0) j) 6 0 := by
      refine zsum_ext 6 0 (fun j h1 h2 => ?_)
      show (if a_scan A i 2 j ≠ 0 ∧ a_scan A i 6 j = 0 then (1 : Int) else 0) = if j = i then 0 else (if A 2 j ≠ 0 ∧ A 6 j = 0 then (1 : Int) else 0)
      rw [a_scan_at (by decide) (by decide) (by decide) (by decide) (by decide) (by decide) (by decide) (by decide), a_scan_at (by decide) (by decide) (by decide) (by decide) (by decide) (by decide) (by decide) (by decide), if_neg (show ¬ (2 = 6 ∧ j = i) by omega)]
      by_cases e : j = i
      · rw [if_pos (show 6 = 6 ∧ j = i from ⟨rfl, e⟩), if_pos e, if_neg (by omega)]
      · rw [if_neg (show ¬ (6 = 6 ∧ j = i) from fun w => e w.2), if_neg e]
    rw [e, zsum_up 6 0 (by omega) (by omega)]
    simp only [if_pos (show A 2 i ≠ 0 ∧ A 6 i = 0 from ⟨g3, g4⟩)]
    omega
  · rename_i w
    have hpn : 0 < A 14 4 := hL.resolve_right w
    rw [if_pos hpn]
    have e : ∀ c j, c = 2 ∨ c = 6 → a_look (aset (aset A 31 0 (A 31 0 + 1)) 14 4 (A 14 4 - 1)) (A 23 (A 14 4 - 1).toNat).toNat c j = A c j := by
      intro c j hc
      unfold a_look
      rw [a_mkF_at (by omega) (by omega) (by omega), as_id (by omega), as_id (by omega)]
    have e31 : a_look (aset (aset A 31 0 (A 31 0 + 1)) 14 4 (A 14 4 - 1)) (A 23 (A 14 4 - 1).toNat).toNat 31 0 = A 31 0 + 1 := by
      unfold a_look
      rw [a_mkF_at (by decide) (by decide) (by decide)]
      exact as_same A 31 0 _
    generalize a_look (aset (aset A 31 0 (A 31 0 + 1)) 14 4 (A 14 4 - 1)) (A 23 (A 14 4 - 1).toNat).toNat = C at *
    unfold a_mu
    have e2 := zsum_ext (f := fun j => if C 2 j ≠ 0 ∧ C 6 j = 0 then (1 : Int) else 0) (g := fun j => if A 2 j ≠ 0 ∧ A 6 j = 0 then 1 else 0) 6 0 (fun j h1 h2 => by simp only [e 2 j (Or.inl rfl), e 6 j (Or.inr rfl)])
    rw [e2, e31]
    omega
theorem a_work_eq {A : zA} {most b : Int} (hb : (if most < 134 then most else 134) = b) : a_work A most = if a_left (aset (a_loop b b.toNat 0 A).2 14 7 ((a_loop b b.toNat 0 A).2 14 7 + (a_loop b b.toNat 0 A).1)) then ((a_loop b b.toNat 0 A).1, aset (a_loop b b.toNat 0 A).2 14 7 ((a_loop b b.toNat 0 A).2 14 7 + (a_loop b b.toNat 0 A).1)) else ((a_loop b b.toNat 0 A).1, a_endM (aset (a_loop b b.toNat 0 A).2 14 7 ((a_loop b b.toNat 0 A).2 14 7 + (a_loop b b.toNat 0 A).1))) := by
  subst hb
  rfl
section WRK2
variable {N : Int} {A : zA}
theorem J_mu0 (hJ : JJ N A) (hm : A 14 5 ≠ 0) : 0 ≤ a_mu A ∧ a_mu A ≤ 134 ∧ (a_mu A = 0 → ¬ a_left A) := by
  obtain ⟨-, -, -, -, -, -, -, m8, m9⟩ := hJ.2.2.2.2.2.2.2.1 hm
  have hco := hJ.2.2.2.2.1.co
  have h1 := zsum_ge (f := fun i => if A 2 i ≠ 0 ∧ A 6 i = 0 then (1 : Int) else 0) (fun j => by split <;> omega) 6 0
  have h1' := zsum_le1 (f := fun i => if A 2 i ≠ 0 ∧ A 6 i = 0 then (1 : Int) else 0) (fun j => by split <;> omega) 6 0
  have h2 := zsum_le1 (f := fun u => if A 20 u = 2 then (1 : Int) else 0) (fun j => by split <;> omega) 128 0
  unfold a_mu
  refine ⟨by omega, by omega, fun h => ?_⟩
  have z := zsum_nn (f := fun i => if A 2 i ≠ 0 ∧ A 6 i = 0 then (1 : Int) else 0) 6 0 (fun j => by split <;> omega) (by omega)
  rintro (e | e)
  · omega
  · refine e (a_nextF_none A 6 0 (fun j j1 j2 w => ?_))
    have := z j j1 j2
    simp only [if_pos w] at this
    omega
theorem J_loopE {bound : Int} : ∀ (k : Nat) (n : Int) (A : zA), JJ N A → A 14 5 ≠ 0 → a_mu A ≤ k → n + k ≤ bound → ¬ a_left (a_loop bound k n A).2 := by
  intro k
  induction k with
  | zero =>
    intro n A hJ hm hu hn
    have := J_mu0 hJ hm
    exact this.2.2 (by omega)
  | succ k ih =>
    intro n A hJ hm hu hn
    rw [a_loop]
    split
    · rename_i w
      obtain ⟨p1, p2⟩ := J_piece hJ hm w.2
      refine ih _ _ p1 p2 ?_ (by omega)
      rw [a_mu_piece w.2]
      omega
    · rename_i w
      exact fun e => w ⟨by omega, e⟩
theorem J_147 {v : Int} (hJ : JJ N A) : JJ N (aset A 14 7 v) := by
  obtain ⟨n1, n2, hF, hC, hH, hV, hK, hM, hN⟩ := hJ
  have hr : ∀ a, [14].elem a = false → aset A 14 7 v a = A a := one_row
  have e : ∀ k, k ≠ 7 → aset A 14 7 v 14 k = A 14 k := fun k hk => as_ix hk
  exact ⟨n1, n2, JF_c hr (by decide) (e 0 (by decide)) hF, JC_c hr (by decide) hC, JH_c hr (by decide) (e 5 (by decide)) (e 4 (by decide)) hH, JV_c hr (by decide) hV, JK_c hr (by decide) hK, JM_c hr (by decide) (e 5 (by decide)) (e 4 (by decide)) hM, JN_c hr (e 8 (by decide)) (e 9 (by decide)) hN⟩
theorem a_left_147 {v : Int} : a_left (aset A 14 7 v) ↔ a_left A := by
  unfold a_left
  rw [a_next_as (by decide) (by decide), as_ix (by decide)]
theorem a_endM_5 : a_endM A 14 5 = 0 := by
  unfold a_endM
  rw [ar_rne (by decide), as_ix (by decide), as_ix (by decide), a_unsw_pt, if_neg (by omega), as_same]
theorem J_loop {bound : Int} (k : Nat) (n : Int) (hJ : JJ N A) (hm : A 14 5 ≠ 0) : JJ N (a_loop bound k n A).2 ∧ (a_loop bound k n A).2 14 5 ≠ 0 :=
  a_loop_I (I := fun A => JJ N A ∧ A 14 5 ≠ 0) (fun _ h w => J_piece h.1 h.2 w) bound k n A ⟨hJ, hm⟩
theorem J_work {most : Int} (hJ : JJ N A) (hm : A 14 5 ≠ 0) : JJ N (a_work A most).2 := by
  generalize hb : (if most < 134 then most else 134) = b
  rw [a_work_eq hb]
  obtain ⟨h1, h2⟩ := J_loop (bound := b) b.toNat 0 hJ hm
  generalize a_loop b b.toNat 0 A = q at *
  split
  · exact J_147 h1
  · rename_i w
    exact J_endM (J_147 h1) (by rw [as_ix (by decide)]; exact h2) w
theorem J_workE (hJ : JJ N A) (hm : A 14 5 ≠ 0) : (a_work A 134).2 14 5 = 0 := by
  rw [a_work_eq (if_neg (show ¬ (134 : Int) < 134 by omega))]
  have h := J_loopE (bound := 134) (134 : Int).toNat 0 A hJ hm (by have := (J_mu0 hJ hm).2.1; omega) (by omega)
  generalize a_loop 134 (134 : Int).toNat 0 A = q at *
  rw [if_neg (fun e => h (a_left_147.1 e))]
  exact a_endM_5 (A := aset q.2 14 7 (q.2 14 7 + q.1))
theorem J_fin (hJ : JJ N A) : JJ N (a_fin A) ∧ a_fin A 14 5 = 0 := by
  unfold a_fin
  split
  · rename_i w; exact ⟨hJ, w⟩
  · rename_i w; exact ⟨J_work hJ w, J_workE hJ w⟩
theorem J_pre {slot : Int} (hJ : JJ N A) : JJ N (a_pre A slot) := by
  have h : JJ N (if A 14 5 = 0 ∧ A 14 9 ≤ A 14 8 then a_cycle A else A) := by
    split
    · exact (J_cycle hJ).1
    · exact hJ
  unfold a_pre
  generalize (if A 14 5 = 0 ∧ A 14 9 ≤ A 14 8 then a_cycle A else A) = B at *
  simp only
  split
  · exact h
  · rename_i w; exact J_work h w
theorem J_mrk {n : Int} (hJ : JJ N A) : JJ N (a_mark A n).2 := by
  unfold a_mark
  split
  · rename_i w; exact J_work hJ w.2
  · exact hJ
theorem J_collect (hJ : JJ N A) : JJ N (a_collect A).2 := by
  unfold a_collect
  split
  · exact (J_cycle hJ).1
  · exact hJ
end WRK2
