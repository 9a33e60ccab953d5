section K2
variable {A : zA}
theorem k2_piece : a_piece A 2 = A 2 := by
  funext j
  unfold a_piece
  split
  · rw [a_scan_at (by decide) (by decide) (by decide) (by decide) (by decide) (by decide) (by decide) (by decide), if_neg (by omega)]
  · split
    · unfold a_look
      rw [a_mkF_at (by decide) (by decide) (by omega)]
      rfl
    · rfl
theorem k2_loop {bound : Int} (k : Nat) (n : Int) : (a_loop bound k n A).2 2 = A 2 :=
  a_loop_I (I := fun B => B 2 = A 2) (fun B h _ => (k2_piece (A := B)).trans h) bound k n A rfl
theorem k2_endM : a_endM A 2 = A 2 := by
  funext j
  unfold a_endM
  rw [ar_rne (by decide), as_id (by decide), as_id (by decide), a_unsw_pt, if_neg (by omega), as_id (by decide)]
theorem k2_work {most : Int} : (a_work A most).2 2 = A 2 := by
  generalize hb : (if most < 134 then most else 134) = b
  rw [a_work_eq hb]
  have h := k2_loop (A := A) (bound := b) b.toNat 0
  generalize a_loop b b.toNat 0 A = q at *
  have h2 : aset q.2 14 7 (q.2 14 7 + q.1) 2 = A 2 := (as_rne (by decide)).trans h
  split
  · exact h2
  · exact k2_endM.trans h2
theorem k2_sweeps {most : Int} : (a_sweeps A most).2 2 = A 2 := funext fun j => a_sws_at (by decide) (by decide) (by omega) (by decide) (by decide) 16 0 0 A
theorem k2_chF {c : Nat} : ∀ (k r : Nat) (A : zA), a_chF c k r A 2 = A 2 := by
  intro k
  induction k with
  | zero => intro r A; rfl
  | succ k ih => intro r A; rw [a_chF, ih]; exact funext fun j => a_note_m
theorem k2_chs : ∀ (k c : Nat) (A : zA), a_chs k c A 2 = A 2 := by
  intro k
  induction k with
  | zero => intro c A; rfl
  | succ k ih => intro c A; rw [a_chs, ih, k2_chF]
theorem k2_cycle : a_cycle A 2 = A 2 := by
  refine Eq.trans ?_ (k2_sweeps (A := A) (most := 16))
  unfold a_cycle
  generalize (a_sweeps A 16).2 = B
  rw [k2_chs]
  funext j
  rw [a_uns_pt, if_neg (by omega)]
  rfl
theorem k2_fin : a_fin A 2 = A 2 := by
  unfold a_fin
  split
  · rfl
  · exact k2_work
theorem k2_pre {slot : Int} : a_pre A slot 2 = A 2 := by
  have h : (if A 14 5 = 0 ∧ A 14 9 ≤ A 14 8 then a_cycle A else A) 2 = A 2 := by
    split
    · exact k2_cycle
    · rfl
  unfold a_pre
  generalize (if A 14 5 = 0 ∧ A 14 9 ≤ A 14 8 then a_cycle A else A) = B at *
  split
  · exact h
  · exact k2_work.trans h
theorem k2_spans {slot : Int} : ∀ (k p : Nat) (A : zA), (a_spans slot k p A).2 2 = A 2 := by
  intro k
  induction k with
  | zero => intro p A; rfl
  | succ k ih =>
    intro p A
    rw [a_spans]
    split
    · have h : (if A 17 p = 0 then A else a_sweep A p) 2 = A 2 := by
        split
        · rfl
        · exact funext fun j => a_sweep_at (by decide) (by decide) (by omega) (by decide) (by decide)
      generalize (if A 17 p = 0 then A else a_sweep A p) = B at *
      simp only
      split
      · exact (ih _ _).trans h
      · exact h
    · exact ih _ _
theorem k2_newS {slot : Int} : (a_newS A slot).2 2 = A 2 := by
  unfold a_newS
  split
  · rfl
  · funext j
    show aset (a_fillP 1 (a_wide slot).toNat (a_run A (a_wide slot)).toNat A) 16 (a_run A (a_wide slot)).toNat slot 2 j = A 2 j
    rw [as_id (by decide), a_fillP_at (by decide)]
theorem k2_seat {slot : Int} : (a_seat A slot).2 2 = A 2 := by
  have h : (if slot < 16 then a_spans slot 16 0 A else (-1, A)).2 2 = A 2 := by
    split
    · exact k2_spans 16 0 A
    · rfl
  unfold a_seat
  generalize (if slot < 16 then a_spans slot 16 0 A else (-1, A)) = q at *
  simp only
  split
  · exact k2_newS.trans h
  · exact h
theorem k2_place {size ptrs mark : Int} : (a_place A size ptrs mark).2 2 = A 2 := by
  have h := k2_seat (A := A) (slot := a_slot size)
  unfold a_place
  generalize a_seat A (a_slot size) = q at *
  simp only
  split
  · exact h
  · refine Eq.trans ?_ h
    funext j
    show a_fillS _ _ _ _ _ _ _ = _
    unfold a_fillS
    rw [a_wds_pt, if_neg (by omega)]
    rfl
theorem k2_any {size ptrs : Int} : (a_any A size ptrs).2 2 = A 2 := by
  have h := k2_place (A := A) (size := size) (ptrs := ptrs) (mark := if A 14 5 = 0 then 0 else 1)
  unfold a_any
  generalize a_place A size ptrs (if A 14 5 = 0 then 0 else 1) = q at *
  simp only
  split
  · have h2 := (k2_place (A := (a_sweeps (a_fin q.2) 16).2) (size := size) (ptrs := ptrs) (mark := 0)).trans ((k2_sweeps (most := 16)).trans (k2_fin.trans h))
    generalize a_place (a_sweeps (a_fin q.2) 16).2 size ptrs 0 = r at *
    split
    · exact (k2_place (mark := 0)).trans ((k2_sweeps (most := 16)).trans (k2_fin.trans (k2_cycle.trans h2)))
    · exact h2
  · exact h
end K2
section MAK2
variable {N : Int} {A : zA}
theorem J_clean (hJ : JJ N A) : JJ N (a_sweeps (a_fin A) 16).2 ∧ (a_sweeps (a_fin A) 16).2 14 5 = 0 := by
  obtain ⟨h1, h2⟩ := J_fin hJ
  refine ⟨J_sweeps h1, ?_⟩
  have : (a_sweeps (a_fin A) 16).2 14 5 = a_fin A 14 5 := a_sws_at (by decide) (by decide) (by decide) (by decide) (by decide) 16 0 0 _
  rw [this]
  exact h2
theorem J_place0 {size ptrs : Int} (hJ : JJ N A) (h0 : A 14 5 = 0) (s1 : 1 ≤ size) (s2 : size ≤ 64) (p1 : 0 ≤ ptrs) (p2 : ptrs ≤ size) : ∀ q, a_place A size ptrs 0 = q → JJ N q.2 ∧ q.2 14 5 = 0 ∧ (q.1 ≠ -1 → okf (q.2 17) (q.2 18) (q.2 20) q.1) := by
  intro q hq
  have := J_place hJ s1 s2 p1 p2 q (by rw [if_pos h0]; exact hq)
  exact ⟨this.1, this.2.1.trans h0, fun w => (this.2.2 w).1⟩
theorem J_any {size ptrs : Int} (hJ : JJ N A) (s1 : 1 ≤ size) (s2 : size ≤ 64) (p1 : 0 ≤ ptrs) (p2 : ptrs ≤ size) : JJ N (a_any A size ptrs).2 ∧ ((a_any A size ptrs).1 ≠ -1 → okf ((a_any A size ptrs).2 17) ((a_any A size ptrs).2 18) ((a_any A size ptrs).2 20) (a_any A size ptrs).1 ∧ ((a_any A size ptrs).2 14 5 ≠ 0 → mkf ((a_any A size ptrs).2 20) (a_any A size ptrs).1)) := by
  have h := J_place hJ s1 s2 p1 p2 _ rfl
  unfold a_any
  generalize a_place A size ptrs (if A 14 5 = 0 then 0 else 1) = q at *
  obtain ⟨h1, h2, h3⟩ := h
  simp only
  split
  · obtain ⟨c1, c2⟩ := J_clean h1
    have h4 := J_place0 c1 c2 s1 s2 p1 p2 _ rfl
    generalize a_place (a_sweeps (a_fin q.2) 16).2 size ptrs 0 = r at *
    obtain ⟨i1, i2, i3⟩ := h4
    split
    · obtain ⟨d1, d2⟩ := J_clean (J_cycle i1).1
      obtain ⟨j1, j2, j3⟩ := J_place0 d1 d2 s1 s2 p1 p2 _ rfl
      exact ⟨j1, fun w => ⟨j3 w, fun e => absurd j2 e⟩⟩
    · exact ⟨i1, fun w => ⟨i3 w, fun e => absurd i2 e⟩⟩
  · exact ⟨h1, fun w => ⟨(h3 w).1, fun e => (h3 w).2 (by rw [← h2]; exact e)⟩⟩
theorem J_148 {v : Int} (hJ : JJ N A) (hN : N + 1 ≤ 1000) (v1 : 0 ≤ v) (v2 : v ≤ 64) : JJ (N + 1) (aset A 14 8 (A 14 8 + v)) := by
  have hU := hJ.up hN
  obtain ⟨n1, n2, hF, hC, hH, hV, hK, hM, hN0⟩ := hU
  have hr : ∀ a, [14].elem a = false → aset A 14 8 (A 14 8 + v) a = A a := one_row
  have e : ∀ k, k ≠ 8 → aset A 14 8 (A 14 8 + v) 14 k = A 14 k := fun k hk => as_ix hk
  refine ⟨n1, n2, JF_c hr (by decide) (e 0 (by decide)) hF, JC_c hr (by decide) hC, JH_c hr (by decide) (e 5 (by decide)) (e 4 (by decide)) hH, JV_c hr (by decide) hV, JK_c hr (by decide) hK, JM_c hr (by decide) (e 5 (by decide)) (e 4 (by decide)) hM, ?_⟩
  obtain ⟨q1, q2, q3, q4⟩ := hJ.2.2.2.2.2.2.2.2
  unfold JN
  rw [as_same, e 9 (by decide)]
  exact ⟨by omega, by omega, q3, q4⟩
theorem J_make {f k size ptrs : Int} (hJ : JJ N A) (hN : N + 1 ≤ 1000) : JJ (N + 1) (a_make A f k size ptrs).2 := by
  unfold a_make
  split
  · rename_i w
    obtain ⟨⟨w1, w2, w3⟩, w4, s1, s2, p1, p2⟩ := w
    have g := a_slot_rg (n := size) (by omega) s2
    obtain ⟨h1, h2⟩ := J_any (J_pre (slot := a_slot size) hJ) s1 s2 p1 p2
    have h3 := (k2_any (A := a_pre A (a_slot size)) (size := size) (ptrs := ptrs)).trans k2_pre
    generalize a_any (a_pre A (a_slot size)) size ptrs = q at *
    simp only
    split
    · exact h1.up hN
    · rename_i e
      obtain ⟨h4, h5⟩ := h2 e
      have hJ2 := J_148 (v := a_slot size) h1 hN (by omega) (by omega)
      have hok : okf (aset q.2 14 8 (q.2 14 8 + a_slot size) 17) (aset q.2 14 8 (q.2 14 8 + a_slot size) 18) (aset q.2 14 8 (q.2 14 8 + a_slot size) 20) q.1 := by
        rw [as_rne (by decide), as_rne (by decide), as_rne (by decide)]
        exact h4
      refine J_fc hJ2 (by omega) ?_ hok (fun hm _ _ => J_dk hJ2 hm hok ?_)
      · rw [as_rne (by decide), h3, w3]; decide
      · rw [as_rne (by decide)]
        rw [as_ix (by decide)] at hm
        exact h5 hm
  · exact hJ.up hN
end MAK2
