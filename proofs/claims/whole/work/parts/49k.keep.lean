section K3
variable {A : zA}
theorem k3_piece : a_piece A 3 = A 3 := by
  funext j
  unfold a_piece
  split
  · rw [a_scan_at (by decide) (by decide) (by decide) (by decide) (by decide) (by decide) (by decide) (by decide), if_neg (by omega)]
  · split
    · unfold a_look
      rw [a_mkF_at (by decide) (by decide) (by omega)]
      rfl
    · rfl
theorem k3_loop {bound : Int} (k : Nat) (n : Int) : (a_loop bound k n A).2 3 = A 3 :=
  a_loop_I (I := fun B => B 3 = A 3) (fun B h _ => (k3_piece (A := B)).trans h) bound k n A rfl
theorem k3_endM : a_endM A 3 = A 3 := by
  funext j
  unfold a_endM
  rw [ar_rne (by decide), as_id (by decide), as_id (by decide), a_unsw_pt, if_neg (by omega), as_id (by decide)]
theorem k3_work {most : Int} : (a_work A most).2 3 = A 3 := by
  generalize hb : (if most < 134 then most else 134) = b
  rw [a_work_eq hb]
  have h := k3_loop (A := A) (bound := b) b.toNat 0
  generalize a_loop b b.toNat 0 A = q at *
  have h2 : aset q.2 14 7 (q.2 14 7 + q.1) 3 = A 3 := (as_rne (by decide)).trans h
  split
  · exact h2
  · exact k3_endM.trans h2
theorem k3_sweeps {most : Int} : (a_sweeps A most).2 3 = A 3 := funext fun j => a_sws_at (by decide) (by decide) (by omega) (by decide) (by decide) 16 0 0 A
theorem k3_chF {c : Nat} : ∀ (k r : Nat) (A : zA), a_chF c k r A 3 = A 3 := by
  intro k
  induction k with
  | zero => intro r A; rfl
  | succ k ih => intro r A; rw [a_chF, ih]; exact funext fun j => a_note_m
theorem k3_chs : ∀ (k c : Nat) (A : zA), a_chs k c A 3 = A 3 := by
  intro k
  induction k with
  | zero => intro c A; rfl
  | succ k ih => intro c A; rw [a_chs, ih, k3_chF]
theorem k3_cycle : a_cycle A 3 = A 3 := by
  refine Eq.trans ?_ (k3_sweeps (A := A) (most := 16))
  unfold a_cycle
  generalize (a_sweeps A 16).2 = B
  rw [k3_chs]
  funext j
  rw [a_uns_pt, if_neg (by omega)]
  rfl
theorem k3_fin : a_fin A 3 = A 3 := by
  unfold a_fin
  split
  · rfl
  · exact k3_work
theorem k3_pre {slot : Int} : a_pre A slot 3 = A 3 := by
  have h : (if A 14 5 = 0 ∧ A 14 9 ≤ A 14 8 then a_cycle A else A) 3 = A 3 := by
    split
    · exact k3_cycle
    · rfl
  unfold a_pre
  generalize (if A 14 5 = 0 ∧ A 14 9 ≤ A 14 8 then a_cycle A else A) = B at *
  split
  · exact h
  · exact k3_work.trans h
theorem k3_spans {slot : Int} : ∀ (k p : Nat) (A : zA), (a_spans slot k p A).2 3 = A 3 := by
  intro k
  induction k with
  | zero => intro p A; rfl
  | succ k ih =>
    intro p A
    rw [a_spans]
    split
    · have h : (if A 17 p = 0 then A else a_sweep A p) 3 = A 3 := by
        split
        · rfl
        · exact funext fun j => a_sweep_at (by decide) (by decide) (by omega) (by decide) (by decide)
      generalize (if A 17 p = 0 then A else a_sweep A p) = B at *
      simp only
      split
      · exact (ih _ _).trans h
      · exact h
    · exact ih _ _
theorem k3_newS {slot : Int} : (a_newS A slot).2 3 = A 3 := by
  unfold a_newS
  split
  · rfl
  · funext j
    show aset (a_fillP 1 (a_wide slot).toNat (a_run A (a_wide slot)).toNat A) 16 (a_run A (a_wide slot)).toNat slot 3 j = A 3 j
    rw [as_id (by decide), a_fillP_at (by decide)]
theorem k3_seat {slot : Int} : (a_seat A slot).2 3 = A 3 := by
  have h : (if slot < 16 then a_spans slot 16 0 A else (-1, A)).2 3 = A 3 := by
    split
    · exact k3_spans 16 0 A
    · rfl
  unfold a_seat
  generalize (if slot < 16 then a_spans slot 16 0 A else (-1, A)) = q at *
  simp only
  split
  · exact k3_newS.trans h
  · exact h
theorem k3_place {size ptrs mark : Int} : (a_place A size ptrs mark).2 3 = A 3 := by
  have h := k3_seat (A := A) (slot := a_slot size)
  unfold a_place
  generalize a_seat A (a_slot size) = q at *
  simp only
  split
  · exact h
  · refine Eq.trans ?_ h
    funext j
    show a_fillS _ _ _ _ _ _ _ = _
    unfold a_fillS
    rw [a_wds_pt, if_neg (by omega)]
    rfl
theorem k3_any {size ptrs : Int} : (a_any A size ptrs).2 3 = A 3 := by
  have h := k3_place (A := A) (size := size) (ptrs := ptrs) (mark := if A 14 5 = 0 then 0 else 1)
  unfold a_any
  generalize a_place A size ptrs (if A 14 5 = 0 then 0 else 1) = q at *
  simp only
  split
  · have h2 := (k3_place (A := (a_sweeps (a_fin q.2) 16).2) (size := size) (ptrs := ptrs) (mark := 0)).trans ((k3_sweeps (most := 16)).trans (k3_fin.trans h))
    generalize a_place (a_sweeps (a_fin q.2) 16).2 size ptrs 0 = r at *
    split
    · exact (k3_place (mark := 0)).trans ((k3_sweeps (most := 16)).trans (k3_fin.trans (k3_cycle.trans h2)))
    · exact h2
  · exact h
end K3
section K13
variable {A : zA}
theorem k13_piece : a_piece A 13 = A 13 := by
  funext j
  unfold a_piece
  split
  · rw [a_scan_at (by decide) (by decide) (by decide) (by decide) (by decide) (by decide) (by decide) (by decide), if_neg (by omega)]
  · split
    · unfold a_look
      rw [a_mkF_at (by decide) (by decide) (by omega)]
      rfl
    · rfl
theorem k13_loop {bound : Int} (k : Nat) (n : Int) : (a_loop bound k n A).2 13 = A 13 :=
  a_loop_I (I := fun B => B 13 = A 13) (fun B h _ => (k13_piece (A := B)).trans h) bound k n A rfl
theorem k13_endM : a_endM A 13 = A 13 := by
  funext j
  unfold a_endM
  rw [ar_rne (by decide), as_id (by decide), as_id (by decide), a_unsw_pt, if_neg (by omega), as_id (by decide)]
theorem k13_work {most : Int} : (a_work A most).2 13 = A 13 := by
  generalize hb : (if most < 134 then most else 134) = b
  rw [a_work_eq hb]
  have h := k13_loop (A := A) (bound := b) b.toNat 0
  generalize a_loop b b.toNat 0 A = q at *
  have h2 : aset q.2 14 7 (q.2 14 7 + q.1) 13 = A 13 := (as_rne (by decide)).trans h
  split
  · exact h2
  · exact k13_endM.trans h2
theorem k13_sweeps {most : Int} : (a_sweeps A most).2 13 = A 13 := funext fun j => a_sws_at (by decide) (by decide) (by omega) (by decide) (by decide) 16 0 0 A
theorem k13_chF {c : Nat} : ∀ (k r : Nat) (A : zA), a_chF c k r A 13 = A 13 := by
  intro k
  induction k with
  | zero => intro r A; rfl
  | succ k ih => intro r A; rw [a_chF, ih]; exact funext fun j => a_note_m
theorem k13_chs : ∀ (k c : Nat) (A : zA), a_chs k c A 13 = A 13 := by
  intro k
  induction k with
  | zero => intro c A; rfl
  | succ k ih => intro c A; rw [a_chs, ih, k13_chF]
theorem k13_cycle : a_cycle A 13 = A 13 := by
  refine Eq.trans ?_ (k13_sweeps (A := A) (most := 16))
  unfold a_cycle
  generalize (a_sweeps A 16).2 = B
  rw [k13_chs]
  funext j
  rw [a_uns_pt, if_neg (by omega)]
  rfl
theorem k13_fin : a_fin A 13 = A 13 := by
  unfold a_fin
  split
  · rfl
  · exact k13_work
theorem k13_pre {slot : Int} : a_pre A slot 13 = A 13 := by
  have h : (if A 14 5 = 0 ∧ A 14 9 ≤ A 14 8 then a_cycle A else A) 13 = A 13 := by
    split
    · exact k13_cycle
    · rfl
  unfold a_pre
  generalize (if A 14 5 = 0 ∧ A 14 9 ≤ A 14 8 then a_cycle A else A) = B at *
  split
  · exact h
  · exact k13_work.trans h
theorem k13_spans {slot : Int} : ∀ (k p : Nat) (A : zA), (a_spans slot k p A).2 13 = A 13 := by
  intro k
  induction k with
  | zero => intro p A; rfl
  | succ k ih =>
    intro p A
    rw [a_spans]
    split
    · have h : (if A 17 p = 0 then A else a_sweep A p) 13 = A 13 := by
        split
        · rfl
        · exact funext fun j => a_sweep_at (by decide) (by decide) (by omega) (by decide) (by decide)
      generalize (if A 17 p = 0 then A else a_sweep A p) = B at *
      simp only
      split
      · exact (ih _ _).trans h
      · exact h
    · exact ih _ _
theorem k13_newS {slot : Int} : (a_newS A slot).2 13 = A 13 := by
  unfold a_newS
  split
  · rfl
  · funext j
    show aset (a_fillP 1 (a_wide slot).toNat (a_run A (a_wide slot)).toNat A) 16 (a_run A (a_wide slot)).toNat slot 13 j = A 13 j
    rw [as_id (by decide), a_fillP_at (by decide)]
theorem k13_seat {slot : Int} : (a_seat A slot).2 13 = A 13 := by
  have h : (if slot < 16 then a_spans slot 16 0 A else (-1, A)).2 13 = A 13 := by
    split
    · exact k13_spans 16 0 A
    · rfl
  unfold a_seat
  generalize (if slot < 16 then a_spans slot 16 0 A else (-1, A)) = q at *
  simp only
  split
  · exact k13_newS.trans h
  · exact h
theorem k13_place {size ptrs mark : Int} : (a_place A size ptrs mark).2 13 = A 13 := by
  have h := k13_seat (A := A) (slot := a_slot size)
  unfold a_place
  generalize a_seat A (a_slot size) = q at *
  simp only
  split
  · exact h
  · refine Eq.trans ?_ h
    funext j
    show a_fillS _ _ _ _ _ _ _ = _
    unfold a_fillS
    rw [a_wds_pt, if_neg (by omega)]
    rfl
theorem k13_any {size ptrs : Int} : (a_any A size ptrs).2 13 = A 13 := by
  have h := k13_place (A := A) (size := size) (ptrs := ptrs) (mark := if A 14 5 = 0 then 0 else 1)
  unfold a_any
  generalize a_place A size ptrs (if A 14 5 = 0 then 0 else 1) = q at *
  simp only
  split
  · have h2 := (k13_place (A := (a_sweeps (a_fin q.2) 16).2) (size := size) (ptrs := ptrs) (mark := 0)).trans ((k13_sweeps (most := 16)).trans (k13_fin.trans h))
    generalize a_place (a_sweeps (a_fin q.2) 16).2 size ptrs 0 = r at *
    split
    · exact (k13_place (mark := 0)).trans ((k13_sweeps (most := 16)).trans (k13_fin.trans (k13_cycle.trans h2)))
    · exact h2
  · exact h
end K13
