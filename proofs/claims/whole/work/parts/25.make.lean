theorem a_spans_rg {slot : Int} (hs : 2 ≤ slot) : ∀ (k p : Nat) (A : zA), p + k = 16 → ((a_spans slot k p A).1 = -1 ∨ ∃ (q : Nat) (j : Int), q < 16 ∧ (a_spans slot k p A).1 = 16 * (q : Int) + slot * j ∧ 16 * (q : Int) ≤ (a_spans slot k p A).1 ∧ (a_spans slot k p A).1 < 16 * (q : Int) + 16 ∧ (a_spans slot k p A).2 16 q = slot ∧ (a_spans slot k p A).2 18 ((a_spans slot k p A).1 / 2).toNat = 0) := by
  intro k
  induction k with
  | zero => intro p A h; exact Or.inl rfl
  | succ k ih =>
    intro p A h
    rw [a_spans]
    split
    · generalize (if A 17 p = 0 then A else a_sweep A p) = B
      by_cases e : a_open B p slot = -1
      · simp only [if_pos e]
        exact ih (p + 1) B (by omega)
      · simp only [if_neg e]
        right
        have e1 : B 16 p = slot := by
          apply Decidable.byContradiction
          intro e2
          apply e
          rw [a_open, if_neg e2]
        have e3 : a_open B p slot = a_openF B p slot 8 0 := by rw [a_open, if_pos e1]
        rw [e3] at e ⊢
        rcases a_openF_rg (A := B) (p := p) hs 8 0 (by omega) with h1 | ⟨h1, h2, ⟨j, h3⟩, h4⟩
        · exact absurd h1 e
        · exact ⟨p, j, by omega, by rw [h3]; omega, by omega, h2, e1, h4⟩
    · exact ih (p + 1) A (by omega)
theorem iHp_spans {slot : Int} : ∀ (k p : Nat) (A : zA), iHp A → iHp (a_spans slot k p A).2 := by
  intro k
  induction k with
  | zero => intro p A h; exact h
  | succ k ih =>
    intro p A h
    rw [a_spans]
    split
    · have hB : iHp (if A 17 p = 0 then A else a_sweep A p) := by
        split
        · exact h
        · exact iHp_sweep h p
      generalize (if A 17 p = 0 then A else a_sweep A p) = B at hB ⊢
      by_cases e : a_open B p slot = -1
      · simp only [if_pos e]
        exact ih (p + 1) B hB
      · simp only [if_neg e]
        exact hB
    · exact ih (p + 1) A h
theorem iHp_newS {A : zA} {slot : Int} (h : iHp A) (h1 : 2 ≤ slot) (h2 : slot ≤ 64) : iHp (a_newS A slot).2 := by
  unfold a_newS
  split
  · exact h
  · exact iHp_ (iHp_fillP ⟨by omega, by omega⟩ _ _ h) (fun _ => ⟨by omega, h2⟩) (fun e => by omega) (fun e => by omega) (fun e => by omega)
theorem a_newS_rg {A : zA} {slot : Int} (h1 : 2 ≤ slot) (h2 : slot ≤ 64) : (a_newS A slot).1 = -1 ∨ (0 ≤ (a_newS A slot).1 ∧ (a_newS A slot).1 + 16 * a_wide slot ≤ 256 ∧ (a_newS A slot).1 = 16 * a_run A (a_wide slot)) := by
  have hw := a_wide_rg (k := slot) (by omega) h2
  unfold a_newS
  split
  · exact Or.inl rfl
  · rename_i e
    rcases a_run_rg (A := A) hw.1 with h3 | ⟨h3, h4, -⟩
    · exact absurd h3 e
    · exact Or.inr ⟨by show 0 ≤ 16 * a_run A (a_wide slot); omega, by show 16 * a_run A (a_wide slot) + _ ≤ _; omega, rfl⟩
theorem a_slot_le {n : Int} (h1 : 0 ≤ n) (h2 : n ≤ 64) : n ≤ a_slot n ∧ a_slot n ≤ 16 * a_wide (a_slot n) ∧ (a_slot n < 16 → a_slot n = 2 ∨ a_slot n = 4 ∨ a_slot n = 8) ∧ (16 ≤ a_slot n → a_slot n = 16 * a_wide (a_slot n)) := by
  unfold a_wide a_slot
  split
  · omega
  · split
    · omega
    · split
      · omega
      · split <;> omega
section MKE
variable {M M0 : zh_M} {A : zA}
theorem cs_newfill {P : Int32 → zh_M → Prop} {size ptrs mark : Int} (h : RC M A M0) (hA : iHp A) (s1 : 1 ≤ size) (s2 : size ≤ 64) (p1 : 0 ≤ ptrs) (p2 : ptrs ≤ size) (hP : ∀ M', RC M' (if (a_newS A (a_slot size)).1 = -1 then (a_newS A (a_slot size)).2 else a_fillS (a_newS A (a_slot size)).2 (a_newS A (a_slot size)).1.toNat size ptrs mark) M0 → P (zI (a_newS A (a_slot size)).1) M') : wp_X3_slotInNewSpan M (zI (a_slot size)) (fun r4 M3 => (r4 = (zI (-1)) → P r4 M3) ∧ (¬ r4 = (zI (-1)) → wp_X3_fillSlot M3 r4 (zI size) (zI ptrs) (zI mark) (fun M5 => P r4 M5))) := by
  have g := a_slot_rg (n := size) (by omega) s2
  have g2 := a_slot_le (n := size) (by omega) s2
  refine cs_newS g.1 g.2 h hA (fun M' hM => ?_)
  have hg := a_newS_rg (A := A) g.1 g.2
  have hg2 : -1 ≤ (a_newS A (a_slot size)).1 ∧ (a_newS A (a_slot size)).1 ≤ 256 := by
    have := a_wide_rg (k := a_slot size) (by omega) g.2
    omega
  refine zk_e (fun q => ?_) (fun q => ?_)
  · rw [if_pos q] at hP
    exact hP _ hM
  · rw [if_neg q] at hP
    obtain ⟨g3, g4, -⟩ := hg.resolve_left q
    exact cs_fillS hM g3 s1 s2 (by omega) p1 (by omega) hP
theorem cs_place {P : Int32 → zh_M → Prop} {size ptrs mark : Int} (h : RC M A M0) (hA : iHp A) (s1 : 1 ≤ size) (s2 : size ≤ 64) (p1 : 0 ≤ ptrs) (p2 : ptrs ≤ size) (hP : ∀ M', RC M' (a_place A size ptrs mark).2 M0 → P (zI (a_place A size ptrs mark).1) M') : wp_X3_place M (zI size) (zI ptrs) (zI mark) P := by
  have g := a_slot_rg (n := size) (by omega) s2
  have g2 := a_slot_le (n := size) (by omega) s2
  unfold wp_X3_place
  unfold a_place a_seat at hP
  refine cs_slot (by omega) s2 (zk_m (fun q => ?_) (fun q => ?_))
  · simp only [if_neg (show ¬ a_slot size < 16 by omega), if_true] at hP
    refine cs_newfill h hA s1 s2 p1 p2 (fun M' hM => ?_)
    by_cases e : (a_newS A (a_slot size)).1 = -1
    · simp only [if_pos e] at hP hM
      exact hP _ hM
    · simp only [if_neg e] at hP hM
      exact hP _ hM
  · simp only [if_pos q] at hP
    refine cs_spans g.1 q h hA (fun M' hM => ?_)
    have hr := a_spans_rg g.1 16 0 A (by omega)
    have hB := iHp_spans (slot := a_slot size) 16 0 A hA
    have hr2 : -1 ≤ (a_spans (a_slot size) 16 0 A).1 ∧ (a_spans (a_slot size) 16 0 A).1 ≤ 256 := by
      rcases hr with h1 | ⟨x, j, h1, h2, h3, h4, -⟩ <;> omega
    generalize a_spans (a_slot size) 16 0 A = s at *
    refine zk_n (fun e => zk_e (fun e2 => absurd e2 e) (fun _ => ?_)) (fun e => ?_)
    · rcases hr with h1 | ⟨x, j, h1, h2, h3, h4, h5, h6⟩
      · exact absurd h1 e
      · simp only [if_neg e] at hP
        refine cs_fillS hM (by omega) s1 s2 ?_ p1 (by omega) hP
        rcases g2.2.2.1 q with e9 | e9 | e9 <;> rw [e9] at h2 g2 <;> omega
    · simp only [if_pos e] at hP
      refine cs_newfill hM hB s1 s2 p1 p2 (fun M'' hM2 => ?_)
      by_cases e3 : (a_newS s.2 (a_slot size)).1 = -1
      · simp only [if_pos e3] at hP hM2
        exact hP _ hM2
      · simp only [if_neg e3] at hP hM2
        exact hP _ hM2
theorem a_place_rg {size ptrs mark : Int} (s1 : 1 ≤ size) (s2 : size ≤ 64) : -1 ≤ (a_place A size ptrs mark).1 ∧ (a_place A size ptrs mark).1 ≤ 256 := by
  have g := a_slot_rg (n := size) (by omega) s2
  have hsp : ∀ B : zA, -1 ≤ (a_newS B (a_slot size)).1 ∧ (a_newS B (a_slot size)).1 ≤ 256 := by
    intro B
    have := a_wide_rg (k := a_slot size) (by omega) g.2
    have := a_newS_rg (A := B) g.1 g.2
    omega
  have hss : -1 ≤ (a_spans (a_slot size) 16 0 A).1 ∧ (a_spans (a_slot size) 16 0 A).1 ≤ 256 := by
    rcases a_spans_rg g.1 16 0 A (by omega) with h1 | ⟨x, j, h1, h2, h3, h4, -⟩ <;> omega
  have hst : -1 ≤ (a_seat A (a_slot size)).1 ∧ (a_seat A (a_slot size)).1 ≤ 256 := by
    unfold a_seat
    simp only
    split
    · split
      · exact hsp _
      · exact hss
    · simp only [if_true]
      exact hsp _
  unfold a_place
  simp only
  split
  · exact hst
  · exact hst
theorem cs_cycle2 {P : zh_M → Prop} (h : RC M A M0) (hA : iHp A) (hch : iCh A) (hP : ∀ M', RC M' (a_cycle A) M0 → P M') : wp_X1_beginCycle M P := cs_cycle h hA hch hP
theorem cs_pre {I : zA → Prop} {P : zh_M → Prop} (hI : ∀ A, I A → iPc A) (hs : ∀ A, I A → a_left A → I (a_piece A)) {slot : Int} (hm : zb slot) (h : RC M A M0) (hA : iHp A) (hch : iCh A) (hC : iCo A) (hf : zb (A 14 8) ∧ zb (A 14 9)) (h0 : A 14 5 ≠ 0 → I A) (h1 : I (a_cycle A)) (h2 : a_cycle A 14 5 = 1) (hP : ∀ M', RC M' (a_pre A slot) M0 → P M') : wp_X1_workBeforePlacing M (zI slot) P := by
  obtain ⟨⟨f1, f2⟩, f3, f4⟩ := hf
  have c1 := hC.1
  unfold wp_X1_workBeforePlacing
  unfold a_pre at hP
  rw [h.mk, h.fh, h.tg]
  refine zk_n (fun q => zk_e (fun q1 => absurd q1 q) (fun _ => ?_)) (fun q => zk_l (fun q1 => zk_e (fun _ => ?_) (fun q2 => absurd q q2)) (fun q1 => cs_cycle h hA hch (fun M' hM => ?_)))
  · simp only [if_neg (show ¬ (A 14 5 = 0 ∧ A 14 9 ≤ A 14 8) from fun w => q w.1), if_neg q] at hP
    exact cs_work hI hs hm h (h0 q) hP
  · simp only [if_neg (show ¬ (A 14 5 = 0 ∧ A 14 9 ≤ A 14 8) from fun w => by have := w.2; omega), if_pos q] at hP
    exact hP _ h
  · have q3 : ¬ a_cycle A 14 5 = 0 := by rw [h2]; decide
    simp only [if_pos (show A 14 5 = 0 ∧ A 14 9 ≤ A 14 8 from ⟨q, q1⟩), if_neg q3] at hP
    rw [hM.mk, h2]
    exact zk_e (fun q2 => by omega) (fun _ => cs_work hI hs hm hM h1 hP)
theorem cs_fin {I : zA → Prop} {P : zh_M → Prop} (hI : ∀ A, I A → iPc A) (hs : ∀ A, I A → a_left A → I (a_piece A)) (h : RC M A M0) (hC : iCo A) (h0 : A 14 5 ≠ 0 → I A) (hP : ∀ M', RC M' (a_fin A) M0 → P M') : wp_X1_finishMarking M P := by
  have c1 := hC.1
  unfold wp_X1_finishMarking
  unfold a_fin at hP
  rw [h.mk]
  refine zk_e (fun q => ?_) (fun q => ?_)
  · rw [if_pos q] at hP
    exact hP _ h
  · rw [if_neg q] at hP
    exact cs_work hI hs ⟨by omega, by omega⟩ h (h0 q) hP
end MKE
