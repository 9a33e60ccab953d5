abbrev iPc (A : zA) : Prop := iHp A ∧ iCo A ∧ iSt A ∧ (∀ i, i < 6 → A 6 i = 0 ∨ A 6 i = 1) ∧ (∀ i, i < 6 → A 2 i ≠ 0 → iFr A i ∧ (2 ≤ A 4 i ∧ A 4 i ≤ 16) ∧ ∀ j : Nat, (j : Int) < A 3 i * 4 → zb (A 12 (64 * i + j))) ∧ (0 < A 14 4 → 0 ≤ A 23 (A 14 4 - 1).toNat ∧ A 23 (A 14 4 - 1).toNat < 256 ∧ A 23 (A 14 4 - 1).toNat + A 19 ((A 23 (A 14 4 - 1).toNat).toNat / 2) ≤ 256 ∧ ∀ j : Nat, (j : Int) < A 19 ((A 23 (A 14 4 - 1).toNat).toNat / 2) → zb (A 15 ((A 23 (A 14 4 - 1).toNat).toNat + j)))
section WRK
variable {M M0 : zh_M} {A : zA}
theorem cs_piece {P : zh_M → Prop} (h : RC M A M0) (hI : iPc A) (hP : ∀ M', RC M' (a_piece A) M0 → P M') : wp_X1_doPiece M P := by
  obtain ⟨hA, hC, hs, hc, hf, hp⟩ := hI
  have c2 := hC.2.1
  have c3 := hC.2.2
  unfold wp_X1_doPiece
  refine cs_next h hs hc (fun w => zk_o (fun _ => ?_) (fun o e => by cases e)) (fun w => zk_o (fun e => by cases e) (fun o e => ?_))
  · rw [h.pn, zI_sub]
    refine zk_m (fun q => ?_) (fun q M4 e4 => ?_)
    · rw [a_piece, if_neg (fun w2 => w2 w), if_neg (by omega)] at hP
      exact hP _ h
    · subst e4
      have h4 := (h.ghost (a := 31) (k := 0) (v := A 31 0 + 1) (by decide)).pn_ (v := A 14 4 - 1)
      rw [h4.pn, as_same, zI_cl (by omega) (by omega), h4.pe (by omega), as_id (by decide), as_id (by decide)]
      rw [a_piece, if_neg (fun w2 => w2 w), if_pos q] at hP
      obtain ⟨p1, p2, p3, p4⟩ := hp q
      have e1 : ∀ k, aset (aset A 31 0 (A 31 0 + 1)) 14 4 (A 14 4 - 1) 19 k = A 19 k := fun k => by rw [as_id (by decide), as_id (by decide)]
      have e2 : ∀ k, aset (aset A 31 0 (A 31 0 + 1)) 14 4 (A 14 4 - 1) 15 k = A 15 k := fun k => by rw [as_id (by decide), as_id (by decide)]
      refine ⟨zk_i, cs_look h4 ?_ ?_ p1 p2 (by rw [e1]; exact p3) (fun j hj => by rw [e1] at hj; rw [e2]; exact p4 j hj) hP⟩
      · refine iHp_ (iHp_ hA ?_ ?_ ?_ ?_) ?_ ?_ ?_ ?_ <;> intro e <;> omega
      · unfold iCo
        rw [as_same, as_ix (by decide), as_id (by decide)]
        exact ⟨hC.1, by omega, by omega⟩
  · cases e
    have hg := (a_next_rg A).resolve_left w
    have hi : (a_next A).toNat < 6 := by omega
    obtain ⟨f1, f2, f3⟩ := hf _ hi hg.2.2.1
    rw [a_piece, if_pos w] at hP
    exact ⟨zf_Fiber_of hi, cs_scan h hi hA hC f1 f2 f3 hP⟩
theorem cs_unsw_loop {P : zh_M → Prop} : ∀ (k p : Nat) (M : zh_M) (A : zA), RC M A M0 → iHp A → p + k = 16 → (∀ M', RC M' (a_unsw k p A) M0 → P M') → wl_X3_leaveAllUnswept_2 P (k + 1) (zI (p : Int)) M := by
  intro k
  induction k with
  | zero =>
    intro p M A h hA hp hP
    unfold wl_X3_leaveAllUnswept_2
    exact zk_m (fun _ => hP _ h) (fun q => by omega)
  | succ k ih =>
    intro p M A h hA hp hP
    have hp2 : p < 16 := by omega
    have hk := hA.1 p hp2
    unfold wl_X3_leaveAllUnswept_2
    rw [zI_cl (by omega) (by omega), show ((p : Int)).toNat = p by omega, h.kd hp2, zI_add]
    refine zk_m (fun q => by omega) (fun _ => ⟨zk_i, zk_l (fun q => ⟨zk_i, fun M1 e1 => ?_⟩) (fun q => ⟨zk_i, fun M1 e1 => ?_⟩)⟩)
    · subst e1
      rw [a_unsw, if_neg (by omega)] at hP
      exact ih (p + 1) _ _ (h.un_ hp2) (iHp_ hA (fun e => by omega) (fun _ => Or.inl rfl) (fun e => by omega) (fun e => by omega)) (by omega) hP
    · subst e1
      rw [a_unsw, if_pos (by omega)] at hP
      exact ih (p + 1) _ _ (h.un_ hp2) (iHp_ hA (fun e => by omega) (fun _ => Or.inr rfl) (fun e => by omega) (fun e => by omega)) (by omega) hP
theorem iHp_unsw : ∀ (k p : Nat) {A : zA}, iHp A → iHp (a_unsw k p A) := by
  intro k
  induction k with
  | zero => intro p A h; exact h
  | succ k ih =>
    intro p A h
    rw [a_unsw]
    exact ih (p + 1) (iHp_ h (fun e => by omega) (fun _ => by split <;> omega) (fun e => by omega) (fun e => by omega))
theorem cs_keptW_loop {P : Int32 → zh_M → Prop} (h : RC M A M0) (hA : iHp A) : ∀ (k u : Nat) (n : Int), u + k = 128 → P (zI (n + zsum (fun u => if A 18 u ≠ 0 ∧ A 20 u ≠ 0 then a_slot (A 18 u) else 0) k u)) M → wl_X3_keptWords_4 P (k + 1) (zI n) (zI (u : Int)) M := by
  intro k
  induction k with
  | zero =>
    intro u n hu hP
    unfold wl_X3_keptWords_4
    refine zk_m (fun _ => ?_) (fun q => by omega)
    simpa [zsum] using hP
  | succ k ih =>
    intro u n hu hP
    have hu2 : u < 128 := by omega
    obtain ⟨x1, x2, x3, x4, x5, x6⟩ := hA.2.2 u hu2
    unfold wl_X3_keptWords_4
    rw [zI_cl (by omega) (by omega), show ((u : Int)).toNat = u by omega, h.sz hu2, h.ma hu2, zI_add]
    rw [zsum] at hP
    refine zk_m (fun q => by omega) (fun _ => ⟨zk_i, zk_e (fun q => ?_) (fun q => ⟨zk_i, zk_e (fun q1 => ?_) (fun q1 => ⟨zk_i, cs_slot x1 x2 ?_⟩)⟩)⟩)
    · rw [if_neg (fun w => w.1 q), Int.zero_add] at hP
      exact ih (u + 1) n (by omega) hP
    · rw [if_neg (fun w => w.2 q1), Int.zero_add] at hP
      exact ih (u + 1) n (by omega) hP
    · rw [if_pos ⟨q, q1⟩, ← Int.add_assoc] at hP
      rw [zI_add]
      exact ih (u + 1) (n + a_slot (A 18 u)) (by omega) hP
theorem cs_keptW {P : Int32 → zh_M → Prop} (h : RC M A M0) (hA : iHp A) (hP : P (zI (a_keptW A)) M) : wp_X3_keptWords M P := by
  refine ⟨129, cs_keptW_loop h hA 128 0 0 (by omega) ?_⟩
  rw [Int.zero_add]
  exact hP
theorem a_keptW_rg (hA : iHp A) : 0 ≤ a_keptW A ∧ a_keptW A ≤ 8192 := by
  have := zsum_rg (f := fun u => if A 18 u ≠ 0 ∧ A 20 u ≠ 0 then a_slot (A 18 u) else 0) (b := 64) 128 0 (fun j _ hj => by
    obtain ⟨x1, x2, x3, x4, x5, x6⟩ := hA.2.2 j (by omega)
    have := a_slot_rg x1 x2
    split <;> omega)
  have e : a_keptW A = zsum (fun u => if A 18 u ≠ 0 ∧ A 20 u ≠ 0 then a_slot (A 18 u) else 0) 128 0 := rfl
  rw [e]
  omega
theorem RC.ghostR {M M0 : zh_M} {A : zA} (h : RC M A M0) {a : Nat} {f : Nat → Int} (ha : 24 ≤ a) : RC M (arow A a f) M0 := by
  refine ⟨fun b j hb => ?_, h.2⟩
  have : ¬ b = a := by unfold zc_in at hb; omega
  simp only [arow, if_neg this]
  exact h.1 b j hb
theorem cs_endM {P : zh_M → Prop} (h : RC M A M0) (hA : iHp A) (hP : ∀ M', RC M' (a_endM A) M0 → P M') : wp_X1_endMarking M P := by
  unfold wp_X1_endMarking
  intro M1 e1
  subst e1
  have hA1 : iHp (aset A 14 5 0) := iHp_ hA (fun e => by omega) (fun e => by omega) (fun e => by omega) (fun e => by omega)
  refine ⟨17, cs_unsw_loop 16 0 _ _ (h.mk_ (v := 0)) hA1 (by omega) (fun M2 h2 M3 e3 => ?_)⟩
  subst e3
  have h3 := h2.fh_ (v := 0)
  have hA3 : iHp (aset (a_unsw 16 0 (aset A 14 5 0)) 14 8 0) := iHp_ (iHp_unsw 16 0 hA1) (fun e => by omega) (fun e => by omega) (fun e => by omega) (fun e => by omega)
  have hg := a_keptW_rg hA3
  refine cs_keptW h3 hA3 (fun M6 e6 => ?_)
  rw [zI_div (by omega) (by omega) (by omega) (by omega)] at e6
  have e : (if zI 64 < zI (a_keptW (aset (a_unsw 16 0 (aset A 14 5 0)) 14 8 0) / 2) then zI (a_keptW (aset (a_unsw 16 0 (aset A 14 5 0)) 14 8 0) / 2) else zI 64) = zI (if a_keptW (aset (a_unsw 16 0 (aset A 14 5 0)) 14 8 0) / 2 < 64 then 64 else a_keptW (aset (a_unsw 16 0 (aset A 14 5 0)) 14 8 0) / 2) := by
    split
    · rename_i h9
      rw [zI_lt (by omega) (by omega) (by omega) (by omega)] at h9
      rw [if_neg (by omega)]
    · rename_i h9
      rw [zI_lt (by omega) (by omega) (by omega) (by omega)] at h9
      split
      · rfl
      · congr 1; omega
  rw [e] at e6
  subst e6
  exact hP _ (h3.tg_.ghostR (by decide))
theorem cs_work_loop {I : zA → Prop} {P K : Int32 → zh_M → Prop} (hI : ∀ A, I A → iPc A) (hs : ∀ A, I A → a_left A → I (a_piece A)) {bound : Int} (b1 : zb bound) (b2 : bound ≤ 134) : ∀ (k : Nat) (n : Int) (M : zh_M) (A : zA), RC M A M0 → I A → 0 ≤ n → bound ≤ n + k → (0 < k → n + k ≤ 134) → n ≤ 134 → (∀ M', RC M' (a_loop bound k n A).2 M0 → K (zI (a_loop bound k n A).1) M') → wl_X1_work_10 (zI bound) K P (k + 1) (zI n) M := by
  obtain ⟨b3, b4⟩ := b1
  intro k
  induction k with
  | zero =>
    intro n M A h hA n1 n2 n3 n4 hK
    unfold wl_X1_work_10
    exact zk_m (fun _ => hK _ h) (fun q => by omega)
  | succ k ih =>
    intro n M A h hA n1 n2 n3 n4 hK
    obtain ⟨i1, i2, i3, i4, i5, i6⟩ := hI A hA
    unfold wl_X1_work_10
    rw [zI_add]
    refine zk_m (fun q => ?_) (fun q => cs_left h i3 i4 i2 (fun w => zk_e (fun q2 => by omega) (fun _ => cs_piece h (hI A hA) (fun M' hM => ?_))) (fun w => zk_e (fun _ => ?_) (fun q2 => absurd rfl q2)))
    · rw [a_loop, if_neg (fun w => by have := w.1; omega)] at hK
      exact hK _ h
    · rw [a_loop, if_pos ⟨q, w⟩] at hK
      exact ih (n + 1) _ _ hM (hs A hA w) (by omega) (by omega) (fun _ => by have := n3 (by omega); omega) (by have := n3 (by omega); omega) hK
    · rw [a_loop, if_neg (fun w2 => w w2.2)] at hK
      exact hK _ h
end WRK
