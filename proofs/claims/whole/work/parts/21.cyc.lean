theorem a_loop_I {I : zA → Prop} (hs : ∀ A, I A → a_left A → I (a_piece A)) (bound : Int) : ∀ (k : Nat) (n : Int) (A : zA), I A → I (a_loop bound k n A).2 := by
  intro k
  induction k with
  | zero => intro n A h; exact h
  | succ k ih =>
    intro n A h
    rw [a_loop]
    split
    · rename_i w; exact ih (n + 1) _ (hs A h w.2)
    · exact h
theorem a_loop_rg (bound : Int) : ∀ (k : Nat) (n : Int) (A : zA), n ≤ (a_loop bound k n A).1 ∧ (a_loop bound k n A).1 ≤ n + k := by
  intro k
  induction k with
  | zero => intro n A; simp [a_loop]
  | succ k ih =>
    intro n A
    rw [a_loop]
    split
    · have := ih (n + 1) (a_piece A)
      omega
    · exact ⟨by omega, by omega⟩
theorem a_next_as {A : zA} {a k : Nat} {v : Int} (h1 : a ≠ 2) (h2 : a ≠ 6) : a_next (aset A a k v) = a_next A := by
  have : ∀ (n i : Nat), a_nextF (aset A a k v) n i = a_nextF A n i := by
    intro n
    induction n with
    | zero => intro i; rfl
    | succ n ih => intro i; rw [a_nextF, a_nextF, ih, as_id (Ne.symm h1), as_id (Ne.symm h2)]
  exact this 6 0
section CYC
variable {M M0 : zh_M} {A : zA}
theorem cs_work {I : zA → Prop} {P : Int32 → zh_M → Prop} (hI : ∀ A, I A → iPc A) (hs : ∀ A, I A → a_left A → I (a_piece A)) {most : Int} (hm : zb most) (h : RC M A M0) (hA : I A) (hP : ∀ M', RC M' (a_work A most).2 M0 → P (zI (a_work A most).1) M') : wp_X1_work M (zI most) P := by
  obtain ⟨m1, m2⟩ := hm
  unfold wp_X1_work
  have e : (if zI 134 < zI most then zI 134 else zI most) = zI (if most < 134 then most else 134) := by
    split
    · rename_i h9
      rw [zI_lt (by omega) (by omega) (by omega) (by omega)] at h9
      rw [if_neg (by omega)]
    · rename_i h9
      rw [zI_lt (by omega) (by omega) (by omega) (by omega)] at h9
      split
      · rfl
      · congr 1; omega
  rw [e]
  unfold a_work at hP
  simp only at hP
  have hb1 : (if most < 134 then most else 134) ≤ 134 ∧ -2147483648 ≤ (if most < 134 then most else 134) := by split <;> omega
  generalize (if most < 134 then most else 134) = b at hP hb1 ⊢
  refine ⟨b.toNat + 1, cs_work_loop hI hs ⟨by omega, by omega⟩ (by omega) b.toNat 0 M A h hA (by omega) (by omega) (fun _ => by omega) (by omega) (fun M' hM M8 e8 => ?_)⟩
  have hA2 := a_loop_I hs b b.toNat 0 A hA
  have hq := a_loop_rg b b.toNat 0 A
  obtain ⟨i1, i2, i3, i4, i5, i6⟩ := hI _ hA2
  rw [hM.pi, zI_add] at e8
  subst e8
  generalize a_loop b b.toNat 0 A = q at *
  have h8 := hM.pi_ (v := q.2 14 7 + q.1)
  have j1 : iHp (aset q.2 14 7 (q.2 14 7 + q.1)) := iHp_ i1 (fun e => by omega) (fun e => by omega) (fun e => by omega) (fun e => by omega)
  have j2 : iCo (aset q.2 14 7 (q.2 14 7 + q.1)) := by
    unfold iCo
    rw [as_ix (by decide), as_ix (by decide)]
    exact i2
  have j3 : iSt (aset q.2 14 7 (q.2 14 7 + q.1)) := fun i hi => by rw [as_id (by decide)]; exact i3 i hi
  have j4 : ∀ i, i < 6 → aset q.2 14 7 (q.2 14 7 + q.1) 6 i = 0 ∨ aset q.2 14 7 (q.2 14 7 + q.1) 6 i = 1 := fun i hi => by rw [as_id (by decide)]; exact i4 i hi
  refine cs_left h8 j3 j4 j2 (fun w => zk_n (fun _ => ?_) (fun q2 => by omega)) (fun w => zk_n (fun q2 => absurd rfl q2) (fun _ => ?_))
  · rw [if_pos w] at hP
    exact hP _ h8
  · rw [if_neg w] at hP
    exact cs_endM h8 j1 hP
theorem RC.maz {M M0 : zh_M} {A : zA} (h : RC M A M0) : RC (zh_row M 8 (fun j => if j < 128 then zI 0 else M 8 j)) (arow A 20 (fun j => if j < 128 then 0 else A 20 j)) M0 := by
  refine ⟨fun b j hb => ?_, fun x hx => ?_⟩
  · by_cases e : b = 20
    · subst e
      have hj : j < 128 := by unfold zc_in at hb; omega
      show zh_row M 8 _ 8 j = zI (arow A 20 _ 20 j)
      simp [zh_row, arow, hj]
    · have e2 : zc_a b j ≠ 8 := by
        unfold zc_in at hb
        unfold zc_a
        repeat' split
        all_goals omega
      simp only [zh_row, arow, if_neg e, if_neg e2]
      exact h.1 b j hb
  · rw [zh_row_ne (by omega)]
    exact h.2 x hx
theorem cs_uns_loop {K P : zh_M → Prop} : ∀ (k i : Nat) (M : zh_M) (A : zA), RC M A M0 → i + k = 6 → (∀ M', RC M' (a_uns k i A) M0 → K M') → wl_X1_beginCycle_43 K P (k + 1) (zI (i : Int)) M := by
  intro k
  induction k with
  | zero =>
    intro i M A h hi hK
    unfold wl_X1_beginCycle_43
    exact zk_m (fun _ => hK _ h) (fun q => by omega)
  | succ k ih =>
    intro i M A h hi hK
    have hi2 : i < 6 := by omega
    unfold wl_X1_beginCycle_43
    rw [zi_Fiber_zI hi2, zI_add]
    refine zk_m (fun q => by omega) (fun _ => ⟨zk_i, fun M8 e8 => ?_⟩)
    subst e8
    exact ih (i + 1) _ _ (h.sc_ hi2) (by omega) hK
theorem zl_Ch {c : Nat} : zl_Channel (29 + 2 * c) = c := by
  unfold zl_Channel
  omega
abbrev iCh (A : zA) : Prop := ∀ c, c < 4 → 0 ≤ A 22 c ∧ A 22 c ≤ (c : Int) ∧ ∀ r : Nat, (r : Int) < A 22 c → zb (A 21 (4 * c + r))
theorem cs_chF_loop {K P : zh_M → Prop} {c : Nat} (hc : c < 4) {n : Int} : ∀ (k r : Nat) (M : zh_M) (A : zA), RC M A M0 → iHp A → iCo A → iCh A → A 22 c = n → (r : Int) + k = n → (∀ M', RC M' (a_chF c k r A) M0 → K M') → wl_X1_beginCycle_74 (zI (c : Int)) K P (k + 1) (zI (r : Int)) M := by
  intro k
  induction k with
  | zero =>
    intro r M A h hA hC hch hn hr hK
    have hcc := hch c hc
    unfold wl_X1_beginCycle_74
    rw [zi_Channel_zI hc, h.le hc]
    exact ⟨zk_i, zk_m (fun _ => hK _ h) (fun q => by omega)⟩
  | succ k ih =>
    intro r M A h hA hC hch hn hr hK
    have hcc := hch c hc
    unfold wl_X1_beginCycle_74
    rw [zi_Channel_zI hc, h.le hc, zl_Ch, zI_cl (by omega) (by omega), show ((r : Int)).toNat = r by omega, h.qu hc (by omega), zI_add]
    refine ⟨zk_i, zk_m (fun q => by omega) (fun _ => ⟨zk_i, zk_i, cs_note h hA hC (hcc.2.2 r (by omega)) (fun M' hM => ?_)⟩)⟩
    exact ih (r + 1) _ _ hM (iHp_note hA) (iCo_note hC) (fun d hd => by
      have := hch d hd
      rw [a_note_at (by decide) (by decide) (by omega) (by decide)]
      exact ⟨this.1, this.2.1, fun s hs => by rw [a_note_at (by decide) (by decide) (by omega) (by decide)]; exact this.2.2 s hs⟩) (by rw [a_note_at (by decide) (by decide) (by omega) (by decide)]; exact hn) (by omega) hK
theorem chF_keep {c : Nat} : ∀ (k r : Nat) (A : zA), iHp A → iCo A → iCh A → iHp (a_chF c k r A) ∧ iCo (a_chF c k r A) ∧ iCh (a_chF c k r A) := by
  intro k
  induction k with
  | zero => intro r A h1 h2 h3; exact ⟨h1, h2, h3⟩
  | succ k ih =>
    intro r A h1 h2 h3
    rw [a_chF]
    exact ih (r + 1) _ (iHp_note h1) (iCo_note h2) (fun d hd => by
      have := h3 d hd
      rw [a_note_at (by decide) (by decide) (by omega) (by decide)]
      exact ⟨this.1, this.2.1, fun s hs => by rw [a_note_at (by decide) (by decide) (by omega) (by decide)]; exact this.2.2 s hs⟩)
theorem cs_chs_loop {P : zh_M → Prop} : ∀ (k c : Nat) (M : zh_M) (A : zA), RC M A M0 → iHp A → iCo A → iCh A → c + k = 4 → (∀ M', RC M' (a_chs k c A) M0 → P M') → wl_X1_beginCycle_67 P (k + 1) (zI (c : Int)) M := by
  intro k
  induction k with
  | zero =>
    intro c M A h hA hC hch hc hP
    unfold wl_X1_beginCycle_67
    exact zk_m (fun _ => hP _ h) (fun q => by omega)
  | succ k ih =>
    intro c M A h hA hC hch hc hP
    have hc2 : c < 4 := by omega
    have hcc := hch c hc2
    unfold wl_X1_beginCycle_67
    refine zk_m (fun q => by omega) (fun _ => ⟨(A 22 c).toNat + 1, cs_chF_loop hc2 (A 22 c).toNat 0 M A h hA hC hch rfl (by omega) (fun M' hM => ?_)⟩)
    obtain ⟨g1, g2, g3⟩ := chF_keep (c := c) (A 22 c).toNat 0 A hA hC hch
    rw [zI_add]
    exact ih (c + 1) _ _ hM g1 g2 g3 (by omega) hP
theorem a_swF_at {a k : Nat} (h1 : a ≠ 18) (h2 : a ≠ 19) (h3 : ¬ (a = 14 ∧ k = 1)) : ∀ (n u : Nat) (A : zA), a_swF n u A a k = A a k := by
  intro n
  induction n with
  | zero => intro u A; rfl
  | succ n ih =>
    intro u A
    rw [a_swF, ih]
    unfold a_swU
    split
    · unfold aset
      rw [if_neg h3, if_neg (fun e => h2 e.1), if_neg (fun e => h1 e.1)]
    · rfl
theorem a_fillP_at {v : Int} {a k : Nat} (h1 : a ≠ 16) : ∀ (n p : Nat) (A : zA), a_fillP v n p A a k = A a k := by
  intro n
  induction n with
  | zero => intro p A; rfl
  | succ n ih =>
    intro p A
    rw [a_fillP]
    split
    · rw [ih, as_id h1]
    · rfl
theorem a_sweep_at {a k p : Nat} (h1 : a ≠ 18) (h2 : a ≠ 19) (h3 : ¬ (a = 14 ∧ k = 1)) (h4 : a ≠ 16) (h5 : a ≠ 17) : a_sweep A p a k = A a k := by
  unfold a_sweep
  split
  · rw [a_fillP_at h4, a_swF_at h1 h2 h3, as_id h5]
  · rw [a_swF_at h1 h2 h3, as_id h5]
theorem a_sws_at {most : Int} {a k : Nat} (h1 : a ≠ 18) (h2 : a ≠ 19) (h3 : ¬ (a = 14 ∧ k = 1)) (h4 : a ≠ 16) (h5 : a ≠ 17) : ∀ (m p : Nat) (n : Int) (A : zA), (a_sws most m p n A).2 a k = A a k := by
  intro m
  induction m with
  | zero => intro p n A; rfl
  | succ m ih =>
    intro p n A
    rw [a_sws]
    split
    · split
      · exact ih _ _ _
      · rw [ih, a_sweep_at h1 h2 h3 h4 h5]
    · rfl
theorem iHp_sws {most : Int} : ∀ (m p : Nat) (n : Int) (A : zA), iHp A → iHp (a_sws most m p n A).2 := by
  intro m
  induction m with
  | zero => intro p n A h; exact h
  | succ m ih =>
    intro p n A h
    rw [a_sws]
    split
    · split
      · exact ih _ _ _ h
      · exact ih _ _ _ (iHp_sweep h p)
    · exact h
theorem a_uns_at {a c : Nat} (h1 : a ≠ 6) : ∀ (k i : Nat) (A : zA), a_uns k i A a c = A a c := by
  intro k
  induction k with
  | zero => intro i A; rfl
  | succ k ih => intro i A; rw [a_uns, ih, as_id h1]
theorem cs_cycle {P : zh_M → Prop} (h : RC M A M0) (hA : iHp A) (hch : iCh A) (hP : ∀ M', RC M' (a_cycle A) M0 → P M') : wp_X1_beginCycle M P := by
  unfold wp_X1_beginCycle
  refine cs_sweeps ⟨by omega, by omega⟩ h hA (fun M1 h1 M3 e3 M4 e4 M5 e5 M6 e6 => ?_)
  rw [h1.cy, zI_add] at e3
  subst e3; subst e4; subst e5; subst e6
  have hB := iHp_sws (most := 16) 16 0 0 A hA
  unfold a_cycle at hP
  simp only at hP
  have e22 : ∀ k, (a_sweeps A 16).2 22 k = A 22 k := fun k => a_sws_at (by decide) (by decide) (by omega) (by decide) (by decide) 16 0 0 A
  have e21 : ∀ k, (a_sweeps A 16).2 21 k = A 21 k := fun k => a_sws_at (by decide) (by decide) (by omega) (by decide) (by decide) 16 0 0 A
  change iHp (a_sweeps A 16).2 at hB
  generalize (a_sweeps A 16).2 = B at *
  have h5 := ((((h1.cy_ (v := B 14 6 + 1)).mk_ (v := 1)).pn_ (v := 0)).maz.ghostR (a := 24) (f := fun _ => 0) (by decide)).ghostR (a := 33) (f := fun _ => 0) (by decide)
  have h6 := h5.ghost (a := 31) (k := 0) (v := 0) (by decide)
  refine ⟨7, cs_uns_loop 6 0 _ _ h6 (by omega) (fun M9 h9 => ⟨5, ?_⟩)⟩
  refine cs_chs_loop 4 0 _ _ h9 ?_ ?_ ?_ (by omega) hP
  · refine ⟨fun p hp => ?_, fun p hp => ?_, fun u hu => ?_⟩
    · rw [a_uns_at (by decide)]
      have := hB.1 p hp
      simpa [aset, arow] using this
    · rw [a_uns_at (by decide)]
      have := hB.2.1 p hp
      simpa [aset, arow] using this
    · rw [a_uns_at (by decide), a_uns_at (by decide), a_uns_at (by decide)]
      obtain ⟨x1, x2, x3, x4, x5, x6⟩ := hB.2.2 u hu
      refine ⟨?_, ?_, ?_, ?_, ?_, ?_⟩ <;> simp [aset, arow, hu] <;> assumption
  · unfold iCo
    rw [a_uns_at (by decide), a_uns_at (by decide)]
    simp [aset, arow]
  · intro c hc
    have := hch c hc
    rw [a_uns_at (by decide)]
    refine ⟨?_, ?_, fun r hr => ?_⟩
    · simp [aset, arow, e22]; exact this.1
    · simp [aset, arow, e22]; exact this.2.1
    · rw [a_uns_at (by decide)]
      simp [aset, arow, e22] at hr
      simp [aset, arow, e21]
      exact this.2.2 r hr
end CYC
