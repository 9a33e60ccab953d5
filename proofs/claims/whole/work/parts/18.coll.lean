abbrev iCo (A : zA) : Prop := (A 14 5 = 0 ∨ A 14 5 = 1) ∧ 0 ≤ A 14 4 ∧ A 14 4 ≤ 128
theorem a_mk_at {A : zA} {p : Int} {a k : Nat} (h1 : a ≠ 20) (h2 : a ≠ 23) (h3 : ¬ (a = 14 ∧ k = 4)) : a_mk A p a k = A a k := by
  unfold a_mk
  split
  · rfl
  · unfold aset
    rw [if_neg h3, if_neg (fun e => h2 e.1), if_neg (fun e => h1 e.1)]
theorem a_note_at {A : zA} {p : Int} {a k : Nat} (h1 : a ≠ 20) (h2 : a ≠ 23) (h3 : ¬ (a = 14 ∧ k = 4)) (h4 : a ≠ 24) : a_note A p a k = A a k := by
  unfold a_note
  split
  · rfl
  · rw [as_id h4, a_mk_at h1 h2 h3]
theorem iCo_mk {A : zA} {p : Int} (h : iCo A) : iCo (a_mk A p) := by
  obtain ⟨h1, h2, h3⟩ := h
  refine ⟨by rw [a_mk_at (by decide) (by decide) (by decide)]; exact h1, ?_⟩
  unfold a_mk
  split
  · exact ⟨h2, h3⟩
  · rw [as_same]
    omega
theorem iHp_mk {A : zA} {p : Int} (h : iHp A) : iHp (a_mk A p) := by
  unfold a_mk
  split
  · exact h
  · refine iHp_ (iHp_ (iHp_ h ?_ ?_ ?_ ?_) ?_ ?_ ?_ ?_) ?_ ?_ ?_ ?_ <;> intro e <;> omega
theorem iCo_note {A : zA} {p : Int} (h : iCo A) : iCo (a_note A p) := by
  unfold a_note
  split
  · exact h
  · have := iCo_mk (p := p) h
    unfold iCo
    rw [as_id (by decide), as_id (by decide)]
    exact this
theorem iHp_note {A : zA} {p : Int} (h : iHp A) : iHp (a_note A p) := by
  unfold a_note
  split
  · exact h
  · refine iHp_ (iHp_mk h) ?_ ?_ ?_ ?_ <;> intro e <;> omega
section COL
variable {M M0 : zh_M} {A : zA}
theorem rc_note {p : Int} (h : RC M (a_mk A p) M0) : RC M (a_note A p) M0 := by
  unfold a_note
  split
  · rename_i h1
    have e : a_mk A p = A := by
      unfold a_mk
      rw [if_pos]
      rcases h1 with h1 | h1 | h1
      · exact Or.inl h1
      · exact Or.inr (Or.inl h1)
      · exact Or.inr (Or.inr (Or.inl h1))
    rwa [e] at h
  · exact h.ghost (by decide)
theorem cs_mk {P : zh_M → Prop} {p : Int} (h : RC M A M0) (hA : iHp A) (hC : iCo A) (hp : zb p) (hP : ∀ M', RC M' (a_mk A p) M0 → P M') : wp_X1_note M (zI p) P := by
  obtain ⟨c1, c2, c3⟩ := hC
  obtain ⟨p1, p2⟩ := hp
  unfold wp_X1_note
  rw [h.mk, h.pn]
  refine zk_e (fun q => ?_) (fun q => zk_l (fun q1 => ?_) (fun q1 => zk_l (fun q2 => ?_) (fun q2 => ?_)))
  · rw [a_mk, if_pos (Or.inl q)] at hP
    exact hP _ h
  · rw [a_mk, if_pos (Or.inr (Or.inl q1))] at hP
    exact hP _ h
  · have hu : (p / 2).toNat < 128 := by omega
    obtain ⟨x1, x2, x3, x4, x5, x6⟩ := hA.2.2 _ hu
    rw [zI_div (by omega) (by omega) (by omega) (by omega), zI_cl (by omega) (by omega), h.ma hu]
    refine ⟨zk_i, zk_n (fun q3 => ?_) (fun q3 => zk_m (fun q4 => ?_) (fun q4 => ⟨zk_i, fun M1 e1 => ?_⟩))⟩
    · rw [a_mk, if_pos (Or.inr (Or.inr (Or.inr (Or.inl q3))))] at hP
      exact hP _ h
    · rw [a_mk, if_pos (Or.inr (Or.inr (Or.inr (Or.inr q4))))] at hP
      exact hP _ h
    · subst e1
      have h1 := h.ma_ (v := 2) hu
      rw [h1.pn, as_id (by decide), zI_cl (by omega) (by omega)]
      refine ⟨zk_i, fun M2 e2 M3 e3 => ?_⟩
      subst e2
      have hn : (A 14 4).toNat < 128 := by omega
      have h2 := h1.pe_ (v := p) hn
      rw [h2.pn, as_id (by decide), as_id (by decide), zI_add] at e3
      subst e3
      rw [a_mk, if_neg (by omega)] at hP
      exact hP _ h2.pn_
  · rw [a_mk, if_pos (Or.inr (Or.inr (Or.inl q2)))] at hP
    exact hP _ h
theorem cs_note {P : zh_M → Prop} {p : Int} (h : RC M A M0) (hA : iHp A) (hC : iCo A) (hp : zb p) (hP : ∀ M', RC M' (a_note A p) M0 → P M') : wp_X1_note M (zI p) P := cs_mk h hA hC hp (fun M' hM => hP M' (rc_note hM))
theorem cs_shr {P : zh_M → Prop} {i : Nat} (h : RC M A M0) (hi : i < 6) (hf : iFr A i) (hr : 2 ≤ A 4 i ∧ A 4 i ≤ 16) (hP : ∀ M', RC M' (a_shr A i) M0 → P M') : wp_X2_shrinkRoom M (10 + 3 * i) P := by
  obtain ⟨f1, f2⟩ := hf
  obtain ⟨r1, r2⟩ := hr
  unfold wp_X2_shrinkRoom
  rw [h.rm hi, h.fr hi, zI_mul]
  refine zk_m (fun q => ?_) (fun q => zk_l (fun q2 => ?_) (fun q2 => ?_))
  · rw [a_shr, if_neg (by omega)] at hP
    exact hP _ h
  · rw [a_shr, if_neg (by omega)] at hP
    exact hP _ h
  · rw [zI_div (by omega) (by omega) (by omega) (by omega)]
    rw [a_shr, if_pos ⟨q, q2⟩] at hP
    exact cs_move h hi hP
theorem cs_scan_loop {P K : zh_M → Prop} {i : Nat} (hi : i < 6) {n : Int} (n1 : 0 ≤ n) (n2 : n ≤ 16) : ∀ (k q : Nat) (M : zh_M) (A : zA), RC M A M0 → iHp A → iCo A → A 3 i = n → (∀ j : Nat, (j : Int) < n * 4 → zb (A 12 (64 * i + j))) → (q : Int) + k = n * 4 → (∀ M', RC M' (a_noteF i k q A) M0 → K M') → wl_X1_scan_2 (10 + 3 * i) K P (k + 1) (zI (q : Int)) M := by
  intro k
  induction k with
  | zero =>
    intro q M A h hA hC hn hb hq hK
    unfold wl_X1_scan_2
    rw [h.fr hi, hn, zI_mul]
    exact zk_m (fun _ => hK _ h) (fun q => by omega)
  | succ k ih =>
    intro q M A h hA hC hn hb hq hK
    unfold wl_X1_scan_2
    rw [h.fr hi, hn, zI_mul, zI_cl (by omega) (by omega), show ((q : Int)).toNat = q by omega, h.ce hi (by omega), zI_add]
    refine zk_m (fun q => by omega) (fun _ => ⟨zk_i, cs_note h hA hC (hb q (by omega)) (fun M' hM => ?_)⟩)
    exact ih (q + 1) _ _ hM (iHp_note hA) (iCo_note hC) (by rw [a_note_at (by decide) (by decide) (by omega) (by decide)]; exact hn) (fun j hj => by rw [a_note_at (by decide) (by decide) (by omega) (by decide)]; exact hb j hj) (by omega) hK
theorem a_noteF_at {i a c : Nat} (h1 : a ≠ 20) (h2 : a ≠ 23) (h3 : a ≠ 14) (h4 : a ≠ 24) : ∀ (k q : Nat) (A : zA), a_noteF i k q A a c = A a c := by
  intro k
  induction k with
  | zero => intro q A; rfl
  | succ k ih => intro q A; rw [a_noteF, ih, a_note_at h1 h2 (fun e => h3 e.1) h4]
theorem cs_scan {P : zh_M → Prop} {i : Nat} (h : RC M A M0) (hi : i < 6) (hA : iHp A) (hC : iCo A) (hf : iFr A i) (hr : 2 ≤ A 4 i ∧ A 4 i ≤ 16) (hb : ∀ j : Nat, (j : Int) < A 3 i * 4 → zb (A 12 (64 * i + j))) (hP : ∀ M', RC M' (a_scan A i) M0 → P M') : wp_X1_scan M (10 + 3 * i) P := by
  obtain ⟨f1, f2⟩ := hf
  refine ⟨(A 3 i * 4).toNat + 1, cs_scan_loop hi (by omega) f2 (A 3 i * 4).toNat 0 M A h hA hC rfl hb (by omega) (fun M' hM M5 e5 => ?_)⟩
  subst e5
  have e1 : ∀ v : Int, aset (a_noteF i (A 3 i * 4).toNat 0 A) 6 i v 3 i = A 3 i := fun v => by rw [as_id (by decide), a_noteF_at (by decide) (by decide) (by decide) (by decide)]
  have e2 : ∀ v : Int, aset (a_noteF i (A 3 i * 4).toNat 0 A) 6 i v 4 i = A 4 i := fun v => by rw [as_id (by decide), a_noteF_at (by decide) (by decide) (by decide) (by decide)]
  exact cs_shr (hM.sc_ hi) hi (by unfold iFr; rw [e1]; exact ⟨f1, f2⟩) (by rw [e2]; exact hr) hP
theorem cs_next_loop {P : Option Nat → zh_M → Prop} (h : RC M A M0) (hs : iSt A) (hc : ∀ i, i < 6 → A 6 i = 0 ∨ A 6 i = 1) : ∀ (k i : Nat), i + k = 6 → (a_nextF A k i = -1 → P none M) → (a_nextF A k i ≠ -1 → P (some (10 + 3 * (a_nextF A k i).toNat)) M) → wl_X1_nextToScan_2 P (k + 1) (zI (i : Int)) M := by
  intro k
  induction k with
  | zero =>
    intro i hi h0 h1
    unfold wl_X1_nextToScan_2
    exact zk_m (fun _ => h0 rfl) (fun q => by omega)
  | succ k ih =>
    intro i hi h0 h1
    have hi2 : i < 6 := by omega
    have hsi := hs i hi2
    have hci := hc i hi2
    unfold wl_X1_nextToScan_2
    rw [zi_Fiber_zI hi2, h.st hi2, h.sc hi2, zI_add]
    refine zk_m (fun q => by omega) (fun _ => ⟨zk_i, zk_e (fun q => ?_) (fun q => ⟨zk_i, zk_n (fun q1 => ?_) (fun q1 => ⟨zk_i, ?_⟩)⟩)⟩)
    · have e : a_nextF A (k + 1) i = a_nextF A k (i + 1) := by rw [a_nextF, if_neg (fun w => w.1 q)]
      rw [e] at h0 h1
      exact ih (i + 1) (by omega) h0 h1
    · have e : a_nextF A (k + 1) i = a_nextF A k (i + 1) := by rw [a_nextF, if_neg (fun w => q1 w.2)]
      rw [e] at h0 h1
      exact ih (i + 1) (by omega) h0 h1
    · have e : a_nextF A (k + 1) i = (i : Int) := by rw [a_nextF, if_pos ⟨q, q1⟩]
      rw [e] at h1
      have := h1 (by omega)
      rwa [show ((i : Int)).toNat = i by omega] at this
theorem cs_next {P : Option Nat → zh_M → Prop} (h : RC M A M0) (hs : iSt A) (hc : ∀ i, i < 6 → A 6 i = 0 ∨ A 6 i = 1) (h0 : a_next A = -1 → P none M) (h1 : a_next A ≠ -1 → P (some (10 + 3 * (a_next A).toNat)) M) : wp_X1_nextToScan M P := ⟨7, cs_next_loop h hs hc 6 0 (by omega) h0 h1⟩
theorem a_nextF_rg (A : zA) : ∀ (k i : Nat), a_nextF A k i = -1 ∨ ((i : Int) ≤ a_nextF A k i ∧ a_nextF A k i < (i : Int) + k ∧ A 2 (a_nextF A k i).toNat ≠ 0 ∧ A 6 (a_nextF A k i).toNat = 0) := by
  intro k
  induction k with
  | zero => intro i; exact Or.inl rfl
  | succ k ih =>
    intro i
    unfold a_nextF
    split
    · rename_i h; exact Or.inr ⟨by omega, by omega, by simpa using h.1, by simpa using h.2⟩
    · rcases ih (i + 1) with h | ⟨h1, h2, h3⟩
      · exact Or.inl h
      · exact Or.inr ⟨by omega, by omega, h3⟩
theorem a_next_rg (A : zA) : a_next A = -1 ∨ (0 ≤ a_next A ∧ a_next A < 6 ∧ A 2 (a_next A).toNat ≠ 0 ∧ A 6 (a_next A).toNat = 0) := by
  rcases a_nextF_rg A 6 0 with h | ⟨h1, h2, h3⟩
  · exact Or.inl h
  · exact Or.inr ⟨by show 0 ≤ a_nextF A 6 0; omega, by show a_nextF A 6 0 < 6; omega, h3⟩
theorem cs_left {P : Int32 → zh_M → Prop} (h : RC M A M0) (hs : iSt A) (hc : ∀ i, i < 6 → A 6 i = 0 ∨ A 6 i = 1) (hC : iCo A) (h1 : a_left A → P (zI 1) M) (h0 : ¬ a_left A → P (zI 0) M) : wp_X1_workIsLeft M P := by
  obtain ⟨c1, c2, c3⟩ := hC
  unfold wp_X1_workIsLeft
  rw [h.pn]
  refine zk_l (fun q => h1 (Or.inl q)) (fun q => cs_next h hs hc (fun w => zk_o (fun _ => h0 (fun w2 => w2.elim (fun e => by omega) (fun e => e w))) (fun o e => by cases e)) (fun w => zk_o (fun e => by cases e) (fun o e => ?_)))
  cases e
  have hg := (a_next_rg A).resolve_left w
  exact ⟨zf_Fiber_of (by omega), h1 (Or.inr w)⟩
theorem cs_look_loop {P : zh_M → Prop} {a n : Int} (a1 : 0 ≤ a) (a2 : a < 256) (n1 : 0 ≤ n) (n2 : a + n ≤ 256) : ∀ (k w : Nat) (M : zh_M) (A : zA), RC M A M0 → iHp A → iCo A → (∀ j : Nat, (j : Int) < n → zb (A 15 (a.toNat + j))) → (w : Int) + k = n → (∀ M', RC M' (a_mkF a.toNat k w A) M0 → P M') → wl_X1_lookAt_14 (zI a) (zI n) P (k + 1) (zI (w : Int)) M := by
  intro k
  induction k with
  | zero =>
    intro w M A h hA hC hb hw hP
    unfold wl_X1_lookAt_14
    exact zk_m (fun _ => hP _ h) (fun q => by omega)
  | succ k ih =>
    intro w M A h hA hC hb hw hP
    unfold wl_X1_lookAt_14
    rw [zI_add, zI_cl (by omega) (by omega), show (a + (w : Int)).toNat = a.toNat + w by omega, h.mem (by omega), zI_add]
    refine zk_m (fun q => by omega) (fun _ => ⟨zk_i, cs_mk h hA hC (hb w (by omega)) (fun M' hM => ?_)⟩)
    exact ih (w + 1) _ _ hM (iHp_mk hA) (iCo_mk hC) (fun j hj => by rw [a_mk_at (by decide) (by decide) (by omega)]; exact hb j hj) (by omega) hP
theorem cs_look {P : zh_M → Prop} {a : Int} (h : RC M A M0) (hA : iHp A) (hC : iCo A) (a1 : 0 ≤ a) (a2 : a < 256) (hn : a + A 19 (a.toNat / 2) ≤ 256) (hb : ∀ j : Nat, (j : Int) < A 19 (a.toNat / 2) → zb (A 15 (a.toNat + j))) (hP : ∀ M', RC M' (a_look A a.toNat) M0 → P M') : wp_X1_lookAt M (zI a) P := by
  have hu : a.toNat / 2 < 128 := by omega
  obtain ⟨x1, x2, x3, x4, x5, x6⟩ := hA.2.2 _ hu
  unfold wp_X1_lookAt
  rw [zI_div (by omega) (by omega) (by omega) (by omega), zI_cl (by omega) (by omega), show (a / 2).toNat = a.toNat / 2 by omega, h.pc hu]
  refine ⟨zk_i, (A 19 (a.toNat / 2)).toNat + 1, ?_⟩
  exact cs_look_loop a1 a2 x3 hn (A 19 (a.toNat / 2)).toNat 0 M A h hA hC hb (by omega) hP
end COL
