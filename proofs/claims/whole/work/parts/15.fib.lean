abbrev iSt (A : zA) : Prop := ∀ i, i < 6 → 0 ≤ A 2 i ∧ A 2 i ≤ 3
abbrev iFr (A : zA) (i : Nat) : Prop := 1 ≤ A 3 i ∧ A 3 i ≤ 16
abbrev iRf (A : zA) (i : Nat) : Prop := ∀ j : Nat, j < 16 → (j : Int) < A 3 i → -1 ≤ A 13 (16 * i + j) ∧ A 13 (16 * i + j) < 4 * ((j : Int) + 1)
section FIB
variable {M M0 : zh_M} {A : zA}
theorem cs_lives {P : Int32 → zh_M → Prop} {f : Int} (h : RC M A M0) (hb : zb f) (hs : iSt A) (h1 : a_liv A f → P (zI 1) M) (h0 : ¬ a_liv A f → P (zI 0) M) : wp_X4_lives M (zI f) P := by
  obtain ⟨hb1, hb2⟩ := hb
  unfold wp_X4_lives
  refine zk_l (fun q => h0 (fun w => ?_)) (fun q => zk_m (fun q2 => h0 (fun w => ?_)) (fun q2 => ?_))
  · have := w.1; omega
  · have := w.2.1; omega
  have hi : f.toNat < 6 := by omega
  have hsi := hs f.toNat hi
  rw [zi_Fiber_n f q q2, h.st hi]
  exact ⟨zk_i, zk_e (fun q3 => h0 (fun w => w.2.2 q3)) (fun q3 => h1 ⟨q, q2, q3⟩)⟩
theorem cs_ready {P : Option Nat → zh_M → Prop} {f : Int} (h : RC M A M0) (hb : zb f) (hs : iSt A) (h1 : a_rdy A f → P (some (10 + 3 * f.toNat)) M) (h0 : ¬ a_rdy A f → P none M) : wp_X4_readyFiber M (zI f) P := by
  unfold wp_X4_readyFiber
  refine cs_lives h hb hs (fun w => zk_e (fun q => by omega) (fun _ => ?_)) (fun w => zk_e (fun _ => h0 (fun w2 => w ⟨w2.1, w2.2.1, by rw [w2.2.2]; decide⟩)) (fun q => absurd rfl q))
  obtain ⟨w1, w2, w3⟩ := w
  have hi : f.toNat < 6 := by omega
  have hsi := hs f.toNat hi
  rw [zi_Fiber_n f w1 w2, h.st hi]
  exact ⟨zk_i, zk_n (fun q3 => h0 (fun w => q3 w.2.2)) (fun q3 => ⟨zk_i, h1 ⟨w1, w2, q3⟩⟩)⟩
theorem a_ci_rg {i : Nat} {k : Int} (hf : iFr A i) (hr : iRf A i) : -1 ≤ a_ci A i k ∧ a_ci A i k < 4 * A 3 i := by
  unfold a_ci
  split
  · omega
  · split
    · have := hr (A 3 i - 1).toNat (by omega) (by omega)
      omega
    · omega
theorem cs_cellIndex {P : Int32 → zh_M → Prop} {i : Nat} {k : Int} (h : RC M A M0) (hi : i < 6) (hb : zb k) (hf : iFr A i) (hP : P (zI (a_ci A i k)) M) : wp_X2_cellIndex M (10 + 3 * i) (zI k) P := by
  obtain ⟨hb1, hb2⟩ := hb
  obtain ⟨hf1, hf2⟩ := hf
  unfold wp_X2_cellIndex
  rw [h.fr hi, zI_sub, zI_mul, zI_add, zI_cl (by omega) (by omega), h.re hi (by omega)]
  refine zk_l (fun q => zk_n (fun q2 => ?_) (fun q2 => by omega)) (fun q => zk_m (fun q2 => zk_n (fun q3 => ?_) (fun q3 => ⟨zk_i, ?_⟩)) (fun q2 => ?_))
  · rwa [a_ci, if_neg (by omega), if_neg q2] at hP
  · rwa [a_ci, if_neg (by omega), if_neg q3] at hP
  · rwa [a_ci, if_neg (by omega), if_pos q3] at hP
  · rwa [a_ci, if_pos ⟨q, q2⟩] at hP
theorem cs_isCell {P : Int32 → zh_M → Prop} {i : Nat} {k : Int} (h : RC M A M0) (hi : i < 6) (hb : zb k) (hf : iFr A i) (hr : iRf A i) (h1 : a_ci A i k ≠ -1 → P (zI 1) M) (h0 : a_ci A i k = -1 → P (zI 0) M) : wp_X2_isCell M (10 + 3 * i) (zI k) P := by
  unfold wp_X2_isCell
  have hg := a_ci_rg (k := k) hf hr
  have := hf.2
  exact cs_cellIndex h hi hb hf (zk_e h0 h1)
theorem cs_isSource {P : Int32 → zh_M → Prop} {i : Nat} {k : Int} (h : RC M A M0) (hi : i < 6) (hb : zb k) (hf : iFr A i) (hr : iRf A i) (h1 : a_src A i k → P (zI 1) M) (h0 : ¬ a_src A i k → P (zI 0) M) : wp_X2_isSource M (10 + 3 * i) (zI k) P := by
  have hb' := hb
  obtain ⟨hb1, hb2⟩ := hb
  unfold wp_X2_isSource
  refine zk_e (fun q => h1 (Or.inl q)) (fun q => cs_isCell h hi hb' hf hr (fun w => zk_e (fun q2 => by omega) (fun _ => h1 (Or.inr w))) (fun w => zk_e (fun _ => h0 (fun w2 => w2.elim q (fun w3 => w3 w))) (fun q2 => absurd rfl q2)))
theorem cs_pointerFrom {P : Int32 → zh_M → Prop} {i : Nat} {k : Int} (h : RC M A M0) (hi : i < 6) (hb : zb k) (hf : iFr A i) (hr : iRf A i) (hP : P (zI (a_pf A i k)) M) : wp_X2_pointerFrom M (10 + 3 * i) (zI k) P := by
  unfold wp_X2_pointerFrom
  have hg := a_ci_rg (k := k) hf hr
  have := hf.2
  refine cs_cellIndex h hi hb hf (zk_n (fun q => ⟨zk_i, ?_⟩) (fun q => ?_))
  · rw [zI_cl (by omega) (by omega), h.ce hi (by omega)]
    rwa [a_pf, if_neg q] at hP
  · rwa [a_pf, if_pos q] at hP
theorem cs_fillCell {P : zh_M → Prop} {i : Nat} {k p : Int} (h : RC M A M0) (hi : i < 6) (hb : zb k) (hf : iFr A i) (hr : iRf A i) (hP : ∀ M', RC M' (a_fc A i k p) M0 → P M') : wp_X2_fillCell M (10 + 3 * i) (zI k) (zI p) P := by
  unfold wp_X2_fillCell
  have hg := a_ci_rg (k := k) hf hr
  have := hf.2
  refine cs_cellIndex h hi hb hf (zk_e (fun q => hP _ ?_) (fun q => ⟨zk_i, fun M3 e => hP _ ?_⟩))
  · rw [a_fc, if_pos q]; exact h
  · rw [a_fc, if_neg q, e, zI_cl (by omega) (by omega)]
    exact h.ce_ hi (by omega)
theorem cs_low_loop {P : Int32 → zh_M → Prop} (h : RC M A M0) (hs : iSt A) : ∀ (k i : Nat), i + k = 6 → P (zI (a_lowF A k i)) M → wl_X4_lowestGoneFiber_2 P (k + 1) (zI (i : Int)) M := by
  intro k
  induction k with
  | zero =>
    intro i hi hP
    unfold wl_X4_lowestGoneFiber_2
    exact zk_m (fun _ => hP) (fun q => by omega)
  | succ k ih =>
    intro i hi hP
    unfold wl_X4_lowestGoneFiber_2
    refine zk_m (fun q => by omega) (fun q => cs_lives h ⟨by omega, by omega⟩ hs (fun w => zk_n (fun _ => ?_) (fun q2 => by omega)) (fun w => zk_n (fun q2 => absurd rfl q2) (fun _ => ?_)))
    · rw [zI_add]
      refine ih (i + 1) (by omega) ?_
      rwa [a_lowF, if_neg (by simpa using w.2.2)] at hP
    · rwa [a_lowF, if_pos (Decidable.byContradiction fun q3 => w ⟨by omega, by omega, by simpa using q3⟩)] at hP
theorem cs_low {P : Int32 → zh_M → Prop} (h : RC M A M0) (hs : iSt A) (hP : P (zI (a_low A)) M) : wp_X4_lowestGoneFiber M P := ⟨7, cs_low_loop h hs 6 0 (by omega) hP⟩
theorem a_lowF_rg (A : zA) : ∀ (k i : Nat), a_lowF A k i = -1 ∨ ((i : Int) ≤ a_lowF A k i ∧ a_lowF A k i < (i : Int) + k ∧ A 2 (a_lowF A k i).toNat = 0) := by
  intro k
  induction k with
  | zero => intro i; exact Or.inl rfl
  | succ k ih =>
    intro i
    unfold a_lowF
    split
    · rename_i h; exact Or.inr ⟨by omega, by omega, by simpa using h⟩
    · rcases ih (i + 1) with h | ⟨h1, h2, h3⟩
      · exact Or.inl h
      · exact Or.inr ⟨by omega, by omega, h3⟩
theorem cs_living_loop {P : Int32 → zh_M → Prop} (h : RC M A M0) (hs : iSt A) : ∀ (k i : Nat) (n : Int), i + k = 6 → P (zI (n + zsum (fun i => if A 2 i = 0 then 0 else 1) k i)) M → wl_X4_livingFibers_4 P (k + 1) (zI n) (zI (i : Int)) M := by
  intro k
  induction k with
  | zero =>
    intro i n hi hP
    unfold wl_X4_livingFibers_4
    refine zk_m (fun _ => ?_) (fun q => by omega)
    simpa [zsum] using hP
  | succ k ih =>
    intro i n hi hP
    unfold wl_X4_livingFibers_4
    refine zk_m (fun q => by omega) (fun q => cs_lives h ⟨by omega, by omega⟩ hs (fun w => zk_e (fun q2 => by omega) (fun _ => ?_)) (fun w => zk_e (fun _ => ?_) (fun q2 => absurd rfl q2)))
    · rw [zI_add, zI_add]
      refine ih (i + 1) (n + 1) (by omega) ?_
      have w3 : ¬ A 2 i = 0 := by simpa using w.2.2
      rw [zsum] at hP
      simp only [w3, if_false] at hP
      rwa [Int.add_assoc]
    · rw [zI_add]
      refine ih (i + 1) n (by omega) ?_
      have w3 : A 2 i = 0 := Decidable.byContradiction fun q3 => w ⟨by omega, by omega, by simpa using q3⟩
      rw [zsum] at hP
      simp only [w3, if_true] at hP
      simpa using hP
theorem cs_living {P : Int32 → zh_M → Prop} (h : RC M A M0) (hs : iSt A) (hP : P (zI (a_living A)) M) : wp_X4_livingFibers M P := by
  refine ⟨7, cs_living_loop h hs 6 0 0 (by omega) ?_⟩
  simpa [a_living] using hP
theorem a_living_rg (A : zA) : ∀ (k i : Nat), 0 ≤ zsum (fun i => if A 2 i = 0 then 0 else 1) k i ∧ zsum (fun i => if A 2 i = 0 then 0 else 1) k i ≤ k := by
  intro k
  induction k with
  | zero => intro i; simp [zsum]
  | succ k ih =>
    intro i
    have := ih (i + 1)
    unfold zsum
    split <;> omega
theorem cs_begin {P : zh_M → Prop} {i : Nat} {p : Int} (h : RC M A M0) (hi : i < 6) (hP : ∀ M', RC M' (a_begin A i p) M0 → P M') : wp_X2_beginToLive M (10 + 3 * i) (zI p) P := by
  unfold wp_X2_beginToLive
  intro M1 e1 M2 e2 M3 e3 M4 e4 M5 e5
  subst e1; subst e2; subst e3; subst e4; subst e5
  refine ⟨zk_i, ?_⟩
  intro M6 e6
  subst e6
  rw [zI_cl (by omega) (by omega)]
  have h6 := (((((((((h.st_ (v := 1) hi).ghost (a := 25) (k := i) (v := 1) (by decide)).fr_ (v := 1) hi).ghost (a := 26) (k := i) (v := 2) (by decide)).rm_ (v := 2) hi).sc_ (v := 0) hi).ghost (a := 27) (k := i) (v := -1) (by decide)).tk_ (v := -1) hi).ce_ (j := 0) (v := p) hi (by omega))
  refine ⟨4, ?_⟩
  unfold wl_X2_beginToLive_34
  refine zk_m (fun q => by omega) (fun _ => ⟨zk_i, fun M7 e7 => ?_⟩)
  subst e7
  rw [zI_cl (by omega) (by omega), zI_add]
  have h7 := h6.ce_ (j := 1) (v := -1) hi (by omega)
  unfold wl_X2_beginToLive_34
  refine zk_m (fun q => by omega) (fun _ => ⟨zk_i, fun M8 e8 => ?_⟩)
  subst e8
  rw [zI_cl (by omega) (by omega), zI_add]
  have h8 := h7.ce_ (j := 2) (v := -1) hi (by omega)
  unfold wl_X2_beginToLive_34
  refine zk_m (fun q => by omega) (fun _ => ⟨zk_i, fun M9 e9 => ?_⟩)
  subst e9
  rw [zI_cl (by omega) (by omega), zI_add]
  have h9 := h8.ce_ (j := 3) (v := -1) hi (by omega)
  unfold wl_X2_beginToLive_34
  refine zk_m (fun _ => ⟨zk_i, fun M10 e10 => ?_⟩) (fun q => by omega)
  subst e10
  rw [zI_cl (by omega) (by omega)]
  exact hP _ (h9.re_ (j := 0) (v := -1) hi (by omega))
theorem cs_wake {P : Int32 → zh_M → Prop} {f : Int} (h : RC M A M0) (hb : zb f) (hs : iSt A) (hP : ∀ M', RC M' (a_wake A f).2 M0 → P (zI (a_wake A f).1) M') : wp_X4_wake M (zI f) P := by
  unfold wp_X4_wake
  refine cs_lives h hb hs (fun w => zk_e (fun q => by omega) (fun _ => ?_)) (fun w => zk_e (fun _ => ?_) (fun q => absurd rfl q))
  · obtain ⟨w1, w2, w3⟩ := w
    have hi : f.toNat < 6 := by omega
    have hsi := hs f.toNat hi
    rw [zi_Fiber_n f w1 w2, h.st hi]
    refine ⟨zk_i, zk_n (fun q => ⟨zk_i, fun M5 e => ?_⟩) (fun q => ?_)⟩
    · rw [a_wake, if_pos ⟨⟨w1, w2, w3⟩, q⟩] at hP
      rw [e]
      exact hP _ (h.st_ hi)
    · rw [a_wake, if_neg (fun w => w.2 q)] at hP
      exact hP _ h
  · rw [a_wake, if_neg (fun w2 => w w2.1)] at hP
    exact hP _ h
theorem cs_end {P : Int32 → zh_M → Prop} {f : Int} (h : RC M A M0) (hb : zb f) (hs : iSt A) (hP : ∀ M', RC M' (a_end A f).2 M0 → P (zI (a_end A f).1) M') : wp_X4_end M (zI f) P := by
  unfold wp_X4_end
  have hg := a_living_rg A 6 0
  refine cs_lives h hb hs (fun w => zk_e (fun q => by omega) (fun _ => cs_living h hs ?_)) (fun w => zk_e (fun _ => ?_) (fun q => absurd rfl q))
  · obtain ⟨w1, w2, w3⟩ := w
    have hi : f.toNat < 6 := by omega
    have hg1 : 0 ≤ a_living A ∧ a_living A ≤ 6 := hg
    refine zk_n (fun q => ⟨zk_i, fun M5 e => ?_⟩) (fun q => ?_)
    · rw [a_end, if_pos ⟨⟨w1, w2, w3⟩, q⟩] at hP
      rw [e, zi_Fiber_n f w1 w2]
      exact hP _ (h.st_ hi)
    · rw [a_end, if_neg (fun w => w.2 q)] at hP
      exact hP _ h
  · rw [a_end, if_neg (fun w2 => w w2.1)] at hP
    exact hP _ h
theorem cs_spawn {P : Int32 → zh_M → Prop} {f k : Int} (h : RC M A M0) (hb : zb f) (hk : zb k) (hs : iSt A) (hf : ∀ i, i < 6 → A 2 i ≠ 0 → iFr A i ∧ iRf A i) (hP : ∀ M', RC M' (a_spawn A f k).2 M0 → P (zI (a_spawn A f k).1) M') : wp_X4_spawn M (zI f) (zI k) P := by
  unfold wp_X4_spawn
  have hg : a_low A = -1 ∨ (0 ≤ a_low A ∧ a_low A < 6) := by
    rcases a_lowF_rg A 6 0 with h1 | ⟨h1, h2, h3⟩
    · exact Or.inl h1
    · exact Or.inr ⟨by show 0 ≤ a_lowF A 6 0; omega, by show a_lowF A 6 0 < 6; omega⟩
  refine cs_ready h hb hs (fun w => cs_low h hs (zk_o (fun q => by cases q) (fun o q => ?_))) (fun w => cs_low h hs (zk_o (fun _ => ?_) (fun o q => by cases q)))
  · cases q
    obtain ⟨w1, w2, w3⟩ := w
    have hi : f.toNat < 6 := by omega
    obtain ⟨f1, f2⟩ := hf f.toNat hi (by rw [w3]; decide)
    refine ⟨zf_Fiber_of hi, cs_isSource h hi hk f1 f2 (fun w4 => zk_e (fun q => by omega) (fun _ => zk_n (fun q => ⟨zk_i, ?_⟩) (fun q => ?_))) (fun w4 => zk_e (fun _ => ?_) (fun q => absurd rfl q))⟩
    · rw [zi_Fiber_n _ (by omega) (by omega)]
      rw [a_spawn, if_pos ⟨⟨w1, w2, w3⟩, w4, q⟩] at hP
      exact cs_pointerFrom h hi hk f1 f2 (cs_begin h (by omega) hP)
    · rw [a_spawn, if_neg (fun w => w.2.2 q)] at hP
      exact hP _ h
    · rw [a_spawn, if_neg (fun w => w4 w.2.1)] at hP
      exact hP _ h
  · rw [a_spawn, if_neg (fun w2 => w w2.1)] at hP
    exact hP _ h
theorem cs_move {P : zh_M → Prop} {i : Nat} {r : Int} (h : RC M A M0) (hi : i < 6) (hP : ∀ M', RC M' (a_move A i r) M0 → P M') : wp_X2_moveTo M (10 + 3 * i) (zI r) P := by
  unfold wp_X2_moveTo
  intro M1 e1 M2 e2
  subst e1; subst e2
  have h1 := ((h.ghost (a := 26) (k := i) (v := r) (by decide)).rm_ (v := r) hi).ghost (a := 32) (k := 0) (v := A 32 0 + A 3 i) (by decide)
  rw [h1.cpd hi, h1.fr hi, zI_add]
  have e1 : aset (aset (aset A 26 i r) 4 i r) 32 0 (A 32 0 + A 3 i) 5 i = A 5 i := by rw [as_id (by decide), as_id (by decide), as_id (by decide)]
  have e2 : aset (aset (aset A 26 i r) 4 i r) 32 0 (A 32 0 + A 3 i) 3 i = A 3 i := by rw [as_id (by decide), as_id (by decide), as_id (by decide)]
  rw [e1, e2]
  exact hP _ (h1.cpd_ hi)
theorem cs_drop {P : zh_M → Prop} {i : Nat} (h : RC M A M0) (hi : i < 6) (h1 : 2 ≤ A 3 i) (h2 : A 3 i ≤ 16) (hP : ∀ M', RC M' (a_drop A i) M0 → P M') : wp_X2_dropFrame M (10 + 3 * i) P := by
  unfold wp_X2_dropFrame
  rw [h.fr hi, zI_sub, zI_mul, zI_cl (by omega) (by omega), h.ce hi (by omega)]
  refine ⟨zk_i, fun M1 e1 => ?_⟩
  subst e1
  have h3 := (h.ghost (a := 25) (k := i) (v := A 3 i - 1) (by decide)).fr_ (v := A 3 i - 1) hi
  rw [h3.fr hi, as_same, zI_sub, zI_mul, zI_cl (by omega) (by omega)]
  refine ⟨zk_i, fun M2 e2 => ?_⟩
  subst e2
  exact hP _ (h3.ce_ hi (by omega))
theorem cs_leave {P : Int32 → zh_M → Prop} {f : Int} (h : RC M A M0) (hb : zb f) (hs : iSt A) (hf : ∀ i, i < 6 → A 2 i ≠ 0 → iFr A i ∧ iRf A i) (hP : ∀ M', RC M' (a_leave A f).2 M0 → P (zI (a_leave A f).1) M') : wp_X4_leave M (zI f) P := by
  unfold wp_X4_leave
  refine cs_ready h hb hs (fun w => zk_o (fun q => by cases q) (fun o q => ?_)) (fun w => zk_o (fun _ => ?_) (fun o q => by cases q))
  · cases q
    obtain ⟨w1, w2, w3⟩ := w
    have hi : f.toNat < 6 := by omega
    obtain ⟨f1, f2⟩ := hf f.toNat hi (by rw [w3]; decide)
    have f3 := f1.1
    have f4 := f1.2
    rw [h.fr hi]
    refine ⟨zf_Fiber_of hi, zk_l (fun q => ?_) (fun q => ?_)⟩
    · rw [a_leave, if_pos ⟨⟨w1, w2, w3⟩, q⟩] at hP
      exact cs_drop h hi (by omega) f4 hP
    · rw [a_leave, if_neg (fun w => by have := w.2; omega)] at hP
      exact hP _ h
  · rw [a_leave, if_neg (fun w2 => w w2.1)] at hP
    exact hP _ h
theorem cs_aim {P : Int32 → zh_M → Prop} {f k : Int} (h : RC M A M0) (hb : zb f) (hk : zb k) (hs : iSt A) (hf : ∀ i, i < 6 → A 2 i ≠ 0 → iFr A i ∧ iRf A i) (hP : ∀ M', RC M' (a_aim A f k).2 M0 → P (zI (a_aim A f k).1) M') : wp_X4_aim M (zI f) (zI k) P := by
  unfold wp_X4_aim
  have hk' := hk
  obtain ⟨k1, k2⟩ := hk
  refine cs_ready h hb hs (fun w => zk_o (fun q => by cases q) (fun o q => ?_)) (fun w => zk_o (fun _ => ?_) (fun o q => by cases q))
  · cases q
    obtain ⟨w1, w2, w3⟩ := w
    have hi : f.toNat < 6 := by omega
    obtain ⟨f1, f2⟩ := hf f.toNat hi (by rw [w3]; decide)
    have f3 := f1.1
    have f4 := f1.2
    refine ⟨zf_Fiber_of hi, zk_l (fun q => ?_) (fun q => zk_l (fun q2 => cs_cellIndex h hi hk' f1 ?_) (fun q2 => ?_))⟩
    · rw [a_aim, if_neg (fun w => by have := w.2.1; omega)] at hP
      exact hP _ h
    · rw [h.fr hi, zI_sub, zI_cl (by omega) (by omega)]
      refine ⟨zk_i, fun M6 e => ?_⟩
      rw [a_aim, if_pos ⟨⟨w1, w2, w3⟩, q, q2⟩] at hP
      subst e
      exact hP _ (h.re_ hi (by omega))
    · rw [a_aim, if_neg (fun w => by have := w.2.2; omega)] at hP
      exact hP _ h
  · rw [a_aim, if_neg (fun w2 => w w2.1)] at hP
    exact hP _ h
theorem cs_copy {P : Int32 → zh_M → Prop} {f t s : Int} (h : RC M A M0) (hb : zb f) (ht : zb t) (hk : zb s) (hs : iSt A) (hf : ∀ i, i < 6 → A 2 i ≠ 0 → iFr A i ∧ iRf A i) (hP : ∀ M', RC M' (a_copy A f t s).2 M0 → P (zI (a_copy A f t s).1) M') : wp_X4_copy M (zI f) (zI t) (zI s) P := by
  unfold wp_X4_copy
  refine cs_ready h hb hs (fun w => zk_o (fun q => by cases q) (fun o q => ?_)) (fun w => zk_o (fun _ => ?_) (fun o q => by cases q))
  · cases q
    obtain ⟨w1, w2, w3⟩ := w
    have hi : f.toNat < 6 := by omega
    obtain ⟨f1, f2⟩ := hf f.toNat hi (by rw [w3]; decide)
    refine ⟨zf_Fiber_of hi, cs_isCell h hi ht f1 f2 (fun w4 => zk_e (fun q => by omega) (fun _ => cs_isSource h hi hk f1 f2 (fun w5 => zk_n (fun _ => ?_) (fun q => by omega)) (fun w5 => zk_n (fun q => absurd rfl q) (fun _ => ?_)))) (fun w4 => zk_e (fun _ => ?_) (fun q => absurd rfl q))⟩
    · rw [a_copy, if_pos ⟨⟨w1, w2, w3⟩, w4, w5⟩] at hP
      exact cs_pointerFrom h hi hk f1 f2 (cs_fillCell h hi ht f1 f2 hP)
    · rw [a_copy, if_neg (fun w => w5 w.2.2)] at hP
      exact hP _ h
    · rw [a_copy, if_neg (fun w => w.2.1 w4)] at hP
      exact hP _ h
  · rw [a_copy, if_neg (fun w2 => w w2.1)] at hP
    exact hP _ h
end FIB
