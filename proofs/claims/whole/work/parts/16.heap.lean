abbrev iHp (A : zA) : Prop := (∀ p, p < 16 → 0 ≤ A 16 p ∧ A 16 p ≤ 64) ∧ (∀ p, p < 16 → A 17 p = 0 ∨ A 17 p = 1) ∧ (∀ u, u < 128 → 0 ≤ A 18 u ∧ A 18 u ≤ 64 ∧ 0 ≤ A 19 u ∧ A 19 u ≤ 64 ∧ 0 ≤ A 20 u ∧ A 20 u ≤ 2)
theorem iHp_ {A : zA} (h : iHp A) {a k : Nat} {v : Int} (h1 : a = 16 → 0 ≤ v ∧ v ≤ 64) (h2 : a = 17 → v = 0 ∨ v = 1) (h3 : a = 18 ∨ a = 19 → 0 ≤ v ∧ v ≤ 64) (h4 : a = 20 → 0 ≤ v ∧ v ≤ 2) : iHp (aset A a k v) := by
  obtain ⟨g1, g2, g3⟩ := h
  refine ⟨fun p hp => ?_, fun p hp => ?_, fun u hu => ?_⟩
  · have := g1 p hp
    unfold aset
    split
    · rename_i e; exact h1 e.1.symm
    · exact this
  · have := g2 p hp
    unfold aset
    split
    · rename_i e; exact h2 e.1.symm
    · exact this
  · obtain ⟨x1, x2, x3, x4, x5, x6⟩ := g3 u hu
    have y1 : 0 ≤ aset A a k v 18 u ∧ aset A a k v 18 u ≤ 64 := by
      unfold aset
      split
      · rename_i e; exact h3 (Or.inl e.1.symm)
      · exact ⟨x1, x2⟩
    have y2 : 0 ≤ aset A a k v 19 u ∧ aset A a k v 19 u ≤ 64 := by
      unfold aset
      split
      · rename_i e; exact h3 (Or.inr e.1.symm)
      · exact ⟨x3, x4⟩
    have y3 : 0 ≤ aset A a k v 20 u ∧ aset A a k v 20 u ≤ 2 := by
      unfold aset
      split
      · rename_i e; exact h4 e.1.symm
      · exact ⟨x5, x6⟩
    exact ⟨y1.1, y1.2, y2.1, y2.2, y3.1, y3.2⟩
theorem iHp_swU {A : zA} (h : iHp A) (u : Nat) : iHp (a_swU A u) := by
  unfold a_swU
  split
  · refine iHp_ (iHp_ (iHp_ h ?_ ?_ ?_ ?_) ?_ ?_ ?_ ?_) ?_ ?_ ?_ ?_ <;> intro e <;> omega
  · exact h
theorem iHp_swF : ∀ (k u : Nat) {A : zA}, iHp A → iHp (a_swF k u A) := by
  intro k
  induction k with
  | zero => intro u A h; exact h
  | succ k ih => intro u A h; exact ih (u + 1) (iHp_swU h u)
theorem iHp_fillP {v : Int} (hv : 0 ≤ v ∧ v ≤ 64) : ∀ (k p : Nat) {A : zA}, iHp A → iHp (a_fillP v k p A) := by
  intro k
  induction k with
  | zero => intro p A h; exact h
  | succ k ih =>
    intro p A h
    unfold a_fillP
    split
    · exact ih (p + 1) (iHp_ h (fun _ => hv) (fun e => by omega) (fun e => by omega) (fun e => by omega))
    · exact h
theorem iHp_sweep {A : zA} (h : iHp A) (p : Nat) : iHp (a_sweep A p) := by
  have h1 : iHp (a_swF 8 (8 * p) (aset A 17 p 0)) := iHp_swF 8 (8 * p) (iHp_ h (fun e => by omega) (fun _ => Or.inl rfl) (fun e => by omega) (fun e => by omega))
  unfold a_sweep
  simp only
  split
  · exact iHp_fillP ⟨by omega, by omega⟩ _ _ h1
  · exact h1
theorem zsum_congr {f g : Nat → Int} : ∀ (k i : Nat), (∀ j, i ≤ j → j < i + k → f j = g j) → zsum f k i = zsum g k i := by
  intro k
  induction k with
  | zero => intro i h; rfl
  | succ k ih =>
    intro i h
    unfold zsum
    rw [h i (by omega) (by omega), ih (i + 1) (fun j h1 h2 => h j (by omega) (by omega))]
theorem zsum_rg {f : Nat → Int} {b : Int} : ∀ (k i : Nat), (∀ j, i ≤ j → j < i + k → 0 ≤ f j ∧ f j ≤ b) → 0 ≤ zsum f k i ∧ zsum f k i ≤ b * k := by
  intro k
  induction k with
  | zero => intro i h; simp [zsum]
  | succ k ih =>
    intro i h
    have h1 := ih (i + 1) (fun j h1 h2 => h j (by omega) (by omega))
    have h2 := h i (by omega) (by omega)
    unfold zsum
    have e : b * ((k + 1 : Nat) : Int) = b * k + b := by rw [Int.natCast_add, Int.mul_add]; simp
    rw [e]
    omega
section HEP
variable {M M0 : zh_M} {A : zA}
theorem cs_slot {P : Int32 → zh_M → Prop} {n : Int} (h1 : 0 ≤ n) (h2 : n ≤ 64) (hP : P (zI (a_slot n)) M) : wp_X3_slotWordsFor M (zI n) P := by
  unfold wp_X3_slotWordsFor
  refine zk_l (fun q1 => zk_l (fun q2 => zk_l (fun q3 => ?_) (fun q3 => ?_)) (fun q2 => ?_)) (fun q1 => ?_)
  · rw [zI_add, zI_sub, zI_div (by omega) (by omega) (by omega) (by omega), zI_mul]
    rw [a_slot, if_neg (by omega), if_neg (by omega), if_neg (by omega)] at hP
    rwa [show n + 16 - 1 = n + 15 by omega]
  · rwa [a_slot, if_neg (by omega), if_neg (by omega), if_pos (by omega)] at hP
  · rwa [a_slot, if_neg (by omega), if_pos (by omega)] at hP
  · rwa [a_slot, if_pos (by omega)] at hP
theorem a_slot_rg {n : Int} (h1 : 0 ≤ n) (h2 : n ≤ 64) : 2 ≤ a_slot n ∧ a_slot n ≤ 64 := by
  unfold a_slot
  split
  · omega
  · split
    · omega
    · split
      · omega
      · omega
theorem cs_pages {P : Int32 → zh_M → Prop} {k : Int} (h1 : 0 ≤ k) (h2 : k ≤ 64) (hP : P (zI (a_wide k)) M) : wp_X3_pagesOfSpan M (zI k) P := by
  unfold wp_X3_pagesOfSpan
  rw [zI_div (by omega) (by omega) (by omega) (by omega)]
  have e : (if zI 1 < zI (k / 16) then zI (k / 16) else zI 1) = zI (a_wide k) := by
    unfold a_wide
    split
    · rename_i h
      rw [zI_lt (by omega) (by omega) (by omega) (by omega)] at h
      rw [if_neg (by omega)]
    · rename_i h
      rw [zI_lt (by omega) (by omega) (by omega) (by omega)] at h
      split
      · rfl
      · rw [show k / 16 = 1 by omega]
  rw [e]
  exact hP
theorem a_wide_rg {k : Int} (h1 : 0 ≤ k) (h2 : k ≤ 64) : 1 ≤ a_wide k ∧ a_wide k ≤ 4 := by
  unfold a_wide
  split <;> omega
theorem cs_fillP_loop {P : zh_M → Prop} {s len v : Int} (h1 : 0 ≤ s) (h2 : s ≤ 16) (h3 : 0 ≤ len) (h4 : len ≤ 64) : ∀ (k p : Nat) (M : zh_M) (A : zA), RC M A M0 → (p : Int) + k = s + len → (∀ M', RC M' (a_fillP v k p A) M0 → P M') → wl_X3_fillPages_3 (zI s) (zI len) (zI v) P (k + 1) (zI (p : Int)) M := by
  intro k
  induction k with
  | zero =>
    intro p M A h hp hP
    unfold wl_X3_fillPages_3
    rw [zI_add]
    exact zk_m (fun _ => hP _ h) (fun q => by omega)
  | succ k ih =>
    intro p M A h hp hP
    unfold wl_X3_fillPages_3
    rw [zI_add]
    refine zk_m (fun q => by omega) (fun q => zk_m (fun q2 => ?_) (fun q2 => ⟨zk_i, fun M1 e => ?_⟩))
    · rw [a_fillP, if_neg (by omega)] at hP
      exact hP _ h
    · rw [zI_cl (by omega) (by omega)] at e
      subst e
      rw [zI_add]
      rw [a_fillP, if_pos (by omega)] at hP
      exact ih (p + 1) _ _ (h.kd_ (by omega)) (by omega) hP
theorem cs_fillP {P : zh_M → Prop} {s : Nat} {len v : Int} (h : RC M A M0) (h2 : s ≤ 16) (h3 : 0 ≤ len) (h4 : len ≤ 64) (hP : ∀ M', RC M' (a_fillP v len.toNat s A) M0 → P M') : wp_X3_fillPages M (zI (s : Int)) (zI len) (zI v) P := ⟨len.toNat + 1, cs_fillP_loop (by omega) (by omega) h3 h4 len.toNat s M A h (by omega) hP⟩
theorem cs_sweep_loop {P : zh_M → Prop} {K : Int32 → zh_M → Prop} {p : Nat} (hp : p < 16) : ∀ (k u : Nat) (n : Int) (M : zh_M) (A : zA), RC M A M0 → iHp A → u + k = 8 * p + 8 → (∀ M', RC M' (a_swF k u A) M0 → K (zI (n + zsum (fun u => if A 18 u ≠ 0 ∧ A 20 u ≠ 0 then 1 else 0) k u)) M') → wl_X3_sweepSpan_14 (zI (p : Int)) K P (k + 1) (zI n) (zI (u : Int)) M := by
  intro k
  induction k with
  | zero =>
    intro u n M A h hA hu hK
    unfold wl_X3_sweepSpan_14
    rw [zI_add, zI_mul]
    refine zk_m (fun _ => ?_) (fun q => by omega)
    have := hK _ h
    simpa [zsum] using this
  | succ k ih =>
    intro u n M A h hA hu hK
    have hu2 : u < 128 := by omega
    obtain ⟨x1, x2, x3, x4, x5, x6⟩ := hA.2.2 u hu2
    have hz : ∀ B : zA, (∀ j, u < j → B 18 j = A 18 j ∧ B 20 j = A 20 j) → zsum (fun u => if B 18 u ≠ 0 ∧ B 20 u ≠ 0 then 1 else 0) k (u + 1) = zsum (fun u => if A 18 u ≠ 0 ∧ A 20 u ≠ 0 then 1 else 0) k (u + 1) := fun B hB => zsum_congr k (u + 1) (fun j h1 h2 => by rw [(hB j (by omega)).1, (hB j (by omega)).2])
    unfold wl_X3_sweepSpan_14
    rw [zI_add, zI_mul, zI_cl (by omega) (by omega), show ((u : Int)).toNat = u by omega, h.sz hu2, h.ma hu2, zI_add, zI_add]
    refine zk_m (fun q => by omega) (fun q => ⟨zk_i, zk_e (fun q1 => ⟨zk_i, zk_e (fun _ => ?_) (fun q2 => absurd q1 q2)⟩) (fun q1 => ⟨zk_i, zk_n (fun q2 => ⟨zk_i, zk_e (fun q3 => absurd q3 q1) (fun _ => ?_)⟩) (fun q2 => ⟨zk_i, fun M2 e2 => ⟨zk_i, fun M3 e3 M4 e4 => ?_⟩⟩)⟩)⟩)
    · refine ih (u + 1) n M A h hA (by omega) (fun M' hM => ?_)
      rw [a_swF, a_swU, if_neg (fun w => w.1 q1)] at hK
      have h9 := hK M' hM
      rwa [zsum, if_neg (fun w => w.1 q1), Int.zero_add] at h9
    · refine ih (u + 1) (n + 1) M A h hA (by omega) (fun M' hM => ?_)
      rw [a_swF, a_swU, if_neg (fun w => q2 w.2)] at hK
      have h9 := hK M' hM
      rwa [zsum, if_pos ⟨q1, q2⟩, ← Int.add_assoc] at h9
    · subst e2; subst e3; subst e4
      have h3 := ((h.sz_ (v := 0) hu2).pc_ (v := 0) hu2)
      rw [h3.freed, zI_add]
      have h4 := h3.freed_ (v := A 14 1 + 1)
      have e5 : aset (aset A 18 u 0) 19 u 0 14 1 = A 14 1 := by rw [as_id (by decide), as_id (by decide)]
      rw [e5]
      rw [h4.sz hu2]
      have e6 : aset (aset (aset A 18 u 0) 19 u 0) 14 1 (A 14 1 + 1) 18 u = 0 := by rw [as_id (by decide), as_id (by decide), as_same]
      rw [e6]
      refine ⟨zk_i, zk_e (fun _ => ?_) (fun q3 => absurd rfl q3)⟩
      have hA2 := iHp_swU hA u
      have e7 : a_swU A u = aset (aset (aset A 18 u 0) 19 u 0) 14 1 (A 14 1 + 1) := by rw [a_swU, if_pos ⟨q1, q2⟩]
      rw [e7] at hA2
      refine ih (u + 1) n _ _ h4 hA2 (by omega) (fun M' hM => ?_)
      rw [a_swF, e7] at hK
      have h9 := hK M' hM
      rw [zsum, if_neg (fun w => w.2 q2), Int.zero_add] at h9
      rw [hz _ (fun j hj => ⟨by rw [as_id (by decide), as_id (by decide), as_ix (by omega)], by rw [as_id (by decide), as_id (by decide), as_id (by decide)]⟩)]
      exact h9
theorem cs_sweep {P : zh_M → Prop} {p : Nat} (hp : p < 16) (h : RC M A M0) (hA : iHp A) (hP : ∀ M', RC M' (a_sweep A p) M0 → P M') : wp_X3_sweepSpan M (zI (p : Int)) P := by
  unfold wp_X3_sweepSpan
  rw [zI_cl (by omega) (by omega), show ((p : Int)).toNat = p by omega]
  refine ⟨zk_i, fun M1 e1 => ?_⟩
  subst e1
  have h1 := h.un_ (v := 0) hp
  have hA1 : iHp (aset A 17 p 0) := iHp_ hA (fun e => by omega) (fun _ => Or.inl rfl) (fun e => by omega) (fun e => by omega)
  refine ⟨9, ?_⟩
  rw [zI_mul]
  have e8 : (p : Int) * 8 = ((8 * p : Nat) : Int) := by omega
  rw [e8]
  refine cs_sweep_loop hp 8 (8 * p) 0 _ _ h1 hA1 (by omega) (fun M' hM => ?_)
  have e9 : zsum (fun u => if aset A 17 p 0 18 u ≠ 0 ∧ aset A 17 p 0 20 u ≠ 0 then 1 else 0) 8 (8 * p) = a_kept A p := zsum_congr 8 (8 * p) (fun j _ _ => by rw [as_id (by decide), as_id (by decide)])
  have hg : 0 ≤ a_kept A p ∧ a_kept A p ≤ 8 := by
    have := zsum_rg (f := fun u => if A 18 u ≠ 0 ∧ A 20 u ≠ 0 then 1 else 0) (b := 1) 8 (8 * p) (fun j _ _ => by split <;> omega)
    have h2 : zsum (fun u => if A 18 u ≠ 0 ∧ A 20 u ≠ 0 then 1 else 0) 8 (8 * p) = a_kept A p := rfl
    rw [h2] at this
    omega
  rw [e9, Int.zero_add]
  have hk : ∀ (k u : Nat) (B : zA), a_swF k u B 16 p = B 16 p := by
    intro k
    induction k with
    | zero => intro u B; rfl
    | succ k ih =>
      intro u B
      rw [a_swF, ih]
      unfold a_swU
      split
      · rw [as_id (by decide), as_id (by decide), as_id (by decide)]
      · rfl
  have hkp := hA.1 p hp
  refine zk_n (fun q => ?_) (fun q => ⟨zk_i, ?_⟩)
  · unfold a_sweep at hP
    simp only at hP
    rw [if_neg q] at hP
    exact hP _ hM
  · rw [hM.kd hp, hk, as_id (by decide)]
    refine cs_pages hkp.1 hkp.2 ?_
    have hw := a_wide_rg hkp.1 hkp.2
    refine cs_fillP hM (by omega) (by omega) (by omega) ?_
    unfold a_sweep at hP
    simp only at hP
    rw [if_pos q] at hP
    exact hP
theorem cs_sws_loop {P : Int32 → zh_M → Prop} {most : Int} (hm : zb most) : ∀ (k p : Nat) (n : Int) (M : zh_M) (A : zA), RC M A M0 → iHp A → p + k = 16 → 0 ≤ n → n ≤ p → (∀ M', RC M' (a_sws most k p n A).2 M0 → P (zI (a_sws most k p n A).1) M') → wl_X3_sweepSpans_4 (zI most) P (k + 1) (zI n) (zI (p : Int)) M := by
  intro k
  induction k with
  | zero =>
    intro p n M A h hA hp n1 n2 hP
    unfold wl_X3_sweepSpans_4
    exact zk_m (fun _ => hP _ h) (fun q => by omega)
  | succ k ih =>
    intro p n M A h hA hp n1 n2 hP
    have hp2 : p < 16 := by omega
    have hu := hA.2.1 p hp2
    obtain ⟨m1, m2⟩ := hm
    unfold wl_X3_sweepSpans_4
    rw [zI_cl (by omega) (by omega), show ((p : Int)).toNat = p by omega, h.un hp2]
    refine zk_m (fun q => by omega) (fun q => zk_m (fun q1 => ?_) (fun q1 => ⟨zk_i, zk_e (fun q2 => ?_) (fun q2 => cs_sweep hp2 h hA (fun M' hM => ?_))⟩))
    · rw [a_sws, if_neg (by omega)] at hP
      exact hP _ h
    · rw [a_sws, if_pos (by omega), if_pos q2] at hP
      rw [zI_add]
      exact ih (p + 1) n M A h hA (by omega) (by omega) (by omega) hP
    · rw [a_sws, if_pos (by omega), if_neg q2] at hP
      rw [zI_add, zI_add]
      exact ih (p + 1) (n + 1) _ _ hM (iHp_sweep hA p) (by omega) (by omega) (by omega) hP
theorem cs_sweeps {P : Int32 → zh_M → Prop} {most : Int} (hm : zb most) (h : RC M A M0) (hA : iHp A) (hP : ∀ M', RC M' (a_sweeps A most).2 M0 → P (zI (a_sweeps A most).1) M') : wp_X3_sweepSpans M (zI most) P := ⟨17, cs_sws_loop hm 16 0 0 M A h hA (by omega) (by omega) (by omega) hP⟩
end HEP
