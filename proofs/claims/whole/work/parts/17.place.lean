section PLC
variable {M M0 : zh_M} {A : zA}
theorem cs_open_loop {P : Int32 → zh_M → Prop} {p : Nat} {slot : Int} (hp : p < 16) (h : RC M A M0) (hA : iHp A) (hs : 2 ≤ slot) (hs2 : slot < 16) : ∀ (k : Nat) (off : Int), 0 ≤ off → off < 32 → 16 ≤ off + slot * k → P (zI (a_openF A p slot k off)) M → wl_X3_openSlot_25 (zI slot) (zI ((p : Int) * 16)) P (k + 1) (zI off) M := by
  intro k
  induction k with
  | zero =>
    intro off h1 h2 h3 hP
    unfold wl_X3_openSlot_25
    exact zk_m (fun _ => hP) (fun q => by omega)
  | succ k ih =>
    intro off h1 h2 h3 hP
    unfold wl_X3_openSlot_25
    rw [zI_add]
    refine zk_m (fun q => ?_) (fun q => ?_)
    · rwa [a_openF, if_neg (by omega)] at hP
    · have hu : (((p : Int) * 16 + off) / 2).toNat < 128 := by omega
      obtain ⟨x1, x2, x3, x4, x5, x6⟩ := hA.2.2 _ hu
      rw [zI_div (by omega) (by omega) (by omega) (by omega), zI_cl (by omega) (by omega), h.sz hu]
      have e : 16 * (p : Int) + off = (p : Int) * 16 + off := by omega
      rw [a_openF, if_pos (by omega), e] at hP
      refine ⟨zk_i, zk_n (fun q1 => ?_) (fun q1 => ?_)⟩
      · rw [if_neg q1] at hP
        rw [zI_add]
        refine ih (off + slot) (by omega) (by omega) ?_ hP
        have e2 : slot * ((k + 1 : Nat) : Int) = slot * k + slot := by rw [Int.natCast_add, Int.mul_add]; simp
        omega
      · rwa [if_pos q1] at hP
theorem cs_open {P : Int32 → zh_M → Prop} {p : Nat} {slot : Int} (hp : p < 16) (h : RC M A M0) (hA : iHp A) (hs : 2 ≤ slot) (hs2 : slot < 16) (hP : P (zI (a_open A p slot)) M) : wp_X3_openSlot M (zI (p : Int)) (zI slot) P := by
  have hk := hA.1 p hp
  unfold wp_X3_openSlot
  rw [zI_cl (by omega) (by omega), show ((p : Int)).toNat = p by omega, h.kd hp, zI_mul]
  refine ⟨zk_i, zk_n (fun q => ?_) (fun q => zk_m (fun _ => ⟨9, ?_⟩) (fun q2 => by omega))⟩
  · rwa [a_open, if_neg q] at hP
  · rw [a_open, if_pos q] at hP
    exact cs_open_loop hp h hA hs hs2 8 0 (by omega) (by omega) (by omega) hP
theorem a_openF_rg {p : Nat} {slot : Int} (hs : 2 ≤ slot) : ∀ (k : Nat) (off : Int), 0 ≤ off → a_openF A p slot k off = -1 ∨ (16 * (p : Int) + off ≤ a_openF A p slot k off ∧ a_openF A p slot k off < 16 * (p : Int) + 16 ∧ (∃ j : Int, a_openF A p slot k off = 16 * (p : Int) + off + slot * j) ∧ A 18 (a_openF A p slot k off / 2).toNat = 0) := by
  intro k
  induction k with
  | zero => intro off h; exact Or.inl rfl
  | succ k ih =>
    intro off h
    unfold a_openF
    split
    · split
      · rename_i h1 h2
        exact Or.inr ⟨by omega, by omega, ⟨0, by simp⟩, h2⟩
      · rcases ih (off + slot) (by omega) with h3 | ⟨h3, h4, ⟨j, h5⟩, h6⟩
        · exact Or.inl h3
        · refine Or.inr ⟨by omega, h4, ⟨j + 1, ?_⟩, h6⟩
          rw [h5, Int.mul_add]
          omega
    · exact Or.inl rfl
theorem cs_spans_loop {P : Int32 → zh_M → Prop} {slot : Int} (hs : 2 ≤ slot) (hs2 : slot < 16) : ∀ (k p : Nat) (M : zh_M) (A : zA), RC M A M0 → iHp A → p + k = 16 → (∀ M', RC M' (a_spans slot k p A).2 M0 → P (zI (a_spans slot k p A).1) M') → wl_X3_slotInSpans_2 (zI slot) P (k + 1) (zI (p : Int)) M := by
  intro k
  induction k with
  | zero =>
    intro p M A h hA hp hP
    unfold wl_X3_slotInSpans_2
    exact zk_m (fun _ => hP _ h) (fun q => by omega)
  | succ k ih =>
    intro p M A h hA hp hP
    have hp2 : p < 16 := by omega
    have hk := hA.1 p hp2
    have hu := hA.2.1 p hp2
    unfold wl_X3_slotInSpans_2
    rw [zI_cl (by omega) (by omega), show ((p : Int)).toNat = p by omega, h.kd hp2, h.un hp2, zI_add]
    have hog : ∀ B : zA, -1 ≤ a_open B p slot ∧ a_open B p slot < 256 := by
      intro B
      unfold a_open
      split
      · rcases a_openF_rg (A := B) (p := p) hs 8 0 (by omega) with h1 | ⟨h1, h2, -⟩ <;> omega
      · omega
    refine zk_m (fun q => by omega) (fun q => ⟨zk_i, zk_n (fun q1 => ?_) (fun q1 => ⟨zk_i, zk_e (fun q2 => cs_open hp2 h hA hs hs2 ?_) (fun q2 => cs_sweep hp2 h hA (fun M' hM => cs_open hp2 hM (iHp_sweep hA p) hs hs2 ?_))⟩)⟩)
    · rw [a_spans, if_neg q1] at hP
      exact ih (p + 1) M A h hA (by omega) hP
    · have hg := hog A
      rw [a_spans, if_pos q1] at hP
      simp only [if_pos q2] at hP
      refine zk_e (fun q3 => ?_) (fun q3 => ?_)
      · simp only [if_pos q3] at hP
        exact ih (p + 1) M A h hA (by omega) hP
      · simp only [if_neg q3] at hP
        exact hP _ h
    · have hg := hog (a_sweep A p)
      rw [a_spans, if_pos q1] at hP
      simp only [if_neg q2] at hP
      refine zk_e (fun q3 => ?_) (fun q3 => ?_)
      · simp only [if_pos q3] at hP
        exact ih (p + 1) _ _ hM (iHp_sweep hA p) (by omega) hP
      · simp only [if_neg q3] at hP
        exact hP _ hM
theorem cs_spans {P : Int32 → zh_M → Prop} {slot : Int} (hs : 2 ≤ slot) (hs2 : slot < 16) (h : RC M A M0) (hA : iHp A) (hP : ∀ M', RC M' (a_spans slot 16 0 A).2 M0 → P (zI (a_spans slot 16 0 A).1) M') : wp_X3_slotInSpans M (zI slot) P := ⟨17, cs_spans_loop hs hs2 16 0 M A h hA (by omega) hP⟩
theorem cs_ends {P : Int32 → zh_M → Prop} {p : Nat} (hp : p < 16) (h : RC M A M0) (hA : iHp A) (h1 : a_ends A p → P (zI 1) M) (h0 : ¬ a_ends A p → P (zI 0) M) : wp_X3_endsRun M (zI (p : Int)) P := by
  have hk := hA.1 p hp
  unfold wp_X3_endsRun
  rw [zI_cl (by omega) (by omega), show ((p : Int)).toNat = p by omega, h.kd hp, zI_add]
  refine ⟨zk_i, zk_n (fun q => h0 (fun w => q w.1)) (fun q => zk_e (fun q1 => h1 ⟨q, Or.inl (by omega)⟩) (fun q1 => ⟨zk_i, ?_⟩))⟩
  have hp2 : p + 1 < 16 := by omega
  have hk2 := hA.1 (p + 1) hp2
  rw [zI_cl (by omega) (by omega), show ((p : Int) + 1).toNat = p + 1 by omega, h.kd hp2]
  exact zk_e (fun q2 => h0 (fun w => w.2.elim (fun e => by omega) (fun e => e q2))) (fun q2 => h1 ⟨q, Or.inr q2⟩)
theorem cs_run_loop {P : Int32 → zh_M → Prop} {need : Int} (h : RC M A M0) (hA : iHp A) (hn : 1 ≤ need) (hn2 : need ≤ 4) : ∀ (k p : Nat) (best bl len : Int), p + k = 16 → -1 ≤ best → best ≤ 16 → 0 ≤ bl → bl ≤ 17 → 0 ≤ len → len ≤ p → P (zI (a_runF A need k p best bl len)) M → wl_X3_shortestRun_11 (zI need) P (k + 1) (zI best) (zI bl) (zI len) (zI (p : Int)) M := by
  intro k
  induction k with
  | zero =>
    intro p best bl len hp b1 b2 b3 b4 l1 l2 hP
    unfold wl_X3_shortestRun_11
    exact zk_m (fun _ => hP) (fun q => by omega)
  | succ k ih =>
    intro p best bl len hp b1 b2 b3 b4 l1 l2 hP
    have hp2 : p < 16 := by omega
    have hk := hA.1 p hp2
    unfold wl_X3_shortestRun_11
    rw [zI_cl (by omega) (by omega), show ((p : Int)).toNat = p by omega, h.kd hp2, zI_add, zI_add, zI_sub, zI_sub, zI_add, zI_add]
    refine zk_m (fun q => by omega) (fun q => ⟨zk_i, zk_n (fun q1 => cs_ends hp2 h hA (fun w => absurd w.1 q1) (fun w => zk_e (fun _ => ?_) (fun q2 => absurd rfl q2))) (fun q1 => cs_ends hp2 h hA (fun w => zk_e (fun q2 => by omega) (fun _ => zk_l (fun q2 => ?_) (fun q2 => zk_m (fun q3 => ?_) (fun q3 => ?_)))) (fun w => zk_e (fun _ => ?_) (fun q2 => absurd rfl q2)))⟩)
    · rw [a_runF] at hP
      simp only [if_neg q1] at hP
      rw [if_neg (fun w2 => w w2.1)] at hP
      exact ih (p + 1) best bl 0 (by omega) b1 b2 b3 b4 (by omega) (by omega) hP
    · rw [a_runF] at hP
      simp only [if_pos q1] at hP
      rw [if_neg (fun w2 => by have := w2.2.1; omega)] at hP
      exact ih (p + 1) best bl (len + 1) (by omega) b1 b2 b3 b4 (by omega) (by omega) hP
    · rw [a_runF] at hP
      simp only [if_pos q1] at hP
      rw [if_neg (fun w2 => by have := w2.2.2; omega)] at hP
      exact ih (p + 1) best bl (len + 1) (by omega) b1 b2 b3 b4 (by omega) (by omega) hP
    · rw [a_runF] at hP
      simp only [if_pos q1] at hP
      rw [if_pos ⟨w, by omega, by omega⟩] at hP
      exact ih (p + 1) _ (len + 1) (len + 1) (by omega) (by omega) (by omega) (by omega) (by omega) (by omega) (by omega) hP
    · rw [a_runF] at hP
      simp only [if_pos q1] at hP
      rw [if_neg (fun w2 => w w2.1)] at hP
      exact ih (p + 1) best bl (len + 1) (by omega) b1 b2 b3 b4 (by omega) (by omega) hP
theorem cs_run {P : Int32 → zh_M → Prop} {need : Int} (h : RC M A M0) (hA : iHp A) (hn : 1 ≤ need) (hn2 : need ≤ 4) (hP : P (zI (a_run A need)) M) : wp_X3_shortestRun M (zI need) P := ⟨17, cs_run_loop h hA hn hn2 16 0 (-1) 17 0 (by omega) (by omega) (by omega) (by omega) (by omega) (by omega) (by omega) hP⟩
theorem a_runF_rg {need : Int} (hn : 1 ≤ need) : ∀ (k p : Nat) (best bl len : Int), p + k = 16 → 0 ≤ len → len ≤ p → (∀ j : Nat, j < p → (p : Int) - len ≤ j → A 16 j = 0) → (best = -1 ∨ (0 ≤ best ∧ best + need ≤ 16 ∧ ∀ j : Nat, best ≤ j → (j : Int) < best + need → A 16 j = 0)) → (a_runF A need k p best bl len = -1 ∨ (0 ≤ a_runF A need k p best bl len ∧ a_runF A need k p best bl len + need ≤ 16 ∧ ∀ j : Nat, a_runF A need k p best bl len ≤ j → (j : Int) < a_runF A need k p best bl len + need → A 16 j = 0)) := by
  intro k
  induction k with
  | zero => intro p best bl len hp l1 l2 hl hb; exact hb
  | succ k ih =>
    intro p best bl len hp l1 l2 hl hb
    have hl2 : ∀ j : Nat, j < p + 1 → ((p + 1 : Nat) : Int) - (if A 16 p = 0 then len + 1 else 0) ≤ j → A 16 j = 0 := by
      intro j h1 h2
      split at h2
      · by_cases e : j = p
        · subst e; assumption
        · exact hl j (by omega) (by omega)
      · omega
    have hl3 : 0 ≤ (if A 16 p = 0 then len + 1 else 0) ∧ (if A 16 p = 0 then len + 1 else 0) ≤ ((p + 1 : Nat) : Int) := by split <;> omega
    rw [a_runF]
    generalize (if A 16 p = 0 then len + 1 else 0) = l at hl2 hl3 ⊢
    split
    · rename_i w
      obtain ⟨w1, w2, w3⟩ := w
      refine ih (p + 1) _ _ _ (by omega) hl3.1 hl3.2 hl2 (Or.inr ⟨by omega, by omega, fun j h1 h2 => ?_⟩)
      exact hl2 j (by omega) (by omega)
    · exact ih (p + 1) best bl _ (by omega) hl3.1 hl3.2 hl2 hb
theorem a_run_rg {need : Int} (hn : 1 ≤ need) : a_run A need = -1 ∨ (0 ≤ a_run A need ∧ a_run A need + need ≤ 16 ∧ ∀ j : Nat, a_run A need ≤ j → (j : Int) < a_run A need + need → A 16 j = 0) := a_runF_rg hn 16 0 (-1) 17 0 (by omega) (by omega) (by omega) (fun j h1 h2 => by omega) (Or.inl rfl)
theorem cs_newS {P : Int32 → zh_M → Prop} {slot : Int} (hs : 2 ≤ slot) (hs2 : slot ≤ 64) (h : RC M A M0) (hA : iHp A) (hP : ∀ M', RC M' (a_newS A slot).2 M0 → P (zI (a_newS A slot).1) M') : wp_X3_slotInNewSpan M (zI slot) P := by
  have hw := a_wide_rg (k := slot) (by omega) hs2
  unfold wp_X3_slotInNewSpan
  refine cs_pages (by omega) hs2 (cs_run h hA hw.1 hw.2 ?_)
  have hg := a_run_rg (A := A) hw.1
  unfold a_newS at hP
  refine zk_n (fun q => ?_) (fun q => ?_)
  · obtain ⟨g1, g2, -⟩ := hg.resolve_left q
    rw [if_neg q] at hP
    have e : a_run A (a_wide slot) = ((a_run A (a_wide slot)).toNat : Int) := by omega
    rw [e]
    refine cs_fillP h (by omega) (by omega) (by omega) (fun M' hM => ?_)
    rw [zI_cl (by omega) (by omega), Int.toNat_natCast, zI_mul]
    refine ⟨zk_i, fun M6 e6 => ?_⟩
    subst e6
    rw [show ((a_run A (a_wide slot)).toNat : Int) * 16 = 16 * a_run A (a_wide slot) by omega]
    exact hP _ (hM.kd_ (by omega))
  · rw [if_pos q] at hP
    exact hP _ h
theorem cs_fillS_loop {P : zh_M → Prop} {a size ptrs : Int} (h1 : 0 ≤ a) (h2 : 0 ≤ size) (h3 : size ≤ 64) (h4 : a + size ≤ 256) (h5 : 0 ≤ ptrs) (h6 : ptrs ≤ 64) : ∀ (k w : Nat) (M : zh_M) (A : zA), RC M A M0 → (w : Int) + k = size → (∀ M', RC M' (a_wds a.toNat ptrs k w A) M0 → P M') → wl_X3_fillSlot_31 (zI a) (zI size) (zI ptrs) P (k + 1) (zI (w : Int)) M := by
  intro k
  induction k with
  | zero =>
    intro w M A h hw hP
    unfold wl_X3_fillSlot_31
    exact zk_m (fun _ => hP _ h) (fun q => by omega)
  | succ k ih =>
    intro w M A h hw hP
    unfold wl_X3_fillSlot_31
    rw [zI_add, zI_add]
    have e : (a + (w : Int)).toNat = a.toNat + w := by omega
    refine zk_m (fun q => by omega) (fun q => zk_m (fun q1 => ⟨zk_i, fun M4 e4 => ?_⟩) (fun q1 => ⟨zk_i, fun M4 e4 => ?_⟩))
    · rw [zI_cl (by omega) (by omega), e] at e4
      subst e4
      rw [a_wds, if_neg (by omega)] at hP
      exact ih (w + 1) _ _ (h.mem_ (by omega)) (by omega) hP
    · rw [zI_cl (by omega) (by omega), e] at e4
      subst e4
      rw [a_wds, if_pos (by omega)] at hP
      exact ih (w + 1) _ _ (h.mem_ (by omega)) (by omega) hP
theorem cs_fillS {P : zh_M → Prop} {a size ptrs mark : Int} (h : RC M A M0) (h1 : 0 ≤ a) (h2 : 1 ≤ size) (h3 : size ≤ 64) (h4 : a + size ≤ 256) (h5 : 0 ≤ ptrs) (h6 : ptrs ≤ 64) (hP : ∀ M', RC M' (a_fillS A a.toNat size ptrs mark) M0 → P M') : wp_X3_fillSlot M (zI a) (zI size) (zI ptrs) (zI mark) P := by
  unfold wp_X3_fillSlot
  rw [zI_div (by omega) (by omega) (by omega) (by omega), zI_cl (by omega) (by omega)]
  have e : (a / 2).toNat = a.toNat / 2 := by omega
  have hu : a.toNat / 2 < 128 := by omega
  rw [e]
  refine ⟨zk_i, fun M1 e1 => ⟨zk_i, fun M2 e2 => ⟨zk_i, fun M3 e3 => ⟨size.toNat + 1, ?_⟩⟩⟩⟩
  subst e1; subst e2; subst e3
  exact cs_fillS_loop h1 (by omega) h3 h4 h5 h6 size.toNat 0 _ _ (((((h.ghost (by decide)).ghost (by decide)).sz_ hu).pc_ hu).ma_ hu) (by omega) hP
end PLC
