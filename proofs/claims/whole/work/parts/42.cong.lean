section CNG
variable {N : Int} {A B : zA} {X : List Nat}
theorem JF_c (hr : ∀ a, X.elem a = false → B a = A a) (hx : ∀ a ∈ [2, 3, 4, 5, 6, 7, 8, 9, 10, 11, 13, 25, 26, 27, 29, 30, 32], X.elem a = false) (e14_0 : B 14 0 = A 14 0) (h : JF N A) : JF N B := by
  unfold JF
  rw [hr 2 (hx 2 (by decide)), hr 3 (hx 3 (by decide)), hr 4 (hx 4 (by decide)), hr 5 (hx 5 (by decide)), hr 6 (hx 6 (by decide)), hr 7 (hx 7 (by decide)), hr 8 (hx 8 (by decide)), hr 9 (hx 9 (by decide)), hr 10 (hx 10 (by decide)), hr 11 (hx 11 (by decide)), hr 13 (hx 13 (by decide)), hr 25 (hx 25 (by decide)), hr 26 (hx 26 (by decide)), hr 27 (hx 27 (by decide)), hr 29 (hx 29 (by decide)), hr 30 (hx 30 (by decide)), hr 32 (hx 32 (by decide)), e14_0]
  exact h
theorem JC_c (hr : ∀ a, X.elem a = false → B a = A a) (hx : ∀ a ∈ [22], X.elem a = false) (h : JC A) : JC B := by
  unfold JC
  rw [hr 22 (hx 22 (by decide))]
  exact h
theorem JH_c (hr : ∀ a, X.elem a = false → B a = A a) (hx : ∀ a ∈ [16, 17, 18, 19, 20, 28], X.elem a = false) (e14_5 : B 14 5 = A 14 5) (e14_4 : B 14 4 = A 14 4) (h : JH A) : JH B := by
  unfold JH
  rw [hr 16 (hx 16 (by decide)), hr 17 (hx 17 (by decide)), hr 18 (hx 18 (by decide)), hr 19 (hx 19 (by decide)), hr 20 (hx 20 (by decide)), hr 28 (hx 28 (by decide)), e14_5, e14_4]
  exact h
theorem JV_c (hr : ∀ a, X.elem a = false → B a = A a) (hx : ∀ a ∈ [2, 3, 12, 21, 22, 15, 17, 18, 19, 20], X.elem a = false) (h : JV A) : JV B := by
  unfold JV
  rw [hr 2 (hx 2 (by decide)), hr 3 (hx 3 (by decide)), hr 12 (hx 12 (by decide)), hr 21 (hx 21 (by decide)), hr 22 (hx 22 (by decide)), hr 15 (hx 15 (by decide)), hr 17 (hx 17 (by decide)), hr 18 (hx 18 (by decide)), hr 19 (hx 19 (by decide)), hr 20 (hx 20 (by decide))]
  exact h
theorem JK_c (hr : ∀ a, X.elem a = false → B a = A a) (hx : ∀ a ∈ [17, 18, 20, 34], X.elem a = false) (h : JK A) : JK B := by
  unfold JK
  rw [hr 17 (hx 17 (by decide)), hr 18 (hx 18 (by decide)), hr 20 (hx 20 (by decide)), hr 34 (hx 34 (by decide))]
  exact h
theorem JM_c (hr : ∀ a, X.elem a = false → B a = A a) (hx : ∀ a ∈ [2, 3, 6, 12, 21, 22, 15, 18, 19, 20, 23, 24, 33, 28, 31], X.elem a = false) (e14_5 : B 14 5 = A 14 5) (e14_4 : B 14 4 = A 14 4) (h : JM A) : JM B := by
  unfold JM
  rw [hr 2 (hx 2 (by decide)), hr 3 (hx 3 (by decide)), hr 6 (hx 6 (by decide)), hr 12 (hx 12 (by decide)), hr 21 (hx 21 (by decide)), hr 22 (hx 22 (by decide)), hr 15 (hx 15 (by decide)), hr 18 (hx 18 (by decide)), hr 19 (hx 19 (by decide)), hr 20 (hx 20 (by decide)), hr 23 (hx 23 (by decide)), hr 24 (hx 24 (by decide)), hr 33 (hx 33 (by decide)), hr 28 (hx 28 (by decide)), hr 31 (hx 31 (by decide)), e14_5, e14_4]
  exact h
theorem JN_c (hr : ∀ a, X.elem a = false → B a = A a) (e14_8 : B 14 8 = A 14 8) (e14_9 : B 14 9 = A 14 9) (h : JN N A) : JN N B := by
  unfold JN
  rw [e14_8, e14_9]
  exact h
end CNG
abbrev dkA (A : zA) (p : Int) : Prop := dkf (A 18) (A 24) (A 33) (A 28) (A 15) (A 20) p
section KEP
variable {N : Int} {A : zA}
theorem J_dk (hJ : JJ N A) (hm : A 14 5 ≠ 0) {p : Int} (hp : okf (A 17) (A 18) (A 20) p) (h : mkf (A 20) p) : dkA A p := by
  rcases hp with e | ⟨p1, p2, p3, p4⟩
  · exact Or.inl e
  · have h2 := h.resolve_left (by omega)
    have hu : (p / 2).toNat < 128 := by omega
    have hb := hJ.2.2.2.2.1.2.2.1 _ hu
    by_cases e : A 20 (p / 2).toNat = 1
    · exact Or.inr (Or.inl e)
    · refine Or.inr (Or.inr ⟨p1, fun S hcl => ?_⟩)
      have := (hJ.2.2.2.2.2.2.2.1 hm).2.2.2.2.2.2.1 S hcl _ hu (by omega)
      rwa [show 2 * (p / 2).toNat = p.toNat by omega] at this
theorem one_row {A : zA} {x k : Nat} {v : Int} : ∀ a, [x].elem a = false → aset A x k v a = A a := fun a ha => as_rne (fun e => by rw [e] at ha; simp at ha)
theorem JJ.up (h : JJ N A) (hN : N + 1 ≤ 1000) : JJ (N + 1) A := by
  obtain ⟨n1, n2, hF, hC, hH, hV, hK, hM, hN'⟩ := h
  obtain ⟨f1, f2, f3, f4, f5, f6, f7, f8, f9⟩ := hF
  obtain ⟨g1, g2, g3, g4⟩ := hN'
  refine ⟨by omega, hN, ⟨f1, f2, f3, f4, fun i hi => ?_, f6, f7, f8, by omega⟩, hC, hH, hV, hK, hM, g1, by omega, g3, g4⟩
  obtain ⟨x1, x2, x3, x4⟩ := f5 i hi
  exact ⟨x1, x2, x3, by omega⟩
theorem J_cell {i q : Nat} {p : Int} (hJ : JJ N A) (hi : i < 6) (hq : q < 64) (hp : okf (A 17) (A 18) (A 20) p) (hm : A 14 5 ≠ 0 → A 2 i ≠ 0 → A 6 i ≠ 0 → dkA A p) : JJ N (aset A 12 (64 * i + q) p) := by
  obtain ⟨n1, n2, hF, hC, hH, hV, hK, hM, hN⟩ := hJ
  have hr : ∀ a, [12].elem a = false → aset A 12 (64 * i + q) p a = A a := one_row
  refine ⟨n1, n2, JF_c hr (by decide) (as_id (by decide)) hF, JC_c hr (by decide) hC, JH_c hr (by decide) (as_id (by decide)) (as_id (by decide)) hH, ?_, JK_c hr (by decide) hK, ?_, JN_c hr (as_id (by decide)) (as_id (by decide)) hN⟩
  · unfold JV
    rw [hr 2 rfl, hr 3 rfl, hr 21 rfl, hr 22 rfl, hr 15 rfl, hr 17 rfl, hr 18 rfl, hr 19 rfl, hr 20 rfl]
    obtain ⟨v1, v2, v3⟩ := hV
    refine ⟨fun j hj hs r hrr => ?_, v2, v3⟩
    by_cases e : 64 * j + r = 64 * i + q
    · rw [e, as_same]; exact hp
    · rw [as_ix e]; exact v1 j hj hs r hrr
  · unfold JM
    rw [hr 2 rfl, hr 3 rfl, hr 6 rfl, hr 21 rfl, hr 22 rfl, hr 15 rfl, hr 18 rfl, hr 19 rfl, hr 20 rfl, hr 23 rfl, hr 24 rfl, hr 33 rfl, hr 28 rfl, hr 14 rfl, hr 31 rfl]
    intro hm5
    obtain ⟨m1, m2, m3, m4, ⟨m5, m5'⟩, m6, m7, m8⟩ := hM hm5
    refine ⟨m1, m2, m3, m4, ⟨fun j hj hs hc r hrr => ?_, m5'⟩, m6, m7, m8⟩
    by_cases e : 64 * j + r = 64 * i + q
    · rw [e, as_same]
      have := (hF.2.1 j hj hs).1.2
      have ej : j = i := by omega
      subst ej
      exact hm hm5 hs hc
    · rw [as_ix e]; exact m5 j hj hs hc r hrr
theorem J_end {f : Int} (hJ : JJ N A) : JJ N (a_end A f).2 := by
  unfold a_end
  split
  · rename_i w
    show JJ N (aset A 2 f.toNat 0)
    obtain ⟨n1, n2, hF, hC, hH, hV, hK, hM, hN⟩ := hJ
    have hr : ∀ a, [2].elem a = false → aset A 2 f.toNat 0 a = A a := one_row
    have lv : ∀ i, aset A 2 f.toNat 0 2 i ≠ 0 → A 2 i ≠ 0 ∧ aset A 2 f.toNat 0 2 i = A 2 i := by
      intro i h
      by_cases e : i = f.toNat
      · rw [e, as_same] at h; exact absurd rfl h
      · rw [as_ix e] at h ⊢; exact ⟨h, rfl⟩
    refine ⟨n1, n2, ?_, JC_c hr (by decide) hC, JH_c hr (by decide) (as_id (by decide)) (as_id (by decide)) hH, ?_, JK_c hr (by decide) hK, ?_, JN_c hr (as_id (by decide)) (as_id (by decide)) hN⟩
    · unfold JF
      rw [hr 3 rfl, hr 4 rfl, hr 5 rfl, hr 6 rfl, hr 7 rfl, hr 8 rfl, hr 9 rfl, hr 10 rfl, hr 11 rfl, hr 13 rfl, hr 25 rfl, hr 26 rfl, hr 27 rfl, hr 29 rfl, hr 30 rfl, hr 32 rfl, hr 14 rfl]
      obtain ⟨f1, f2, f3, f4, f5, f6, f7⟩ := hF
      refine ⟨fun i hi => ?_, fun i hi hs => f2 i hi (lv i hs).1, fun i hi hs => f3 i hi (lv i hs).1, f4, f5, fun i hi hs => ?_, f7⟩
      · by_cases e : i = f.toNat
        · rw [e, as_same]; omega
        · rw [as_ix e]; exact f1 i hi
      · have h2 := lv i (by omega)
        rw [h2.2] at hs
        exact f6 i hi hs
    · unfold JV
      rw [hr 3 rfl, hr 12 rfl, hr 21 rfl, hr 22 rfl, hr 15 rfl, hr 17 rfl, hr 18 rfl, hr 19 rfl, hr 20 rfl]
      obtain ⟨v1, v2, v3⟩ := hV
      exact ⟨fun i hi hs => v1 i hi (lv i hs).1, v2, v3⟩
    · unfold JM
      rw [hr 3 rfl, hr 6 rfl, hr 12 rfl, hr 21 rfl, hr 22 rfl, hr 15 rfl, hr 18 rfl, hr 19 rfl, hr 20 rfl, hr 23 rfl, hr 24 rfl, hr 33 rfl, hr 28 rfl, hr 14 rfl, hr 31 rfl]
      intro hm5
      obtain ⟨m1, m2, m3, m4, ⟨m5, m5'⟩, m6, m7, m8⟩ := hM hm5
      exact ⟨m1, m2, m3, m4, ⟨fun i hi hs => m5 i hi (lv i hs).1, m5'⟩, m6, m7, m8⟩
  · exact hJ
theorem J_rdy {i : Nat} (hJ : JJ N A) (hi0 : i < 6) (hl : A 2 i ≠ 0) : JJ N (aset A 2 i 1) := by
  obtain ⟨n1, n2, hF, hC, hH, hV, hK, hM, hN⟩ := hJ
  have hr : ∀ a, [2].elem a = false → aset A 2 i 1 a = A a := one_row
  have lv : ∀ j, aset A 2 i 1 2 j ≠ 0 → A 2 j ≠ 0 := by
    intro j h
    by_cases e : j = i
    · rw [e]; exact hl
    · rw [as_ix e] at h; exact h
  refine ⟨n1, n2, ?_, JC_c hr (by decide) hC, JH_c hr (by decide) (as_id (by decide)) (as_id (by decide)) hH, ?_, JK_c hr (by decide) hK, ?_, JN_c hr (as_id (by decide)) (as_id (by decide)) hN⟩
  · unfold JF
    rw [hr 3 rfl, hr 4 rfl, hr 5 rfl, hr 6 rfl, hr 7 rfl, hr 8 rfl, hr 9 rfl, hr 10 rfl, hr 11 rfl, hr 13 rfl, hr 25 rfl, hr 26 rfl, hr 27 rfl, hr 29 rfl, hr 30 rfl, hr 32 rfl, hr 14 rfl]
    obtain ⟨f1, f2, f3, f4, f5, f6, f7⟩ := hF
    refine ⟨fun j hj => ?_, fun j hj hs => f2 j hj (lv j hs), fun j hj hs => f3 j hj (lv j hs), f4, f5, fun j hj hs => ?_, f7⟩
    · by_cases e : j = i
      · rw [e, as_same]; omega
      · rw [as_ix e]; exact f1 j hj
    · by_cases e : j = i
      · rw [e, as_same] at hs; omega
      · rw [as_ix e] at hs; exact f6 j hj hs
  · unfold JV
    rw [hr 3 rfl, hr 12 rfl, hr 21 rfl, hr 22 rfl, hr 15 rfl, hr 17 rfl, hr 18 rfl, hr 19 rfl, hr 20 rfl]
    obtain ⟨v1, v2, v3⟩ := hV
    exact ⟨fun j hj hs => v1 j hj (lv j hs), v2, v3⟩
  · unfold JM
    rw [hr 3 rfl, hr 6 rfl, hr 12 rfl, hr 21 rfl, hr 22 rfl, hr 15 rfl, hr 18 rfl, hr 19 rfl, hr 20 rfl, hr 23 rfl, hr 24 rfl, hr 33 rfl, hr 28 rfl, hr 14 rfl, hr 31 rfl]
    intro hm5
    obtain ⟨m1, m2, m3, m4, ⟨m5, m5'⟩, m6, m7, m8⟩ := hM hm5
    exact ⟨m1, m2, m3, m4, ⟨fun j hj hs => m5 j hj (lv j hs), m5'⟩, m6, m7, m8⟩
theorem J_wake {f : Int} (hJ : JJ N A) : JJ N (a_wake A f).2 := by
  unfold a_wake
  split
  · rename_i w
    obtain ⟨⟨w1, w2, w3⟩, w4⟩ := w
    exact J_rdy hJ (by omega) w3
  · exact hJ
theorem J_pfm (hJ : JJ N A) {i : Nat} (hi : i < 6) (hl : A 2 i ≠ 0) (k : Int) : A 14 5 ≠ 0 → A 2 i ≠ 0 → A 6 i ≠ 0 → dkA A (a_pf A i k) := by
  intro hm _ hc
  obtain ⟨n1, n2, hF, hC, hH, hV, hK, hM, hN⟩ := hJ
  obtain ⟨f1, f2⟩ := hF.fs.2 i hi hl
  have hg := a_ci_rg (k := k) f1 f2
  unfold a_pf
  split
  · exact Or.inl rfl
  · exact (hM hm).2.2.2.2.1.1 i hi hl hc _ (by omega)
theorem J_fc {i : Nat} {k p : Int} (hJ : JJ N A) (hi : i < 6) (hl : A 2 i ≠ 0) (hp : okf (A 17) (A 18) (A 20) p) (hm : A 14 5 ≠ 0 → A 2 i ≠ 0 → A 6 i ≠ 0 → dkA A p) : JJ N (a_fc A i k p) := by
  obtain ⟨f1, f2⟩ := hJ.2.2.1.fs.2 i hi hl
  have hg := a_ci_rg (k := k) f1 f2
  have := f1.2
  unfold a_fc
  split
  · exact hJ
  · exact J_cell hJ hi (by omega) hp hm
theorem J_copy {f t s : Int} (hJ : JJ N A) : JJ N (a_copy A f t s).2 := by
  unfold a_copy
  split
  · rename_i w
    have hl : A 2 f.toNat ≠ 0 := by rw [w.1.2.2]; decide
    have hi : f.toNat < 6 := by have := w.1.1; have := w.1.2.1; omega
    exact J_fc hJ hi hl (J_pf hJ.2.2.1 hJ.2.2.2.2.2.1 hi hl s) (J_pfm hJ hi hl s)
  · exact hJ
theorem J_word (hJ : JJ N A) {i : Nat} (hi : i < 6) (hl : A 2 i ≠ 0) {k w : Int} (hw : a_pw A (a_pf A i k) w) : okf (A 17) (A 18) (A 20) (A 15 (a_pf A i k + w).toNat) ∧ (A 14 5 ≠ 0 → A 2 i ≠ 0 → A 6 i ≠ 0 → dkA A (A 15 (a_pf A i k + w).toNat)) ∧ ∃ u : Nat, u < 128 ∧ a_pf A i k = 2 * (u : Int) ∧ lvf (A 17) (A 18) (A 20) u ∧ 0 ≤ w ∧ w < A 19 u ∧ (a_pf A i k + w).toNat = 2 * u + w.toNat := by
  have hp := J_pf hJ.2.2.1 hJ.2.2.2.2.2.1 hi hl k
  have hpm := J_pfm hJ hi hl k
  have hJ' := hJ
  obtain ⟨n1, n2, hF, hC, hH, hV, hK, hM, hN⟩ := hJ
  obtain ⟨w1, w2, w3, w4⟩ := hw
  rcases hp with e | ⟨p1, p2, p3, p4⟩
  · omega
  · have hu : (a_pf A i k / 2).toNat < 128 := by omega
    have ea : (a_pf A i k + w).toNat = 2 * (a_pf A i k / 2).toNat + w.toNat := by omega
    have hok : okf (A 17) (A 18) (A 20) (A 15 (2 * (a_pf A i k / 2).toNat + w.toNat)) := hV.2.2 _ hu p4 w.toNat (by omega)
    refine ⟨by rw [ea]; exact hok, fun hm h2 hc => ?_, (a_pf A i k / 2).toNat, hu, by omega, p4, w3, w4, ea⟩
    rw [ea]
    rcases (hpm hm h2 hc) with e | e | ⟨e1, e2⟩
    · omega
    · refine J_dk hJ' hm hok ((hM hm).2.2.2.1 _ hu (by rw [e]; decide) (fun hpn => ?_) w.toNat (by omega))
      obtain ⟨j, j1, j2⟩ := hpn
      obtain ⟨v, v1, v2, v3⟩ := (hM hm).2.2.1.1 j j1
      have : v = (a_pf A i k / 2).toNat := by omega
      rw [this, e] at v3
      omega
    · rcases hok with c | ⟨c1, c2, c3, c4⟩
      · exact Or.inl c
      · have hv : (A 15 (2 * (a_pf A i k / 2).toNat + w.toNat) / 2).toNat < 128 := by omega
        have hy := (hM hm).1.1 _ hv
        by_cases ey : A 20 (A 15 (2 * (a_pf A i k / 2).toNat + w.toNat) / 2).toNat = 1
        · exact Or.inr (Or.inl ey)
        · rw [if_neg ey] at hy
          refine Or.inr (Or.inr ⟨c1, fun S hcl => ?_⟩)
          have hs := e2 S hcl
          have hpl := hH.pl _ hu p4.1
          refine hcl.2 (a_pf A i k).toNat (by omega) (by omega) (by rw [show (a_pf A i k).toNat / 2 = (a_pf A i k / 2).toNat by omega]; have := (hH.2.2.1 _ hu).1; have := p4.1; omega) hs w.toNat (by rw [show (a_pf A i k).toNat / 2 = (a_pf A i k / 2).toNat by omega, hpl]; omega) _ (by omega) (by rw [show (a_pf A i k).toNat + w.toNat = 2 * (a_pf A i k / 2).toNat + w.toNat by omega]; omega) ?_
          rw [show (A 15 (2 * (a_pf A i k / 2).toNat + w.toNat)).toNat = 2 * (A 15 (2 * (a_pf A i k / 2).toNat + w.toNat) / 2).toNat by omega]
          exact hy
theorem J_get {f t k w : Int} (hJ : JJ N A) : JJ N (a_get A f t k w).2 := by
  unfold a_get
  split
  · rename_i v
    have hl : A 2 f.toNat ≠ 0 := by rw [v.1.2.2]; decide
    have hi : f.toNat < 6 := by have := v.1.1; have := v.1.2.1; omega
    obtain ⟨g1, g2, -⟩ := J_word hJ hi hl v.2.2.2
    exact J_fc hJ hi hl g1 g2
  · exact hJ
end KEP
