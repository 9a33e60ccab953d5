section RWK
variable {M M0 : zh_M} {A : zA} {N : Int}
theorem rs_finish {P : zh_M → Prop} {d : Nat → Int} (h : RR M A M0) (hd : q_du M d) (hd1 : ∀ a, d a = 0 ∨ d a = 1) (hde : ∀ a, a < 256 → d a = 1 → a % 2 = 0) (hdm : ∀ u, u < 128 → d (2 * u) = if A 20 u = 2 then 1 else 0) (hJ : JJ N A) (hm : A 14 5 ≠ 0) (hP : ∀ M', RR M' (a_endM A) M0 → P M') : wp_X5_finish M P := by
  have hH := hJ.2.2.2.2.1
  obtain ⟨⟨m1, m1'⟩, m2, -⟩ := hJ.2.2.2.2.2.2.2.1 hm
  have hsz : ∀ u, u < 128 → 0 ≤ A 18 u ∧ A 18 u ≤ 64 ∧ 0 ≤ A 20 u ∧ A 20 u ≤ 2 := fun u hu => ⟨(hH.2.2.1 u hu).1, (hH.2.2.1 u hu).2.1, (hH.2.2.1 u hu).2.2.2.2.1, (hH.2.2.1 u hu).2.2.2.2.2⟩
  have hw : ∀ a, a < 256 → 0 ≤ w41 A a ∧ w41 A a ≤ 64 := by
    intro a ha
    unfold w41
    have := hsz (a / 2) (by omega)
    split <;> omega
  have hf : ∀ a, a < 256 → ((0 < w41 A a ∧ (A 33 a ≠ 0 ∨ d a ≠ 0)) ↔ (a % 2 = 0 ∧ A 18 (a / 2) ≠ 0 ∧ A 20 (a / 2) ≠ 0)) := by
    intro a ha
    unfold w41
    by_cases e : a % 2 = 0
    · rw [if_pos e]
      have hs := hsz (a / 2) (by omega)
      have e1 := m1 (a / 2) (by omega)
      have e1 : A 33 (2 * (a / 2)) = if A 20 (a / 2) = 1 then 1 else 0 := e1
      have e2 := hdm (a / 2) (by omega)
      rw [show 2 * (a / 2) = a by omega] at e1 e2
      rw [e1, e2]
      constructor
      · rintro ⟨x1, x2⟩
        refine ⟨e, by omega, ?_⟩
        intro x3
        rw [x3] at x2
        simp at x2
      · rintro ⟨-, x2, x3⟩
        refine ⟨by omega, ?_⟩
        by_cases x4 : A 20 (a / 2) = 1
        · left; rw [if_pos x4]; decide
        · right; rw [if_pos (by omega)]; decide
    · rw [if_neg e]
      constructor
      · rintro ⟨x1, -⟩; omega
      · rintro ⟨x1, -⟩; exact absurd x1 e
  unfold wp_X5_finish
  intro M1 e1
  subst e1
  refine ⟨257, rs_fin9 (A := A) (d := d) (f := fun a => if 0 < w41 A a ∧ (A 33 a ≠ 0 ∨ d a ≠ 0) then 1 else 0) hd1 hw (fun a ha => (m1' a ha).2) (fun a => rfl) 256 0 0 _ _ (by omega) (h.mk_ (v := 0)) (fun j hj => by rw [zs_id (by decide)]; exact hd j hj) (as_rne (by decide)) (as_rne (by decide)) (by omega) (by omega) (fun M15 h15 => ⟨17, rs_fin88 16 0 _ _ (by omega) h15 (fun q hq => by rw [c_row_pt, if_neg (by omega), as_id (by decide)]; exact hH.1 q hq) (fun M19 h19 M21 e21 => ?_)⟩)⟩
  subst e21
  have hsum : zsum (fun a => if (if 0 < w41 A a ∧ (A 33 a ≠ 0 ∨ d a ≠ 0) then (1 : Int) else 0) = 0 then 0 else a_slot (w41 A a)) 256 0 = a_keptW A := by
    have hz := zsum_even (d := fun a => if (if 0 < w41 A a ∧ (A 33 a ≠ 0 ∨ d a ≠ 0) then (1 : Int) else 0) = 0 then 0 else a_slot (w41 A a)) 128 0 (fun u _ hu => by
      have : w41 A (2 * u + 1) = 0 := by unfold w41; rw [if_neg (by omega)]
      show (if (if 0 < w41 A (2 * u + 1) ∧ (A 33 (2 * u + 1) ≠ 0 ∨ d (2 * u + 1) ≠ 0) then (1 : Int) else 0) = 0 then (0 : Int) else a_slot (w41 A (2 * u + 1))) = 0
      rw [if_neg (show ¬ (0 < w41 A (2 * u + 1) ∧ (A 33 (2 * u + 1) ≠ 0 ∨ d (2 * u + 1) ≠ 0)) by omega), if_pos rfl])
    refine hz.trans (zsum_ext 128 0 (fun u _ hu => ?_))
    have hfu := hf (2 * u) (by omega)
    rw [show 2 * u / 2 = u by omega] at hfu
    show (if (if 0 < w41 A (2 * u) ∧ (A 33 (2 * u) ≠ 0 ∨ d (2 * u) ≠ 0) then (1 : Int) else 0) = 0 then (0 : Int) else a_slot (w41 A (2 * u))) = if A 18 u ≠ 0 ∧ A 20 u ≠ 0 then a_slot (A 18 u) else 0
    by_cases e : A 18 u ≠ 0 ∧ A 20 u ≠ 0
    · rw [if_pos (hfu.2 ⟨by omega, e⟩), if_neg (by decide), if_pos e]
      unfold w41
      rw [if_pos (by omega), show 2 * u / 2 = u by omega]
    · rw [if_neg (fun w => e (hfu.1 w).2), if_pos rfl, if_neg e]
  have hkw : a_keptW (aset (a_unsw 16 0 (aset A 14 5 0)) 14 8 0) = a_keptW A := by
    unfold a_keptW
    refine zsum_ext 128 0 (fun u _ hu => ?_)
    have e18 : aset (a_unsw 16 0 (aset A 14 5 0)) 14 8 0 18 u = A 18 u := by rw [as_id (by decide), a_unsw_pt, if_neg (by omega), as_id (by decide)]
    have e20 : aset (a_unsw 16 0 (aset A 14 5 0)) 14 8 0 20 u = A 20 u := by rw [as_id (by decide), a_unsw_pt, if_neg (by omega), as_id (by decide)]
    rw [e18, e20]
  have hkr : 0 ≤ a_keptW A ∧ a_keptW A ≤ 8192 := by
    have q : ∀ (k i : Nat), i + k ≤ 128 → 0 ≤ zsum (fun u => if A 18 u ≠ 0 ∧ A 20 u ≠ 0 then a_slot (A 18 u) else 0) k i ∧ zsum (fun u => if A 18 u ≠ 0 ∧ A 20 u ≠ 0 then a_slot (A 18 u) else 0) k i ≤ 64 * k := by
      intro k
      induction k with
      | zero => intro i hi; exact ⟨Int.le_refl _, Int.le_refl _⟩
      | succ k ih =>
        intro i hi
        rw [zsum]
        have h1 := ih (i + 1) (by omega)
        have h2 := hsz i (by omega)
        have h3 := a_slot_rg h2.1 h2.2.1
        split <;> omega
    exact q 128 0 (by omega)
  have fin : ∀ M', RR M' (aset (aset (a_unsw 16 0 (c_row (fun a => if 0 < w41 A a ∧ (A 33 a ≠ 0 ∨ d a ≠ 0) then 1 else 0) 256 0 (aset A 14 5 0))) 14 8 0) 14 9 (if a_keptW A / 2 < 64 then 64 else a_keptW A / 2)) M0 → P M' := by
    intro M' hM
    refine hP M' (hM.congr (fun a k ha => ?_))
    unfold a_endM
    simp only [hkw]
    by_cases e34 : a = 34
    · subst e34
      have k256 : k < 256 := by
        unfold zr_in at ha
        simp at ha
        exact ha
      have hfk := hf k k256
      rw [as_id (by decide), as_id (by decide), a_unsw_pt, if_neg (by omega), c_row_pt, if_pos ⟨rfl, by omega, by omega⟩, ar_row]
      show (if 0 < w41 A k ∧ (A 33 k ≠ 0 ∨ d k ≠ 0) then (1 : Int) else 0) = if k % 2 = 0 ∧ A 18 (k / 2) ≠ 0 ∧ A 20 (k / 2) ≠ 0 then 1 else 0
      by_cases e : k % 2 = 0 ∧ A 18 (k / 2) ≠ 0 ∧ A 20 (k / 2) ≠ 0
      · rw [if_pos (hfk.2 e), if_pos e]
      · rw [if_neg (fun w => e (hfk.1 w)), if_neg e]
    · rw [ar_rne e34]
      unfold aset
      by_cases c1 : a = 14 ∧ k = 9
      · rw [if_pos c1, if_pos c1]
      rw [if_neg c1, if_neg c1]
      by_cases c2 : a = 14 ∧ k = 8
      · rw [if_pos c2, if_pos c2]
      rw [if_neg c2, if_neg c2, a_unsw_pt, a_unsw_pt, c_row_pt, if_neg (show ¬ (16 = 34 ∧ 0 ≤ k ∧ k < 0 + 256) by omega), c_row_pt, if_neg (show ¬ (a = 34 ∧ 0 ≤ k ∧ k < 0 + 256) by omega)]
  have h21 := h19.fh_ (v := 0)
  have es : (0 : Int) + zsum (fun a => if (fun a => if 0 < w41 A a ∧ (A 33 a ≠ 0 ∨ d a ≠ 0) then (1 : Int) else 0) a = 0 then 0 else a_slot (w41 A a)) 256 0 = a_keptW A := by
    rw [Int.zero_add]
    exact hsum
  rw [es, zI_div (by omega) (by omega) (by omega) (by omega)]
  refine zk_m (fun q M22 e22 => ?_) (fun q M22 e22 => ?_)
  · subst e22
    have := h21.tg_ (v := a_keptW A / 2)
    rw [if_neg (by omega)] at fin
    exact fin _ this
  · subst e22
    have := h21.tg_ (v := 64)
    rw [if_pos (by omega)] at fin
    exact fin _ this
theorem rs_w126 {K P : Int32 → zh_M → Prop} {l : Int32} (hst : iSt A) (hsc : ∀ i, i < 6 → A 6 i = 0 ∨ A 6 i = 1) (h : RR M A M0) : ∀ (k i : Nat) (v : Int), i + k = 6 → (v = 0 ∨ v = 1) → K (zI (if v ≠ 0 ∨ a_nextF A k i ≠ -1 then 1 else 0)) M → wl_X5_work_126 l K P (k + 1) (zI v) (zI (i : Int)) M := by
  intro k
  induction k with
  | zero =>
    intro i v hi hv hK
    unfold wl_X5_work_126
    refine zk_m (fun _ => ?_) (fun q => by omega)
    rcases hv with e | e
    · subst e
      rw [if_neg (by simp [a_nextF])] at hK
      exact hK
    · subst e
      rw [if_pos (Or.inl (by decide))] at hK
      exact hK
  | succ k ih =>
    intro i v hi hv hK
    have s1 := hst i (by omega)
    have s2 := hsc i (by omega)
    unfold wl_X5_work_126
    rw [zI_cl (by omega) (by omega), show ((i : Int)).toNat = i by omega, zI_add, h.st (by omega), h.sc (by omega)]
    refine zk_m (fun q => by omega) (fun _ => zk_n (fun q1 => ?_) (fun q1 => ⟨zk_i, zk_m (fun q2 => ?_) (fun q2 => ⟨zk_i, zk_n (fun q3 => ?_) (fun q3 => ?_)⟩)⟩))
    · refine ih (i + 1) 1 (by omega) (Or.inr rfl) ?_
      rw [if_pos (Or.inl q1)] at hK
      rw [if_pos (Or.inl (by decide))]
      exact hK
    · refine ih (i + 1) 0 (by omega) (Or.inl rfl) ?_
      rw [a_nextF, if_neg (show ¬ (A 2 i ≠ 0 ∧ A 6 i = 0) by omega), q1] at hK
      exact hK
    · refine ih (i + 1) 0 (by omega) (Or.inl rfl) ?_
      rw [a_nextF, if_neg (show ¬ (A 2 i ≠ 0 ∧ A 6 i = 0) by omega), q1] at hK
      exact hK
    · refine ih (i + 1) 1 (by omega) (Or.inr rfl) ?_
      rw [a_nextF, if_pos (show A 2 i ≠ 0 ∧ A 6 i = 0 from ⟨by omega, q3⟩), if_pos (Or.inr (by omega))] at hK
      rw [if_pos (Or.inl (by decide))]
      exact hK
end RWK
