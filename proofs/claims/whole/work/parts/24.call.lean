theorem RC.cpy {M M0 : zh_M} {A : zA} (h : RC M A M0) {i s d : Nat} (hi : i < 6) (hs : s + 4 ≤ 64) (hd : d + 4 ≤ 64) : RC (zh_row M (10 + 3 * i + 1) (va_cpy (M (10 + 3 * i + 1)) (M (10 + 3 * i + 1)) s d 4)) (a_cp4 A (64 * i + d) (64 * i + s)) M0 := by
  refine ⟨fun b j hb => ?_, fun x hx => ?_⟩
  · by_cases e : b = 12
    · subst e
      have hj : j < 384 := by unfold zc_in at hb; omega
      show zh_row M (10 + 3 * i + 1) _ (11 + 3 * (j / 64)) (j % 64) = zI (a_cp4 A (64 * i + d) (64 * i + s) 12 j)
      by_cases e2 : j / 64 = i
      · have e3 : 11 + 3 * (j / 64) = 10 + 3 * i + 1 := by omega
        rw [e3, zh_row_self]
        unfold va_cpy a_cp4
        by_cases c : d ≤ j % 64 ∧ j % 64 < d + 4
        · rw [if_pos c, if_pos ⟨rfl, by omega, by omega⟩, h.ce hi (by omega)]
          congr 2
          omega
        · rw [if_neg c, if_neg (by omega), h.ce hi (by omega)]
          congr 2
          omega
      · rw [zh_row_ne (by omega)]
        unfold a_cp4
        rw [if_neg (by omega)]
        exact h.1 12 j hb
    · have e2 : zc_a b j ≠ 10 + 3 * i + 1 := by
        unfold zc_in at hb
        unfold zc_a
        repeat' split
        all_goals omega
      rw [zh_row_ne e2]
      unfold a_cp4
      rw [if_neg (fun w => e w.1)]
      exact h.1 b j hb
  · rw [zh_row_ne (by omega)]
    exact h.2 x hx
section CAL
variable {M M0 : zh_M} {A : zA}
theorem cs_addF_tail {P : zh_M → Prop} {i : Nat} {B : zA} (h : RC M B M0) (hi : i < 6) (f1 : 1 ≤ B 3 i) (f2 : B 3 i < 16) (hP : ∀ M', RC M' (gset (aset (a_cp4 B (64 * i + (B 3 i * 4).toNat) (64 * i + ((B 3 i - 1) * 4).toNat)) 13 (16 * i + (B 3 i).toNat) (B 13 (16 * i + (B 3 i - 1).toNat))) 3 25 i (B 3 i + 1)) M0 → P M') : (¬ (((M (10 + 3 * i) 3) - (zI 1)) * (zI 4)) < zI 0) ∧ (¬ ((M (10 + 3 * i) 3) * (zI 4)) < zI 0) ∧ (¬ (zI 4) < zI 0) ∧ (((M (10 + 3 * i) 3) - (zI 1)) * (zI 4)).toNatClampNeg + ((zI 4) : Int32).toNatClampNeg ≤ 64 ∧ ((M (10 + 3 * i) 3) * (zI 4)).toNatClampNeg + ((zI 4) : Int32).toNatClampNeg ≤ 64 ∧ (∀ M1 : zh_M, M1 = zh_row M (10 + 3 * i + 1) (va_cpy (M (10 + 3 * i + 1)) (M (10 + 3 * i + 1)) ((((M (10 + 3 * i) 3) - (zI 1)) * (zI 4)).toNatClampNeg) (((M (10 + 3 * i) 3) * (zI 4)).toNatClampNeg) (((zI 4) : Int32).toNatClampNeg)) → vp_in ((M1 (10 + 3 * i) 3) - (zI 1)) 16 ∧ (vp_in (M1 (10 + 3 * i) 3) 16 ∧ (∀ M2 : zh_M, M2 = zh_set M1 (10 + 3 * i + 2) (M1 (10 + 3 * i) 3).toNatClampNeg (M1 (10 + 3 * i + 2) ((M1 (10 + 3 * i) 3) - (zI 1)).toNatClampNeg) → ∀ M3 : zh_M, M3 = zh_set M2 (10 + 3 * i) 3 ((M2 (10 + 3 * i) 3) + (zI 1)) → P M3))) := by
  rw [h.fr hi, zI_sub, zI_mul, zI_mul, zI_cl (a := (B 3 i - 1) * 4) (by omega) (by omega), zI_cl (a := B 3 i * 4) (by omega) (by omega), zI_cl (a := 4) (by omega) (by omega)]
  refine ⟨by rw [zI_lt (by omega) (by omega) (by omega) (by omega)]; omega, by rw [zI_lt (by omega) (by omega) (by omega) (by omega)]; omega, by rw [zI_lt (by omega) (by omega) (by omega) (by omega)]; omega, by omega, by omega, fun M1 e1 => ?_⟩
  have h1 := h.cpy (i := i) (s := ((B 3 i - 1) * 4).toNat) (d := (B 3 i * 4).toNat) hi (by omega) (by omega)
  have e9 : (4 : Int).toNat = 4 := rfl
  rw [e9] at e1
  rw [← e1] at h1
  have g3 : ∀ x y, a_cp4 B x y 3 i = B 3 i := fun x y => by unfold a_cp4; rw [if_neg (by omega)]
  have g13 : ∀ x y k, a_cp4 B x y 13 k = B 13 k := fun x y k => by unfold a_cp4; rw [if_neg (by omega)]
  rw [h1.fr hi, g3, zI_sub, zI_cl (a := B 3 i) (by omega) (by omega), zI_cl (a := B 3 i - 1) (by omega) (by omega), h1.re hi (by omega), g13]
  refine ⟨zk_i, zk_i, fun M2 e2 M3 e3 => ?_⟩
  subst e2
  have h2 := h1.re_ (j := (B 3 i).toNat) (v := B 13 (16 * i + (B 3 i - 1).toNat)) hi (by omega)
  rw [h2.fr hi, as_id (by decide), g3, zI_add] at e3
  subst e3
  exact hP _ ((h2.ghost (by decide)).fr_ hi)
theorem cs_addF {P : zh_M → Prop} {i : Nat} (h : RC M A M0) (hi : i < 6) (f1 : 1 ≤ A 3 i) (f2 : A 3 i < 16) (r1 : 0 ≤ A 4 i) (r2 : A 4 i ≤ 16) (hP : ∀ M', RC M' (a_addF A i) M0 → P M') : wp_X2_addFrame M (10 + 3 * i) P := by
  unfold wp_X2_addFrame
  have e1 : (¬ M (10 + 3 * i) 3 = M (10 + 3 * i) 4) = ¬ (zI (A 3 i) = zI (A 4 i)) := by rw [h.fr hi, h.rm hi]
  have e2 : (M (10 + 3 * i) 3 = M (10 + 3 * i) 4) = (zI (A 3 i) = zI (A 4 i)) := by rw [h.fr hi, h.rm hi]
  rw [e1, e2]
  unfold a_addF at hP
  simp only at hP
  refine zk_n (fun q => ?_) (fun q => ?_)
  · rw [if_neg q] at hP
    exact cs_addF_tail h hi f1 f2 hP
  · rw [if_pos q] at hP
    have e5 : M (10 + 3 * i) 4 * zI 2 = zI (A 4 i * 2) := by rw [h.rm hi, zI_mul]
    rw [e5]
    refine cs_move h hi (fun M4 h4 => ?_)
    have g : a_move A i (A 4 i * 2) 3 i = A 3 i := by
      unfold a_move gset
      rw [as_id (by decide), as_id (by decide), as_id (by decide), as_id (by decide)]
    have g13 : ∀ k, a_move A i (A 4 i * 2) 13 k = A 13 k := fun k => by
      unfold a_move gset
      rw [as_id (by decide), as_id (by decide), as_id (by decide), as_id (by decide)]
    refine cs_addF_tail h4 hi (by rw [g]; exact f1) (by rw [g]; exact f2) ?_
    rw [g, g13]
    exact hP
theorem cs_call {P : Int32 → zh_M → Prop} {f : Int} (h : RC M A M0) (hb : zb f) (hs : iSt A) (hf : ∀ i, i < 6 → A 2 i ≠ 0 → iFr A i ∧ 0 ≤ A 4 i ∧ A 4 i ≤ 16) (hP : ∀ M', RC M' (a_call A f).2 M0 → P (zI (a_call A f).1) M') : wp_X4_call M (zI f) P := by
  unfold wp_X4_call
  refine cs_ready h hb hs (fun w => zk_o (fun q => by cases q) (fun o q => ?_)) (fun w => zk_o (fun _ => ?_) (fun o q => by cases q))
  · cases q
    obtain ⟨w1, w2, w3⟩ := w
    have hi : f.toNat < 6 := by omega
    obtain ⟨⟨f1, f2⟩, f3, f4⟩ := hf f.toNat hi (by rw [w3]; decide)
    rw [h.fr hi]
    refine ⟨zf_Fiber_of hi, zk_l (fun q => ?_) (fun q => ?_)⟩
    · rw [a_call, if_pos ⟨⟨w1, w2, w3⟩, q⟩] at hP
      exact cs_addF h hi f1 q f3 f4 hP
    · rw [a_call, if_neg (fun w => by have := w.2; omega)] at hP
      exact hP _ h
  · rw [a_call, if_neg (fun w2 => w w2.1)] at hP
    exact hP _ h
end CAL
