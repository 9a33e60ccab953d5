theorem as_comm {A : zA} {a b k j : Nat} {v w : Int} (h : a ≠ b) : aset (aset A a k v) b j w = aset (aset A b j w) a k v := by
  funext x y
  unfold aset
  by_cases e1 : x = b ∧ y = j
  · by_cases e2 : x = a ∧ y = k
    · exact absurd (e2.1.symm.trans e1.1) h
    · simp [e1, e2, Ne.symm h]
  · by_cases e2 : x = a ∧ y = k
    · simp [e1, e2, h]
    · simp [e1, e2]
theorem a_cp4_eq {A : zA} {d s : Nat} (h : s + 4 ≤ d) : a_cp4 A d s = aset (aset (aset (aset A 12 (d + 0) (A 12 (s + 0))) 12 (d + 1) (A 12 (s + 1))) 12 (d + 2) (A 12 (s + 2))) 12 (d + 3) (A 12 (s + 3)) := by
  funext a k
  unfold a_cp4 aset
  by_cases ea : a = 12
  · subst ea
    by_cases e0 : k = d
    · subst e0
      have x1 : k ≠ k + 1 := by omega
      have x2 : k ≠ k + 2 := by omega
      have x3 : k ≠ k + 3 := by omega
      simp [x1, x2, x3]
    · by_cases e1 : k = d + 1
      · subst e1
        simp
      · by_cases e2 : k = d + 2
        · subst e2
          simp
        · by_cases e3 : k = d + 3
          · subst e3
            simp
          · have x : ¬ (d ≤ k ∧ k < d + 4) := by omega
            simp [e0, e1, e2, e3, x]
  · simp [ea]
abbrev iLk (A : zA) : Prop := ∀ i, i < 6 → A 2 i ≠ 0 → A 25 i = A 3 i ∧ A 26 i = A 4 i ∧ A 27 i = A 7 i
def b_pl (A : zA) (f k : Int) : Int := if a_ci A f.toNat k = -1 then -1 else 64 * f + a_ci A f.toNat k
section RFI
variable {M M0 : zh_M} {A : zA}
theorem rs_lives {P : Int32 → zh_M → Prop} {f : Int} (h : RR M A M0) (hb : zb f) (hs : iSt A) (h1 : a_liv A f → P (zI 1) M) (h0 : ¬ a_liv A f → P (zI 0) M) : wp_X5_lives M (zI f) P := by
  obtain ⟨hb1, hb2⟩ := hb
  unfold wp_X5_lives
  refine zk_l (fun q => h0 (fun w => ?_)) (fun q => zk_m (fun q2 => h0 (fun w => ?_)) (fun q2 => ?_))
  · have := w.1; omega
  · have := w.2.1; omega
  have hi : f.toNat < 6 := by omega
  have hsi := hs f.toNat hi
  rw [zI_cl q (by omega), h.st hi]
  exact ⟨zk_i, zk_m (fun q3 => h0 (fun w => w.2.2 (by omega))) (fun q3 => h1 ⟨q, q2, by omega⟩)⟩
theorem rs_ready {P : Int32 → zh_M → Prop} {f : Int} (h : RR M A M0) (hb : zb f) (hs : iSt A) (h1 : a_rdy A f → P (zI 1) M) (h0 : ¬ a_rdy A f → P (zI 0) M) : wp_X5_ready M (zI f) P := by
  unfold wp_X5_ready
  refine rs_lives h hb hs (fun w => zk_e (fun q => by omega) (fun _ => ?_)) (fun w => zk_e (fun _ => h0 (fun w2 => w ⟨w2.1, w2.2.1, by rw [w2.2.2]; decide⟩)) (fun q => absurd rfl q))
  obtain ⟨w1, w2, w3⟩ := w
  have hi : f.toNat < 6 := by omega
  have hsi := hs f.toNat hi
  rw [zI_cl w1 (by omega), h.st hi]
  exact ⟨zk_i, zk_n (fun q3 => h0 (fun w => q3 w.2.2)) (fun q3 => h1 ⟨w1, w2, q3⟩)⟩
theorem rs_place {P : Int32 → zh_M → Prop} {f k : Int} (h : RR M A M0) (g1 : 0 ≤ f) (g2 : f < 6) (hb : zb k) (hf : iFr A f.toNat) (hr : iRf A f.toNat) (hl : A 25 f.toNat = A 3 f.toNat) (hP : P (zI (b_pl A f k)) M) : wp_X5_place M (zI f) (zI k) P := by
  obtain ⟨hb1, hb2⟩ := hb
  have hi : f.toNat < 6 := by omega
  obtain ⟨hf1, hf2⟩ := hf
  have hrr := hr (A 3 f.toNat - 1).toNat (by omega) (by omega)
  unfold wp_X5_place
  rw [zI_cl g1 (by omega), h.fr hi, hl, zI_sub, zI_mul, zI_mul, zI_mul, zI_add, zI_add, zI_add, zI_cl (a := 16 * f + (A 3 f.toNat - 1)) (by omega) (by omega), h.re (by omega), show (16 * f + (A 3 f.toNat - 1)).toNat = 16 * f.toNat + (A 3 f.toNat - 1).toNat by omega, zI_add]
  refine ⟨zk_i, zk_l (fun q => zk_n (fun q2 => ?_) (fun q2 => by omega)) (fun q => zk_m (fun q2 => zk_n (fun q3 => ?_) (fun q3 => ⟨zk_i, zk_n (fun q4 => ?_) (fun q4 => ?_)⟩)) (fun q2 => ?_))⟩
  · have e : a_ci A f.toNat k = -1 := by rw [a_ci, if_neg (by omega), if_neg q2]
    rwa [b_pl, if_pos e] at hP
  · have e : a_ci A f.toNat k = -1 := by rw [a_ci, if_neg (by omega), if_neg q3]
    rwa [b_pl, if_pos e] at hP
  · have e : a_ci A f.toNat k = A 13 (16 * f.toNat + (A 3 f.toNat - 1).toNat) := by rw [a_ci, if_neg (by omega), if_pos q3]
    rwa [b_pl, if_neg (by rw [e]; exact q4), e] at hP
  · have e : a_ci A f.toNat k = A 13 (16 * f.toNat + (A 3 f.toNat - 1).toNat) := by rw [a_ci, if_neg (by omega), if_pos q3]
    rwa [b_pl, if_pos (by rw [e]; exact q4)] at hP
  · have e : a_ci A f.toNat k = (A 3 f.toNat - 1) * 4 + k := by rw [a_ci, if_pos ⟨q, q2⟩]
    rw [b_pl, if_neg (by omega), e] at hP
    rwa [show 64 * f + 4 * (A 3 f.toNat - 1) + k = 64 * f + ((A 3 f.toNat - 1) * 4 + k) by omega]
theorem b_pl_rg {f k : Int} (g1 : 0 ≤ f) (hf : iFr A f.toNat) (hr : iRf A f.toNat) : (a_ci A f.toNat k = -1 → b_pl A f k = -1) ∧ (a_ci A f.toNat k ≠ -1 → 0 ≤ b_pl A f k ∧ b_pl A f k < 64 * f + 64 ∧ (b_pl A f k).toNat = 64 * f.toNat + (a_ci A f.toNat k).toNat) := by
  have := a_ci_rg (k := k) hf hr
  have := hf.2
  unfold b_pl
  refine ⟨fun e => by rw [if_pos e], fun e => ?_⟩
  rw [if_neg e]
  omega
theorem rs_cell {P : Int32 → zh_M → Prop} {f k : Int} (h : RR M A M0) (hb : zb f) (hk : zb k) (hF : iFs A) (hL : iLk A) (h1 : a_rdy A f ∧ a_ci A f.toNat k ≠ -1 → P (zI 1) M) (h0 : ¬ (a_rdy A f ∧ a_ci A f.toNat k ≠ -1) → P (zI 0) M) : wp_X5_cell M (zI f) (zI k) (zI 0) P := by
  obtain ⟨hs, hf⟩ := hF
  unfold wp_X5_cell
  refine rs_ready h hb hs (fun w => zk_e (fun q => by omega) (fun _ => zk_e (fun _ => ?_) (fun q => absurd rfl q))) (fun w => zk_e (fun _ => h0 (fun e => w e.1)) (fun q => absurd rfl q))
  have hl : A 2 f.toNat ≠ 0 := by rw [w.2.2]; decide
  have hi : f.toNat < 6 := by have := w.1; have := w.2.1; omega
  obtain ⟨f1, f2⟩ := hf _ hi hl
  have hw2 := w.2.1
  have hg := b_pl_rg (k := k) w.1 f1 f2
  refine rs_place h w.1 w.2.1 hk f1 f2 (hL _ hi hl).1 ?_
  by_cases e : a_ci A f.toNat k = -1
  · rw [hg.1 e]
    exact zk_l (fun _ => h0 (fun e2 => e2.2 e)) (fun q => by omega)
  · obtain ⟨g1, g2, g3⟩ := hg.2 e
    exact zk_l (fun q => by omega) (fun _ => h1 ⟨w, e⟩)
theorem rs_cellN {P : Int32 → zh_M → Prop} {f k : Int} (h : RR M A M0) (hb : zb f) (hk : zb k) (hF : iFs A) (hL : iLk A) (h1 : a_rdy A f ∧ a_src A f.toNat k → P (zI 1) M) (h0 : ¬ (a_rdy A f ∧ a_src A f.toNat k) → P (zI 0) M) : wp_X5_cell M (zI f) (zI k) (zI 1) P := by
  obtain ⟨hs, hf⟩ := hF
  have hk' := hk
  obtain ⟨k1, k2⟩ := hk
  unfold wp_X5_cell
  refine rs_ready h hb hs (fun w => zk_e (fun q => by omega) (fun _ => zk_e (fun q => by omega) (fun _ => zk_e (fun q => h1 ⟨w, Or.inl q⟩) (fun q0 => ?_)))) (fun w => zk_e (fun _ => h0 (fun e => w e.1)) (fun q => absurd rfl q))
  have hl : A 2 f.toNat ≠ 0 := by rw [w.2.2]; decide
  have hi : f.toNat < 6 := by have := w.1; have := w.2.1; omega
  obtain ⟨f1, f2⟩ := hf _ hi hl
  have hw2 := w.2.1
  have hg := b_pl_rg (k := k) w.1 f1 f2
  refine rs_place h w.1 w.2.1 hk' f1 f2 (hL _ hi hl).1 ?_
  by_cases e : a_ci A f.toNat k = -1
  · rw [hg.1 e]
    exact zk_l (fun _ => h0 (fun e2 => e2.2.elim q0 (fun e3 => e3 e))) (fun q => by omega)
  · obtain ⟨g1, g2, g3⟩ := hg.2 e
    exact zk_l (fun q => by omega) (fun _ => h1 ⟨w, Or.inr e⟩)
theorem rs_value {P : Int32 → zh_M → Prop} {f k : Int} (h : RR M A M0) (g1 : 0 ≤ f) (g2 : f < 6) (hk : zb k) (hf : iFr A f.toNat) (hr : iRf A f.toNat) (hl : A 25 f.toNat = A 3 f.toNat) (hP : P (zI (a_pf A f.toNat k)) M) : wp_X5_value M (zI f) (zI k) P := by
  have hk' := hk
  obtain ⟨k1, k2⟩ := hk
  have hg := b_pl_rg (k := k) g1 hf hr
  unfold wp_X5_value
  refine zk_n (fun q0 => rs_place h g1 g2 hk' hf hr hl ?_) (fun q0 => ?_)
  · by_cases e : a_ci A f.toNat k = -1
    · rw [hg.1 e]
      rw [a_pf, if_pos e] at hP
      exact zk_m (fun q => by omega) (fun _ => hP)
    · obtain ⟨x1, x2, x3⟩ := hg.2 e
      rw [a_pf, if_neg e, ← x3] at hP
      refine zk_m (fun _ => ?_) (fun q => by omega)
      rw [zI_cl x1 (by omega), h.ce (by omega)]
      exact ⟨zk_i, hP⟩
  · have e : a_ci A f.toNat k = -1 := by
      unfold a_ci
      rw [if_neg (by omega), if_neg (by omega)]
    rwa [a_pf, if_pos e] at hP
theorem rs_object {P : Int32 → zh_M → Prop} {f k : Int} (h : RR M A M0) (hb : zb f) (hk : zb k) (hF : iFs A) (hL : iLk A) (h1 : a_rdy A f ∧ a_ci A f.toNat k ≠ -1 → P (zI (a_pf A f.toNat k)) M) (h0 : ¬ (a_rdy A f ∧ a_ci A f.toNat k ≠ -1) → P (zI (-1)) M) : wp_X5_object M (zI f) (zI k) P := by
  unfold wp_X5_object
  refine rs_cell h hb hk hF hL (fun w => zk_e (fun q => by omega) (fun _ => ?_)) (fun w => zk_e (fun _ => h0 w) (fun q => absurd rfl q))
  have hl : A 2 f.toNat ≠ 0 := by rw [w.1.2.2]; decide
  have hi : f.toNat < 6 := by have := w.1.1; have := w.1.2.1; omega
  obtain ⟨f1, f2⟩ := hF.2 _ hi hl
  exact rs_value h w.1.1 w.1.2.1 hk f1 f2 (hL _ hi hl).1 (h1 w)
theorem rr_mk {p : Int} (h : RR M A M0) : RR M (a_mk A p) M0 := by
  unfold a_mk
  split
  · exact h
  · exact ((h.skp rfl).skp rfl).skp4
theorem rs_note {P : zh_M → Prop} {p : Int} (h : RR M A M0) (hC : iCo A) (hp : -1 ≤ p ∧ p < 256) (hP : ∀ M', RR M' (a_note A p) M0 → P M') : wp_X5_note M (zI p) P := by
  have c1 := hC.1
  unfold wp_X5_note
  rw [h.mk]
  refine zk_e (fun q => ?_) (fun q => zk_e (fun q1 => ?_) (fun q1 => ?_))
  · rw [a_note, if_pos (Or.inl q)] at hP
    exact hP _ h
  · rw [a_note, if_pos (Or.inr (Or.inl (by omega)))] at hP
    exact hP _ h
  · rw [zI_cl (by omega) (by omega)]
    refine ⟨zk_i, fun M1 e1 => ?_⟩
    subst e1
    rw [a_note, if_neg (by omega)] at hP
    exact hP _ ((rr_mk h).no_ (by omega))
theorem rs_begin {P : zh_M → Prop} {i : Nat} {p : Int} (h : RR M A M0) (hi : i < 6) (hP : ∀ M', RR M' (a_begin A i p) M0 → P M') : wp_X5_begin M (zI (i : Int)) (zI p) P := by
  unfold wp_X5_begin
  rw [zI_cl (by omega) (by omega), show ((i : Int)).toNat = i by omega, zI_mul, zI_cl (by omega) (by omega), show (16 * (i : Int)).toNat = 16 * i + 0 by omega]
  refine ⟨zk_i, fun M1 e1 => ⟨zk_i, fun M2 e2 => ⟨zk_i, fun M3 e3 => ⟨zk_i, fun M4 e4 => ⟨zk_i, fun M5 e5 => ⟨zk_i, fun M6 e6 => ⟨5, ?_⟩⟩⟩⟩⟩⟩⟩
  subst e1; subst e2; subst e3; subst e4; subst e5; subst e6
  have h6 := ((((((((h.st_ (v := 1) hi).fr_ (v := 1) hi).skp (a := 3) (k := i) (v := 1) rfl).rm_ (v := 2) hi).skp (a := 4) (k := i) (v := 2) rfl).sc_ (v := 0) hi).tk_ (v := -1) hi).skp (a := 7) (k := i) (v := -1) rfl).re_ (i := 16 * i + 0) (v := -1) (by omega)
  unfold wl_X5_begin_47
  rw [zI_mul, zI_add, zI_cl (by omega) (by omega), show (64 * (i : Int) + 0).toNat = 64 * i + 0 by omega, zI_add]
  refine zk_m (fun q => by omega) (fun _ => zk_n (fun q => absurd rfl q) (fun _ => ⟨zk_i, fun M7 e7 => ?_⟩))
  subst e7
  have h7 := h6.ce_ (i := 64 * i + 0) (v := p) (by omega)
  unfold wl_X5_begin_47
  rw [zI_mul, zI_add, zI_cl (by omega) (by omega), show (64 * (i : Int) + (0 + 1)).toNat = 64 * i + 1 by omega, zI_add]
  refine zk_m (fun q => by omega) (fun _ => zk_n (fun _ => ⟨zk_i, fun M8 e8 => ?_⟩) (fun q => by omega))
  subst e8
  have h8 := h7.ce_ (i := 64 * i + 1) (v := -1) (by omega)
  unfold wl_X5_begin_47
  rw [zI_mul, zI_add, zI_cl (by omega) (by omega), show (64 * (i : Int) + (0 + 1 + 1)).toNat = 64 * i + 2 by omega, zI_add]
  refine zk_m (fun q => by omega) (fun _ => zk_n (fun _ => ⟨zk_i, fun M9 e9 => ?_⟩) (fun q => by omega))
  subst e9
  have h9 := h8.ce_ (i := 64 * i + 2) (v := -1) (by omega)
  unfold wl_X5_begin_47
  rw [zI_mul, zI_add, zI_cl (by omega) (by omega), show (64 * (i : Int) + (0 + 1 + 1 + 1)).toNat = 64 * i + 3 by omega, zI_add]
  refine zk_m (fun q => by omega) (fun _ => zk_n (fun _ => ⟨zk_i, fun M10 e10 => ?_⟩) (fun q => by omega))
  subst e10
  have h10 := h9.ce_ (i := 64 * i + 3) (v := -1) (by omega)
  unfold wl_X5_begin_47
  refine zk_m (fun _ => hP _ ?_) (fun q => by omega)
  rw [as_comm (a := 13) (b := 12) (by decide), as_comm (a := 13) (b := 12) (by decide), as_comm (a := 13) (b := 12) (by decide), as_comm (a := 13) (b := 12) (by decide)] at h10
  exact h10
end RFI
