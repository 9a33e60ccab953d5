abbrev okp (A : zA) (p : Int) : Prop := p = -1 ∨ (0 ≤ p ∧ p < 256 ∧ p % 2 = 0 ∧ A 18 (p / 2).toNat ≠ 0)
abbrev iPl (A : zA) : Prop := ∀ u, u < 128 → A 18 u ≠ 0 → A 28 u = A 19 u
section ROP
variable {M M0 : zh_M} {A : zA}
theorem rs_low_loop {P K : Int32 → zh_M → Prop} {x y : Int32} (h : RR M A M0) (hs : iSt A) : ∀ (k i : Nat), i + k = 6 → (a_lowF A k i = -1 → K (zI 6) M) → (a_lowF A k i ≠ -1 → K (zI (a_lowF A k i)) M) → wl_X5_spawn_2 x y K P (k + 1) (zI (i : Int)) M := by
  intro k
  induction k with
  | zero =>
    intro i hi h0 h1
    unfold wl_X5_spawn_2
    have e : (i : Int) = 6 := by omega
    rw [e]
    exact zk_m (fun _ => h0 rfl) (fun q => by omega)
  | succ k ih =>
    intro i hi h0 h1
    have hi2 : i < 6 := by omega
    have hsi := hs i hi2
    unfold wl_X5_spawn_2
    rw [zI_cl (by omega) (by omega), show ((i : Int)).toNat = i by omega, h.st hi2, zI_add]
    refine zk_m (fun q => by omega) (fun _ => ⟨zk_i, zk_m (fun q => ?_) (fun q => ?_)⟩)
    · have e : a_lowF A (k + 1) i = (i : Int) := by rw [a_lowF, if_pos (by omega)]
      rw [e] at h1
      exact h1 (by omega)
    · have e : a_lowF A (k + 1) i = a_lowF A k (i + 1) := by rw [a_lowF, if_neg (by omega)]
      rw [e] at h0 h1
      exact ih (i + 1) (by omega) h0 h1
theorem rs_spawn {P : Int32 → zh_M → Prop} {f k : Int} (h : RR M A M0) (hb : zb f) (hk : zb k) (hF : iFs A) (hL : iLk A) (hP : ∀ M', RR M' (a_spawn A f k).2 M0 → P (zI (a_spawn A f k).1) M') : wp_X5_spawn M (zI f) (zI k) P := by
  refine ⟨7, rs_low_loop h hF.1 6 0 (by omega) (fun e => ?_) (fun e => ?_)⟩
  · rw [a_spawn, if_neg (fun w => w.2.2 e)] at hP
    exact zk_e (fun _ => hP _ h) (fun q => absurd rfl q)
  · have hg : 0 ≤ a_low A ∧ a_low A < 6 := by
      rcases a_lowF_rg A 6 0 with h1 | ⟨h1, h2, h3⟩
      · exact absurd h1 e
      · exact ⟨by show 0 ≤ a_lowF A 6 0; omega, by show a_lowF A 6 0 < 6; omega⟩
    change (zI (a_low A) = zI 6 → _) ∧ _
    refine zk_e (fun q => by omega) (fun _ => rs_cellN h hb hk hF hL (fun w => zk_n (fun _ => ?_) (fun q => by omega)) (fun w => zk_n (fun q => absurd rfl q) (fun _ => ?_)))
    · have hl : A 2 f.toNat ≠ 0 := by rw [w.1.2.2]; decide
      have hi : f.toNat < 6 := by have := w.1.1; have := w.1.2.1; omega
      obtain ⟨f1, f2⟩ := hF.2 _ hi hl
      rw [a_spawn, if_pos ⟨w.1, w.2, e⟩] at hP
      refine rs_value h w.1.1 w.1.2.1 hk f1 f2 (hL _ hi hl).1 ?_
      have e2 : a_low A = ((a_low A).toNat : Int) := by omega
      have hb2 := rs_begin (i := (a_low A).toNat) (p := a_pf A f.toNat k) (P := fun M8 => P (zI (a_low A)) M8) h (by omega) hP
      rw [← e2] at hb2
      exact hb2
    · rw [a_spawn, if_neg (fun e2 => w ⟨e2.1, e2.2.1⟩)] at hP
      exact hP _ h
theorem rs_living_loop {P K : Int32 → zh_M → Prop} {x : Int32} (h : RR M A M0) (hs : iSt A) : ∀ (k i : Nat) (n : Int), i + k = 6 → K (zI (n + zsum (fun i => if A 2 i = 0 then 0 else 1) k i)) M → wl_X5_end_4 x K P (k + 1) (zI n) (zI (i : Int)) M := by
  intro k
  induction k with
  | zero =>
    intro i n hi hP
    unfold wl_X5_end_4
    refine zk_m (fun _ => ?_) (fun q => by omega)
    simpa [zsum] using hP
  | succ k ih =>
    intro i n hi hP
    have hi2 : i < 6 := by omega
    have hsi := hs i hi2
    unfold wl_X5_end_4
    rw [zI_cl (by omega) (by omega), show ((i : Int)).toNat = i by omega, h.st hi2, zI_add, zI_add, zI_add]
    rw [zsum] at hP
    refine zk_m (fun q => by omega) (fun _ => ⟨zk_i, zk_m (fun q => ?_) (fun q => ?_)⟩)
    · rw [if_pos (by omega), Int.zero_add] at hP
      rw [Int.add_zero]
      exact ih (i + 1) n (by omega) hP
    · rw [if_neg (by omega), ← Int.add_assoc] at hP
      exact ih (i + 1) (n + 1) (by omega) hP
theorem rs_end {P : Int32 → zh_M → Prop} {f : Int} (h : RR M A M0) (hb : zb f) (hs : iSt A) (hP : ∀ M', RR M' (a_end A f).2 M0 → P (zI (a_end A f).1) M') : wp_X5_end M (zI f) P := by
  have hg := a_living_rg A 6 0
  refine ⟨7, rs_living_loop h hs 6 0 0 (by omega) (rs_lives h hb hs (fun w => zk_e (fun q => by omega) (fun _ => ?_)) (fun w => zk_e (fun _ => ?_) (fun q => absurd rfl q)))⟩
  · obtain ⟨w1, w2, w3⟩ := w
    have hi : f.toNat < 6 := by omega
    have e : (0 : Int) + zsum (fun i => if A 2 i = 0 then 0 else 1) 6 0 = a_living A := Int.zero_add _
    have hg1 : 0 ≤ a_living A ∧ a_living A ≤ 6 := hg
    rw [e]
    refine zk_n (fun q => ⟨zk_i, fun M5 e5 => ?_⟩) (fun q => ?_)
    · rw [a_end, if_pos ⟨⟨w1, w2, w3⟩, q⟩] at hP
      rw [zI_cl w1 (by omega)] at e5
      subst e5
      exact hP _ (h.st_ hi)
    · rw [a_end, if_neg (fun w => w.2 q)] at hP
      exact hP _ h
  · rw [a_end, if_neg (fun w2 => w w2.1)] at hP
    exact hP _ h
theorem rs_wake {P : Int32 → zh_M → Prop} {f : Int} (h : RR M A M0) (hb : zb f) (hs : iSt A) (hP : ∀ M', RR M' (a_wake A f).2 M0 → P (zI (a_wake A f).1) M') : wp_X5_wake M (zI f) P := by
  unfold wp_X5_wake
  refine rs_lives h hb hs (fun w => zk_e (fun q => by omega) (fun _ => ?_)) (fun w => zk_e (fun _ => ?_) (fun q => absurd rfl q))
  · obtain ⟨w1, w2, w3⟩ := w
    have hi : f.toNat < 6 := by omega
    have hsi := hs f.toNat hi
    rw [zI_cl w1 (by omega), h.st hi]
    refine ⟨zk_i, zk_n (fun q => ⟨zk_i, fun M5 e => ?_⟩) (fun q => ?_)⟩
    · rw [a_wake, if_pos ⟨⟨w1, w2, w3⟩, q⟩] at hP
      subst e
      exact hP _ (h.st_ hi)
    · rw [a_wake, if_neg (fun w => w.2 q)] at hP
      exact hP _ h
  · rw [a_wake, if_neg (fun w2 => w w2.1)] at hP
    exact hP _ h
theorem rs_leave {P : Int32 → zh_M → Prop} {f : Int} (h : RR M A M0) (hb : zb f) (hF : iFs A) (hL : iLk A) (hP : ∀ M', RR M' (a_leave A f).2 M0 → P (zI (a_leave A f).1) M') : wp_X5_leave M (zI f) P := by
  unfold wp_X5_leave
  refine rs_ready h hb hF.1 (fun w => zk_e (fun q => by omega) (fun _ => ?_)) (fun w => zk_e (fun _ => ?_) (fun q => absurd rfl q))
  · obtain ⟨w1, w2, w3⟩ := w
    have hi : f.toNat < 6 := by omega
    have hl : A 2 f.toNat ≠ 0 := by rw [w3]; decide
    obtain ⟨⟨f1, f2⟩, f3⟩ := hF.2 _ hi hl
    have l1 := (hL _ hi hl).1
    rw [zI_cl w1 (by omega), h.fr hi, l1, zI_mul, zI_add, zI_sub, zI_mul, zI_sub, zI_cl (a := 4 * (16 * f + A 3 f.toNat - 1)) (by omega) (by omega), h.ce (by omega)]
    refine ⟨zk_i, zk_n (fun q => ?_) (fun q => ?_)⟩
    · rw [zI_cl (a := 4 * (16 * f + A 3 f.toNat - 1) - 4) (by omega) (by omega)]
      refine ⟨zk_i, zk_i, zk_i, fun M3 e3 => ⟨zk_i, zk_i, fun M4 e4 => ?_⟩⟩
      subst e3
      have h3 := h.ce_ (i := (4 * (16 * f + A 3 f.toNat - 1) - 4).toNat) (v := A 12 (4 * (16 * f + A 3 f.toNat - 1)).toNat) (by omega)
      rw [h3.fr hi, as_id (by decide), l1, zI_sub] at e4
      subst e4
      rw [a_leave, if_pos ⟨⟨w1, w2, w3⟩, by omega⟩, a_drop, show 64 * f.toNat + ((A 3 f.toNat - 1 - 1) * 4).toNat = (4 * (16 * f + A 3 f.toNat - 1) - 4).toNat by omega, show 64 * f.toNat + ((A 3 f.toNat - 1) * 4).toNat = (4 * (16 * f + A 3 f.toNat - 1)).toNat by omega] at hP
      have h4 := (h3.fr_ (v := A 3 f.toNat - 1) hi).skp (a := 3) (k := f.toNat) (v := A 3 f.toNat - 1) rfl
      rw [as_comm (a := 12) (b := 25) (by decide), as_comm (a := 12) (b := 3) (by decide)] at h4
      exact hP _ h4
    · rw [a_leave, if_neg (fun w => by have := w.2; omega)] at hP
      exact hP _ h
  · rw [a_leave, if_neg (fun w2 => w w2.1)] at hP
    exact hP _ h
theorem rs_aim {P : Int32 → zh_M → Prop} {f k : Int} (h : RR M A M0) (hb : zb f) (hk : zb k) (hF : iFs A) (hL : iLk A) (hP : ∀ M', RR M' (a_aim A f k).2 M0 → P (zI (a_aim A f k).1) M') : wp_X5_aim M (zI f) (zI k) P := by
  obtain ⟨k1, k2⟩ := hk
  unfold wp_X5_aim
  refine rs_ready h hb hF.1 (fun w => zk_e (fun q => by omega) (fun _ => zk_l (fun q => ?_) (fun q => zk_m (fun q2 => ?_) (fun q2 => ?_)))) (fun w => zk_e (fun _ => ?_) (fun q => absurd rfl q))
  · rw [a_aim, if_neg (fun w => by have := w.2.1; omega)] at hP
    exact hP _ h
  · obtain ⟨w1, w2, w3⟩ := w
    have hi : f.toNat < 6 := by omega
    have hl : A 2 f.toNat ≠ 0 := by rw [w3]; decide
    obtain ⟨⟨f1, f2⟩, f3⟩ := hF.2 _ hi hl
    have l1 := (hL _ hi hl).1
    rw [zI_cl w1 (by omega), h.fr hi, l1, zI_mul, zI_add, zI_sub, zI_sub, zI_mul, zI_add, zI_cl (a := 16 * f + A 3 f.toNat - 1) (by omega) (by omega)]
    refine ⟨zk_i, zk_i, zk_i, fun M3 e3 => ?_⟩
    subst e3
    rw [a_aim, if_pos ⟨⟨w1, w2, w3⟩, q, by omega⟩, a_ci, if_pos ⟨q, by omega⟩, show 16 * f.toNat + (A 3 f.toNat - 1).toNat = (16 * f + A 3 f.toNat - 1).toNat by omega, show (A 3 f.toNat - 1) * 4 + k = 4 * (A 3 f.toNat - 1) + k by omega] at hP
    exact hP _ (h.re_ (by omega))
  · rw [a_aim, if_neg (fun w => by have := w.2.2; omega)] at hP
    exact hP _ h
  · rw [a_aim, if_neg (fun w2 => w w2.1)] at hP
    exact hP _ h
theorem rs_copy {P : Int32 → zh_M → Prop} {f t s : Int} (h : RR M A M0) (hb : zb f) (ht : zb t) (hk : zb s) (hF : iFs A) (hL : iLk A) (hP : ∀ M', RR M' (a_copy A f t s).2 M0 → P (zI (a_copy A f t s).1) M') : wp_X5_copy M (zI f) (zI t) (zI s) P := by
  unfold wp_X5_copy
  refine rs_cell h hb ht hF hL (fun w => zk_e (fun q => by omega) (fun _ => rs_cellN h hb hk hF hL (fun w2 => zk_n (fun _ => ?_) (fun q => by omega)) (fun w2 => zk_n (fun q => absurd rfl q) (fun _ => ?_)))) (fun w => zk_e (fun _ => ?_) (fun q => absurd rfl q))
  · have hl : A 2 f.toNat ≠ 0 := by rw [w.1.2.2]; decide
    have g1 := w.1.1
    have g2 := w.1.2.1
    have hi : f.toNat < 6 := by omega
    obtain ⟨f1, f2⟩ := hF.2 _ hi hl
    obtain ⟨x1, x2, x3⟩ := (b_pl_rg (k := t) g1 f1 f2).2 w.2
    refine rs_place h g1 g2 ht f1 f2 (hL _ hi hl).1 (rs_value h g1 g2 hk f1 f2 (hL _ hi hl).1 ?_)
    rw [zI_cl x1 (by omega), x3]
    refine ⟨zk_i, fun M9 e9 => ?_⟩
    subst e9
    rw [a_copy, if_pos ⟨w.1, w.2, w2.2⟩, a_fc, if_neg w.2] at hP
    exact hP _ (h.ce_ (by omega))
  · rw [a_copy, if_neg (fun e => w2 ⟨e.1, e.2.2⟩)] at hP
    exact hP _ h
  · rw [a_copy, if_neg (fun e => w ⟨e.1, e.2.1⟩)] at hP
    exact hP _ h
theorem rs_call_loop {K : zh_M → Prop} {P : Int32 → zh_M → Prop} {x : Int32} {o : Int} {B : zA} (h : RR M B M0) (o1 : 0 ≤ o) (o2 : o < 95) (hP : ∀ M', RR M' (a_cp4 B (4 * o + 4).toNat (4 * o).toNat) M0 → K M') : wl_X5_call_77 x (zI o) K P 5 (zI 0) M := by
  have step : ∀ (j : Nat) (n : Nat) (M : zh_M) (C : zA), j < 4 → RR M C M0 → (∀ M', RR M' (aset C 12 ((4 * o + 4).toNat + j) (C 12 ((4 * o).toNat + j))) M0 → wl_X5_call_77 x (zI o) K P n (zI ((j : Int) + 1)) M') → wl_X5_call_77 x (zI o) K P (n + 1) (zI (j : Int)) M := by
    intro j n M C hj hC hk
    unfold wl_X5_call_77
    rw [zI_mul, zI_add, zI_add, zI_add, zI_add, zI_cl (a := 4 * o + (j : Int)) (by omega) (by omega), zI_cl (a := 4 * o + 4 + (j : Int)) (by omega) (by omega), hC.ce (by omega), show (4 * o + (j : Int)).toNat = (4 * o).toNat + j by omega, show (4 * o + 4 + (j : Int)).toNat = (4 * o + 4).toNat + j by omega]
    refine zk_m (fun q => by omega) (fun _ => ⟨zk_i, zk_i, fun M3 e3 => ?_⟩)
    subst e3
    exact hk _ (hC.ce_ (by omega))
  rw [a_cp4_eq (by omega)] at hP
  refine step 0 4 M B (by omega) h (fun M1 h1 => step 1 3 M1 _ (by omega) h1 (fun M2 h2 => step 2 2 M2 _ (by omega) h2 (fun M3 h3 => step 3 1 M3 _ (by omega) h3 (fun M4 h4 => ?_))))
  unfold wl_X5_call_77
  refine zk_m (fun _ => hP _ ?_) (fun q => by omega)
  rw [as_ix (j := (4 * o).toNat + 3) (by omega), as_ix (j := (4 * o).toNat + 3) (by omega), as_ix (j := (4 * o).toNat + 3) (by omega), as_ix (j := (4 * o).toNat + 2) (by omega), as_ix (j := (4 * o).toNat + 2) (by omega), as_ix (j := (4 * o).toNat + 1) (by omega)] at h4
  exact h4
theorem rs_call_tail {P : Int32 → zh_M → Prop} {f : Int} {B : zA} (h : RR M B M0) (g1 : 0 ≤ f) (g2 : f < 6) (f1 : 1 ≤ B 3 f.toNat) (f2 : B 3 f.toNat < 16) (l1 : B 25 f.toNat = B 3 f.toNat) (hP : ∀ M', RR M' (gset (aset (a_cp4 B (64 * f.toNat + (B 3 f.toNat * 4).toNat) (64 * f.toNat + ((B 3 f.toNat - 1) * 4).toNat)) 13 (16 * f.toNat + (B 3 f.toNat).toNat) (B 13 (16 * f.toNat + (B 3 f.toNat - 1).toNat))) 3 25 f.toNat (B 3 f.toNat + 1)) M0 → P (zI 1) M') : wl_X5_call_77 (zI f) (zI (16 * f + B 3 f.toNat - 1)) (fun M4 => vp_in (zI (16 * f + B 3 f.toNat - 1)) 96 ∧ (vp_in ((zI (16 * f + B 3 f.toNat - 1)) + (zI 1)) 96 ∧ (∀ M6 : zh_M, M6 = zh_set M4 53 ((zI (16 * f + B 3 f.toNat - 1)) + (zI 1)).toNatClampNeg (M4 53 (zI (16 * f + B 3 f.toNat - 1)).toNatClampNeg) → vp_in (zI f) 6 ∧ (vp_in (zI f) 6 ∧ (∀ M7 : zh_M, M7 = zh_set M6 50 (zI f).toNatClampNeg ((M6 50 (zI f).toNatClampNeg) + (zI 1)) → P (zI 1) M7))))) P 5 (zI 0) M := by
  have hi : f.toNat < 6 := by omega
  refine rs_call_loop h (by omega) (by omega) (fun M4 h4 => ?_)
  rw [zI_add, zI_cl (a := 16 * f + B 3 f.toNat - 1 + 1) (by omega) (by omega), zI_cl (a := 16 * f + B 3 f.toNat - 1) (by omega) (by omega), zI_cl (a := f) g1 (by omega), h4.re (by omega)]
  have g13 : ∀ x y k, a_cp4 B x y 13 k = B 13 k := fun x y k => by unfold a_cp4; rw [if_neg (by omega)]
  have g25 : ∀ x y k, a_cp4 B x y 25 k = B 25 k := fun x y k => by unfold a_cp4; rw [if_neg (by omega)]
  rw [g13]
  refine ⟨zk_i, zk_i, fun M6 e6 => ⟨zk_i, zk_i, fun M7 e7 => ?_⟩⟩
  subst e6
  have h6 := h4.re_ (i := (16 * f + B 3 f.toNat - 1 + 1).toNat) (v := B 13 (16 * f + B 3 f.toNat - 1).toNat) (by omega)
  rw [h6.fr hi, as_id (by decide), g25, l1, zI_add] at e7
  subst e7
  rw [show 64 * f.toNat + (B 3 f.toNat * 4).toNat = (4 * (16 * f + B 3 f.toNat - 1) + 4).toNat by omega, show 64 * f.toNat + ((B 3 f.toNat - 1) * 4).toNat = (4 * (16 * f + B 3 f.toNat - 1)).toNat by omega, show 16 * f.toNat + (B 3 f.toNat).toNat = (16 * f + B 3 f.toNat - 1 + 1).toNat by omega, show 16 * f.toNat + (B 3 f.toNat - 1).toNat = (16 * f + B 3 f.toNat - 1).toNat by omega] at hP
  exact hP _ ((h6.fr_ hi).skp rfl)
theorem rs_call {P : Int32 → zh_M → Prop} {f : Int} (h : RR M A M0) (hb : zb f) (hF : iFs A) (hL : iLk A) (hr : ∀ i, i < 6 → A 2 i ≠ 0 → 0 ≤ A 4 i ∧ A 4 i ≤ 16) (hP : ∀ M', RR M' (a_call A f).2 M0 → P (zI (a_call A f).1) M') : wp_X5_call M (zI f) P := by
  unfold wp_X5_call
  refine rs_ready h hb hF.1 (fun w => zk_e (fun q => by omega) (fun _ => ?_)) (fun w => zk_e (fun _ => ?_) (fun q => absurd rfl q))
  · obtain ⟨w1, w2, w3⟩ := w
    have hi : f.toNat < 6 := by omega
    have hl : A 2 f.toNat ≠ 0 := by rw [w3]; decide
    obtain ⟨⟨f1, f2⟩, f3⟩ := hF.2 _ hi hl
    obtain ⟨l1, l2, l3⟩ := hL _ hi hl
    obtain ⟨r1, r2⟩ := hr _ hi hl
    have e50 : M 50 (zI f).toNatClampNeg = zI (A 3 f.toNat) := by rw [zI_cl w1 (by omega), h.fr hi, l1]
    have e51 : M 51 (zI f).toNatClampNeg = zI (A 4 f.toNat) := by rw [zI_cl w1 (by omega), h.rm hi, l2]
    rw [e50, e51]
    refine ⟨zk_i, zk_n (fun q => ⟨zk_i, zk_i, zk_n (fun q1 => ⟨zk_i, 5, ?_⟩) (fun q1 => ⟨zk_i, zk_i, fun M9 e9 => ⟨zk_i, fun M10 e10 => ⟨zk_i, 5, ?_⟩⟩⟩)⟩) (fun q => ?_)⟩
    · rw [a_call, if_pos ⟨⟨w1, w2, w3⟩, by omega⟩] at hP
      unfold a_addF at hP
      simp only [if_neg q1] at hP
      rw [zI_mul, zI_add, zI_sub]
      exact rs_call_tail h w1 w2 f1 (by omega) l1 hP
    · rw [a_call, if_pos ⟨⟨w1, w2, w3⟩, by omega⟩] at hP
      unfold a_addF at hP
      simp only [if_pos q1] at hP
      rw [zI_cl w1 (by omega), zI_mul] at e9
      subst e9
      have h9 := h.rm_ (v := A 4 f.toNat * 2) hi
      rw [h9.cp, zI_cl w1 (by omega), h9.fr hi, as_id (by decide), as_id (by decide), l1, zI_add] at e10
      subst e10
      have h10 := h9.cp_ (v := A 32 0 + A 3 f.toNat)
      have h11 : RR (zh_set (zh_set M 51 f.toNat (zI (A 4 f.toNat * 2))) 39 27 (zI (A 32 0 + A 3 f.toNat))) (a_move A f.toNat (A 4 f.toNat * 2)) M0 := by
        have h12 := (h10.skp (a := 4) (k := f.toNat) (v := A 4 f.toNat * 2) rfl).skp (a := 5) (k := f.toNat) (v := A 5 f.toNat + A 3 f.toNat) rfl
        rw [as_comm (a := 32) (b := 4) (by decide)] at h12
        exact h12
      have e3 : a_move A f.toNat (A 4 f.toNat * 2) 3 f.toNat = A 3 f.toNat := by
        unfold a_move gset
        rw [as_id (by decide), as_id (by decide), as_id (by decide), as_id (by decide)]
      have e25 : a_move A f.toNat (A 4 f.toNat * 2) 25 f.toNat = A 25 f.toNat := by
        unfold a_move gset
        rw [as_id (by decide), as_id (by decide), as_id (by decide), as_id (by decide)]
      have e13 : ∀ k, a_move A f.toNat (A 4 f.toNat * 2) 13 k = A 13 k := fun k => by
        unfold a_move gset
        rw [as_id (by decide), as_id (by decide), as_id (by decide), as_id (by decide)]
      have e50b : zh_set (zh_set M 51 f.toNat (zI (A 4 f.toNat * 2))) 39 27 (zI (A 32 0 + A 3 f.toNat)) 50 (zI f).toNatClampNeg = zI (A 3 f.toNat) := by
        rw [zI_cl w1 (by omega), h11.fr hi, e25, l1]
      rw [e50b, zI_mul, zI_add, zI_sub]
      generalize a_move A f.toNat (A 4 f.toNat * 2) = B at *
      have := rs_call_tail (P := P) h11 w1 w2 (by rw [e3]; exact f1) (by rw [e3]; omega) (by rw [e25, e3]; exact l1) (by rw [e3, e13]; exact hP)
      rw [e3] at this
      exact this
    · rw [a_call, if_neg (fun w => by have := w.2; omega)] at hP
      exact hP _ h
  · rw [a_call, if_neg (fun w2 => w w2.1)] at hP
    exact hP _ h
end ROP
