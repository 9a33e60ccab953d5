theorem RR.congr {M M0 : zh_M} {A B : zA} (h : RR M A M0) (e : ∀ a k, zr_in a k → A a k = B a k) : RR M B M0 := ⟨fun a k ha => by rw [h.1 a k ha, e a k ha], h.2⟩
theorem a_uns_pt : ∀ (n i : Nat) (A : zA) (a k : Nat), a_uns n i A a k = if a = 6 ∧ i ≤ k ∧ k < i + n then 0 else A a k := by
  intro n
  induction n with
  | zero => intro i A a k; rw [a_uns, if_neg (by omega)]
  | succ n ih =>
    intro i A a k
    rw [a_uns, ih]
    by_cases e : a = 6 ∧ i ≤ k ∧ k < i + (n + 1)
    · rw [if_pos e]
      by_cases e2 : k = i
      · subst e2
        rw [if_neg (by omega), e.1, as_same]
      · rw [if_pos (by omega)]
    · rw [if_neg e, if_neg (by omega)]
      unfold aset
      rw [if_neg (by omega)]
def b_zero : Nat → Nat → zA → zA
  | 0, _, A => A
  | n + 1, i, A => b_zero n (i + 1) (aset (aset A 33 i 0) 24 i 0)
theorem b_zero_pt : ∀ (n i : Nat) (A : zA) (a k : Nat), b_zero n i A a k = if (a = 33 ∨ a = 24) ∧ i ≤ k ∧ k < i + n then 0 else A a k := by
  intro n
  induction n with
  | zero => intro i A a k; rw [b_zero, if_neg (by omega)]
  | succ n ih =>
    intro i A a k
    rw [b_zero, ih]
    by_cases e : (a = 33 ∨ a = 24) ∧ i ≤ k ∧ k < i + (n + 1)
    · rw [if_pos e]
      by_cases e2 : k = i
      · subst e2
        rw [if_neg (by omega)]
        unfold aset
        rcases e.1 with e3 | e3 <;> simp [e3]
      · rw [if_pos (by omega)]
    · rw [if_neg e, if_neg (by omega)]
      unfold aset
      rw [if_neg (by omega), if_neg (by omega)]
def c_chs : Nat → Nat → zA → zA
  | 0, _, A => A
  | n + 1, q, A => if ((q % 4 : Nat) : Int) < A 22 (q / 4) then c_chs n (q + 1) (a_note A (A 21 q)) else c_chs n (q + 1) A
theorem c_chs_app : ∀ (n m q : Nat) (A : zA), c_chs (n + m) q A = c_chs m (q + n) (c_chs n q A) := by
  intro n
  induction n with
  | zero => intro m q A; simp [c_chs]
  | succ n ih =>
    intro m q A
    rw [show n + 1 + m = n + m + 1 by omega, c_chs, c_chs]
    split
    · rw [ih, show q + 1 + n = q + (n + 1) by omega]
    · rw [ih, show q + 1 + n = q + (n + 1) by omega]
theorem c_chs_one {A : zA} {c : Nat} (h1 : 0 ≤ A 22 c) (h2 : A 22 c ≤ 3) : c_chs 4 (4 * c) A = a_chF c (A 22 c).toNat 0 A := by
  have d0 : (4 * c) / 4 = c := by omega
  have d1 : (4 * c + 1) / 4 = c := by omega
  have d2 : (4 * c + 1 + 1) / 4 = c := by omega
  have d3 : (4 * c + 1 + 1 + 1) / 4 = c := by omega
  have m0 : (4 * c) % 4 = 0 := by omega
  have m1 : (4 * c + 1) % 4 = 1 := by omega
  have m2 : (4 * c + 1 + 1) % 4 = 2 := by omega
  have m3 : (4 * c + 1 + 1 + 1) % 4 = 3 := by omega
  have hn : A 22 c = 0 ∨ A 22 c = 1 ∨ A 22 c = 2 ∨ A 22 c = 3 := by omega
  rcases hn with e | e | e | e
  · have e9 : (A 22 c).toNat = 0 := by omega
    rw [e9, a_chF, c_chs, if_neg (by rw [m0, d0]; omega), c_chs, if_neg (by rw [m1, d1]; omega), c_chs, if_neg (by rw [m2, d2]; omega), c_chs, if_neg (by rw [m3, d3]; omega), c_chs]
  · have e9 : (A 22 c).toNat = 0 + 1 := by omega
    rw [e9, a_chF, a_chF, c_chs, if_pos (by rw [m0, d0]; omega), c_chs, if_neg (by rw [m1, d1, a_note_m]; omega), c_chs, if_neg (by rw [m2, d2, a_note_m]; omega), c_chs, if_neg (by rw [m3, d3, a_note_m]; omega), c_chs]
    rfl
  · have e9 : (A 22 c).toNat = 0 + 1 + 1 := by omega
    rw [e9, a_chF, a_chF, a_chF, c_chs, if_pos (by rw [m0, d0]; omega), c_chs, if_pos (by rw [m1, d1, a_note_m]; omega), c_chs, if_neg (by rw [m2, d2, a_note_m, a_note_m]; omega), c_chs, if_neg (by rw [m3, d3, a_note_m, a_note_m]; omega), c_chs]
    rfl
  · have e9 : (A 22 c).toNat = 0 + 1 + 1 + 1 := by omega
    rw [e9, a_chF, a_chF, a_chF, a_chF, c_chs, if_pos (by rw [m0, d0]; omega), c_chs, if_pos (by rw [m1, d1, a_note_m]; omega), c_chs, if_pos (by rw [m2, d2, a_note_m, a_note_m]; omega), c_chs, if_neg (by rw [m3, d3, a_note_m, a_note_m, a_note_m]; omega), c_chs]
    rfl
theorem c_chs_eq {A : zA} (hch : iCh A) (hA : iHp A) (hC : iCo A) : c_chs 16 0 A = a_chs 4 0 A := by
  have h0 := hch 0 (by omega)
  obtain ⟨a1, a2, a3⟩ := chF_keep (c := 0) (A 22 0).toNat 0 A hA hC hch
  have e0 := c_chs_one (A := A) (c := 0) h0.1 (by omega)
  have h1 := a3 1 (by omega)
  obtain ⟨b1, b2, b3⟩ := chF_keep (c := 1) (a_chF 0 (A 22 0).toNat 0 A 22 1).toNat 0 _ a1 a2 a3
  have e1 := c_chs_one (A := a_chF 0 (A 22 0).toNat 0 A) (c := 1) h1.1 (by omega)
  have h2 := b3 2 (by omega)
  obtain ⟨x1, x2, x3⟩ := chF_keep (c := 2) (a_chF 1 (a_chF 0 (A 22 0).toNat 0 A 22 1).toNat 0 (a_chF 0 (A 22 0).toNat 0 A) 22 2).toNat 0 _ b1 b2 b3
  have e2 := c_chs_one (A := a_chF 1 (a_chF 0 (A 22 0).toNat 0 A 22 1).toNat 0 (a_chF 0 (A 22 0).toNat 0 A)) (c := 2) h2.1 (by omega)
  have h3 := x3 3 (by omega)
  have e3 := c_chs_one (c := 3) h3.1 (by omega)
  rw [show (16 : Nat) = 4 + (4 + (4 + 4)) by omega, c_chs_app, c_chs_app, c_chs_app]
  rw [show (0 : Nat) = 4 * 0 by omega, e0, show 4 * 0 + 4 = 4 * 1 by omega, e1, show 4 * 1 + 4 = 4 * 2 by omega, e2, show 4 * 2 + 4 = 4 * 3 by omega, e3]
  rw [a_chs, a_chs, a_chs, a_chs, a_chs]
theorem a_noteF_as {i a k : Nat} {v : Int} (h1 : a ≠ 14) (h2 : a ≠ 20) (h3 : a ≠ 23) (h4 : a ≠ 24) (h5 : a ≠ 12) : ∀ (n q : Nat) (A : zA), a_noteF i n q (aset A a k v) = aset (a_noteF i n q A) a k v := by
  intro n
  induction n with
  | zero => intro q A; rfl
  | succ n ih => intro q A; rw [a_noteF, a_noteF, as_id (Ne.symm h5), a_note_as h1 h2 h3 h4, ih]
section RCY
variable {M M0 : zh_M} {A : zA}
theorem rs_uns_loop {K P : zh_M → Prop} : ∀ (k i : Nat) (M : zh_M) (A : zA), RR M A M0 → i + k = 6 → (∀ M', RR M' (a_uns k i A) M0 → K M') → wl_X5_cycle_29 K P (k + 1) (zI (i : Int)) M := by
  intro k
  induction k with
  | zero =>
    intro i M A h hi hK
    unfold wl_X5_cycle_29
    exact zk_m (fun _ => hK _ h) (fun q => by omega)
  | succ k ih =>
    intro i M A h hi hK
    unfold wl_X5_cycle_29
    rw [zI_cl (by omega) (by omega), show ((i : Int)).toNat = i by omega, zI_add]
    refine zk_m (fun q => by omega) (fun _ => ⟨zk_i, fun M6 e6 => ?_⟩)
    subst e6
    exact ih (i + 1) _ _ (h.sc_ (by omega)) (by omega) hK
theorem rs_zero_loop {K P : zh_M → Prop} : ∀ (k i : Nat) (M : zh_M) (A : zA), RR M A M0 → i + k = 256 → (∀ M', RR M' (b_zero k i A) M0 → K M') → wl_X5_cycle_50 K P (k + 1) (zI (i : Int)) M := by
  intro k
  induction k with
  | zero =>
    intro i M A h hi hK
    unfold wl_X5_cycle_50
    exact zk_m (fun _ => hK _ h) (fun q => by omega)
  | succ k ih =>
    intro i M A h hi hK
    unfold wl_X5_cycle_50
    rw [zI_cl (by omega) (by omega), show ((i : Int)).toNat = i by omega, zI_add]
    refine zk_m (fun q => by omega) (fun _ => ⟨zk_i, fun M9 e9 => ⟨zk_i, fun M10 e10 => ?_⟩⟩)
    subst e9; subst e10
    exact ih (i + 1) _ _ ((h.yo_ (by omega)).no_ (by omega)) (by omega) hK
theorem rs_chs_loop {P : zh_M → Prop} : ∀ (k q : Nat) (M : zh_M) (A : zA), RR M A M0 → iCo A → (∀ c, c < 4 → 0 ≤ A 22 c ∧ A 22 c ≤ (c : Int) ∧ ∀ r : Nat, (r : Int) < A 22 c → -1 ≤ A 21 (4 * c + r) ∧ A 21 (4 * c + r) < 256) → q + k = 16 → (∀ M', RR M' (c_chs k q A) M0 → P M') → wl_X5_cycle_79 P (k + 1) (zI (q : Int)) M := by
  intro k
  induction k with
  | zero =>
    intro q M A h hC hch hq hP
    unfold wl_X5_cycle_79
    exact zk_m (fun _ => hP _ h) (fun q => by omega)
  | succ k ih =>
    intro q M A h hC hch hq hP
    have hc4 : q / 4 < 4 := by omega
    obtain ⟨g1, g2, g3⟩ := hch (q / 4) hc4
    unfold wl_X5_cycle_79
    rw [zI_div (by omega) (by omega) (by omega) (by omega), zI_mul, zI_sub, zI_cl (a := (q : Int) / 4) (by omega) (by omega), show ((q : Int) / 4).toNat = q / 4 by omega, h.le hc4, zI_cl (a := (q : Int)) (by omega) (by omega), show ((q : Int)).toNat = q by omega, h.qu (by omega), zI_add]
    rw [c_chs] at hP
    refine zk_m (fun q => by omega) (fun _ => ⟨zk_i, zk_m (fun q1 => ?_) (fun q1 => ⟨zk_i, rs_note h hC ?_ (fun M' hM => ?_)⟩)⟩)
    · rw [if_neg (by omega)] at hP
      exact ih (q + 1) M A h hC hch (by omega) hP
    · have := g3 (q % 4) (by omega)
      rwa [show 4 * (q / 4) + q % 4 = q by omega] at this
    · rw [if_pos (by omega)] at hP
      refine ih (q + 1) _ _ hM (iCo_note hC) (fun c hc => ?_) (by omega) hP
      have := hch c hc
      rw [a_note_m]
      exact ⟨this.1, this.2.1, fun r hr => by rw [a_note_m]; exact this.2.2 r hr⟩
theorem rs_cycle {G : zA → Prop} (hG : ∀ A, G A → iHp A ∧ ∀ p, p < 16 → A 17 p ≠ 0 → iKp A p) (hs : ∀ A p, G A → p < 16 → A 17 p ≠ 0 → G (a_sweep A p)) {P : zh_M → Prop} (h : RR M A M0) (hA : G A) (hch : ∀ c, c < 4 → 0 ≤ A 22 c ∧ A 22 c ≤ (c : Int) ∧ ∀ r : Nat, (r : Int) < A 22 c → -1 ≤ A 21 (4 * c + r) ∧ A 21 (4 * c + r) < 256) (hP : ∀ M', RR M' (a_cycle A) M0 → P M') : wp_X5_cycle M P := by
  unfold wp_X5_cycle
  refine rs_sweeps hG hs ⟨by omega, by omega⟩ h hA (fun M1 h1 M3 e3 M4 e4 M5 e5 => ?_)
  subst e3; subst e4
  have hB := iHp_sws (most := 16) 16 0 0 A (hG A hA).1
  unfold a_cycle at hP
  simp only at hP
  have e22 : ∀ k, (a_sweeps A 16).2 22 k = A 22 k := fun k => a_sws_at (by decide) (by decide) (by omega) (by decide) (by decide) 16 0 0 A
  have e21 : ∀ k, (a_sweeps A 16).2 21 k = A 21 k := fun k => a_sws_at (by decide) (by decide) (by omega) (by decide) (by decide) 16 0 0 A
  change iHp (a_sweeps A 16).2 at hB
  generalize (a_sweeps A 16).2 = B at *
  have h4 := (h1.mk_ (v := 1)).lk_ (v := 0)
  rw [h4.cy, as_id (by decide), as_ix (by decide), zI_add] at e5
  subst e5
  have h5 := h4.cy_ (v := B 14 6 + 1)
  refine ⟨7, rs_uns_loop 6 0 _ _ h5 (by omega) (fun M7 h7 => ⟨257, rs_zero_loop 256 0 _ _ h7 (by omega) (fun M11 h11 => ⟨17, ?_⟩)⟩)⟩
  have h12 : RR M11 (a_uns 6 0 (aset (arow (arow (arow (aset (aset (aset B 14 6 (B 14 6 + 1)) 14 5 1) 14 4 0) 20 (fun j => if j < 128 then 0 else aset (aset (aset B 14 6 (B 14 6 + 1)) 14 5 1) 14 4 0 20 j)) 24 (fun _ => 0)) 33 (fun _ => 0)) 31 0 0)) M0 := by
    refine h11.congr (fun a k ha => ?_)
    have hrow := zr_row_of ha
    have n20 : a ≠ 20 := fun e => by rw [e] at hrow; cases hrow
    have n4 : ¬ (a = 14 ∧ k = 4) := by
      rintro ⟨rfl, rfl⟩
      have := (h11.skp4 (v := 0)).1
      unfold zr_in at ha
      omega
    have k256 : (a = 33 ∨ a = 24) → k < 256 := by
      intro e
      unfold zr_in at ha
      rcases e with rfl | rfl
      · simp at ha; exact ha
      · simp at ha; exact ha
    rw [b_zero_pt, a_uns_pt, a_uns_pt]
    by_cases c1 : a = 33 ∨ a = 24
    · rw [if_pos ⟨c1, by omega, by have := k256 c1; omega⟩, if_neg (by omega)]
      unfold aset arow
      rcases c1 with rfl | rfl <;> simp
    · rw [if_neg (fun w => c1 w.1)]
      by_cases c2 : a = 6 ∧ 0 ≤ k ∧ k < 0 + 6
      · rw [if_pos c2, if_pos c2]
      · rw [if_neg c2, if_neg c2]
        have m33 : a ≠ 33 := fun e => c1 (Or.inl e)
        have m24 : a ≠ 24 := fun e => c1 (Or.inr e)
        unfold aset arow
        simp only [if_neg n20, if_neg m33, if_neg m24, if_neg n4]
        by_cases c3 : a = 31 ∧ k = 0
        · have : ¬ (a = 14 ∧ k = 6) := by omega
          simp only [if_pos c3, if_neg this]
        · simp only [if_neg c3]
          by_cases c4 : a = 14 ∧ k = 6
          · have : ¬ (a = 14 ∧ k = 5) := by omega
            simp only [if_pos c4, if_neg this]
          · simp only [if_neg c4]
  generalize hD : a_uns 6 0 (aset (arow (arow (arow (aset (aset (aset B 14 6 (B 14 6 + 1)) 14 5 1) 14 4 0) 20 (fun j => if j < 128 then 0 else aset (aset (aset B 14 6 (B 14 6 + 1)) 14 5 1) 14 4 0 20 j)) 24 (fun _ => 0)) 33 (fun _ => 0)) 31 0 0) = D at h12 hP
  have dD : ∀ a k, a ≠ 6 → a ≠ 31 → a ≠ 33 → a ≠ 24 → a ≠ 20 → a ≠ 14 → D a k = B a k := by
    intro a k z1 z2 z3 z4 z5 z6
    rw [← hD, a_uns_pt, if_neg (fun w => z1 w.1)]
    unfold aset arow
    simp [z2, z3, z4, z5, z6]
  have dC : iCo D := by
    unfold iCo
    rw [← hD, a_uns_pt, a_uns_pt, if_neg (by omega), if_neg (by omega)]
    simp [aset, arow]
  have dH : iHp D := by
    refine ⟨fun p hp => ?_, fun p hp => ?_, fun u hu => ?_⟩
    · rw [dD 16 p (by decide) (by decide) (by decide) (by decide) (by decide) (by decide)]
      exact hB.1 p hp
    · rw [dD 17 p (by decide) (by decide) (by decide) (by decide) (by decide) (by decide)]
      exact hB.2.1 p hp
    · rw [dD 18 u (by decide) (by decide) (by decide) (by decide) (by decide) (by decide), dD 19 u (by decide) (by decide) (by decide) (by decide) (by decide) (by decide)]
      have e20 : D 20 u = 0 := by
        rw [← hD, a_uns_pt, if_neg (by omega)]
        simp [aset, arow, hu]
      rw [e20]
      obtain ⟨x1, x2, x3, x4, x5, x6⟩ := hB.2.2 u hu
      exact ⟨x1, x2, x3, x4, by omega, by omega⟩
  have dch : ∀ c, c < 4 → 0 ≤ D 22 c ∧ D 22 c ≤ (c : Int) ∧ ∀ r : Nat, (r : Int) < D 22 c → -1 ≤ D 21 (4 * c + r) ∧ D 21 (4 * c + r) < 256 := by
    intro c hc
    have := hch c hc
    rw [dD 22 c (by decide) (by decide) (by decide) (by decide) (by decide) (by decide), e22]
    exact ⟨this.1, this.2.1, fun r hr => by rw [dD 21 _ (by decide) (by decide) (by decide) (by decide) (by decide) (by decide), e21]; exact this.2.2 r hr⟩
  refine rs_chs_loop 16 0 _ _ h12 dC dch (by omega) ?_
  rw [c_chs_eq (fun c hc => ⟨(dch c hc).1, (dch c hc).2.1, fun r hr => by have := (dch c hc).2.2 r hr; omega⟩) dH dC]
  exact hP
theorem rs_scan_loop {P K : zh_M → Prop} {f : Int} (g1 : 0 ≤ f) (g2 : f < 6) {n : Int} (n1 : 0 ≤ n) (n2 : n ≤ 16) : ∀ (k q : Nat) (M : zh_M) (A : zA), RR M A M0 → iCo A → A 25 f.toNat = n → (∀ j : Nat, (j : Int) < n * 4 → -1 ≤ A 12 (64 * f.toNat + j) ∧ A 12 (64 * f.toNat + j) < 256) → (q : Int) + k = n * 4 → (∀ M', RR M' (a_noteF f.toNat k q A) M0 → K M') → wl_X5_scan_9 (zI f) K P (k + 1) (zI (q : Int)) M := by
  intro k
  induction k with
  | zero =>
    intro q M A h hC hn hb hq hK
    unfold wl_X5_scan_9
    rw [zI_cl (a := f) g1 (by omega), h.fr (by omega), hn, zI_mul]
    exact ⟨zk_i, zk_m (fun _ => hK _ h) (fun q => by omega)⟩
  | succ k ih =>
    intro q M A h hC hn hb hq hK
    unfold wl_X5_scan_9
    rw [zI_cl (a := f) g1 (by omega), h.fr (by omega), hn, zI_mul, zI_mul, zI_add, zI_cl (a := 64 * f + (q : Int)) (by omega) (by omega), show (64 * f + (q : Int)).toNat = 64 * f.toNat + q by omega, h.ce (by omega), zI_add]
    refine ⟨zk_i, zk_m (fun q => by omega) (fun _ => ⟨zk_i, rs_note h hC (hb q (by omega)) (fun M' hM => ?_)⟩)⟩
    exact ih (q + 1) _ _ hM (iCo_note hC) (by rw [a_note_m]; exact hn) (fun j hj => by rw [a_note_m]; exact hb j hj) (by omega) hK
theorem rs_scan {P : zh_M → Prop} {f : Int} (h : RR M A M0) (g1 : 0 ≤ f) (g2 : f < 6) (hC : iCo A) (hf : iFr A f.toNat) (hr : 2 ≤ A 4 f.toNat ∧ A 4 f.toNat ≤ 16) (l1 : A 25 f.toNat = A 3 f.toNat) (l2 : A 26 f.toNat = A 4 f.toNat) (hb : ∀ j : Nat, (j : Int) < A 3 f.toNat * 4 → -1 ≤ A 12 (64 * f.toNat + j) ∧ A 12 (64 * f.toNat + j) < 256) (hP : ∀ M', RR M' (a_scan A f.toNat) M0 → P M') : wp_X5_scan M (zI f) P := by
  have hi : f.toNat < 6 := by omega
  obtain ⟨f1, f2⟩ := hf
  obtain ⟨r1, r2⟩ := hr
  unfold wp_X5_scan
  rw [zI_cl (a := f) g1 (by omega)]
  refine ⟨zk_i, fun M1 e1 => ⟨(A 3 f.toNat * 4).toNat + 1, ?_⟩⟩
  subst e1
  have h1 := h.sc_ (v := 1) hi
  refine rs_scan_loop g1 g2 (n := A 3 f.toNat) (by omega) f2 (A 3 f.toNat * 4).toNat 0 _ _ h1 (by unfold iCo; rw [as_id (by decide), as_id (by decide)]; exact hC) (by rw [as_id (by decide)]; exact l1) (fun j hj => by rw [as_id (by decide)]; exact hb j hj) (by omega) (fun M3 h3 => ?_)
  rw [a_noteF_as (by decide) (by decide) (by decide) (by decide) (by decide)] at h3
  unfold a_scan at hP
  have dD : ∀ a k, a ≠ 6 → a ≠ 20 → a ≠ 23 → a ≠ 14 → a ≠ 24 → aset (a_noteF f.toNat (A 3 f.toNat * 4).toNat 0 A) 6 f.toNat 1 a k = A a k := fun a k z1 z2 z3 z4 z5 => by rw [as_id z1, a_noteF_at z2 z3 z4 z5]
  generalize aset (a_noteF f.toNat (A 3 f.toNat * 4).toNat 0 A) 6 f.toNat 1 = D at h3 hP dD
  have d3 : D 3 f.toNat = A 3 f.toNat := dD _ _ (by decide) (by decide) (by decide) (by decide) (by decide)
  have d4 : D 4 f.toNat = A 4 f.toNat := dD _ _ (by decide) (by decide) (by decide) (by decide) (by decide)
  have d25 : D 25 f.toNat = A 3 f.toNat := (dD _ _ (by decide) (by decide) (by decide) (by decide) (by decide)).trans l1
  have d26 : D 26 f.toNat = A 4 f.toNat := (dD _ _ (by decide) (by decide) (by decide) (by decide) (by decide)).trans l2
  rw [h3.rm hi, h3.fr hi, d25, d26, zI_mul]
  unfold a_shr at hP
  rw [d3, d4] at hP
  refine ⟨zk_i, zk_i, zk_l (fun q => ?_) (fun q => ⟨zk_i, zk_m (fun q1 => ?_) (fun q1 => ⟨zk_i, zk_i, fun M5 e5 => ⟨zk_i, fun M6 e6 => ?_⟩⟩)⟩)⟩
  · rw [if_neg (by omega)] at hP
    exact hP _ h3
  · rw [if_neg (by omega)] at hP
    exact hP _ h3
  · rw [if_pos (by omega)] at hP
    rw [zI_div (by omega) (by omega) (by omega) (by omega)] at e5
    subst e5
    have h5 := h3.rm_ (v := A 4 f.toNat / 2) hi
    rw [h5.cp, h5.fr hi, as_id (by decide), as_id (by decide), d25, zI_add] at e6
    subst e6
    have h6 := ((h5.cp_ (v := D 32 0 + A 3 f.toNat)).skp (a := 4) (k := f.toNat) (v := A 4 f.toNat / 2) rfl).skp (a := 5) (k := f.toNat) (v := D 5 f.toNat + A 3 f.toNat) rfl
    rw [as_comm (a := 32) (b := 4) (by decide)] at h6
    unfold a_move at hP
    rw [d3] at hP
    exact hP _ h6
end RCY
