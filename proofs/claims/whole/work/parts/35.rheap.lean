theorem as_comm2 {A : zA} {a k j : Nat} {v w : Int} (h : k ≠ j) : aset (aset A a k v) a j w = aset (aset A a j w) a k v := by
  funext x y
  unfold aset
  by_cases e1 : x = a ∧ y = j
  · have e2 : ¬ (x = a ∧ y = k) := fun e => h (e.2.symm.trans e1.2)
    simp only [if_pos e1, if_neg e2]
  · by_cases e2 : x = a ∧ y = k
    · simp only [if_neg e1, if_pos e2]
    · simp only [if_neg e1, if_neg e2]
theorem as_twice {A : zA} {a k : Nat} {v w : Int} : aset (aset A a k v) a k w = aset A a k w := by
  funext x y
  unfold aset
  split
  · rfl
  · rfl
theorem a_swU_as {A : zA} {a k u : Nat} {v : Int} (h1 : a ≠ 18) (h2 : a ≠ 19) (h3 : a ≠ 20) (h4 : a ≠ 14) : a_swU (aset A a k v) u = aset (a_swU A u) a k v := by
  unfold a_swU
  rw [as_id (Ne.symm h1), as_id (Ne.symm h3), as_id (Ne.symm h4)]
  split
  · rw [as_comm h1, as_comm h2, as_comm h4]
  · rfl
theorem a_swF_as {a k : Nat} {v : Int} (h1 : a ≠ 18) (h2 : a ≠ 19) (h3 : a ≠ 20) (h4 : a ≠ 14) : ∀ (n u : Nat) (A : zA), a_swF n u (aset A a k v) = aset (a_swF n u A) a k v := by
  intro n
  induction n with
  | zero => intro u A; rfl
  | succ n ih => intro u A; rw [a_swF, a_swF, a_swU_as h1 h2 h3 h4, ih]
theorem a_fillP_as {v s : Int} {r : Nat} : ∀ (w q : Nat) (B : zA), r < q → aset (a_fillP v w q B) 16 r s = a_fillP v w q (aset B 16 r s) := by
  intro w
  induction w with
  | zero => intro q B h; rfl
  | succ w ih =>
    intro q B h
    rw [a_fillP, a_fillP]
    split
    · rw [ih (q + 1) _ (by omega), as_comm2 (by omega)]
    · rfl
theorem a_fillP_new {A : zA} {slot : Int} {w r : Nat} (h : r < 16) : aset (a_fillP 1 (w + 1) r A) 16 r slot = a_fillP 1 w (r + 1) (aset A 16 r slot) := by
  rw [a_fillP, if_pos h, a_fillP_as w (r + 1) _ (by omega), as_twice]
abbrev iKp (A : zA) (p : Nat) : Prop := (p : Int) + a_wide (A 16 p) ≤ 16 ∧ ∀ u, 8 * p ≤ u → u < 8 * p + 8 → A 18 u ≠ 0 → (A 34 (2 * u) = 0 ↔ A 20 u = 0) ∧ 0 ≤ A 34 (2 * u) ∧ A 34 (2 * u) ≤ 1
section RHP
variable {M M0 : zh_M} {A : zA}
theorem rs_slot {P : Int32 → zh_M → Prop} {n : Int} (h1 : 0 ≤ n) (h2 : n ≤ 64) (hP : P (zI (a_slot n)) M) : wp_X5_slotOf M (zI n) P := by
  unfold wp_X5_slotOf
  refine zk_l (fun q1 => zk_l (fun q2 => zk_l (fun q3 => ?_) (fun q3 => ?_)) (fun q2 => ?_)) (fun q1 => ?_)
  · rw [zI_add, zI_div (by omega) (by omega) (by omega) (by omega), zI_mul]
    rwa [a_slot, if_neg (by omega), if_neg (by omega), if_neg (by omega)] at hP
  · rwa [a_slot, if_neg (by omega), if_neg (by omega), if_pos (by omega)] at hP
  · rwa [a_slot, if_neg (by omega), if_pos (by omega)] at hP
  · rwa [a_slot, if_pos (by omega)] at hP
theorem rs_sweep_loop {P : zh_M → Prop} {K : Int32 → zh_M → Prop} {x : Int32} {p : Nat} (hp : p < 16) : ∀ (k u : Nat) (n : Int) (M : zh_M) (A : zA), RR M A M0 → iHp A → (∀ j, u ≤ j → j < 8 * p + 8 → A 18 j ≠ 0 → (A 34 (2 * j) = 0 ↔ A 20 j = 0) ∧ 0 ≤ A 34 (2 * j) ∧ A 34 (2 * j) ≤ 1) → u + k = 8 * p + 8 → (∀ M', RR M' (a_swF k u A) M0 → K (zI (n + zsum (fun u => if A 18 u ≠ 0 ∧ A 20 u ≠ 0 then 1 else 0) k u)) M') → wl_X5_sweepSpan_33 (zI (p : Int)) x K P (2 * k + 1) (zI n) (zI (2 * (u : Int))) M := by
  intro k
  induction k with
  | zero =>
    intro u n M A h hA hk hu hK
    show wl_X5_sweepSpan_33 (zI (p : Int)) x K P 1 (zI n) (zI (2 * (u : Int))) M
    unfold wl_X5_sweepSpan_33
    rw [zI_mul, zI_add]
    refine zk_m (fun _ => ?_) (fun q => by omega)
    have := hK _ h
    simpa [zsum] using this
  | succ k ih =>
    intro u n M A h hA hk hu hK
    have hu2 : u < 128 := by omega
    obtain ⟨x1, x2, x3, x4, x5, x6⟩ := hA.2.2 u hu2
    have hz : ∀ B : zA, (∀ j, u < j → B 18 j = A 18 j ∧ B 20 j = A 20 j) → zsum (fun u => if B 18 u ≠ 0 ∧ B 20 u ≠ 0 then 1 else 0) k (u + 1) = zsum (fun u => if A 18 u ≠ 0 ∧ A 20 u ≠ 0 then 1 else 0) k (u + 1) := fun B hB => zsum_congr k (u + 1) (fun j h1 h2 => by rw [(hB j (by omega)).1, (hB j (by omega)).2])
    have odd : ∀ (n : Int) (M : zh_M) (B : zA), RR M B M0 → wl_X5_sweepSpan_33 (zI (p : Int)) x K P (2 * k + 1) (zI n) (zI (2 * ((u + 1 : Nat) : Int))) M → wl_X5_sweepSpan_33 (zI (p : Int)) x K P (2 * k + 1 + 1) (zI n) (zI (2 * (u : Int) + 1)) M := by
      intro n M B hB hw
      unfold wl_X5_sweepSpan_33
      rw [zI_mul, zI_add, zI_cl (by omega) (by omega), show (2 * (u : Int) + 1).toNat = 2 * u + 1 by omega, hB.2.1 u hu2, zI_add, zI_add, Int.add_zero, show 2 * (u : Int) + 1 + 1 = 2 * ((u + 1 : Nat) : Int) by omega]
      exact zk_m (fun q => by omega) (fun _ => ⟨zk_i, zk_m (fun _ => ⟨zk_i, zk_m (fun _ => hw) (fun q => by omega)⟩) (fun q => by omega)⟩)
    show wl_X5_sweepSpan_33 (zI (p : Int)) x K P (2 * k + 1 + 1 + 1) (zI n) (zI (2 * (u : Int))) M
    unfold wl_X5_sweepSpan_33
    rw [zI_mul, zI_add, zI_cl (by omega) (by omega), show (2 * (u : Int)).toNat = 2 * u by omega, h.sz hu2, h.ke (by omega), zI_add, zI_add, zI_add, Int.add_zero]
    have hkk : A 18 u ≠ 0 → (A 34 (2 * u) = 0 ↔ A 20 u = 0) ∧ 0 ≤ A 34 (2 * u) ∧ A 34 (2 * u) ≤ 1 := fun e => hk u (Nat.le_refl u) (by omega) e
    refine zk_m (fun q => by omega) (fun q => ⟨zk_i, zk_m (fun q1 => ⟨zk_i, zk_m (fun _ => odd n M A h ?_) (fun q2 => by omega)⟩) (fun q1 => ⟨zk_i, ?_⟩)⟩)
    · refine ih (u + 1) n M A h hA (fun j h1 h2 => hk j (by omega) h2) (by omega) (fun M' hM => ?_)
      rw [a_swF, a_swU, if_neg (fun w => w.1 (by omega))] at hK
      have h9 := hK M' hM
      rwa [zsum, if_neg (fun w => w.1 (by omega)), Int.zero_add] at h9
    · obtain ⟨k1, k2, k3⟩ := hkk (by omega)
      refine zk_n (fun q2 => ⟨zk_i, zk_m (fun q3 => by omega) (fun _ => odd (n + 1) M A h ?_)⟩) (fun q2 => ⟨zk_i, fun M1 e1 M2 e2 => ?_⟩)
      · refine ih (u + 1) (n + 1) M A h hA (fun j h1 h2 => hk j (by omega) h2) (by omega) (fun M' hM => ?_)
        have q5 : A 20 u ≠ 0 := fun e => q2 (k1.mpr e)
        rw [a_swF, a_swU, if_neg (fun w => q5 w.2)] at hK
        have h9 := hK M' hM
        rwa [zsum, if_pos ⟨by omega, q5⟩, ← Int.add_assoc] at h9
      · have q5 : A 20 u = 0 := k1.mp q2
        subst e1
        have h1 := (h.sz_ (v := 0) hu2).skp (a := 19) (k := u) (v := 0) rfl
        rw [h1.freed, as_id (by decide), as_id (by decide), zI_add] at e2
        subst e2
        have h2 := h1.freed_ (v := A 14 1 + 1)
        rw [h2.sz hu2]
        have e6 : aset (aset (aset A 18 u 0) 19 u 0) 14 1 (A 14 1 + 1) 18 u = 0 := by rw [as_id (by decide), as_id (by decide), as_same]
        rw [e6]
        have hA2 := iHp_swU hA u
        have e7 : a_swU A u = aset (aset (aset A 18 u 0) 19 u 0) 14 1 (A 14 1 + 1) := by rw [a_swU, if_pos ⟨by omega, q5⟩]
        rw [e7] at hA2
        refine ⟨zk_i, zk_m (fun _ => odd n _ _ h2 ?_) (fun q3 => by omega)⟩
        have o1 : ∀ j, u < j → aset (aset (aset A 18 u 0) 19 u 0) 14 1 (A 14 1 + 1) 18 j = A 18 j := fun j hj => by rw [as_id (by decide), as_id (by decide), as_ix (by omega)]
        have o2 : ∀ j, aset (aset (aset A 18 u 0) 19 u 0) 14 1 (A 14 1 + 1) 20 j = A 20 j := fun j => by rw [as_id (by decide), as_id (by decide), as_id (by decide)]
        have o3 : ∀ j, aset (aset (aset A 18 u 0) 19 u 0) 14 1 (A 14 1 + 1) 34 j = A 34 j := fun j => by rw [as_id (by decide), as_id (by decide), as_id (by decide)]
        refine ih (u + 1) n _ _ h2 hA2 (fun j h1 h2 h3 => ?_) (by omega) (fun M' hM => ?_)
        · rw [o1 j (by omega)] at h3
          rw [o3, o2]
          exact hk j (by omega) h2 h3
        · rw [a_swF, e7] at hK
          have h9 := hK M' hM
          rw [zsum, if_neg (fun w => w.2 q5), Int.zero_add] at h9
          rw [hz _ (fun j hj => ⟨o1 j hj, o2 j⟩)]
          exact h9
theorem rs_clear_loop {P : zh_M → Prop} {p : Nat} {w : Int} (h1 : 0 ≤ w) (h2 : (p : Int) + w ≤ 16) : ∀ (k q : Nat) (M : zh_M) (A : zA), RR M A M0 → (q : Int) + k = p + w → (∀ M', RR M' (a_fillP 0 k q A) M0 → P M') → wl_X5_sweepSpan_117 (zI (p : Int)) (zI w) (zI 0) P (k + 1) (zI (q : Int)) M := by
  intro k
  induction k with
  | zero =>
    intro q M A h hq hP
    unfold wl_X5_sweepSpan_117
    rw [zI_add]
    exact zk_m (fun _ => hP _ h) (fun q => by omega)
  | succ k ih =>
    intro q M A h hq hP
    unfold wl_X5_sweepSpan_117
    rw [zI_add, zI_add, zI_cl (by omega) (by omega), show ((q : Int)).toNat = q by omega]
    refine zk_m (fun q => by omega) (fun _ => zk_n (fun e => absurd rfl e) (fun _ => ⟨zk_i, fun M7 e7 => ?_⟩))
    subst e7
    rw [a_fillP, if_pos (by omega)] at hP
    exact ih (q + 1) _ _ (h.kd_ (by omega)) (by omega) hP
theorem rs_sweep {P : zh_M → Prop} {p : Nat} (hp : p < 16) (h : RR M A M0) (hA : iHp A) (hk : iKp A p) (hP : ∀ M', RR M' (a_sweep A p) M0 → P M') : wp_X5_sweepSpan M (zI (p : Int)) P := by
  have hkp := hA.1 p hp
  have hw := a_wide_rg hkp.1 hkp.2
  obtain ⟨hk1, hk2⟩ := hk
  have hg : 0 ≤ a_kept A p ∧ a_kept A p ≤ 8 := by
    have := zsum_rg (f := fun u => if A 18 u ≠ 0 ∧ A 20 u ≠ 0 then 1 else 0) (b := 1) 8 (8 * p) (fun j _ _ => by split <;> omega)
    have h2 : zsum (fun u => if A 18 u ≠ 0 ∧ A 20 u ≠ 0 then 1 else 0) 8 (8 * p) = a_kept A p := rfl
    rw [h2] at this
    omega
  have main : ∀ w : Int, w = a_wide (A 16 p) → wl_X5_sweepSpan_33 (zI (p : Int)) (zI w) (fun v3 M4 => vp_in (zI (p : Int)) 16 ∧ (∀ M6 : zh_M, M6 = zh_set M4 48 (zI (p : Int)).toNatClampNeg (zI 0) → ∃ n8 : Nat, wl_X5_sweepSpan_117 (zI (p : Int)) (zI w) v3 P n8 (zI (p : Int)) M6)) P 17 (zI 0) (zI 16 * zI (p : Int)) M := by
    intro w ew
    rw [zI_mul, show 16 * (p : Int) = 2 * ((8 * p : Nat) : Int) by omega]
    refine rs_sweep_loop hp 8 (8 * p) 0 M A h hA (fun j h1 h2 => hk2 j h1 h2) (by omega) (fun M' hM => ?_)
    rw [zI_cl (by omega) (by omega), show ((p : Int)).toNat = p by omega]
    refine ⟨zk_i, fun M6 e6 => ?_⟩
    subst e6
    have h6 := hM.un_ (v := 0) hp
    rw [← a_swF_as (by decide) (by decide) (by decide) (by decide)] at h6
    have ek : (0 : Int) + zsum (fun u => if A 18 u ≠ 0 ∧ A 20 u ≠ 0 then 1 else 0) 8 (8 * p) = a_kept A p := Int.zero_add _
    rw [ek]
    unfold a_sweep at hP
    simp only at hP
    by_cases e : a_kept A p = 0
    · rw [if_pos e] at hP
      rw [e]
      refine ⟨w.toNat + 1, rs_clear_loop (by omega) (by omega) w.toNat p _ _ h6 (by omega) ?_⟩
      rw [ew]
      exact hP
    · rw [if_neg e] at hP
      refine ⟨1, ?_⟩
      unfold wl_X5_sweepSpan_117
      rw [zI_add]
      exact zk_m (fun q => by omega) (fun _ => zk_n (fun _ => hP _ h6) (fun q => absurd q e))
  unfold wp_X5_sweepSpan
  have e47 : M 47 (zI (p : Int)).toNatClampNeg = zI (A 16 p) := by rw [zI_cl (by omega) (by omega), show ((p : Int)).toNat = p by omega, h.kd hp]
  rw [e47, zI_div (by omega) (by omega) (by omega) (by omega)]
  refine ⟨zk_i, zk_m (fun q => ⟨zk_i, 17, ?_⟩) (fun q => ⟨17, ?_⟩)⟩
  · exact main _ (by rw [a_wide, if_neg (by omega)])
  · exact main _ (by rw [a_wide, if_pos (by omega)])
theorem rs_sws_stop {P : Int32 → zh_M → Prop} {most : Int} (hm : zb most) (h : RR M A M0) (hA : iHp A) : ∀ (k p : Nat) (n : Int), p + k = 16 → 0 ≤ n → n ≤ 16 → most ≤ n → P (zI n) M → wl_X5_sweepUpTo_4 (zI most) P (k + 1) (zI n) (zI (p : Int)) M := by
  obtain ⟨m1, m2⟩ := hm
  intro k
  induction k with
  | zero =>
    intro p n hp n1 n2 n3 hP
    unfold wl_X5_sweepUpTo_4
    exact zk_m (fun _ => hP) (fun q => by omega)
  | succ k ih =>
    intro p n hp n1 n2 n3 hP
    have hp2 : p < 16 := by omega
    have hu := hA.2.1 p hp2
    unfold wl_X5_sweepUpTo_4
    rw [zI_cl (by omega) (by omega), show ((p : Int)).toNat = p by omega, h.un hp2, zI_add]
    exact zk_m (fun q => by omega) (fun _ => ⟨zk_i, zk_e (fun q => ih (p + 1) n (by omega) n1 n2 n3 hP) (fun q => zk_m (fun _ => ih (p + 1) n (by omega) n1 n2 n3 hP) (fun q => by omega))⟩)
theorem rs_sws_loop {G : zA → Prop} (hG : ∀ A, G A → iHp A ∧ ∀ p, p < 16 → A 17 p ≠ 0 → iKp A p) (hs : ∀ A p, G A → p < 16 → A 17 p ≠ 0 → G (a_sweep A p)) {P : Int32 → zh_M → Prop} {most : Int} (hm : zb most) : ∀ (k p : Nat) (n : Int) (M : zh_M) (A : zA), RR M A M0 → G A → p + k = 16 → 0 ≤ n → n ≤ p → (∀ M', RR M' (a_sws most k p n A).2 M0 → P (zI (a_sws most k p n A).1) M') → wl_X5_sweepUpTo_4 (zI most) P (k + 1) (zI n) (zI (p : Int)) M := by
  intro k
  induction k with
  | zero =>
    intro p n M A h hA hp n1 n2 hP
    unfold wl_X5_sweepUpTo_4
    exact zk_m (fun _ => hP _ h) (fun q => by omega)
  | succ k ih =>
    intro p n M A h hA hp n1 n2 hP
    have hp2 : p < 16 := by omega
    obtain ⟨hA1, hA2⟩ := hG A hA
    have hu := hA1.2.1 p hp2
    by_cases e : n < most
    · obtain ⟨m1, m2⟩ := hm
      unfold wl_X5_sweepUpTo_4
      rw [zI_cl (by omega) (by omega), show ((p : Int)).toNat = p by omega, h.un hp2, zI_add, zI_add]
      refine zk_m (fun q => by omega) (fun _ => ⟨zk_i, zk_e (fun q => ?_) (fun q => zk_m (fun q2 => by omega) (fun _ => rs_sweep hp2 h hA1 (hA2 p hp2 q) (fun M' hM => ?_)))⟩)
      · rw [a_sws, if_pos e, if_pos q] at hP
        exact ih (p + 1) n M A h hA (by omega) n1 (by omega) hP
      · rw [a_sws, if_pos e, if_neg q] at hP
        exact ih (p + 1) (n + 1) _ _ hM (hs A p hA hp2 q) (by omega) (by omega) (by omega) hP
    · rw [a_sws, if_neg e] at hP
      exact rs_sws_stop hm h hA1 (k + 1) p n hp n1 (by omega) (by omega) (hP _ h)
theorem rs_sweeps {G : zA → Prop} (hG : ∀ A, G A → iHp A ∧ ∀ p, p < 16 → A 17 p ≠ 0 → iKp A p) (hs : ∀ A p, G A → p < 16 → A 17 p ≠ 0 → G (a_sweep A p)) {P : Int32 → zh_M → Prop} {most : Int} (hm : zb most) (h : RR M A M0) (hA : G A) (hP : ∀ M', RR M' (a_sweeps A most).2 M0 → P (zI (a_sweeps A most).1) M') : wp_X5_sweepUpTo M (zI most) P := ⟨17, rs_sws_loop hG hs hm 16 0 0 M A h hA (by omega) (by omega) (by omega) hP⟩
end RHP
