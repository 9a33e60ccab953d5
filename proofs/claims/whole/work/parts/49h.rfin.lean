def c_row (f : Nat → Int) : Nat → Nat → zA → zA
  | 0, _, A => A
  | k + 1, i, A => c_row f k (i + 1) (aset A 34 i (f i))
theorem c_row_pt {f : Nat → Int} : ∀ (k i : Nat) (A : zA) (a j : Nat), c_row f k i A a j = if a = 34 ∧ i ≤ j ∧ j < i + k then f j else A a j := by
  intro k
  induction k with
  | zero => intro i A a j; rw [c_row, if_neg (by omega)]
  | succ k ih =>
    intro i A a j
    rw [c_row, ih]
    by_cases e : a = 34 ∧ i + 1 ≤ j ∧ j < i + 1 + k
    · rw [if_pos e, if_pos (show a = 34 ∧ i ≤ j ∧ j < i + (k + 1) by omega)]
    · rw [if_neg e]
      unfold aset
      by_cases e2 : a = 34 ∧ j = i
      · rw [if_pos e2, if_pos (show a = 34 ∧ i ≤ j ∧ j < i + (k + 1) by omega), e2.2]
      · rw [if_neg e2, if_neg (show ¬ (a = 34 ∧ i ≤ j ∧ j < i + (k + 1)) by omega)]
section RFI
variable {M M0 : zh_M} {A : zA} {N : Int}
theorem rs_scn {K P : Int32 → zh_M → Prop} {most : Int} (hm : zb most) : ∀ (k i : Nat) (n : Int) (M : zh_M) (A : zA), i + k = 6 → 0 ≤ n → n ≤ i → JJ N A → RR M A M0 → (∀ M', RR M' (c_scn most k i n A).2 M0 → K (zI (c_scn most k i n A).1) M') → wl_X5_work_4 (zI most) K P (k + 1) (zI n) (zI (i : Int)) M := by
  obtain ⟨b1, b2⟩ := hm
  intro k
  induction k with
  | zero =>
    intro i n M A hi h0 hn hJ h hK
    unfold wl_X5_work_4
    exact zk_m (fun _ => hK _ h) (fun q => by omega)
  | succ k ih =>
    intro i n M A hi h0 hn hJ h hK
    have hF := hJ.2.2.1
    have hst := hF.st i (by omega)
    have hsc := hF.2.2.2.1 i (by omega)
    unfold wl_X5_work_4
    rw [zI_cl (by omega) (by omega), show ((i : Int)).toNat = i by omega, zI_add, zI_add, h.st (by omega), h.sc (by omega)]
    rw [c_scn] at hK
    refine zk_m (fun q => by omega) (fun _ => zk_m (fun q1 => ?_) (fun q1 => ⟨zk_i, zk_m (fun q2 => ?_) (fun q2 => ⟨zk_i, zk_n (fun q3 => ?_) (fun q3 => ?_)⟩)⟩))
    · rw [if_neg (by omega)] at hK
      exact hK _ h
    · rw [if_pos q1, if_neg (by omega)] at hK
      exact ih (i + 1) n M A (by omega) h0 (by omega) hJ h hK
    · rw [if_pos q1, if_neg (fun w => q3 w.2)] at hK
      exact ih (i + 1) n M A (by omega) h0 (by omega) hJ h hK
    · rw [if_pos q1, if_pos ⟨by omega, q3⟩] at hK
      have hi6 : i < 6 := by omega
      have hl : A 2 i ≠ 0 := by omega
      obtain ⟨l1, l2, -⟩ := hF.lk i hi6 hl
      obtain ⟨r1, r2⟩ := hF.rm hi6 hl
      have f1 := (hF.fs.2 i hi6 hl).1
      refine rs_scan (f := (i : Int)) h (by omega) (by omega) hJ.co f1 ⟨by show 2 ≤ A 4 i; omega, by show A 4 i ≤ 16; omega⟩ l1 l2 (fun j hj => ?_) (fun M' hM => ?_)
      · have := okf_rg (hJ.2.2.2.2.2.1.1 i hi6 hl j (by have : (j : Int) < A 3 i * 4 := hj; omega))
        exact this
      · exact ih (i + 1) (n + 1) M' (a_scan A i) (by omega) (by omega) (by omega) (J_scan hJ hi6 hl).1 hM hK
theorem rs_fin9 {K : Int32 → zh_M → Prop} {P : zh_M → Prop} {d f : Nat → Int} (hd1 : ∀ a, d a = 0 ∨ d a = 1) (hw : ∀ a, a < 256 → 0 ≤ w41 A a ∧ w41 A a ≤ 64) (hy : ∀ a, a < 256 → A 33 a = 0 ∨ A 33 a = 1) (hf : ∀ a, f a = if 0 < w41 A a ∧ (A 33 a ≠ 0 ∨ d a ≠ 0) then 1 else 0) : ∀ (k a : Nat) (n : Int) (M : zh_M) (B : zA), a + k = 256 → RR M B M0 → q_du M d → B 18 = A 18 → B 33 = A 33 → 0 ≤ n → n ≤ 64 * (a : Int) → (∀ M', RR M' (c_row f k a B) M0 → K (zI (n + zsum (fun a => if f a = 0 then 0 else a_slot (w41 A a)) k a)) M') → wl_X5_finish_9 K P (k + 1) (zI n) (zI (a : Int)) M := by
  intro k
  induction k with
  | zero =>
    intro a n M B ha h hd e18 e33 n0 n1 hK
    unfold wl_X5_finish_9
    refine zk_m (fun _ => ?_) (fun q => by omega)
    have := hK _ h
    rw [zsum, Int.add_zero] at this
    exact this
  | succ k ih =>
    intro a n M B ha h hd e18 e33 n0 n1 hK
    have ha2 : a < 256 := by omega
    obtain ⟨w1, w2⟩ := hw a ha2
    have hy1 := hy a ha2
    have hdd := hd1 a
    have ew : w41 B a = w41 A a := by unfold w41; rw [e18]
    have step : ∀ v, f a = v → (∀ M', RR M' (c_row f k (a + 1) (aset B 34 a v)) M0 → K (zI (n + (if v = 0 then 0 else a_slot (w41 A a)) + zsum (fun a => if f a = 0 then 0 else a_slot (w41 A a)) k (a + 1))) M') := by
      intro v e M' hM
      subst e
      have := hK M' hM
      rw [zsum, ← Int.add_assoc] at this
      exact this
    have hq : ∀ v, q_du (zh_set M 45 a (zI v)) d := fun v j hj => by rw [zs_id (by decide)]; exact hd j hj
    have s0 : f a = 0 → wl_X5_finish_9 K P (k + 1) (zI (n + 0)) (zI ((a : Int) + 1)) (zh_set M 45 a (zI 0)) := fun e =>
      ih (a + 1) (n + 0) _ _ (by omega) (h.ke_ (v := 0) ha2) (hq 0) (by rw [as_rne (by decide)]; exact e18) (by rw [as_rne (by decide)]; exact e33) (by omega) (by omega) (step 0 e)
    have g := a_slot_rg (n := w41 A a) w1 w2
    have s1 : f a = 1 → wl_X5_finish_9 K P (k + 1) (zI (n + a_slot (w41 A a))) (zI ((a : Int) + 1)) (zh_set M 45 a (zI 1)) := fun e =>
      ih (a + 1) (n + a_slot (w41 A a)) _ _ (by omega) (h.ke_ (v := 1) ha2) (hq 1) (by rw [as_rne (by decide)]; exact e18) (by rw [as_rne (by decide)]; exact e33) (by omega) (by omega) (step 1 e)
    have hfa := hf a
    unfold wl_X5_finish_9
    rw [zI_cl (by omega) (by omega), show ((a : Int)).toNat = a by omega, rr_w41 h ha2, h.yo ha2, hd a ha2, ew, e33, zI_add, zI_add]
    refine zk_m (fun q => by omega) (fun _ => ⟨zk_i, zk_m (fun c0 => ⟨zk_i, fun M2 e2 => ?_⟩) (fun c0 => ⟨zk_i, zk_n (fun c1 => ⟨zk_i, fun M5 e5 => ?_⟩) (fun c1 => ⟨zk_i, zk_e (fun c2 => ⟨zk_i, fun M8 e8 => ?_⟩) (fun c2 => ⟨zk_i, fun M11 e11 => ?_⟩)⟩)⟩)⟩)
    · subst e2
      rw [zs_same]
      rw [if_neg (by omega)] at hfa
      exact ⟨zk_i, zk_e (fun _ => s0 hfa) (fun z => absurd rfl z)⟩
    · subst e5
      rw [zs_same, zs_id (by decide), rr_w41 h ha2, ew]
      rw [if_pos ⟨c0, Or.inl c1⟩] at hfa
      exact ⟨zk_i, zk_e (fun z => by omega) (fun _ => ⟨zk_i, rs_slot w1 w2 (by rw [zI_add]; exact s1 hfa)⟩)⟩
    · subst e8
      rw [zs_same]
      rw [if_neg (by omega)] at hfa
      exact ⟨zk_i, zk_e (fun _ => s0 hfa) (fun z => absurd rfl z)⟩
    · subst e11
      rw [zs_same, zs_id (by decide), rr_w41 h ha2, ew]
      rw [if_pos ⟨c0, Or.inr c2⟩] at hfa
      exact ⟨zk_i, zk_e (fun z => by omega) (fun _ => ⟨zk_i, rs_slot w1 w2 (by rw [zI_add]; exact s1 hfa)⟩)⟩
theorem rs_fin88 {K P : zh_M → Prop} {l : Int32} : ∀ (k p : Nat) (M : zh_M) (B : zA), p + k = 16 → RR M B M0 → (∀ q, q < 16 → 0 ≤ B 16 q ∧ B 16 q ≤ 64) → (∀ M', RR M' (a_unsw k p B) M0 → K M') → wl_X5_finish_88 l K P (k + 1) (zI (p : Int)) M := by
  intro k
  induction k with
  | zero =>
    intro p M B hp h hk hK
    unfold wl_X5_finish_88
    exact zk_m (fun _ => hK _ h) (fun q => by omega)
  | succ k ih =>
    intro p M B hp h hk hK
    have hkp := hk p (by omega)
    unfold wl_X5_finish_88
    rw [zI_cl (by omega) (by omega), show ((p : Int)).toNat = p by omega, h.kd (by omega), zI_add]
    rw [a_unsw] at hK
    refine zk_m (fun q => by omega) (fun _ => ⟨zk_i, zk_m (fun q1 => ⟨zk_i, fun M2 e2 => ?_⟩) (fun q1 => ⟨zk_i, fun M2 e2 => ?_⟩)⟩)
    · subst e2
      rw [if_neg (by omega)] at hK
      exact ih (p + 1) _ _ (by omega) (h.un_ (v := 0) (by omega)) (fun q hq => by rw [as_id (by decide)]; exact hk q hq) hK
    · subst e2
      rw [if_pos (by omega)] at hK
      exact ih (p + 1) _ _ (by omega) (h.un_ (v := 1) (by omega)) (fun q hq => by rw [as_id (by decide)]; exact hk q hq) hK
end RFI
