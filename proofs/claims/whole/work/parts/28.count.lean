section CNT
variable {M M0 : zh_M} {A : zA}
theorem cs_slots_loop {P : Int32 → zh_M → Prop} (h : RC M A M0) (hA : iHp A) : ∀ (k u : Nat) (n : Int), u + k = 128 → P (zI (n + zsum (fun u => if A 18 u = 0 then 0 else 1) k u)) M → wl_X3_takenSlots_4 P (k + 1) (zI n) (zI (u : Int)) M := by
  intro k
  induction k with
  | zero =>
    intro u n hu hP
    unfold wl_X3_takenSlots_4
    refine zk_m (fun _ => ?_) (fun q => by omega)
    simpa [zsum] using hP
  | succ k ih =>
    intro u n hu hP
    have hu2 : u < 128 := by omega
    obtain ⟨x1, x2, x3, x4, x5, x6⟩ := hA.2.2 u hu2
    unfold wl_X3_takenSlots_4
    rw [zI_cl (by omega) (by omega), show ((u : Int)).toNat = u by omega, h.sz hu2, zI_add, zI_add]
    rw [zsum] at hP
    refine zk_m (fun q => by omega) (fun _ => ⟨zk_i, zk_e (fun q => ?_) (fun q => ?_)⟩)
    · rw [if_pos q, Int.zero_add] at hP
      exact ih (u + 1) n (by omega) hP
    · rw [if_neg q, ← Int.add_assoc] at hP
      exact ih (u + 1) (n + 1) (by omega) hP
theorem cs_words_loop {P : Int32 → zh_M → Prop} (h : RC M A M0) (hA : iHp A) : ∀ (k u : Nat) (n : Int), u + k = 128 → P (zI (n + zsum (fun u => if A 18 u = 0 then 0 else a_slot (A 18 u)) k u)) M → wl_X3_takenWords_4 P (k + 1) (zI n) (zI (u : Int)) M := by
  intro k
  induction k with
  | zero =>
    intro u n hu hP
    unfold wl_X3_takenWords_4
    refine zk_m (fun _ => ?_) (fun q => by omega)
    simpa [zsum] using hP
  | succ k ih =>
    intro u n hu hP
    have hu2 : u < 128 := by omega
    obtain ⟨x1, x2, x3, x4, x5, x6⟩ := hA.2.2 u hu2
    unfold wl_X3_takenWords_4
    rw [zI_cl (by omega) (by omega), show ((u : Int)).toNat = u by omega, h.sz hu2, zI_add]
    rw [zsum] at hP
    refine zk_m (fun q => by omega) (fun _ => ⟨zk_i, zk_e (fun q => ?_) (fun q => ⟨zk_i, cs_slot x1 x2 ?_⟩)⟩)
    · rw [if_pos q, Int.zero_add] at hP
      exact ih (u + 1) n (by omega) hP
    · rw [if_neg q, ← Int.add_assoc] at hP
      rw [zI_add]
      exact ih (u + 1) (n + a_slot (A 18 u)) (by omega) hP
theorem cs_free_loop {P : Int32 → zh_M → Prop} (h : RC M A M0) (hA : iHp A) : ∀ (k u : Nat) (n : Int), u + k = 16 → P (zI (n + zsum (fun u => if A 16 u = 0 then 1 else 0) k u)) M → wl_X3_freePages_4 P (k + 1) (zI n) (zI (u : Int)) M := by
  intro k
  induction k with
  | zero =>
    intro u n hu hP
    unfold wl_X3_freePages_4
    refine zk_m (fun _ => ?_) (fun q => by omega)
    simpa [zsum] using hP
  | succ k ih =>
    intro u n hu hP
    have hu2 : u < 16 := by omega
    have hk := hA.1 u hu2
    unfold wl_X3_freePages_4
    rw [zI_cl (by omega) (by omega), show ((u : Int)).toNat = u by omega, h.kd hu2, zI_add, zI_add]
    rw [zsum] at hP
    refine zk_m (fun q => by omega) (fun _ => ⟨zk_i, zk_n (fun q => ?_) (fun q => ?_)⟩)
    · rw [if_neg q, Int.zero_add] at hP
      exact ih (u + 1) n (by omega) hP
    · rw [if_pos q, ← Int.add_assoc] at hP
      exact ih (u + 1) (n + 1) (by omega) hP
theorem cs_unsp_loop {P : Int32 → zh_M → Prop} (h : RC M A M0) (hA : iHp A) : ∀ (k u : Nat) (n : Int), u + k = 16 → P (zI (n + zsum (fun u => if A 17 u = 0 then 0 else 1) k u)) M → wl_X3_unsweptSpans_4 P (k + 1) (zI n) (zI (u : Int)) M := by
  intro k
  induction k with
  | zero =>
    intro u n hu hP
    unfold wl_X3_unsweptSpans_4
    refine zk_m (fun _ => ?_) (fun q => by omega)
    simpa [zsum] using hP
  | succ k ih =>
    intro u n hu hP
    have hu2 : u < 16 := by omega
    have hk := hA.2.1 u hu2
    unfold wl_X3_unsweptSpans_4
    rw [zI_cl (by omega) (by omega), show ((u : Int)).toNat = u by omega, h.un hu2, zI_add, zI_add]
    rw [zsum] at hP
    refine zk_m (fun q => by omega) (fun _ => ⟨zk_i, zk_e (fun q => ?_) (fun q => ?_)⟩)
    · rw [if_pos q, Int.zero_add] at hP
      exact ih (u + 1) n (by omega) hP
    · rw [if_neg q, ← Int.add_assoc] at hP
      exact ih (u + 1) (n + 1) (by omega) hP
theorem cs_copied_loop {P : Int32 → zh_M → Prop} (h : RC M A M0) : ∀ (k i : Nat) (n : Int), i + k = 6 → P (zI (n + zsum (fun i => A 5 i) k i)) M → wl_X4_copiedFrames_4 P (k + 1) (zI n) (zI (i : Int)) M := by
  intro k
  induction k with
  | zero =>
    intro i n hi hP
    unfold wl_X4_copiedFrames_4
    refine zk_m (fun _ => ?_) (fun q => by omega)
    simpa [zsum] using hP
  | succ k ih =>
    intro i n hi hP
    have hi2 : i < 6 := by omega
    unfold wl_X4_copiedFrames_4
    rw [zi_Fiber_zI hi2, h.cpd hi2, zI_add, zI_add]
    rw [zsum, ← Int.add_assoc] at hP
    exact zk_m (fun q => by omega) (fun _ => ⟨zk_i, ih (i + 1) (n + A 5 i) (by omega) hP⟩)
theorem cs_long_loop {P : Int32 → zh_M → Prop} (h : RC M A M0) (hA : iHp A) : ∀ (k p : Nat) (m len : Int), p + k = 16 → 0 ≤ m → m ≤ 16 → 0 ≤ len → len ≤ p → P (zI (a_longF A k p m len)) M → wl_X3_longestRun_6 P (k + 1) (zI m) (zI len) (zI (p : Int)) M := by
  intro k
  induction k with
  | zero =>
    intro p m len hp m1 m2 l1 l2 hP
    unfold wl_X3_longestRun_6
    exact zk_m (fun _ => hP) (fun q => by omega)
  | succ k ih =>
    intro p m len hp m1 m2 l1 l2 hP
    have hp2 : p < 16 := by omega
    have hk := hA.1 p hp2
    unfold wl_X3_longestRun_6
    rw [zI_cl (by omega) (by omega), show ((p : Int)).toNat = p by omega, h.kd hp2, zI_add, zI_add]
    rw [a_longF] at hP
    refine zk_m (fun q => by omega) (fun _ => ⟨zk_i, zk_n (fun q => ?_) (fun q => ?_)⟩)
    · simp only [if_neg q] at hP
      have e : (if zI m < zI 0 then zI 0 else zI m) = zI (if m < 0 then 0 else m) := by
        simp only [zI_lt (a := m) (b := 0) (by omega) (by omega) (by omega) (by omega)]
        split <;> rfl
      rw [e]
      exact ih (p + 1) _ 0 (by omega) (by split <;> omega) (by split <;> omega) (by omega) (by omega) hP
    · simp only [if_pos q] at hP
      have e : (if zI m < zI (len + 1) then zI (len + 1) else zI m) = zI (if m < len + 1 then len + 1 else m) := by
        simp only [zI_lt (a := m) (b := len + 1) (by omega) (by omega) (by omega) (by omega)]
        split <;> rfl
      rw [e]
      exact ih (p + 1) _ (len + 1) (by omega) (by split <;> omega) (by split <;> omega) (by omega) (by omega) hP
theorem cs_count {P : Int32 → zh_M → Prop} {w : Int} (h : RC M A M0) (hw : zb w) (hA : iHp A) (hC : iCo A) (hP : P (zI (a_count A w)) M) : wp_X4_count M (zI w) P := by
  obtain ⟨w1, w2⟩ := hw
  have c1 := hC.1
  unfold wp_X4_count
  rw [zI_ti w1 w2, h.mk, h.cy, h.pi, h.fh, h.tg, h.freed]
  unfold a_count at hP
  refine ⟨fun e => ?_, fun e => ?_, fun e => ?_, fun e => ?_, fun e => ?_, fun e => ?_, fun e => ?_, fun e => ?_, fun e => ?_, fun e => ?_, fun e => ?_, fun e => ?_, fun e => ?_⟩
  · rwa [if_neg (by omega), if_neg (by omega), if_neg (by omega), if_neg (by omega), if_neg (by omega), if_neg (by omega), if_neg (by omega), if_neg (by omega), if_neg (by omega), if_neg (by omega), if_neg (by omega), if_neg (by omega)] at hP
  · rw [if_pos e] at hP
    exact ⟨129, cs_slots_loop h hA 128 0 0 (by omega) (by rw [Int.zero_add]; exact hP)⟩
  · rw [if_neg (by omega), if_pos e] at hP
    exact ⟨129, cs_words_loop h hA 128 0 0 (by omega) (by rw [Int.zero_add]; exact hP)⟩
  · rw [if_neg (by omega), if_neg (by omega), if_pos e] at hP
    exact ⟨17, cs_free_loop h hA 16 0 0 (by omega) (by rw [Int.zero_add]; exact hP)⟩
  · rw [if_neg (by omega), if_neg (by omega), if_neg (by omega), if_pos e] at hP
    exact ⟨17, cs_long_loop h hA 16 0 0 0 (by omega) (by omega) (by omega) (by omega) (by omega) hP⟩
  · rw [if_neg (by omega), if_neg (by omega), if_neg (by omega), if_neg (by omega), if_pos e] at hP
    refine zk_e (fun q => ?_) (fun q => ?_)
    · rwa [if_pos q] at hP
    · rwa [if_neg q] at hP
  · rw [if_neg (by omega), if_neg (by omega), if_neg (by omega), if_neg (by omega), if_neg (by omega), if_pos e] at hP
    exact ⟨17, cs_unsp_loop h hA 16 0 0 (by omega) (by rw [Int.zero_add]; exact hP)⟩
  · rwa [if_neg (by omega), if_neg (by omega), if_neg (by omega), if_neg (by omega), if_neg (by omega), if_neg (by omega), if_pos e] at hP
  · rwa [if_neg (by omega), if_neg (by omega), if_neg (by omega), if_neg (by omega), if_neg (by omega), if_neg (by omega), if_neg (by omega), if_pos e] at hP
  · rw [if_neg (by omega), if_neg (by omega), if_neg (by omega), if_neg (by omega), if_neg (by omega), if_neg (by omega), if_neg (by omega), if_neg (by omega), if_pos e] at hP
    exact ⟨7, cs_copied_loop h 6 0 0 (by omega) (by rw [Int.zero_add]; exact hP)⟩
  · rwa [if_neg (by omega), if_neg (by omega), if_neg (by omega), if_neg (by omega), if_neg (by omega), if_neg (by omega), if_neg (by omega), if_neg (by omega), if_neg (by omega), if_pos e] at hP
  · rwa [if_neg (by omega), if_neg (by omega), if_neg (by omega), if_neg (by omega), if_neg (by omega), if_neg (by omega), if_neg (by omega), if_neg (by omega), if_neg (by omega), if_neg (by omega), if_pos e] at hP
  · rwa [if_neg (by omega), if_neg (by omega), if_neg (by omega), if_neg (by omega), if_neg (by omega), if_neg (by omega), if_neg (by omega), if_neg (by omega), if_neg (by omega), if_neg (by omega), if_neg (by omega), if_pos e] at hP
end CNT
