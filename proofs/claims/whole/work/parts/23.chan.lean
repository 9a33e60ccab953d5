def zob (b : Int) : Option Nat := if b = -1 then none else some (10 + 3 * b.toNat)
abbrev iWa (A : zA) : Prop := ∀ i, i < 6 → zb (A 9 i) ∧ zb (A 10 i) ∧ zb (A 11 i)
theorem zob_k {b : Int} {X : Prop} {Y : Nat → Prop} (f : b = -1 → X) (g : b ≠ -1 → Y (10 + 3 * b.toNat)) : (zob b = none → X) ∧ (∀ o, zob b = some o → Y o) := by
  by_cases e : b = -1
  · refine ⟨fun _ => f e, fun o ho => ?_⟩
    rw [zob, if_pos e] at ho
    cases ho
  · refine ⟨fun ho => ?_, fun o ho => ?_⟩
    · rw [zob, if_neg e] at ho
      cases ho
    · rw [zob, if_neg e] at ho
      cases ho
      exact g e
section CHN
variable {M M0 : zh_M} {A : zA}
theorem cs_waits {P : Int32 → zh_M → Prop} {i : Nat} {s c : Int} (h : RC M A M0) (hi : i < 6) (hs : iSt A) (hw : iWa A) (hs0 : zb s) (hc : zb c) (h1 : A 2 i = s ∧ (A 9 i = c ∨ A 10 i = c) → P (zI 1) M) (h0 : ¬ (A 2 i = s ∧ (A 9 i = c ∨ A 10 i = c)) → P (zI 0) M) : wp_X2_waitsAt M (10 + 3 * i) (zI s) (zI c) P := by
  obtain ⟨s1, s2⟩ := hs0
  obtain ⟨c1, c2⟩ := hc
  obtain ⟨⟨w1, w2⟩, ⟨w3, w4⟩, w5⟩ := hw i hi
  have hsi := hs i hi
  unfold wp_X2_waitsAt
  rw [h.st hi, h.aw hi, h.oa hi]
  exact zk_n (fun q => h0 (fun e => q e.1)) (fun q => zk_e (fun q1 => h1 ⟨q, Or.inl q1⟩) (fun q1 => zk_n (fun q2 => h0 (fun e => e.2.elim q1 q2)) (fun q2 => h1 ⟨q, Or.inr q2⟩)))
theorem cs_first_loop {P : Option Nat → zh_M → Prop} {s c : Int} (h : RC M A M0) (hs : iSt A) (hw : iWa A) (hs0 : zb s) (hc : zb c) : ∀ (k i : Nat) (b : Int), i + k = 6 → (b = -1 ∨ (0 ≤ b ∧ b < 6)) → P (zob (a_firstF A s c k i b)) M → wl_X4_firstWaiting_5 (zI s) (zI c) P (k + 1) (zob b) (zI (i : Int)) M := by
  intro k
  induction k with
  | zero =>
    intro i b hi hb hP
    unfold wl_X4_firstWaiting_5
    exact zk_m (fun _ => hP) (fun q => by omega)
  | succ k ih =>
    intro i b hi hb hP
    have hi2 : i < 6 := by omega
    have ei : (some (10 + 3 * i) : Option Nat) = zob (i : Int) := by rw [zob, if_neg (by omega), Int.toNat_natCast]
    unfold wl_X4_firstWaiting_5
    rw [zi_Fiber_zI hi2, zI_add, ei]
    refine zk_m (fun q => by omega) (fun _ => ⟨zk_i, cs_waits h hi2 hs hw hs0 hc (fun w => zk_e (fun q => by omega) (fun _ => zob_k (fun e => ?_) (fun e => ?_))) (fun w => zk_e (fun _ => ?_) (fun q => absurd rfl q))⟩)
    · rw [a_firstF, if_pos ⟨w.1, w.2, Or.inl e⟩] at hP
      exact ih (i + 1) i (by omega) (Or.inr ⟨by omega, by omega⟩) hP
    · obtain ⟨b1, b2⟩ := hb.resolve_left e
      have hb3 : b.toNat < 6 := by omega
      obtain ⟨-, -, t1, t2⟩ := hw i hi2
      obtain ⟨-, -, t3, t4⟩ := hw b.toNat hb3
      rw [h.ti hb3, h.ti hi2]
      refine ⟨zf_Fiber_of hb3, zk_m (fun q => ?_) (fun q => ?_)⟩
      · rw [a_firstF, if_neg (fun e2 => e2.2.2.elim e (fun e3 => by omega))] at hP
        have eb : (some (10 + 3 * b.toNat) : Option Nat) = zob b := by rw [zob, if_neg e]
        rw [eb]
        exact ih (i + 1) b (by omega) hb hP
      · rw [a_firstF, if_pos ⟨w.1, w.2, Or.inr q⟩] at hP
        exact ih (i + 1) i (by omega) (Or.inr ⟨by omega, by omega⟩) hP
    · rw [a_firstF, if_neg (fun e2 => w ⟨e2.1, e2.2.1⟩)] at hP
      exact ih (i + 1) b (by omega) hb hP
theorem cs_first {P : Option Nat → zh_M → Prop} {s c : Int} (h : RC M A M0) (hs : iSt A) (hw : iWa A) (hs0 : zb s) (hc : zb c) (hP : P (zob (a_first A s c)) M) : wp_X4_firstWaiting M (zI s) (zI c) P := ⟨7, cs_first_loop h hs hw hs0 hc 6 0 (-1) (by omega) (Or.inl rfl) hP⟩
theorem a_firstF_rg (A : zA) (s c : Int) : ∀ (k i : Nat) (b : Int), i + k = 6 → (b = -1 ∨ (0 ≤ b ∧ b < 6 ∧ A 2 b.toNat = s ∧ (A 9 b.toNat = c ∨ A 10 b.toNat = c))) → (a_firstF A s c k i b = -1 ∨ (0 ≤ a_firstF A s c k i b ∧ a_firstF A s c k i b < 6 ∧ A 2 (a_firstF A s c k i b).toNat = s ∧ (A 9 (a_firstF A s c k i b).toNat = c ∨ A 10 (a_firstF A s c k i b).toNat = c))) := by
  intro k
  induction k with
  | zero => intro i b hi hb; exact hb
  | succ k ih =>
    intro i b hi hb
    rw [a_firstF]
    split
    · rename_i w
      exact ih (i + 1) i (by omega) (Or.inr ⟨by omega, by omega, by rw [Int.toNat_natCast]; exact w.1, by rw [Int.toNat_natCast]; exact w.2.1⟩)
    · exact ih (i + 1) b (by omega) hb
theorem a_first_rg (A : zA) (s c : Int) : a_first A s c = -1 ∨ (0 ≤ a_first A s c ∧ a_first A s c < 6 ∧ A 2 (a_first A s c).toNat = s ∧ (A 9 (a_first A s c).toNat = c ∨ A 10 (a_first A s c).toNat = c)) := a_firstF_rg A s c 6 0 (-1) (by omega) (Or.inl rfl)
theorem cs_isch {P : Int32 → zh_M → Prop} {c : Int} (hc : zb c) (h1 : 0 ≤ c ∧ c < 4 → P (zI 1) M) (h0 : ¬ (0 ≤ c ∧ c < 4) → P (zI 0) M) : wp_X4_isChannel M (zI c) P := by
  obtain ⟨c1, c2⟩ := hc
  unfold wp_X4_isChannel
  exact zk_l (fun q => h0 (by omega)) (fun q => zk_m (fun q1 => h0 (by omega)) (fun q1 => h1 ⟨q, q1⟩))
theorem zI_ofNat (n : Nat) : Int32.ofNat n = zI (n : Int) := Int32.ofInt_eq_ofNat.symm
theorem cs_space {P : Int32 → zh_M → Prop} {c : Nat} (h : RC M A M0) (hc : c < 4) (hch : 0 ≤ A 22 c ∧ A 22 c ≤ (c : Int)) (h1 : A 22 c < (c : Int) → P (zI 1) M) (h0 : ¬ A 22 c < (c : Int) → P (zI 0) M) : wp_X0_hasSpace M (29 + 2 * c) P := by
  obtain ⟨g1, g2⟩ := hch
  unfold wp_X0_hasSpace
  rw [zl_Ch, zI_ofNat, h.le hc]
  exact zk_m (fun q => h0 (by omega)) (fun q => h1 q)
theorem cs_addL {P : zh_M → Prop} {c : Nat} {p : Int} (h : RC M A M0) (hc : c < 4) (hch : 0 ≤ A 22 c ∧ A 22 c ≤ (c : Int)) (hP : ∀ M', RC M' (a_addL A c p) M0 → P M') : wp_X0_addLast M (29 + 2 * c) (zI p) P := by
  obtain ⟨g1, g2⟩ := hch
  unfold wp_X0_addLast
  refine cs_space h hc ⟨g1, g2⟩ (fun w => zk_e (fun q => by omega) (fun _ => ?_)) (fun w => zk_e (fun _ => ?_) (fun q => absurd rfl q))
  · rw [zl_Ch, h.le hc, zI_cl (by omega) (by omega)]
    refine ⟨zk_i, fun M3 e3 M4 e4 => ?_⟩
    subst e3
    have h3 := h.qu_ (j := (A 22 c).toNat) (v := p) hc (by omega)
    rw [h3.le hc, as_id (by decide), zI_add] at e4
    subst e4
    rw [a_addL, if_pos w] at hP
    exact hP _ (h3.le_ hc)
  · rw [a_addL, if_neg w] at hP
    exact hP _ h
theorem cs_wait {P : zh_M → Prop} {i : Nat} {s k c d : Int} (h : RC M A M0) (hi : i < 6) (hk : zb k) (hf : iFr A i) (hP : ∀ M', RC M' (a_wait A i s k c d) M0 → P M') : wp_X4_newTicket M (fun r M1 => wp_X2_beginToWait M1 (10 + 3 * i) (zI s) (zI k) (zI c) (zI d) r P) := by
  unfold wp_X4_newTicket
  intro M1 e1
  rw [h.clock, zI_add] at e1
  rw [h.clock]
  subst e1
  unfold wp_X2_beginToWait
  intro M2 e2
  subst e2
  have h2 := ((((h.clock_ (v := A 14 0 + 1)).ghost (a := 29) (k := i) (v := A 14 0 + 1) (by decide)).ghost (a := 30) (k := i) (v := k) (by decide)).st_ (v := s) hi)
  have e3 : a_ci (aset (aset (aset (aset A 14 0 (A 14 0 + 1)) 29 i (A 14 0 + 1)) 30 i k) 2 i s) i k = a_ci A i k := by
    unfold a_ci
    rw [as_id (by decide), as_id (by decide), as_id (by decide), as_id (by decide), as_id (by decide), as_id (by decide), as_id (by decide), as_id (by decide)]
  refine cs_cellIndex h2 hi hk ?_ ?_
  · unfold iFr
    rw [as_id (by decide), as_id (by decide), as_id (by decide), as_id (by decide)]
    exact hf
  · rw [e3]
    intro M4 e4 M5 e5 M6 e6 M7 e7
    subst e4; subst e5; subst e6; subst e7
    exact hP _ ((((h2.wc_ hi).aw_ hi).oa_ hi).ti_ hi)
end CHN
