def c_seat (A : zA) (slot : Int) : Int × zA :=
  if (a_seat A slot).1 = -1 then
    (if (a_seat (a_sweeps (a_fin (a_seat A slot).2) 16).2 slot).1 = -1 then a_seat (a_sweeps (a_fin (a_cycle (a_seat (a_sweeps (a_fin (a_seat A slot).2) 16).2 slot).2)) 16).2 slot else a_seat (a_sweeps (a_fin (a_seat A slot).2) 16).2 slot)
  else a_seat A slot
section RMK
variable {M M0 : zh_M} {A : zA} {N : Int}
theorem JG : ∀ A, JJ N A → iHp A ∧ ∀ p, p < 16 → A 17 p ≠ 0 → iKp A p := fun _ h => ⟨h.hp, fun _ hp hu => J_kp h hp hu⟩
theorem JGs : ∀ A p, JJ N A → p < 16 → A 17 p ≠ 0 → JJ N (a_sweep A p) := fun _ _ h hp hu => J_sweep h hp hu
theorem JJ.chr (h : JJ N A) : ∀ c, c < 4 → 0 ≤ A 22 c ∧ A 22 c ≤ (c : Int) ∧ ∀ r : Nat, (r : Int) < A 22 c → -1 ≤ A 21 (4 * c + r) ∧ A 21 (4 * c + r) < 256 := fun c hc => ⟨(h.2.2.2.1 c hc).1, (h.2.2.2.1 c hc).2, fun r hr => okf_rg (h.2.2.2.2.2.1.2.1 c hc r hr)⟩
theorem a_any_seat {size ptrs : Int} (hJ : JJ N A) (s1 : 1 ≤ size) (s2 : size ≤ 64) : a_any A size ptrs = if (c_seat A (a_slot size)).1 = -1 then c_seat A (a_slot size) else ((c_seat A (a_slot size)).1, a_fillS (c_seat A (a_slot size)).2 (c_seat A (a_slot size)).1.toNat size ptrs (if (c_seat A (a_slot size)).2 14 5 = 0 then 0 else 1)) := by
  have pl : ∀ (A : zA) (m : Int), a_place A size ptrs m = if (a_seat A (a_slot size)).1 = -1 then a_seat A (a_slot size) else ((a_seat A (a_slot size)).1, a_fillS (a_seat A (a_slot size)).2 (a_seat A (a_slot size)).1.toNat size ptrs m) := fun _ _ => rfl
  obtain ⟨h1, h2, h3⟩ := J_seat hJ s1 s2
  unfold a_any c_seat
  simp only [pl]
  by_cases e : (a_seat A (a_slot size)).1 = -1
  · obtain ⟨c1, c2⟩ := J_clean h1
    obtain ⟨i1, i2, i3⟩ := J_seat c1 s1 s2
    simp only [if_pos e]
    by_cases e2 : (a_seat (a_sweeps (a_fin (a_seat A (a_slot size)).2) 16).2 (a_slot size)).1 = -1
    · obtain ⟨d1, d2⟩ := J_clean (J_cycle i1).1
      obtain ⟨j1, j2, j3⟩ := J_seat d1 s1 s2
      simp only [if_pos e2, if_pos (j2.trans d2)]
    · simp only [if_neg e2, if_pos (i2.trans c2)]
  · simp only [if_neg e, h2]
theorem c_seat_J {size : Int} (hJ : JJ N A) (s1 : 1 ≤ size) (s2 : size ≤ 64) : JJ N (c_seat A (a_slot size)).2 ∧ ((c_seat A (a_slot size)).1 ≠ -1 → seatOk (c_seat A (a_slot size)).2 (a_slot size) (c_seat A (a_slot size)).1) := by
  obtain ⟨h1, h2, h3⟩ := J_seat hJ s1 s2
  unfold c_seat
  split
  · obtain ⟨c1, c2⟩ := J_clean h1
    obtain ⟨i1, i2, i3⟩ := J_seat c1 s1 s2
    split
    · obtain ⟨d1, d2⟩ := J_clean (J_cycle i1).1
      obtain ⟨j1, j2, j3⟩ := J_seat d1 s1 s2
      exact ⟨j1, j3⟩
    · exact ⟨i1, i3⟩
  · exact ⟨h1, h3⟩
theorem rs_clean {Q : zh_M → Prop} (h : RR M A M0) (hJ : JJ N A) (hQ : ∀ M', RR M' (a_sweeps (a_fin A) 16).2 M0 → Q M') : ((M 39 23) = zI 0 → wp_X5_sweepUpTo M (zI 16) (fun _ M7 => Q M7)) ∧ (¬ (M 39 23) = zI 0 → wp_X5_work M (zI 1000000) (fun _ M11 => wp_X5_sweepUpTo M11 (zI 16) (fun _ M13 => Q M13))) := by
  have hco := hJ.co.1
  rw [h.mk]
  unfold a_fin at hQ
  refine zk_e (fun q => ?_) (fun q => ?_)
  · rw [if_pos q] at hQ
    exact rs_sweeps JG JGs ⟨by omega, by omega⟩ h hJ hQ
  · rw [if_neg q] at hQ
    have e : a_work A 1000000 = a_work A 134 := (a_work_eq (if_neg (by omega))).trans (a_work_eq (if_neg (by omega))).symm
    refine rs_work (by omega) (by omega) h hJ q (fun M' hM => ?_)
    rw [e] at hM
    exact rs_sweeps JG JGs ⟨by omega, by omega⟩ hM (J_work hJ q) hQ
theorem rs_retry {K P : Int32 → zh_M → Prop} {x1 x2 x3 x4 : Int32} {size : Int} (s1 : 1 ≤ size) (s2 : size ≤ 64) (h : RR M A M0) (hJ : JJ N A) (hK : ∀ M', RR M' (c_seat A (a_slot size)).2 M0 → K (zI (c_seat A (a_slot size)).1) M') : wp_X5_seat M (zI (a_slot size)) (fun r6 M5 => ∃ n45 : Nat, wl_X5_make_88 x1 x2 x3 x4 (zI (a_slot size)) K P n45 r6 (zI 0) M5) := by
  have g := a_slot_rg (n := size) (by omega) s2
  have g2 := a_slot_le (n := size) (by omega) s2
  have okr : ∀ {B : zA} {r : Int}, (r ≠ -1 → seatOk B (a_slot size) r) → r = -1 ∨ (0 ≤ r ∧ r < 256) := by
    intro B r hr
    by_cases e : r = -1
    · exact Or.inl e
    · obtain ⟨u, u1, u2, -⟩ := hr e
      exact Or.inr (by omega)
  obtain ⟨h1, h2, h3⟩ := J_seat hJ s1 s2
  unfold c_seat at hK
  refine rs_seat JG JGs g.1 g.2 g2.2.2.1 h hJ (fun M5 h5 => ⟨3, ?_⟩)
  have o1 := okr h3
  generalize a_seat A (a_slot size) = q at *
  unfold wl_X5_make_88
  refine zk_m (fun z => by omega) (fun _ => zk_m (fun c => ?_) (fun c => zk_n (fun _ => ?_) (fun z => by omega)))
  · rw [if_neg (by omega)] at hK
    exact hK _ h5
  rw [if_pos (by omega)] at hK
  obtain ⟨c1, c2⟩ := J_clean h1
  obtain ⟨i1, i2, i3⟩ := J_seat c1 s1 s2
  refine rs_clean (Q := fun M7 => wp_X5_seat M7 (zI (a_slot size)) (fun r10 M9 => wl_X5_make_88 x1 x2 x3 x4 (zI (a_slot size)) K P 2 r10 (zI 0 + zI 1) M9)) h5 h1 (fun M7 h7 => rs_seat JG JGs g.1 g.2 g2.2.2.1 h7 c1 (fun M9 h9 => ?_))
  have o2 := okr i3
  generalize a_seat (a_sweeps (a_fin q.2) 16).2 (a_slot size) = r at *
  rw [zI_add]
  unfold wl_X5_make_88
  refine zk_m (fun z => by omega) (fun _ => zk_m (fun c => ?_) (fun c => zk_n (fun z => absurd rfl z) (fun _ => ?_)))
  · rw [if_neg (by omega)] at hK
    exact hK _ h9
  rw [if_pos (by omega)] at hK
  have d := (J_cycle i1).1
  obtain ⟨d1, d2⟩ := J_clean d
  refine rs_cycle JG JGs h9 i1 i1.chr (fun M17 h17 => ?_)
  refine rs_clean (Q := fun M18 => wp_X5_seat M18 (zI (a_slot size)) (fun r10 M9 => wl_X5_make_88 x1 x2 x3 x4 (zI (a_slot size)) K P 1 r10 (zI (0 + 1) + zI 1) M9)) h17 d (fun M18 h18 => rs_seat JG JGs g.1 g.2 g2.2.2.1 h18 d1 (fun M20 h20 => ?_))
  rw [zI_add]
  unfold wl_X5_make_88
  exact zk_m (fun _ => hK _ h20) (fun z => by omega)
end RMK
