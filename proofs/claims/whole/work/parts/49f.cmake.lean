section CMK
variable {M M0 : zh_M} {A : zA} {N : Int}
abbrev JJm (N : Int) (A : zA) : Prop := JJ N A ∧ A 14 5 ≠ 0
theorem JJm_pc : ∀ A, JJm N A → iPc A := fun _ h => J_pc h.1 h.2
theorem JJm_st : ∀ A, JJm N A → a_left A → JJm N (a_piece A) := fun _ h w => J_piece h.1 h.2 w
theorem JJ.ch (h : JJ N A) : iCh A := fun c hc => ⟨(h.2.2.2.1 c hc).1, (h.2.2.2.1 c hc).2, fun r hr => by
  have := okf_rg (h.2.2.2.2.2.1.2.1 c hc r hr)
  omega⟩
theorem JJ.hp (h : JJ N A) : iHp A := h.2.2.2.2.1.hp
theorem JJ.co (h : JJ N A) : iCo A := h.2.2.2.2.1.co
theorem cs_clean {P : zh_M → Prop} (h : RC M A M0) (hJ : JJ N A) (hP : ∀ M', RC M' (a_sweeps (a_fin A) 16).2 M0 → P M') : wp_X1_finishMarking M (fun M6 => wp_X3_sweepSpans M6 (zI 16) (fun _ M7 => P M7)) :=
  cs_fin (I := JJm N) JJm_pc JJm_st h hJ.co (fun e => ⟨hJ, e⟩) (fun M' hM => cs_sweeps ⟨by omega, by omega⟩ hM (J_fin hJ).1.hp hP)
theorem cs_any {P : Int32 → zh_M → Prop} {size ptrs : Int} (h : RC M A M0) (hJ : JJ N A) (s1 : 1 ≤ size) (s2 : size ≤ 64) (p1 : 0 ≤ ptrs) (p2 : ptrs ≤ size) (hP : ∀ M', RC M' (a_any A size ptrs).2 M0 → P (zI (a_any A size ptrs).1) M') : wp_X4_placeAtAnyCost M (zI size) (zI ptrs) P := by
  have core : wp_X3_place M (zI size) (zI ptrs) (zI (if A 14 5 = 0 then 0 else 1)) (fun r4 M3 => (¬ r4 = (zI (-1)) → (¬ r4 = (zI (-1)) → P r4 M3) ∧ (r4 = (zI (-1)) → wp_X1_beginCycle M3 (fun M5 => wp_X1_finishMarking M5 (fun M6 => wp_X3_sweepSpans M6 (zI 16) (fun r8 M7 => wp_X3_place M7 (zI size) (zI ptrs) (zI 0) (fun r10 M9 => P r10 M9)))))) ∧ (r4 = (zI (-1)) → wp_X1_finishMarking M3 (fun M11 => wp_X3_sweepSpans M11 (zI 16) (fun r13 M12 => wp_X3_place M12 (zI size) (zI ptrs) (zI 0) (fun r15 M14 => (¬ r15 = (zI (-1)) → P r15 M14) ∧ (r15 = (zI (-1)) → wp_X1_beginCycle M14 (fun M16 => wp_X1_finishMarking M16 (fun M17 => wp_X3_sweepSpans M17 (zI 16) (fun r19 M18 => wp_X3_place M18 (zI size) (zI ptrs) (zI 0) (fun r21 M20 => P r21 M20)))))))))) := by
    refine cs_place h hJ.hp s1 s2 p1 p2 (fun M1 h1 => ?_)
    have hg := a_place_rg (A := A) (ptrs := ptrs) (mark := if A 14 5 = 0 then 0 else 1) s1 s2
    have hq := J_place hJ s1 s2 p1 p2 _ rfl
    unfold a_any at hP
    generalize a_place A size ptrs (if A 14 5 = 0 then 0 else 1) = q at *
    refine zk_n (fun e => zk_n (fun _ => ?_) (fun e2 => absurd e2 e)) (fun e => ?_)
    · simp only [if_neg e] at hP
      exact hP _ h1
    · simp only [if_pos e] at hP
      refine cs_clean h1 hq.1 (fun M2 h2 => ?_)
      obtain ⟨c1, c2⟩ := J_clean hq.1
      refine cs_place h2 c1.hp s1 s2 p1 p2 (fun M3 h3 => ?_)
      have hg2 := a_place_rg (A := (a_sweeps (a_fin q.2) 16).2) (ptrs := ptrs) (mark := 0) s1 s2
      have hq2 := J_place0 c1 c2 s1 s2 p1 p2 _ rfl
      generalize a_place (a_sweeps (a_fin q.2) 16).2 size ptrs 0 = r at *
      refine zk_n (fun e2 => ?_) (fun e2 => ?_)
      · simp only [if_neg e2] at hP
        exact hP _ h3
      · simp only [if_pos e2] at hP
        refine cs_cycle h3 hq2.1.hp hq2.1.ch (fun M4 h4 => ?_)
        have d := (J_cycle hq2.1).1
        exact cs_clean h4 d (fun M5 h5 => cs_place h5 (J_clean d).1.hp s1 s2 p1 p2 hP)
  have c1 := hJ.co.1
  unfold wp_X4_placeAtAnyCost wp_X1_markOfPlaced
  rw [h.mk]
  refine zk_e (fun q => ?_) (fun q => ?_)
  · rw [if_pos q] at core
    exact core
  · rw [if_neg q] at core
    exact core
theorem cs_make {P : Int32 → zh_M → Prop} {f k size ptrs : Int} (h : RC M A M0) (hJ : JJ N A) (hb : zb f) (hk : zb k) (hz : zb size) (hp : zb ptrs) (hP : ∀ M', RC M' (a_make A f k size ptrs).2 M0 → P (zI (a_make A f k size ptrs).1) M') : wp_X4_make M (zI f) (zI k) (zI size) (zI ptrs) P := by
  obtain ⟨z1, z2⟩ := hz
  obtain ⟨y1, y2⟩ := hp
  have hF := hJ.2.2.1.fs
  unfold wp_X4_make
  refine cs_ready h hb hF.1 (fun w => ⟨(fun e => by cases e), fun o e => ?_⟩) (fun w => ⟨fun _ => ?_, fun o e => by cases e⟩)
  · cases e
    obtain ⟨w1, w2, w3⟩ := w
    have hi : f.toNat < 6 := by omega
    have hl : A 2 f.toNat ≠ 0 := by rw [w3]; decide
    obtain ⟨f1, f2⟩ := hF.2 _ hi hl
    refine ⟨zf_Fiber_of hi, cs_isCell h hi hk f1 f2 (fun q => zk_n (fun _ => ?_) (fun q9 => by omega)) (fun q => zk_n (fun q9 => absurd rfl q9) (fun _ => ?_))⟩
    · refine zk_l (fun q1 => ?_) (fun q1 => zk_l (fun q2 => ?_) (fun q2 => zk_l (fun q3 => ?_) (fun q3 => zk_m (fun q4 => ?_) (fun q4 => ?_))))
      · rw [a_make, if_neg (by omega)] at hP
        exact hP _ h
      · rw [a_make, if_neg (by omega)] at hP
        exact hP _ h
      · rw [a_make, if_neg (by omega)] at hP
        exact hP _ h
      · have g := a_slot_rg (n := size) (by omega) q2
        rw [a_make, if_pos ⟨⟨w1, w2, w3⟩, q, q1, q2, q3, q4⟩] at hP
        refine cs_slot (by omega) q2 (cs_pre (I := JJm N) JJm_pc JJm_st ⟨by omega, by omega⟩ h hJ.hp hJ.ch hJ.co ?_ (fun e => ⟨hJ, e⟩) ⟨(J_cycle hJ).1, by rw [(J_cycle hJ).2]; decide⟩ (J_cycle hJ).2 (fun M1 h1 => ?_))
        · obtain ⟨n1, n2, n3, n4⟩ := hJ.2.2.2.2.2.2.2.2
          have := hJ.2.1
          exact ⟨⟨by omega, by omega⟩, by omega, by omega⟩
        · have hJ1 := J_pre (slot := a_slot size) hJ
          refine cs_any h1 hJ1 q1 q2 q3 q4 (fun M2 h2 => ?_)
          have hA := J_any hJ1 q1 q2 q3 q4
          have h3 := (k2_any (A := a_pre A (a_slot size)) (size := size) (ptrs := ptrs)).trans k2_pre
          have hrg : (a_any (a_pre A (a_slot size)) size ptrs).1 = -1 ∨ (-1 ≤ (a_any (a_pre A (a_slot size)) size ptrs).1 ∧ (a_any (a_pre A (a_slot size)) size ptrs).1 < 256) := by
            by_cases e : (a_any (a_pre A (a_slot size)) size ptrs).1 = -1
            · exact Or.inl e
            · exact Or.inr (okf_rg (hA.2 e).1)
          generalize a_any (a_pre A (a_slot size)) size ptrs = r at *
          refine zk_n (fun e => cs_slot (by omega) q2 (fun M3 e3 => ?_)) (fun e => ?_)
          · simp only [if_neg e] at hP
            subst e3
            rw [h2.fh, zI_add]
            have hl2 : r.2 2 f.toNat ≠ 0 := by rw [h3]; exact hl
            obtain ⟨x1, x2⟩ := hA.1.2.2.1.fs.2 _ hi hl2
            exact cs_fillCell (h2.fh_ (v := r.2 14 8 + a_slot size)) hi hk x1 x2 hP
          · simp only [if_pos e] at hP
            exact hP _ h2
      · rw [a_make, if_neg (by omega)] at hP
        exact hP _ h
    · rw [a_make, if_neg (fun w => w.2.1 q)] at hP
      exact hP _ h
  · rw [a_make, if_neg (fun w2 => w w2.1)] at hP
    exact hP _ h
end CMK
