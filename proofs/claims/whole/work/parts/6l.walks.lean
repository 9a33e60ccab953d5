set_option maxRecDepth 100000 in
set_option maxHeartbeats 4000000 in
theorem wk_X5_take {X : Nat × (Nat → Int32)} {d : Nat} {M : zh_M} {a1 : Int32} {a2 : Int32} {a3 : Int32} {a4 : Int32} {P : Int32 → zh_M → Prop} (h : wp_X5_take M a1 a2 a3 a4 P) : zh_W X (d + 3) yX5_take cX5_take 5 (some .int) 0 (zh_en [.ref 39, .int a1, .int a2, .int a3, .int a4] 5) [] zh_LL M 0 0 (zh_pi P) := by
  unfold wp_X5_take at h
  show zh_W X (d + 3) yX5_take cX5_take 5 (some .int) 0 [some (.ref 39), some (.int a1), some (.int a2), some (.int a3), some (.int a4)] [] zh_LL M 0 0 (zh_pi P)
  refine zh_aload_n (pn := 1) rfl dX5_take_0 (i := 0) (v := .ref 39) rfl rfl (Or.inr ⟨_, rfl⟩) ?_
  refine zh_iload_n (pn := 2) rfl dX5_take_1 (i := 1) (x := a1) rfl rfl ?_
  refine zh_iload_n (pn := 3) rfl dX5_take_2 (i := 2) (x := a2) rfl rfl ?_
  refine zh_iconst (pn := 4) rfl dX5_take_3 (v := (zI 0)) rfl ?_
  refine ca_X5_cell (pn := 7) rfl dX5_take_4 mc_X5_96 (fun _ _ => Nat.le_of_ble_eq_true rfl) h (fun r2 M1 h => ?_)
  refine zh_if_eq (pn := 10) rfl dX5_take_7 (tgt := 30) rfl (fun cc1 => ?_) (fun cc1 => ?_)
  · replace h := h.1 cc1
    refine zh_iconst (pn := 31) rfl dX5_take_30 (v := (zI (-1))) rfl ?_
    exact zh_iret dX5_take_31 rfl rfl ⟨_, rfl, rfl, h⟩
  · replace h := h.2 cc1
    refine zh_iload_n (pn := 11) rfl dX5_take_10 (i := 3) (x := a3) rfl rfl ?_
    refine zh_if_lt (pn := 14) rfl dX5_take_11 (tgt := 30) rfl (fun cc1 => ?_) (fun cc1 => ?_)
    · replace h := h.1 cc1
      refine zh_iconst (pn := 31) rfl dX5_take_30 (v := (zI (-1))) rfl ?_
      exact zh_iret dX5_take_31 rfl rfl ⟨_, rfl, rfl, h⟩
    · replace h := h.2 cc1
      refine zh_iload_n (pn := 15) rfl dX5_take_14 (i := 3) (x := a3) rfl rfl ?_
      refine zh_iconst (pn := 16) rfl dX5_take_15 (v := (zI 3)) rfl ?_
      refine zh_icmp_gt (pn := 19) rfl dX5_take_16 (tgt := 30) rfl (fun cc1 => ?_) (fun cc1 => ?_)
      · replace h := h.1 cc1
        refine zh_iconst (pn := 31) rfl dX5_take_30 (v := (zI (-1))) rfl ?_
        exact zh_iret dX5_take_31 rfl rfl ⟨_, rfl, rfl, h⟩
      · replace h := h.2 cc1
        refine zh_iload (pn := 21) rfl dX5_take_19 (i := 4) (x := a4) rfl ?_
        refine zh_if_lt (pn := 24) rfl dX5_take_21 (tgt := 30) rfl (fun cc1 => ?_) (fun cc1 => ?_)
        · replace h := h.1 cc1
          refine zh_iconst (pn := 31) rfl dX5_take_30 (v := (zI (-1))) rfl ?_
          exact zh_iret dX5_take_31 rfl rfl ⟨_, rfl, rfl, h⟩
        · replace h := h.2 cc1
          refine zh_iload (pn := 26) rfl dX5_take_24 (i := 4) (x := a4) rfl ?_
          refine zh_iconst (pn := 27) rfl dX5_take_26 (v := (zI 3)) rfl ?_
          refine zh_icmp_le (pn := 30) rfl dX5_take_27 (tgt := 32) rfl (fun cc1 => ?_) (fun cc1 => ?_)
          · replace h := h.1 cc1
            refine zh_aload_n (pn := 33) rfl dX5_take_32 (i := 0) (v := .ref 39) rfl rfl (Or.inr ⟨_, rfl⟩) ?_
            refine zh_iload_n (pn := 34) rfl dX5_take_33 (i := 3) (x := a3) rfl rfl ?_
            refine zh_iload_n (pn := 35) rfl dX5_take_34 (i := 1) (x := a1) rfl rfl ?_
            refine zh_iload_n (pn := 36) rfl dX5_take_35 (i := 2) (x := a2) rfl rfl ?_
            refine ca_X5_gives (pn := 39) rfl dX5_take_36 mc_X5_164 (fun _ _ => Nat.le_of_ble_eq_true rfl) h (fun r4 M3 h => ?_)
            refine zh_if_eq (pn := 42) rfl dX5_take_39 (tgt := 44) rfl (fun cc1 => ?_) (fun cc1 => ?_)
            · replace h := h.1 cc1
              refine zh_aload_n (pn := 45) rfl dX5_take_44 (i := 0) (v := .ref 39) rfl rfl (Or.inr ⟨_, rfl⟩) ?_
              refine zh_iload (pn := 47) rfl dX5_take_45 (i := 4) (x := a4) rfl ?_
              refine zh_iload_n (pn := 48) rfl dX5_take_47 (i := 1) (x := a1) rfl rfl ?_
              refine zh_iload_n (pn := 49) rfl dX5_take_48 (i := 2) (x := a2) rfl rfl ?_
              refine ca_X5_gives (pn := 52) rfl dX5_take_49 mc_X5_164 (fun _ _ => Nat.le_of_ble_eq_true rfl) h (fun r6 M5 h => ?_)
              refine zh_if_eq (pn := 55) rfl dX5_take_52 (tgt := 58) rfl (fun cc1 => ?_) (fun cc1 => ?_)
              · replace h := h.1 cc1
                refine zh_aload_n (pn := 59) rfl dX5_take_58 (i := 0) (v := .ref 39) rfl rfl (Or.inr ⟨_, rfl⟩) ?_
                refine zh_iload_n (pn := 60) rfl dX5_take_59 (i := 1) (x := a1) rfl rfl ?_
                refine zh_iconst (pn := 61) rfl dX5_take_60 (v := (zI 3)) rfl ?_
                refine zh_iload_n (pn := 62) rfl dX5_take_61 (i := 2) (x := a2) rfl rfl ?_
                refine zh_iload_n (pn := 63) rfl dX5_take_62 (i := 3) (x := a3) rfl rfl ?_
                refine zh_iload (pn := 65) rfl dX5_take_63 (i := 4) (x := a4) rfl ?_
                refine ca_X5_waitFor (pn := 68) rfl dX5_take_65 mc_X5_160 (fun _ _ => Nat.le_of_ble_eq_true rfl) h (fun M7 h => ?_)
                refine zh_iconst (pn := 69) rfl dX5_take_68 (v := (zI 4)) rfl ?_
                exact zh_iret dX5_take_69 rfl rfl ⟨_, rfl, rfl, h⟩
              · replace h := h.2 cc1
                refine zh_iload (pn := 57) rfl dX5_take_55 (i := 4) (x := a4) rfl ?_
                exact zh_iret dX5_take_57 rfl rfl ⟨_, rfl, rfl, h⟩
            · replace h := h.2 cc1
              refine zh_iload_n (pn := 43) rfl dX5_take_42 (i := 3) (x := a3) rfl rfl ?_
              exact zh_iret dX5_take_43 rfl rfl ⟨_, rfl, rfl, h⟩
          · replace h := h.2 cc1
            refine zh_iconst (pn := 31) rfl dX5_take_30 (v := (zI (-1))) rfl ?_
            exact zh_iret dX5_take_31 rfl rfl ⟨_, rfl, rfl, h⟩
set_option maxRecDepth 100000 in
theorem ca_X5_take {X : Nat × (Nat → Int32)} {d : Nat} {y : MethodName} {cc : ByteArray} {nL : Nat} {rt : Option FieldType} {pc pn idx : Nat} {lo : List (Option Value)} {st : List Value} {M : zh_M} {P : Option Value → List zh_LC → zh_M → Prop} {a1 : Int32} {a2 : Int32} {a3 : Int32} {a4 : Int32} {K : Int32 → zh_M → Prop} (hp : pc + 3 = pn) (hd : decode cc pc = .ok (.invokevirtual idx, 3)) (m1 : Cond.methodLink y.cls idx yX5_take ∈ zh_WS) (hsc : ∀ base b, ((st.map (zh_tr base b)).map fun v => v.category).sum ≤ 8) (h : wp_X5_take M a1 a2 a3 a4 K) (kk : ∀ r M1, K r M1 → zh_W X (d + 4) y cc nL rt pn lo (.int r :: st) zh_LL M1 0 0 P) : zh_W X (d + 4) y cc nL rt pc lo (.int a4 :: .int a3 :: .int a2 :: .int a1 :: .ref 39 :: st) zh_LL M 0 0 P := by
  refine zh_callV (bc := 0) (bs := 0) (bc' := 0) (bs' := 0) (as := [.int a1, .int a2, .int a3, .int a4]) (st := st) hp hd rfl (by decide) rfl rfl m1 me_X5_take.1 me_X5_take.2.1 me_X5_take.2.2.1 me_X5_take.2.2.2 ⟨by decide, by decide, by decide⟩ (by show _ = some 4; decide +kernel) (by intro v hv; simp only [List.mem_cons, List.not_mem_nil, or_false] at hv; rcases hv with rfl | rfl | rfl | rfl <;> (intro _ _; rfl)) hsc (Nat.le_of_ble_eq_true rfl) (by decide) (wk_X5_take  h) (fun r L' M' q => ?_) (fun r L' M' q => ?_)
  · obtain ⟨v, -, rfl, q⟩ := q; rfl
  · obtain ⟨v, rfl, rfl, q⟩ := q; exact kk v M' q
set_option maxRecDepth 100000 in
set_option maxHeartbeats 4000000 in
theorem wk_X5_mark {X : Nat × (Nat → Int32)} {d : Nat} {M : zh_M} {a1 : Int32} {P : Int32 → zh_M → Prop} (h : wp_X5_mark M a1 P) : zh_W X (d + 3) yX5_mark cX5_mark 2 (some .int) 0 (zh_en [.ref 39, .int a1] 2) [] zh_LL M 0 0 (zh_pi P) := by
  unfold wp_X5_mark at h
  show zh_W X (d + 3) yX5_mark cX5_mark 2 (some .int) 0 [some (.ref 39), some (.int a1)] [] zh_LL M 0 0 (zh_pi P)
  refine zh_iload_n (pn := 1) rfl dX5_mark_0 (i := 1) (x := a1) rfl rfl ?_
  refine zh_iconst (pn := 2) rfl dX5_mark_1 (v := (zI 1)) rfl ?_
  refine zh_icmp_lt (pn := 5) rfl dX5_mark_2 (tgt := 12) rfl (fun cc1 => ?_) (fun cc1 => ?_)
  · replace h := h.1 cc1
    refine zh_iconst (pn := 13) rfl dX5_mark_12 (v := (zI 0)) rfl ?_
    refine zh_goto dX5_mark_13 (tgt := 21) rfl ?_
    exact zh_iret dX5_mark_21 rfl rfl ⟨_, rfl, rfl, h⟩
  · replace h := h.2 cc1
    refine zh_aload_n (pn := 6) rfl dX5_mark_5 (i := 0) (v := .ref 39) rfl rfl (Or.inr ⟨_, rfl⟩) ?_
    refine zh_get (pn := 9) rfl dX5_mark_6 (v := .int (M 39 23)) (k := 23) rfl rfl (by decide) (by decide) in_X5 mf_X5_103 rfl ?_
    refine zh_if_ne (pn := 12) rfl dX5_mark_9 (tgt := 16) rfl (fun cc1 => ?_) (fun cc1 => ?_)
    · replace h := h.1 cc1
      refine zh_aload_n (pn := 17) rfl dX5_mark_16 (i := 0) (v := .ref 39) rfl rfl (Or.inr ⟨_, rfl⟩) ?_
      refine zh_iload_n (pn := 18) rfl dX5_mark_17 (i := 1) (x := a1) rfl rfl ?_
      refine ca_X5_work (pn := 21) rfl dX5_mark_18 mc_X5_131 (fun _ _ => Nat.le_of_ble_eq_true rfl) h (fun r2 M1 h => ?_)
      exact zh_iret dX5_mark_21 rfl rfl ⟨_, rfl, rfl, h⟩
    · replace h := h.2 cc1
      refine zh_iconst (pn := 13) rfl dX5_mark_12 (v := (zI 0)) rfl ?_
      refine zh_goto dX5_mark_13 (tgt := 21) rfl ?_
      exact zh_iret dX5_mark_21 rfl rfl ⟨_, rfl, rfl, h⟩
set_option maxRecDepth 100000 in
theorem ca_X5_mark {X : Nat × (Nat → Int32)} {d : Nat} {y : MethodName} {cc : ByteArray} {nL : Nat} {rt : Option FieldType} {pc pn idx : Nat} {lo : List (Option Value)} {st : List Value} {M : zh_M} {P : Option Value → List zh_LC → zh_M → Prop} {a1 : Int32} {K : Int32 → zh_M → Prop} (hp : pc + 3 = pn) (hd : decode cc pc = .ok (.invokevirtual idx, 3)) (m1 : Cond.methodLink y.cls idx yX5_mark ∈ zh_WS) (hsc : ∀ base b, ((st.map (zh_tr base b)).map fun v => v.category).sum ≤ 8) (h : wp_X5_mark M a1 K) (kk : ∀ r M1, K r M1 → zh_W X (d + 4) y cc nL rt pn lo (.int r :: st) zh_LL M1 0 0 P) : zh_W X (d + 4) y cc nL rt pc lo (.int a1 :: .ref 39 :: st) zh_LL M 0 0 P := by
  refine zh_callV (bc := 0) (bs := 0) (bc' := 0) (bs' := 0) (as := [.int a1]) (st := st) hp hd rfl (by decide) rfl rfl m1 me_X5_mark.1 me_X5_mark.2.1 me_X5_mark.2.2.1 me_X5_mark.2.2.2 ⟨by decide, by decide, by decide⟩ (by show _ = some 1; decide +kernel) (by intro v hv; simp only [List.mem_cons, List.not_mem_nil, or_false] at hv; rcases hv with rfl <;> (intro _ _; rfl)) hsc (Nat.le_of_ble_eq_true rfl) (by decide) (wk_X5_mark  h) (fun r L' M' q => ?_) (fun r L' M' q => ?_)
  · obtain ⟨v, -, rfl, q⟩ := q; rfl
  · obtain ⟨v, rfl, rfl, q⟩ := q; exact kk v M' q
set_option maxRecDepth 100000 in
set_option maxHeartbeats 4000000 in
theorem wk_X5_sweep {X : Nat × (Nat → Int32)} {d : Nat} {M : zh_M} {a1 : Int32} {P : Int32 → zh_M → Prop} (h : wp_X5_sweep M a1 P) : zh_W X (d + 2) yX5_sweep cX5_sweep 2 (some .int) 0 (zh_en [.ref 39, .int a1] 2) [] zh_LL M 0 0 (zh_pi P) := by
  unfold wp_X5_sweep at h
  show zh_W X (d + 2) yX5_sweep cX5_sweep 2 (some .int) 0 [some (.ref 39), some (.int a1)] [] zh_LL M 0 0 (zh_pi P)
  refine zh_aload_n (pn := 1) rfl dX5_sweep_0 (i := 0) (v := .ref 39) rfl rfl (Or.inr ⟨_, rfl⟩) ?_
  refine zh_iload_n (pn := 2) rfl dX5_sweep_1 (i := 1) (x := a1) rfl rfl ?_
  refine ca_X5_sweepUpTo (pn := 5) rfl dX5_sweep_2 mc_X5_138 (fun _ _ => Nat.le_of_ble_eq_true rfl) h (fun r2 M1 h => ?_)
  exact zh_iret dX5_sweep_5 rfl rfl ⟨_, rfl, rfl, h⟩
set_option maxRecDepth 100000 in
theorem ca_X5_sweep {X : Nat × (Nat → Int32)} {d : Nat} {y : MethodName} {cc : ByteArray} {nL : Nat} {rt : Option FieldType} {pc pn idx : Nat} {lo : List (Option Value)} {st : List Value} {M : zh_M} {P : Option Value → List zh_LC → zh_M → Prop} {a1 : Int32} {K : Int32 → zh_M → Prop} (hp : pc + 3 = pn) (hd : decode cc pc = .ok (.invokevirtual idx, 3)) (m1 : Cond.methodLink y.cls idx yX5_sweep ∈ zh_WS) (hsc : ∀ base b, ((st.map (zh_tr base b)).map fun v => v.category).sum ≤ 8) (h : wp_X5_sweep M a1 K) (kk : ∀ r M1, K r M1 → zh_W X (d + 3) y cc nL rt pn lo (.int r :: st) zh_LL M1 0 0 P) : zh_W X (d + 3) y cc nL rt pc lo (.int a1 :: .ref 39 :: st) zh_LL M 0 0 P := by
  refine zh_callV (bc := 0) (bs := 0) (bc' := 0) (bs' := 0) (as := [.int a1]) (st := st) hp hd rfl (by decide) rfl rfl m1 me_X5_sweep.1 me_X5_sweep.2.1 me_X5_sweep.2.2.1 me_X5_sweep.2.2.2 ⟨by decide, by decide, by decide⟩ (by show _ = some 1; decide +kernel) (by intro v hv; simp only [List.mem_cons, List.not_mem_nil, or_false] at hv; rcases hv with rfl <;> (intro _ _; rfl)) hsc (Nat.le_of_ble_eq_true rfl) (by decide) (wk_X5_sweep  h) (fun r L' M' q => ?_) (fun r L' M' q => ?_)
  · obtain ⟨v, -, rfl, q⟩ := q; rfl
  · obtain ⟨v, rfl, rfl, q⟩ := q; exact kk v M' q
set_option maxRecDepth 100000 in
set_option maxHeartbeats 4000000 in
theorem wk_X5_collect {X : Nat × (Nat → Int32)} {d : Nat} {M : zh_M} {P : Int32 → zh_M → Prop} (h : wp_X5_collect M P) : zh_W X (d + 3) yX5_collect cX5_collect 1 (some .boolean) 0 (zh_en [.ref 39] 1) [] zh_LL M 0 0 (zh_pi P) := by
  unfold wp_X5_collect at h
  show zh_W X (d + 3) yX5_collect cX5_collect 1 (some .boolean) 0 [some (.ref 39)] [] zh_LL M 0 0 (zh_pi P)
  refine zh_aload_n (pn := 1) rfl dX5_collect_0 (i := 0) (v := .ref 39) rfl rfl (Or.inr ⟨_, rfl⟩) ?_
  refine zh_get (pn := 4) rfl dX5_collect_1 (v := .int (M 39 23)) (k := 23) rfl rfl (by decide) (by decide) in_X5 mf_X5_103 rfl ?_
  refine zh_if_eq (pn := 7) rfl dX5_collect_4 (tgt := 9) rfl (fun cc1 => ?_) (fun cc1 => ?_)
  · replace h := h.1 cc1
    refine zh_aload_n (pn := 10) rfl dX5_collect_9 (i := 0) (v := .ref 39) rfl rfl (Or.inr ⟨_, rfl⟩) ?_
    refine ca_X5_cycle (pn := 13) rfl dX5_collect_10 mc_X5_128 (fun _ _ => Nat.le_of_ble_eq_true rfl) h (fun M1 h => ?_)
    refine zh_iconst (pn := 14) rfl dX5_collect_13 (v := (zI 1)) rfl ?_
    exact zh_iret dX5_collect_14 rfl rfl ⟨_, rfl, rfl, h⟩
  · replace h := h.2 cc1
    refine zh_iconst (pn := 8) rfl dX5_collect_7 (v := (zI 0)) rfl ?_
    exact zh_iret dX5_collect_8 rfl rfl ⟨_, rfl, rfl, h⟩
set_option maxRecDepth 100000 in
theorem ca_X5_collect {X : Nat × (Nat → Int32)} {d : Nat} {y : MethodName} {cc : ByteArray} {nL : Nat} {rt : Option FieldType} {pc pn idx : Nat} {lo : List (Option Value)} {st : List Value} {M : zh_M} {P : Option Value → List zh_LC → zh_M → Prop} {K : Int32 → zh_M → Prop} (hp : pc + 3 = pn) (hd : decode cc pc = .ok (.invokevirtual idx, 3)) (m1 : Cond.methodLink y.cls idx yX5_collect ∈ zh_WS) (hsc : ∀ base b, ((st.map (zh_tr base b)).map fun v => v.category).sum ≤ 8) (h : wp_X5_collect M K) (kk : ∀ r M1, K r M1 → zh_W X (d + 4) y cc nL rt pn lo (.int r :: st) zh_LL M1 0 0 P) : zh_W X (d + 4) y cc nL rt pc lo (.ref 39 :: st) zh_LL M 0 0 P := by
  refine zh_callV (bc := 0) (bs := 0) (bc' := 0) (bs' := 0) (as := []) (st := st) hp hd rfl (by decide) rfl rfl m1 me_X5_collect.1 me_X5_collect.2.1 me_X5_collect.2.2.1 me_X5_collect.2.2.2 ⟨by decide, by decide, by decide⟩ (by show _ = some 0; decide +kernel) (fun v hv => by cases hv) hsc (Nat.le_of_ble_eq_true rfl) (by decide) (wk_X5_collect  h) (fun r L' M' q => ?_) (fun r L' M' q => ?_)
  · obtain ⟨v, -, rfl, q⟩ := q; rfl
  · obtain ⟨v, rfl, rfl, q⟩ := q; exact kk v M' q
set_option maxRecDepth 100000 in
set_option maxHeartbeats 4000000 in
theorem wk_X5_fiber {X : Nat × (Nat → Int32)} {d : Nat} {M : zh_M} {a1 : Int32} {a2 : Int32} {P : Int32 → zh_M → Prop} (h : wp_X5_fiber M a1 a2 P) : zh_W X (d + 2) yX5_fiber cX5_fiber 4 (some .int) 0 (zh_en [.ref 39, .int a1, .int a2] 4) [] zh_LL M 0 0 (zh_pi P) := by
  unfold wp_X5_fiber at h
  show zh_W X (d + 2) yX5_fiber cX5_fiber 4 (some .int) 0 [some (.ref 39), some (.int a1), some (.int a2), none] [] zh_LL M 0 0 (zh_pi P)
  refine zh_iload_n (pn := 1) rfl dX5_fiber_0 (i := 1) (x := a1) rfl rfl ?_
  refine zh_if_lt (pn := 4) rfl dX5_fiber_1 (tgt := 19) rfl (fun cc1 => ?_) (fun cc1 => ?_)
  · replace h := h.1 cc1
    refine zh_iconst (pn := 20) rfl dX5_fiber_19 (v := (zI (-1))) rfl ?_
    exact zh_iret dX5_fiber_20 rfl rfl ⟨_, rfl, rfl, h⟩
  · replace h := h.2 cc1
    refine zh_iload_n (pn := 5) rfl dX5_fiber_4 (i := 1) (x := a1) rfl rfl ?_
    refine zh_iconst (pn := 6) rfl dX5_fiber_5 (v := (zI 5)) rfl ?_
    refine zh_icmp_gt (pn := 9) rfl dX5_fiber_6 (tgt := 19) rfl (fun cc1 => ?_) (fun cc1 => ?_)
    · replace h := h.1 cc1
      refine zh_iconst (pn := 20) rfl dX5_fiber_19 (v := (zI (-1))) rfl ?_
      exact zh_iret dX5_fiber_20 rfl rfl ⟨_, rfl, rfl, h⟩
    · replace h := h.2 cc1
      refine zh_iload_n (pn := 10) rfl dX5_fiber_9 (i := 2) (x := a2) rfl rfl ?_
      refine zh_if_lt (pn := 13) rfl dX5_fiber_10 (tgt := 19) rfl (fun cc1 => ?_) (fun cc1 => ?_)
      · replace h := h.1 cc1
        refine zh_iconst (pn := 20) rfl dX5_fiber_19 (v := (zI (-1))) rfl ?_
        exact zh_iret dX5_fiber_20 rfl rfl ⟨_, rfl, rfl, h⟩
      · replace h := h.2 cc1
        refine zh_iload_n (pn := 14) rfl dX5_fiber_13 (i := 2) (x := a2) rfl rfl ?_
        refine zh_bipush (pn := 16) rfl dX5_fiber_14 (v := (zI 9)) rfl ?_
        refine zh_icmp_le (pn := 19) rfl dX5_fiber_16 (tgt := 21) rfl (fun cc1 => ?_) (fun cc1 => ?_)
        · replace h := h.1 cc1
          refine zh_iload_n (pn := 22) rfl dX5_fiber_21 (i := 2) (x := a2) rfl rfl ?_
          refine zh_if_eq (pn := 25) rfl dX5_fiber_22 (tgt := 34) rfl (fun cc1 => ?_) (fun cc1 => ?_)
          · replace h := h.1 cc1
            refine zh_iload_n (pn := 35) rfl dX5_fiber_34 (i := 2) (x := a2) rfl rfl ?_
            refine zh_if_ne (pn := 38) rfl dX5_fiber_35 (tgt := 47) rfl (fun cc1 => ?_) (fun cc1 => ?_)
            · replace h := h.1 cc1
              refine zh_iconst (pn := 48) rfl dX5_fiber_47 (v := (zI (-1))) rfl ?_
              exact zh_iret dX5_fiber_48 rfl rfl ⟨_, rfl, rfl, h⟩
            · replace h := h.2 cc1
              refine zh_aload_n (pn := 39) rfl dX5_fiber_38 (i := 0) (v := .ref 39) rfl rfl (Or.inr ⟨_, rfl⟩) ?_
              refine zh_get (pn := 42) rfl dX5_fiber_39 (v := .ref 49) (k := 9) rfl rfl (by decide) (by decide) in_X5 mf_X5_38 rfl ?_
              refine zh_iload_n (pn := 43) rfl dX5_fiber_42 (i := 1) (x := a1) rfl rfl ?_
              refine zh_iald (pn := 44) rfl dX5_fiber_43 rfl h.1 ?_
              replace h := h.2
              refine zh_goto dX5_fiber_44 (tgt := 48) rfl ?_
              exact zh_iret dX5_fiber_48 rfl rfl ⟨_, rfl, rfl, h⟩
          · replace h := h.2 cc1
            refine zh_aload_n (pn := 26) rfl dX5_fiber_25 (i := 0) (v := .ref 39) rfl rfl (Or.inr ⟨_, rfl⟩) ?_
            refine zh_get (pn := 29) rfl dX5_fiber_26 (v := .ref 49) (k := 9) rfl rfl (by decide) (by decide) in_X5 mf_X5_38 rfl ?_
            refine zh_iload_n (pn := 30) rfl dX5_fiber_29 (i := 1) (x := a1) rfl rfl ?_
            refine zh_iald (pn := 31) rfl dX5_fiber_30 rfl h.1 ?_
            replace h := h.2
            refine zh_if_ne (pn := 34) rfl dX5_fiber_31 (tgt := 49) rfl (fun cc1 => ?_) (fun cc1 => ?_)
            · replace h := h.1 cc1
              refine zh_iload_n (pn := 50) rfl dX5_fiber_49 (i := 2) (x := a2) rfl rfl ?_
              refine zh_iconst (pn := 51) rfl dX5_fiber_50 (v := (zI 4)) rfl ?_
              refine zh_icmp_lt (pn := 54) rfl dX5_fiber_51 (tgt := 69) rfl (fun cc1 => ?_) (fun cc1 => ?_)
              · replace h := h.1 cc1
                refine zh_aload_n (pn := 70) rfl dX5_fiber_69 (i := 0) (v := .ref 39) rfl rfl (Or.inr ⟨_, rfl⟩) ?_
                refine zh_get (pn := 73) rfl dX5_fiber_70 (v := .int (M 39 23)) (k := 23) rfl rfl (by decide) (by decide) in_X5 mf_X5_103 rfl ?_
                refine zh_if_eq (pn := 76) rfl dX5_fiber_73 (tgt := 89) rfl (fun cc1 => ?_) (fun cc1 => ?_)
                · replace h := h.1 cc1
                  refine zh_iconst (pn := 90) rfl dX5_fiber_89 (v := (zI 0)) rfl ?_
                  refine zh_istore_n (pn := 91) rfl dX5_fiber_90 (i := 3) (lo' := [some (.ref 39), some (.int a1), some (.int a2), some (.int (zI 0))]) rfl (by decide) rfl ?_
                  refine zh_iload_n (pn := 92) rfl dX5_fiber_91 (i := 2) (x := a2) rfl rfl ?_
                  refine zh_iconst (pn := 93) rfl dX5_fiber_92 (v := (zI 1)) rfl ?_
                  refine zh_icmp_ne (pn := 96) rfl dX5_fiber_93 (tgt := 105) rfl (fun cc1 => ?_) (fun cc1 => ?_)
                  · replace h := h.1 cc1
                    refine zh_iload_n (pn := 106) rfl dX5_fiber_105 (i := 2) (x := a2) rfl rfl ?_
                    refine zh_iconst (pn := 107) rfl dX5_fiber_106 (v := (zI 2)) rfl ?_
                    refine zh_icmp_ne (pn := 110) rfl dX5_fiber_107 (tgt := 119) rfl (fun cc1 => ?_) (fun cc1 => ?_)
                    · replace h := h.1 cc1
                      refine zh_iload_n (pn := 120) rfl dX5_fiber_119 (i := 2) (x := a2) rfl rfl ?_
                      refine zh_iconst (pn := 121) rfl dX5_fiber_120 (v := (zI 3)) rfl ?_
                      refine zh_icmp_ne (pn := 124) rfl dX5_fiber_121 (tgt := 128) rfl (fun cc1 => ?_) (fun cc1 => ?_)
                      · replace h := h.1 cc1
                        refine zh_iload_n (pn := 129) rfl dX5_fiber_128 (i := 2) (x := a2) rfl rfl ?_
                        refine zh_bipush (pn := 131) rfl dX5_fiber_129 (v := (zI 8)) rfl ?_
                        refine zh_icmp_ne (pn := 134) rfl dX5_fiber_131 (tgt := 155) rfl (fun cc1 => ?_) (fun cc1 => ?_)
                        · replace h := h.1 cc1
                          refine zh_aload_n (pn := 156) rfl dX5_fiber_155 (i := 0) (v := .ref 39) rfl rfl (Or.inr ⟨_, rfl⟩) ?_
                          refine zh_get (pn := 159) rfl dX5_fiber_156 (v := .ref 59) (k := 19) rfl rfl (by decide) (by decide) in_X5 mf_X5_68 rfl ?_
                          refine zh_iload_n (pn := 160) rfl dX5_fiber_159 (i := 1) (x := a1) rfl rfl ?_
                          refine zh_iald (pn := 161) rfl dX5_fiber_160 rfl h.1 ?_
                          replace h := h.2
                          exact zh_iret dX5_fiber_161 rfl rfl ⟨_, rfl, rfl, h⟩
                        · replace h := h.2 cc1
                          refine zh_aload_n (pn := 135) rfl dX5_fiber_134 (i := 0) (v := .ref 39) rfl rfl (Or.inr ⟨_, rfl⟩) ?_
                          refine zh_get (pn := 138) rfl dX5_fiber_135 (v := .ref 53) (k := 13) rfl rfl (by decide) (by decide) in_X5 mf_X5_50 rfl ?_
                          refine zh_bipush (pn := 140) rfl dX5_fiber_138 (v := (zI 16)) rfl ?_
                          refine zh_iload_n (pn := 141) rfl dX5_fiber_140 (i := 1) (x := a1) rfl rfl ?_
                          refine zh_imul (pn := 142) rfl dX5_fiber_141 ?_
                          refine zh_aload_n (pn := 143) rfl dX5_fiber_142 (i := 0) (v := .ref 39) rfl rfl (Or.inr ⟨_, rfl⟩) ?_
                          refine zh_get (pn := 146) rfl dX5_fiber_143 (v := .ref 50) (k := 10) rfl rfl (by decide) (by decide) in_X5 mf_X5_41 rfl ?_
                          refine zh_iload_n (pn := 147) rfl dX5_fiber_146 (i := 1) (x := a1) rfl rfl ?_
                          refine zh_iald (pn := 148) rfl dX5_fiber_147 rfl h.1 ?_
                          replace h := h.2
                          refine zh_iadd (pn := 149) rfl dX5_fiber_148 ?_
                          refine zh_iconst (pn := 150) rfl dX5_fiber_149 (v := (zI 1)) rfl ?_
                          refine zh_isub (pn := 151) rfl dX5_fiber_150 ?_
                          refine zh_iald (pn := 152) rfl dX5_fiber_151 rfl h.1 ?_
                          replace h := h.2
                          refine zh_goto dX5_fiber_152 (tgt := 161) rfl ?_
                          exact zh_iret dX5_fiber_161 rfl rfl ⟨_, rfl, rfl, h⟩
                      · replace h := h.2 cc1
                        refine zh_iload_n (pn := 125) rfl dX5_fiber_124 (i := 3) (x := (zI 0)) rfl rfl ?_
                        refine zh_goto dX5_fiber_125 (tgt := 161) rfl ?_
                        exact zh_iret dX5_fiber_161 rfl rfl ⟨_, rfl, rfl, h⟩
                    · replace h := h.2 cc1
                      refine zh_aload_n (pn := 111) rfl dX5_fiber_110 (i := 0) (v := .ref 39) rfl rfl (Or.inr ⟨_, rfl⟩) ?_
                      refine zh_get (pn := 114) rfl dX5_fiber_111 (v := .ref 51) (k := 11) rfl rfl (by decide) (by decide) in_X5 mf_X5_44 rfl ?_
                      refine zh_iload_n (pn := 115) rfl dX5_fiber_114 (i := 1) (x := a1) rfl rfl ?_
                      refine zh_iald (pn := 116) rfl dX5_fiber_115 rfl h.1 ?_
                      replace h := h.2
                      refine zh_goto dX5_fiber_116 (tgt := 161) rfl ?_
                      exact zh_iret dX5_fiber_161 rfl rfl ⟨_, rfl, rfl, h⟩
                  · replace h := h.2 cc1
                    refine zh_aload_n (pn := 97) rfl dX5_fiber_96 (i := 0) (v := .ref 39) rfl rfl (Or.inr ⟨_, rfl⟩) ?_
                    refine zh_get (pn := 100) rfl dX5_fiber_97 (v := .ref 50) (k := 10) rfl rfl (by decide) (by decide) in_X5 mf_X5_41 rfl ?_
                    refine zh_iload_n (pn := 101) rfl dX5_fiber_100 (i := 1) (x := a1) rfl rfl ?_
                    refine zh_iald (pn := 102) rfl dX5_fiber_101 rfl h.1 ?_
                    replace h := h.2
                    refine zh_goto dX5_fiber_102 (tgt := 161) rfl ?_
                    exact zh_iret dX5_fiber_161 rfl rfl ⟨_, rfl, rfl, h⟩
                · replace h := h.2 cc1
                  refine zh_aload_n (pn := 77) rfl dX5_fiber_76 (i := 0) (v := .ref 39) rfl rfl (Or.inr ⟨_, rfl⟩) ?_
                  refine zh_get (pn := 80) rfl dX5_fiber_77 (v := .ref 54) (k := 14) rfl rfl (by decide) (by decide) in_X5 mf_X5_53 rfl ?_
                  refine zh_iload_n (pn := 81) rfl dX5_fiber_80 (i := 1) (x := a1) rfl rfl ?_
                  refine zh_zald (pn := 82) rfl dX5_fiber_81 rfl h.1 ?_
                  replace h := h.2
                  refine zh_if_eq (pn := 85) rfl dX5_fiber_82 (tgt := 89) rfl (fun cc1 => ?_) (fun cc1 => ?_)
                  · replace h := h.1 cc1
                    refine zh_iconst (pn := 90) rfl dX5_fiber_89 (v := (zI 0)) rfl ?_
                    refine zh_istore_n (pn := 91) rfl dX5_fiber_90 (i := 3) (lo' := [some (.ref 39), some (.int a1), some (.int a2), some (.int (zI 0))]) rfl (by decide) rfl ?_
                    refine zh_iload_n (pn := 92) rfl dX5_fiber_91 (i := 2) (x := a2) rfl rfl ?_
                    refine zh_iconst (pn := 93) rfl dX5_fiber_92 (v := (zI 1)) rfl ?_
                    refine zh_icmp_ne (pn := 96) rfl dX5_fiber_93 (tgt := 105) rfl (fun cc1 => ?_) (fun cc1 => ?_)
                    · replace h := h.1 cc1
                      refine zh_iload_n (pn := 106) rfl dX5_fiber_105 (i := 2) (x := a2) rfl rfl ?_
                      refine zh_iconst (pn := 107) rfl dX5_fiber_106 (v := (zI 2)) rfl ?_
                      refine zh_icmp_ne (pn := 110) rfl dX5_fiber_107 (tgt := 119) rfl (fun cc1 => ?_) (fun cc1 => ?_)
                      · replace h := h.1 cc1
                        refine zh_iload_n (pn := 120) rfl dX5_fiber_119 (i := 2) (x := a2) rfl rfl ?_
                        refine zh_iconst (pn := 121) rfl dX5_fiber_120 (v := (zI 3)) rfl ?_
                        refine zh_icmp_ne (pn := 124) rfl dX5_fiber_121 (tgt := 128) rfl (fun cc1 => ?_) (fun cc1 => ?_)
                        · replace h := h.1 cc1
                          refine zh_iload_n (pn := 129) rfl dX5_fiber_128 (i := 2) (x := a2) rfl rfl ?_
                          refine zh_bipush (pn := 131) rfl dX5_fiber_129 (v := (zI 8)) rfl ?_
                          refine zh_icmp_ne (pn := 134) rfl dX5_fiber_131 (tgt := 155) rfl (fun cc1 => ?_) (fun cc1 => ?_)
                          · replace h := h.1 cc1
                            refine zh_aload_n (pn := 156) rfl dX5_fiber_155 (i := 0) (v := .ref 39) rfl rfl (Or.inr ⟨_, rfl⟩) ?_
                            refine zh_get (pn := 159) rfl dX5_fiber_156 (v := .ref 59) (k := 19) rfl rfl (by decide) (by decide) in_X5 mf_X5_68 rfl ?_
                            refine zh_iload_n (pn := 160) rfl dX5_fiber_159 (i := 1) (x := a1) rfl rfl ?_
                            refine zh_iald (pn := 161) rfl dX5_fiber_160 rfl h.1 ?_
                            replace h := h.2
                            exact zh_iret dX5_fiber_161 rfl rfl ⟨_, rfl, rfl, h⟩
                          · replace h := h.2 cc1
                            refine zh_aload_n (pn := 135) rfl dX5_fiber_134 (i := 0) (v := .ref 39) rfl rfl (Or.inr ⟨_, rfl⟩) ?_
                            refine zh_get (pn := 138) rfl dX5_fiber_135 (v := .ref 53) (k := 13) rfl rfl (by decide) (by decide) in_X5 mf_X5_50 rfl ?_
                            refine zh_bipush (pn := 140) rfl dX5_fiber_138 (v := (zI 16)) rfl ?_
                            refine zh_iload_n (pn := 141) rfl dX5_fiber_140 (i := 1) (x := a1) rfl rfl ?_
                            refine zh_imul (pn := 142) rfl dX5_fiber_141 ?_
                            refine zh_aload_n (pn := 143) rfl dX5_fiber_142 (i := 0) (v := .ref 39) rfl rfl (Or.inr ⟨_, rfl⟩) ?_
                            refine zh_get (pn := 146) rfl dX5_fiber_143 (v := .ref 50) (k := 10) rfl rfl (by decide) (by decide) in_X5 mf_X5_41 rfl ?_
                            refine zh_iload_n (pn := 147) rfl dX5_fiber_146 (i := 1) (x := a1) rfl rfl ?_
                            refine zh_iald (pn := 148) rfl dX5_fiber_147 rfl h.1 ?_
                            replace h := h.2
                            refine zh_iadd (pn := 149) rfl dX5_fiber_148 ?_
                            refine zh_iconst (pn := 150) rfl dX5_fiber_149 (v := (zI 1)) rfl ?_
                            refine zh_isub (pn := 151) rfl dX5_fiber_150 ?_
                            refine zh_iald (pn := 152) rfl dX5_fiber_151 rfl h.1 ?_
                            replace h := h.2
                            refine zh_goto dX5_fiber_152 (tgt := 161) rfl ?_
                            exact zh_iret dX5_fiber_161 rfl rfl ⟨_, rfl, rfl, h⟩
                        · replace h := h.2 cc1
                          refine zh_iload_n (pn := 125) rfl dX5_fiber_124 (i := 3) (x := (zI 0)) rfl rfl ?_
                          refine zh_goto dX5_fiber_125 (tgt := 161) rfl ?_
                          exact zh_iret dX5_fiber_161 rfl rfl ⟨_, rfl, rfl, h⟩
                      · replace h := h.2 cc1
                        refine zh_aload_n (pn := 111) rfl dX5_fiber_110 (i := 0) (v := .ref 39) rfl rfl (Or.inr ⟨_, rfl⟩) ?_
                        refine zh_get (pn := 114) rfl dX5_fiber_111 (v := .ref 51) (k := 11) rfl rfl (by decide) (by decide) in_X5 mf_X5_44 rfl ?_
                        refine zh_iload_n (pn := 115) rfl dX5_fiber_114 (i := 1) (x := a1) rfl rfl ?_
                        refine zh_iald (pn := 116) rfl dX5_fiber_115 rfl h.1 ?_
                        replace h := h.2
                        refine zh_goto dX5_fiber_116 (tgt := 161) rfl ?_
                        exact zh_iret dX5_fiber_161 rfl rfl ⟨_, rfl, rfl, h⟩
                    · replace h := h.2 cc1
                      refine zh_aload_n (pn := 97) rfl dX5_fiber_96 (i := 0) (v := .ref 39) rfl rfl (Or.inr ⟨_, rfl⟩) ?_
                      refine zh_get (pn := 100) rfl dX5_fiber_97 (v := .ref 50) (k := 10) rfl rfl (by decide) (by decide) in_X5 mf_X5_41 rfl ?_
                      refine zh_iload_n (pn := 101) rfl dX5_fiber_100 (i := 1) (x := a1) rfl rfl ?_
                      refine zh_iald (pn := 102) rfl dX5_fiber_101 rfl h.1 ?_
                      replace h := h.2
                      refine zh_goto dX5_fiber_102 (tgt := 161) rfl ?_
                      exact zh_iret dX5_fiber_161 rfl rfl ⟨_, rfl, rfl, h⟩
                  · replace h := h.2 cc1
                    refine zh_iconst (pn := 86) rfl dX5_fiber_85 (v := (zI 1)) rfl ?_
                    refine zh_goto dX5_fiber_86 (tgt := 90) rfl ?_
                    refine zh_istore_n (pn := 91) rfl dX5_fiber_90 (i := 3) (lo' := [some (.ref 39), some (.int a1), some (.int a2), some (.int (zI 1))]) rfl (by decide) rfl ?_
                    refine zh_iload_n (pn := 92) rfl dX5_fiber_91 (i := 2) (x := a2) rfl rfl ?_
                    refine zh_iconst (pn := 93) rfl dX5_fiber_92 (v := (zI 1)) rfl ?_
                    refine zh_icmp_ne (pn := 96) rfl dX5_fiber_93 (tgt := 105) rfl (fun cc1 => ?_) (fun cc1 => ?_)
                    · replace h := h.1 cc1
                      refine zh_iload_n (pn := 106) rfl dX5_fiber_105 (i := 2) (x := a2) rfl rfl ?_
                      refine zh_iconst (pn := 107) rfl dX5_fiber_106 (v := (zI 2)) rfl ?_
                      refine zh_icmp_ne (pn := 110) rfl dX5_fiber_107 (tgt := 119) rfl (fun cc1 => ?_) (fun cc1 => ?_)
                      · replace h := h.1 cc1
                        refine zh_iload_n (pn := 120) rfl dX5_fiber_119 (i := 2) (x := a2) rfl rfl ?_
                        refine zh_iconst (pn := 121) rfl dX5_fiber_120 (v := (zI 3)) rfl ?_
                        refine zh_icmp_ne (pn := 124) rfl dX5_fiber_121 (tgt := 128) rfl (fun cc1 => ?_) (fun cc1 => ?_)
                        · replace h := h.1 cc1
                          refine zh_iload_n (pn := 129) rfl dX5_fiber_128 (i := 2) (x := a2) rfl rfl ?_
                          refine zh_bipush (pn := 131) rfl dX5_fiber_129 (v := (zI 8)) rfl ?_
                          refine zh_icmp_ne (pn := 134) rfl dX5_fiber_131 (tgt := 155) rfl (fun cc1 => ?_) (fun cc1 => ?_)
                          · replace h := h.1 cc1
                            refine zh_aload_n (pn := 156) rfl dX5_fiber_155 (i := 0) (v := .ref 39) rfl rfl (Or.inr ⟨_, rfl⟩) ?_
                            refine zh_get (pn := 159) rfl dX5_fiber_156 (v := .ref 59) (k := 19) rfl rfl (by decide) (by decide) in_X5 mf_X5_68 rfl ?_
                            refine zh_iload_n (pn := 160) rfl dX5_fiber_159 (i := 1) (x := a1) rfl rfl ?_
                            refine zh_iald (pn := 161) rfl dX5_fiber_160 rfl h.1 ?_
                            replace h := h.2
                            exact zh_iret dX5_fiber_161 rfl rfl ⟨_, rfl, rfl, h⟩
                          · replace h := h.2 cc1
                            refine zh_aload_n (pn := 135) rfl dX5_fiber_134 (i := 0) (v := .ref 39) rfl rfl (Or.inr ⟨_, rfl⟩) ?_
                            refine zh_get (pn := 138) rfl dX5_fiber_135 (v := .ref 53) (k := 13) rfl rfl (by decide) (by decide) in_X5 mf_X5_50 rfl ?_
                            refine zh_bipush (pn := 140) rfl dX5_fiber_138 (v := (zI 16)) rfl ?_
                            refine zh_iload_n (pn := 141) rfl dX5_fiber_140 (i := 1) (x := a1) rfl rfl ?_
                            refine zh_imul (pn := 142) rfl dX5_fiber_141 ?_
                            refine zh_aload_n (pn := 143) rfl dX5_fiber_142 (i := 0) (v := .ref 39) rfl rfl (Or.inr ⟨_, rfl⟩) ?_
                            refine zh_get (pn := 146) rfl dX5_fiber_143 (v := .ref 50) (k := 10) rfl rfl (by decide) (by decide) in_X5 mf_X5_41 rfl ?_
                            refine zh_iload_n (pn := 147) rfl dX5_fiber_146 (i := 1) (x := a1) rfl rfl ?_
                            refine zh_iald (pn := 148) rfl dX5_fiber_147 rfl h.1 ?_
                            replace h := h.2
                            refine zh_iadd (pn := 149) rfl dX5_fiber_148 ?_
                            refine zh_iconst (pn := 150) rfl dX5_fiber_149 (v := (zI 1)) rfl ?_
                            refine zh_isub (pn := 151) rfl dX5_fiber_150 ?_
                            refine zh_iald (pn := 152) rfl dX5_fiber_151 rfl h.1 ?_
                            replace h := h.2
                            refine zh_goto dX5_fiber_152 (tgt := 161) rfl ?_
                            exact zh_iret dX5_fiber_161 rfl rfl ⟨_, rfl, rfl, h⟩
                        · replace h := h.2 cc1
                          refine zh_iload_n (pn := 125) rfl dX5_fiber_124 (i := 3) (x := (zI 1)) rfl rfl ?_
                          refine zh_goto dX5_fiber_125 (tgt := 161) rfl ?_
                          exact zh_iret dX5_fiber_161 rfl rfl ⟨_, rfl, rfl, h⟩
                      · replace h := h.2 cc1
                        refine zh_aload_n (pn := 111) rfl dX5_fiber_110 (i := 0) (v := .ref 39) rfl rfl (Or.inr ⟨_, rfl⟩) ?_
                        refine zh_get (pn := 114) rfl dX5_fiber_111 (v := .ref 51) (k := 11) rfl rfl (by decide) (by decide) in_X5 mf_X5_44 rfl ?_
                        refine zh_iload_n (pn := 115) rfl dX5_fiber_114 (i := 1) (x := a1) rfl rfl ?_
                        refine zh_iald (pn := 116) rfl dX5_fiber_115 rfl h.1 ?_
                        replace h := h.2
                        refine zh_goto dX5_fiber_116 (tgt := 161) rfl ?_
                        exact zh_iret dX5_fiber_161 rfl rfl ⟨_, rfl, rfl, h⟩
                    · replace h := h.2 cc1
                      refine zh_aload_n (pn := 97) rfl dX5_fiber_96 (i := 0) (v := .ref 39) rfl rfl (Or.inr ⟨_, rfl⟩) ?_
                      refine zh_get (pn := 100) rfl dX5_fiber_97 (v := .ref 50) (k := 10) rfl rfl (by decide) (by decide) in_X5 mf_X5_41 rfl ?_
                      refine zh_iload_n (pn := 101) rfl dX5_fiber_100 (i := 1) (x := a1) rfl rfl ?_
                      refine zh_iald (pn := 102) rfl dX5_fiber_101 rfl h.1 ?_
                      replace h := h.2
                      refine zh_goto dX5_fiber_102 (tgt := 161) rfl ?_
                      exact zh_iret dX5_fiber_161 rfl rfl ⟨_, rfl, rfl, h⟩
              · replace h := h.2 cc1
                refine zh_iload_n (pn := 55) rfl dX5_fiber_54 (i := 2) (x := a2) rfl rfl ?_
                refine zh_bipush (pn := 57) rfl dX5_fiber_55 (v := (zI 8)) rfl ?_
                refine zh_icmp_ge (pn := 60) rfl dX5_fiber_57 (tgt := 69) rfl (fun cc1 => ?_) (fun cc1 => ?_)
                · replace h := h.1 cc1
                  refine zh_aload_n (pn := 70) rfl dX5_fiber_69 (i := 0) (v := .ref 39) rfl rfl (Or.inr ⟨_, rfl⟩) ?_
                  refine zh_get (pn := 73) rfl dX5_fiber_70 (v := .int (M 39 23)) (k := 23) rfl rfl (by decide) (by decide) in_X5 mf_X5_103 rfl ?_
                  refine zh_if_eq (pn := 76) rfl dX5_fiber_73 (tgt := 89) rfl (fun cc1 => ?_) (fun cc1 => ?_)
                  · replace h := h.1 cc1
                    refine zh_iconst (pn := 90) rfl dX5_fiber_89 (v := (zI 0)) rfl ?_
                    refine zh_istore_n (pn := 91) rfl dX5_fiber_90 (i := 3) (lo' := [some (.ref 39), some (.int a1), some (.int a2), some (.int (zI 0))]) rfl (by decide) rfl ?_
                    refine zh_iload_n (pn := 92) rfl dX5_fiber_91 (i := 2) (x := a2) rfl rfl ?_
                    refine zh_iconst (pn := 93) rfl dX5_fiber_92 (v := (zI 1)) rfl ?_
                    refine zh_icmp_ne (pn := 96) rfl dX5_fiber_93 (tgt := 105) rfl (fun cc1 => ?_) (fun cc1 => ?_)
                    · replace h := h.1 cc1
                      refine zh_iload_n (pn := 106) rfl dX5_fiber_105 (i := 2) (x := a2) rfl rfl ?_
                      refine zh_iconst (pn := 107) rfl dX5_fiber_106 (v := (zI 2)) rfl ?_
                      refine zh_icmp_ne (pn := 110) rfl dX5_fiber_107 (tgt := 119) rfl (fun cc1 => ?_) (fun cc1 => ?_)
                      · replace h := h.1 cc1
                        refine zh_iload_n (pn := 120) rfl dX5_fiber_119 (i := 2) (x := a2) rfl rfl ?_
                        refine zh_iconst (pn := 121) rfl dX5_fiber_120 (v := (zI 3)) rfl ?_
                        refine zh_icmp_ne (pn := 124) rfl dX5_fiber_121 (tgt := 128) rfl (fun cc1 => ?_) (fun cc1 => ?_)
                        · replace h := h.1 cc1
                          refine zh_iload_n (pn := 129) rfl dX5_fiber_128 (i := 2) (x := a2) rfl rfl ?_
                          refine zh_bipush (pn := 131) rfl dX5_fiber_129 (v := (zI 8)) rfl ?_
                          refine zh_icmp_ne (pn := 134) rfl dX5_fiber_131 (tgt := 155) rfl (fun cc1 => ?_) (fun cc1 => ?_)
                          · replace h := h.1 cc1
                            refine zh_aload_n (pn := 156) rfl dX5_fiber_155 (i := 0) (v := .ref 39) rfl rfl (Or.inr ⟨_, rfl⟩) ?_
                            refine zh_get (pn := 159) rfl dX5_fiber_156 (v := .ref 59) (k := 19) rfl rfl (by decide) (by decide) in_X5 mf_X5_68 rfl ?_
                            refine zh_iload_n (pn := 160) rfl dX5_fiber_159 (i := 1) (x := a1) rfl rfl ?_
                            refine zh_iald (pn := 161) rfl dX5_fiber_160 rfl h.1 ?_
                            replace h := h.2
                            exact zh_iret dX5_fiber_161 rfl rfl ⟨_, rfl, rfl, h⟩
                          · replace h := h.2 cc1
                            refine zh_aload_n (pn := 135) rfl dX5_fiber_134 (i := 0) (v := .ref 39) rfl rfl (Or.inr ⟨_, rfl⟩) ?_
                            refine zh_get (pn := 138) rfl dX5_fiber_135 (v := .ref 53) (k := 13) rfl rfl (by decide) (by decide) in_X5 mf_X5_50 rfl ?_
                            refine zh_bipush (pn := 140) rfl dX5_fiber_138 (v := (zI 16)) rfl ?_
                            refine zh_iload_n (pn := 141) rfl dX5_fiber_140 (i := 1) (x := a1) rfl rfl ?_
                            refine zh_imul (pn := 142) rfl dX5_fiber_141 ?_
                            refine zh_aload_n (pn := 143) rfl dX5_fiber_142 (i := 0) (v := .ref 39) rfl rfl (Or.inr ⟨_, rfl⟩) ?_
                            refine zh_get (pn := 146) rfl dX5_fiber_143 (v := .ref 50) (k := 10) rfl rfl (by decide) (by decide) in_X5 mf_X5_41 rfl ?_
                            refine zh_iload_n (pn := 147) rfl dX5_fiber_146 (i := 1) (x := a1) rfl rfl ?_
                            refine zh_iald (pn := 148) rfl dX5_fiber_147 rfl h.1 ?_
                            replace h := h.2
                            refine zh_iadd (pn := 149) rfl dX5_fiber_148 ?_
                            refine zh_iconst (pn := 150) rfl dX5_fiber_149 (v := (zI 1)) rfl ?_
                            refine zh_isub (pn := 151) rfl dX5_fiber_150 ?_
                            refine zh_iald (pn := 152) rfl dX5_fiber_151 rfl h.1 ?_
                            replace h := h.2
                            refine zh_goto dX5_fiber_152 (tgt := 161) rfl ?_
                            exact zh_iret dX5_fiber_161 rfl rfl ⟨_, rfl, rfl, h⟩
                        · replace h := h.2 cc1
                          refine zh_iload_n (pn := 125) rfl dX5_fiber_124 (i := 3) (x := (zI 0)) rfl rfl ?_
                          refine zh_goto dX5_fiber_125 (tgt := 161) rfl ?_
                          exact zh_iret dX5_fiber_161 rfl rfl ⟨_, rfl, rfl, h⟩
                      · replace h := h.2 cc1
                        refine zh_aload_n (pn := 111) rfl dX5_fiber_110 (i := 0) (v := .ref 39) rfl rfl (Or.inr ⟨_, rfl⟩) ?_
                        refine zh_get (pn := 114) rfl dX5_fiber_111 (v := .ref 51) (k := 11) rfl rfl (by decide) (by decide) in_X5 mf_X5_44 rfl ?_
                        refine zh_iload_n (pn := 115) rfl dX5_fiber_114 (i := 1) (x := a1) rfl rfl ?_
                        refine zh_iald (pn := 116) rfl dX5_fiber_115 rfl h.1 ?_
                        replace h := h.2
                        refine zh_goto dX5_fiber_116 (tgt := 161) rfl ?_
                        exact zh_iret dX5_fiber_161 rfl rfl ⟨_, rfl, rfl, h⟩
                    · replace h := h.2 cc1
                      refine zh_aload_n (pn := 97) rfl dX5_fiber_96 (i := 0) (v := .ref 39) rfl rfl (Or.inr ⟨_, rfl⟩) ?_
                      refine zh_get (pn := 100) rfl dX5_fiber_97 (v := .ref 50) (k := 10) rfl rfl (by decide) (by decide) in_X5 mf_X5_41 rfl ?_
                      refine zh_iload_n (pn := 101) rfl dX5_fiber_100 (i := 1) (x := a1) rfl rfl ?_
                      refine zh_iald (pn := 102) rfl dX5_fiber_101 rfl h.1 ?_
                      replace h := h.2
                      refine zh_goto dX5_fiber_102 (tgt := 161) rfl ?_
                      exact zh_iret dX5_fiber_161 rfl rfl ⟨_, rfl, rfl, h⟩
                  · replace h := h.2 cc1
                    refine zh_aload_n (pn := 77) rfl dX5_fiber_76 (i := 0) (v := .ref 39) rfl rfl (Or.inr ⟨_, rfl⟩) ?_
                    refine zh_get (pn := 80) rfl dX5_fiber_77 (v := .ref 54) (k := 14) rfl rfl (by decide) (by decide) in_X5 mf_X5_53 rfl ?_
                    refine zh_iload_n (pn := 81) rfl dX5_fiber_80 (i := 1) (x := a1) rfl rfl ?_
                    refine zh_zald (pn := 82) rfl dX5_fiber_81 rfl h.1 ?_
                    replace h := h.2
                    refine zh_if_eq (pn := 85) rfl dX5_fiber_82 (tgt := 89) rfl (fun cc1 => ?_) (fun cc1 => ?_)
                    · replace h := h.1 cc1
                      refine zh_iconst (pn := 90) rfl dX5_fiber_89 (v := (zI 0)) rfl ?_
                      refine zh_istore_n (pn := 91) rfl dX5_fiber_90 (i := 3) (lo' := [some (.ref 39), some (.int a1), some (.int a2), some (.int (zI 0))]) rfl (by decide) rfl ?_
                      refine zh_iload_n (pn := 92) rfl dX5_fiber_91 (i := 2) (x := a2) rfl rfl ?_
                      refine zh_iconst (pn := 93) rfl dX5_fiber_92 (v := (zI 1)) rfl ?_
                      refine zh_icmp_ne (pn := 96) rfl dX5_fiber_93 (tgt := 105) rfl (fun cc1 => ?_) (fun cc1 => ?_)
                      · replace h := h.1 cc1
                        refine zh_iload_n (pn := 106) rfl dX5_fiber_105 (i := 2) (x := a2) rfl rfl ?_
                        refine zh_iconst (pn := 107) rfl dX5_fiber_106 (v := (zI 2)) rfl ?_
                        refine zh_icmp_ne (pn := 110) rfl dX5_fiber_107 (tgt := 119) rfl (fun cc1 => ?_) (fun cc1 => ?_)
                        · replace h := h.1 cc1
                          refine zh_iload_n (pn := 120) rfl dX5_fiber_119 (i := 2) (x := a2) rfl rfl ?_
                          refine zh_iconst (pn := 121) rfl dX5_fiber_120 (v := (zI 3)) rfl ?_
                          refine zh_icmp_ne (pn := 124) rfl dX5_fiber_121 (tgt := 128) rfl (fun cc1 => ?_) (fun cc1 => ?_)
                          · replace h := h.1 cc1
                            refine zh_iload_n (pn := 129) rfl dX5_fiber_128 (i := 2) (x := a2) rfl rfl ?_
                            refine zh_bipush (pn := 131) rfl dX5_fiber_129 (v := (zI 8)) rfl ?_
                            refine zh_icmp_ne (pn := 134) rfl dX5_fiber_131 (tgt := 155) rfl (fun cc1 => ?_) (fun cc1 => ?_)
                            · replace h := h.1 cc1
                              refine zh_aload_n (pn := 156) rfl dX5_fiber_155 (i := 0) (v := .ref 39) rfl rfl (Or.inr ⟨_, rfl⟩) ?_
                              refine zh_get (pn := 159) rfl dX5_fiber_156 (v := .ref 59) (k := 19) rfl rfl (by decide) (by decide) in_X5 mf_X5_68 rfl ?_
                              refine zh_iload_n (pn := 160) rfl dX5_fiber_159 (i := 1) (x := a1) rfl rfl ?_
                              refine zh_iald (pn := 161) rfl dX5_fiber_160 rfl h.1 ?_
                              replace h := h.2
                              exact zh_iret dX5_fiber_161 rfl rfl ⟨_, rfl, rfl, h⟩
                            · replace h := h.2 cc1
                              refine zh_aload_n (pn := 135) rfl dX5_fiber_134 (i := 0) (v := .ref 39) rfl rfl (Or.inr ⟨_, rfl⟩) ?_
                              refine zh_get (pn := 138) rfl dX5_fiber_135 (v := .ref 53) (k := 13) rfl rfl (by decide) (by decide) in_X5 mf_X5_50 rfl ?_
                              refine zh_bipush (pn := 140) rfl dX5_fiber_138 (v := (zI 16)) rfl ?_
                              refine zh_iload_n (pn := 141) rfl dX5_fiber_140 (i := 1) (x := a1) rfl rfl ?_
                              refine zh_imul (pn := 142) rfl dX5_fiber_141 ?_
                              refine zh_aload_n (pn := 143) rfl dX5_fiber_142 (i := 0) (v := .ref 39) rfl rfl (Or.inr ⟨_, rfl⟩) ?_
                              refine zh_get (pn := 146) rfl dX5_fiber_143 (v := .ref 50) (k := 10) rfl rfl (by decide) (by decide) in_X5 mf_X5_41 rfl ?_
                              refine zh_iload_n (pn := 147) rfl dX5_fiber_146 (i := 1) (x := a1) rfl rfl ?_
                              refine zh_iald (pn := 148) rfl dX5_fiber_147 rfl h.1 ?_
                              replace h := h.2
                              refine zh_iadd (pn := 149) rfl dX5_fiber_148 ?_
                              refine zh_iconst (pn := 150) rfl dX5_fiber_149 (v := (zI 1)) rfl ?_
                              refine zh_isub (pn := 151) rfl dX5_fiber_150 ?_
                              refine zh_iald (pn := 152) rfl dX5_fiber_151 rfl h.1 ?_
                              replace h := h.2
                              refine zh_goto dX5_fiber_152 (tgt := 161) rfl ?_
                              exact zh_iret dX5_fiber_161 rfl rfl ⟨_, rfl, rfl, h⟩
                          · replace h := h.2 cc1
                            refine zh_iload_n (pn := 125) rfl dX5_fiber_124 (i := 3) (x := (zI 0)) rfl rfl ?_
                            refine zh_goto dX5_fiber_125 (tgt := 161) rfl ?_
                            exact zh_iret dX5_fiber_161 rfl rfl ⟨_, rfl, rfl, h⟩
                        · replace h := h.2 cc1
                          refine zh_aload_n (pn := 111) rfl dX5_fiber_110 (i := 0) (v := .ref 39) rfl rfl (Or.inr ⟨_, rfl⟩) ?_
                          refine zh_get (pn := 114) rfl dX5_fiber_111 (v := .ref 51) (k := 11) rfl rfl (by decide) (by decide) in_X5 mf_X5_44 rfl ?_
                          refine zh_iload_n (pn := 115) rfl dX5_fiber_114 (i := 1) (x := a1) rfl rfl ?_
                          refine zh_iald (pn := 116) rfl dX5_fiber_115 rfl h.1 ?_
                          replace h := h.2
                          refine zh_goto dX5_fiber_116 (tgt := 161) rfl ?_
                          exact zh_iret dX5_fiber_161 rfl rfl ⟨_, rfl, rfl, h⟩
                      · replace h := h.2 cc1
                        refine zh_aload_n (pn := 97) rfl dX5_fiber_96 (i := 0) (v := .ref 39) rfl rfl (Or.inr ⟨_, rfl⟩) ?_
                        refine zh_get (pn := 100) rfl dX5_fiber_97 (v := .ref 50) (k := 10) rfl rfl (by decide) (by decide) in_X5 mf_X5_41 rfl ?_
                        refine zh_iload_n (pn := 101) rfl dX5_fiber_100 (i := 1) (x := a1) rfl rfl ?_
                        refine zh_iald (pn := 102) rfl dX5_fiber_101 rfl h.1 ?_
                        replace h := h.2
                        refine zh_goto dX5_fiber_102 (tgt := 161) rfl ?_
                        exact zh_iret dX5_fiber_161 rfl rfl ⟨_, rfl, rfl, h⟩
                    · replace h := h.2 cc1
                      refine zh_iconst (pn := 86) rfl dX5_fiber_85 (v := (zI 1)) rfl ?_
                      refine zh_goto dX5_fiber_86 (tgt := 90) rfl ?_
                      refine zh_istore_n (pn := 91) rfl dX5_fiber_90 (i := 3) (lo' := [some (.ref 39), some (.int a1), some (.int a2), some (.int (zI 1))]) rfl (by decide) rfl ?_
                      refine zh_iload_n (pn := 92) rfl dX5_fiber_91 (i := 2) (x := a2) rfl rfl ?_
                      refine zh_iconst (pn := 93) rfl dX5_fiber_92 (v := (zI 1)) rfl ?_
                      refine zh_icmp_ne (pn := 96) rfl dX5_fiber_93 (tgt := 105) rfl (fun cc1 => ?_) (fun cc1 => ?_)
                      · replace h := h.1 cc1
                        refine zh_iload_n (pn := 106) rfl dX5_fiber_105 (i := 2) (x := a2) rfl rfl ?_
                        refine zh_iconst (pn := 107) rfl dX5_fiber_106 (v := (zI 2)) rfl ?_
                        refine zh_icmp_ne (pn := 110) rfl dX5_fiber_107 (tgt := 119) rfl (fun cc1 => ?_) (fun cc1 => ?_)
                        · replace h := h.1 cc1
                          refine zh_iload_n (pn := 120) rfl dX5_fiber_119 (i := 2) (x := a2) rfl rfl ?_
                          refine zh_iconst (pn := 121) rfl dX5_fiber_120 (v := (zI 3)) rfl ?_
                          refine zh_icmp_ne (pn := 124) rfl dX5_fiber_121 (tgt := 128) rfl (fun cc1 => ?_) (fun cc1 => ?_)
                          · replace h := h.1 cc1
                            refine zh_iload_n (pn := 129) rfl dX5_fiber_128 (i := 2) (x := a2) rfl rfl ?_
                            refine zh_bipush (pn := 131) rfl dX5_fiber_129 (v := (zI 8)) rfl ?_
                            refine zh_icmp_ne (pn := 134) rfl dX5_fiber_131 (tgt := 155) rfl (fun cc1 => ?_) (fun cc1 => ?_)
                            · replace h := h.1 cc1
                              refine zh_aload_n (pn := 156) rfl dX5_fiber_155 (i := 0) (v := .ref 39) rfl rfl (Or.inr ⟨_, rfl⟩) ?_
                              refine zh_get (pn := 159) rfl dX5_fiber_156 (v := .ref 59) (k := 19) rfl rfl (by decide) (by decide) in_X5 mf_X5_68 rfl ?_
                              refine zh_iload_n (pn := 160) rfl dX5_fiber_159 (i := 1) (x := a1) rfl rfl ?_
                              refine zh_iald (pn := 161) rfl dX5_fiber_160 rfl h.1 ?_
                              replace h := h.2
                              exact zh_iret dX5_fiber_161 rfl rfl ⟨_, rfl, rfl, h⟩
                            · replace h := h.2 cc1
                              refine zh_aload_n (pn := 135) rfl dX5_fiber_134 (i := 0) (v := .ref 39) rfl rfl (Or.inr ⟨_, rfl⟩) ?_
                              refine zh_get (pn := 138) rfl dX5_fiber_135 (v := .ref 53) (k := 13) rfl rfl (by decide) (by decide) in_X5 mf_X5_50 rfl ?_
                              refine zh_bipush (pn := 140) rfl dX5_fiber_138 (v := (zI 16)) rfl ?_
                              refine zh_iload_n (pn := 141) rfl dX5_fiber_140 (i := 1) (x := a1) rfl rfl ?_
                              refine zh_imul (pn := 142) rfl dX5_fiber_141 ?_
                              refine zh_aload_n (pn := 143) rfl dX5_fiber_142 (i := 0) (v := .ref 39) rfl rfl (Or.inr ⟨_, rfl⟩) ?_
                              refine zh_get (pn := 146) rfl dX5_fiber_143 (v := .ref 50) (k := 10) rfl rfl (by decide) (by decide) in_X5 mf_X5_41 rfl ?_
                              refine zh_iload_n (pn := 147) rfl dX5_fiber_146 (i := 1) (x := a1) rfl rfl ?_
                              refine zh_iald (pn := 148) rfl dX5_fiber_147 rfl h.1 ?_
                              replace h := h.2
                              refine zh_iadd (pn := 149) rfl dX5_fiber_148 ?_
                              refine zh_iconst (pn := 150) rfl dX5_fiber_149 (v := (zI 1)) rfl ?_
                              refine zh_isub (pn := 151) rfl dX5_fiber_150 ?_
                              refine zh_iald (pn := 152) rfl dX5_fiber_151 rfl h.1 ?_
                              replace h := h.2
                              refine zh_goto dX5_fiber_152 (tgt := 161) rfl ?_
                              exact zh_iret dX5_fiber_161 rfl rfl ⟨_, rfl, rfl, h⟩
                          · replace h := h.2 cc1
                            refine zh_iload_n (pn := 125) rfl dX5_fiber_124 (i := 3) (x := (zI 1)) rfl rfl ?_
                            refine zh_goto dX5_fiber_125 (tgt := 161) rfl ?_
                            exact zh_iret dX5_fiber_161 rfl rfl ⟨_, rfl, rfl, h⟩
                        · replace h := h.2 cc1
                          refine zh_aload_n (pn := 111) rfl dX5_fiber_110 (i := 0) (v := .ref 39) rfl rfl (Or.inr ⟨_, rfl⟩) ?_
                          refine zh_get (pn := 114) rfl dX5_fiber_111 (v := .ref 51) (k := 11) rfl rfl (by decide) (by decide) in_X5 mf_X5_44 rfl ?_
                          refine zh_iload_n (pn := 115) rfl dX5_fiber_114 (i := 1) (x := a1) rfl rfl ?_
                          refine zh_iald (pn := 116) rfl dX5_fiber_115 rfl h.1 ?_
                          replace h := h.2
                          refine zh_goto dX5_fiber_116 (tgt := 161) rfl ?_
                          exact zh_iret dX5_fiber_161 rfl rfl ⟨_, rfl, rfl, h⟩
                      · replace h := h.2 cc1
                        refine zh_aload_n (pn := 97) rfl dX5_fiber_96 (i := 0) (v := .ref 39) rfl rfl (Or.inr ⟨_, rfl⟩) ?_
                        refine zh_get (pn := 100) rfl dX5_fiber_97 (v := .ref 50) (k := 10) rfl rfl (by decide) (by decide) in_X5 mf_X5_41 rfl ?_
                        refine zh_iload_n (pn := 101) rfl dX5_fiber_100 (i := 1) (x := a1) rfl rfl ?_
                        refine zh_iald (pn := 102) rfl dX5_fiber_101 rfl h.1 ?_
                        replace h := h.2
                        refine zh_goto dX5_fiber_102 (tgt := 161) rfl ?_
                        exact zh_iret dX5_fiber_161 rfl rfl ⟨_, rfl, rfl, h⟩
                · replace h := h.2 cc1
                  refine zh_aload_n (pn := 61) rfl dX5_fiber_60 (i := 0) (v := .ref 39) rfl rfl (Or.inr ⟨_, rfl⟩) ?_
                  refine zh_iload_n (pn := 62) rfl dX5_fiber_61 (i := 1) (x := a1) rfl rfl ?_
                  refine zh_iload_n (pn := 63) rfl dX5_fiber_62 (i := 2) (x := a2) rfl rfl ?_
                  refine zh_iconst (pn := 64) rfl dX5_fiber_63 (v := (zI 4)) rfl ?_
                  refine zh_isub (pn := 65) rfl dX5_fiber_64 ?_
                  refine ca_X5_value (pn := 68) rfl dX5_fiber_65 mc_X5_100 (fun _ _ => Nat.le_of_ble_eq_true rfl) h (fun r2 M1 h => ?_)
                  exact zh_iret dX5_fiber_68 rfl rfl ⟨_, rfl, rfl, h⟩
            · replace h := h.2 cc1
              refine zh_iload_n (pn := 35) rfl dX5_fiber_34 (i := 2) (x := a2) rfl rfl ?_
              refine zh_if_ne (pn := 38) rfl dX5_fiber_35 (tgt := 47) rfl (fun cc1 => ?_) (fun cc1 => ?_)
              · replace h := h.1 cc1
                refine zh_iconst (pn := 48) rfl dX5_fiber_47 (v := (zI (-1))) rfl ?_
                exact zh_iret dX5_fiber_48 rfl rfl ⟨_, rfl, rfl, h⟩
              · replace h := h.2 cc1
                refine zh_aload_n (pn := 39) rfl dX5_fiber_38 (i := 0) (v := .ref 39) rfl rfl (Or.inr ⟨_, rfl⟩) ?_
                refine zh_get (pn := 42) rfl dX5_fiber_39 (v := .ref 49) (k := 9) rfl rfl (by decide) (by decide) in_X5 mf_X5_38 rfl ?_
                refine zh_iload_n (pn := 43) rfl dX5_fiber_42 (i := 1) (x := a1) rfl rfl ?_
                refine zh_iald (pn := 44) rfl dX5_fiber_43 rfl h.1 ?_
                replace h := h.2
                refine zh_goto dX5_fiber_44 (tgt := 48) rfl ?_
                exact zh_iret dX5_fiber_48 rfl rfl ⟨_, rfl, rfl, h⟩
        · replace h := h.2 cc1
          refine zh_iconst (pn := 20) rfl dX5_fiber_19 (v := (zI (-1))) rfl ?_
          exact zh_iret dX5_fiber_20 rfl rfl ⟨_, rfl, rfl, h⟩
set_option maxRecDepth 100000 in
theorem ca_X5_fiber {X : Nat × (Nat → Int32)} {d : Nat} {y : MethodName} {cc : ByteArray} {nL : Nat} {rt : Option FieldType} {pc pn idx : Nat} {lo : List (Option Value)} {st : List Value} {M : zh_M} {P : Option Value → List zh_LC → zh_M → Prop} {a1 : Int32} {a2 : Int32} {K : Int32 → zh_M → Prop} (hp : pc + 3 = pn) (hd : decode cc pc = .ok (.invokevirtual idx, 3)) (m1 : Cond.methodLink y.cls idx yX5_fiber ∈ zh_WS) (hsc : ∀ base b, ((st.map (zh_tr base b)).map fun v => v.category).sum ≤ 8) (h : wp_X5_fiber M a1 a2 K) (kk : ∀ r M1, K r M1 → zh_W X (d + 3) y cc nL rt pn lo (.int r :: st) zh_LL M1 0 0 P) : zh_W X (d + 3) y cc nL rt pc lo (.int a2 :: .int a1 :: .ref 39 :: st) zh_LL M 0 0 P := by
  refine zh_callV (bc := 0) (bs := 0) (bc' := 0) (bs' := 0) (as := [.int a1, .int a2]) (st := st) hp hd rfl (by decide) rfl rfl m1 me_X5_fiber.1 me_X5_fiber.2.1 me_X5_fiber.2.2.1 me_X5_fiber.2.2.2 ⟨by decide, by decide, by decide⟩ (by show _ = some 2; decide +kernel) (by intro v hv; simp only [List.mem_cons, List.not_mem_nil, or_false] at hv; rcases hv with rfl | rfl <;> (intro _ _; rfl)) hsc (Nat.le_of_ble_eq_true rfl) (by decide) (wk_X5_fiber  h) (fun r L' M' q => ?_) (fun r L' M' q => ?_)
  · obtain ⟨v, -, rfl, q⟩ := q; rfl
  · obtain ⟨v, rfl, rfl, q⟩ := q; exact kk v M' q
set_option maxRecDepth 100000 in
set_option maxHeartbeats 4000000 in
theorem wkl_X5_tally_4 {X : Nat × (Nat → Int32)} {d : Nat} {P : Int32 → zh_M → Prop} {l1 : Int32} {K56 : Int32 → zh_M → Prop} (hK56 : ∀ (l2 : Int32) (M : zh_M) (w3 : Option Value), K56 l2 M → zh_W X (d + 1) yX5_tally cX5_tally 4 (some .int) 56 [some (.ref 39), some (.int l1), some (.int l2), w3] [] zh_LL M 0 0 (zh_pi P)) : ∀ (n : Nat) (l2 : Int32) (l3 : Int32) (M : zh_M) , wl_X5_tally_4 l1 K56 P n l2 l3 M → zh_W X (d + 1) yX5_tally cX5_tally 4 (some .int) 4 [some (.ref 39), some (.int l1), some (.int l2), some (.int l3)] [] zh_LL M 0 0 (zh_pi P) := by
  intro n
  induction n with
  | zero => intro l2 l3 M  h; exact h.elim
  | succ n ih =>
    intro l2 l3 M  h
    unfold wl_X5_tally_4 at h
    refine zh_iload_n (pn := 5) rfl dX5_tally_4 (i := 3) (x := l3) rfl rfl ?_
    refine zh_sipush (pn := 8) rfl dX5_tally_5 (v := (zI 256)) rfl ?_
    refine zh_icmp_ge (pn := 11) rfl dX5_tally_8 (tgt := 56) rfl (fun cc1 => ?_) (fun cc1 => ?_)
    · replace h := h.1 cc1
      exact hK56 _ _ _ h
    · replace h := h.2 cc1
      refine zh_iload_n (pn := 12) rfl dX5_tally_11 (i := 2) (x := l2) rfl rfl ?_
      refine zh_aload_n (pn := 13) rfl dX5_tally_12 (i := 0) (v := .ref 39) rfl rfl (Or.inr ⟨_, rfl⟩) ?_
      refine zh_get (pn := 16) rfl dX5_tally_13 (v := .ref 41) (k := 1) rfl rfl (by decide) (by decide) in_X5 mf_X5_13 rfl ?_
      refine zh_iload_n (pn := 17) rfl dX5_tally_16 (i := 3) (x := l3) rfl rfl ?_
      refine zh_iald (pn := 18) rfl dX5_tally_17 rfl h.1 ?_
      replace h := h.2
      refine zh_if_eq (pn := 21) rfl dX5_tally_18 (tgt := 26) rfl (fun cc1 => ?_) (fun cc1 => ?_)
      · replace h := h.1 cc1
        refine zh_iconst (pn := 27) rfl dX5_tally_26 (v := (zI 0)) rfl ?_
        refine zh_goto dX5_tally_27 (tgt := 48) rfl ?_
        refine zh_iadd (pn := 49) rfl dX5_tally_48 ?_
        refine zh_istore_n (pn := 50) rfl dX5_tally_49 (i := 2) (lo' := [some (.ref 39), some (.int l1), some (.int (l2 + (zI 0))), some (.int l3)]) rfl (by decide) rfl ?_
        refine zh_iinc (pn := 53) rfl dX5_tally_50 (i := 3) (x := l3) (v := l3 + (zI 1)) (lo' := [some (.ref 39), some (.int l1), some (.int (l2 + (zI 0))), some (.int (l3 + (zI 1)))]) rfl rfl (by decide) rfl ?_
        refine zh_goto dX5_tally_53 (tgt := 4) rfl ?_
        exact ih _ _ _ h
      · replace h := h.2 cc1
        refine zh_iload_n (pn := 22) rfl dX5_tally_21 (i := 1) (x := l1) rfl rfl ?_
        refine zh_iconst (pn := 23) rfl dX5_tally_22 (v := (zI 1)) rfl ?_
        refine zh_icmp_le (pn := 26) rfl dX5_tally_23 (tgt := 30) rfl (fun cc1 => ?_) (fun cc1 => ?_)
        · replace h := h.1 cc1
          refine zh_iload_n (pn := 31) rfl dX5_tally_30 (i := 1) (x := l1) rfl rfl ?_
          refine zh_if_ne (pn := 34) rfl dX5_tally_31 (tgt := 38) rfl (fun cc1 => ?_) (fun cc1 => ?_)
          · replace h := h.1 cc1
            refine zh_aload_n (pn := 39) rfl dX5_tally_38 (i := 0) (v := .ref 39) rfl rfl (Or.inr ⟨_, rfl⟩) ?_
            refine zh_aload_n (pn := 40) rfl dX5_tally_39 (i := 0) (v := .ref 39) rfl rfl (Or.inr ⟨_, rfl⟩) ?_
            refine zh_get (pn := 43) rfl dX5_tally_40 (v := .ref 41) (k := 1) rfl rfl (by decide) (by decide) in_X5 mf_X5_13 rfl ?_
            refine zh_iload_n (pn := 44) rfl dX5_tally_43 (i := 3) (x := l3) rfl rfl ?_
            refine zh_iald (pn := 45) rfl dX5_tally_44 rfl h.1 ?_
            replace h := h.2
            refine ca_X5_slotOf (pn := 48) rfl dX5_tally_45 mc_X5_121 (fun _ _ => Nat.le_of_ble_eq_true rfl) h (fun r2 M1 h => ?_)
            refine zh_iadd (pn := 49) rfl dX5_tally_48 ?_
            refine zh_istore_n (pn := 50) rfl dX5_tally_49 (i := 2) (lo' := [some (.ref 39), some (.int l1), some (.int (l2 + r2)), some (.int l3)]) rfl (by decide) rfl ?_
            refine zh_iinc (pn := 53) rfl dX5_tally_50 (i := 3) (x := l3) (v := l3 + (zI 1)) (lo' := [some (.ref 39), some (.int l1), some (.int (l2 + r2)), some (.int (l3 + (zI 1)))]) rfl rfl (by decide) rfl ?_
            refine zh_goto dX5_tally_53 (tgt := 4) rfl ?_
            exact ih _ _ _ h
          · replace h := h.2 cc1
            refine zh_iconst (pn := 35) rfl dX5_tally_34 (v := (zI 1)) rfl ?_
            refine zh_goto dX5_tally_35 (tgt := 48) rfl ?_
            refine zh_iadd (pn := 49) rfl dX5_tally_48 ?_
            refine zh_istore_n (pn := 50) rfl dX5_tally_49 (i := 2) (lo' := [some (.ref 39), some (.int l1), some (.int (l2 + (zI 1))), some (.int l3)]) rfl (by decide) rfl ?_
            refine zh_iinc (pn := 53) rfl dX5_tally_50 (i := 3) (x := l3) (v := l3 + (zI 1)) (lo' := [some (.ref 39), some (.int l1), some (.int (l2 + (zI 1))), some (.int (l3 + (zI 1)))]) rfl rfl (by decide) rfl ?_
            refine zh_goto dX5_tally_53 (tgt := 4) rfl ?_
            exact ih _ _ _ h
        · replace h := h.2 cc1
          refine zh_iconst (pn := 27) rfl dX5_tally_26 (v := (zI 0)) rfl ?_
          refine zh_goto dX5_tally_27 (tgt := 48) rfl ?_
          refine zh_iadd (pn := 49) rfl dX5_tally_48 ?_
          refine zh_istore_n (pn := 50) rfl dX5_tally_49 (i := 2) (lo' := [some (.ref 39), some (.int l1), some (.int (l2 + (zI 0))), some (.int l3)]) rfl (by decide) rfl ?_
          refine zh_iinc (pn := 53) rfl dX5_tally_50 (i := 3) (x := l3) (v := l3 + (zI 1)) (lo' := [some (.ref 39), some (.int l1), some (.int (l2 + (zI 0))), some (.int (l3 + (zI 1)))]) rfl rfl (by decide) rfl ?_
          refine zh_goto dX5_tally_53 (tgt := 4) rfl ?_
          exact ih _ _ _ h
set_option maxRecDepth 100000 in
set_option maxHeartbeats 4000000 in
theorem wkl_X5_tally_58 {X : Nat × (Nat → Int32)} {d : Nat} {P : Int32 → zh_M → Prop} {l1 : Int32} : ∀ (n : Nat) (l2 : Int32) (l3 : Int32) (M : zh_M) , wl_X5_tally_58 l1 P n l2 l3 M → zh_W X (d + 1) yX5_tally cX5_tally 4 (some .int) 58 [some (.ref 39), some (.int l1), some (.int l2), some (.int l3)] [] zh_LL M 0 0 (zh_pi P) := by
  intro n
  induction n with
  | zero => intro l2 l3 M  h; exact h.elim
  | succ n ih =>
    intro l2 l3 M  h
    unfold wl_X5_tally_58 at h
    refine zh_iload_n (pn := 59) rfl dX5_tally_58 (i := 3) (x := l3) rfl rfl ?_
    refine zh_bipush (pn := 61) rfl dX5_tally_59 (v := (zI 16)) rfl ?_
    refine zh_icmp_ge (pn := 64) rfl dX5_tally_61 (tgt := 106) rfl (fun cc1 => ?_) (fun cc1 => ?_)
    · replace h := h.1 cc1
      refine zh_iload_n (pn := 107) rfl dX5_tally_106 (i := 2) (x := l2) rfl rfl ?_
      exact zh_iret dX5_tally_107 rfl rfl ⟨_, rfl, rfl, h⟩
    · replace h := h.2 cc1
      refine zh_iload_n (pn := 65) rfl dX5_tally_64 (i := 2) (x := l2) rfl rfl ?_
      refine zh_iload_n (pn := 66) rfl dX5_tally_65 (i := 1) (x := l1) rfl rfl ?_
      refine zh_iconst (pn := 67) rfl dX5_tally_66 (v := (zI 2)) rfl ?_
      refine zh_icmp_ne (pn := 70) rfl dX5_tally_67 (tgt := 79) rfl (fun cc1 => ?_) (fun cc1 => ?_)
      · replace h := h.1 cc1
        refine zh_iload_n (pn := 80) rfl dX5_tally_79 (i := 1) (x := l1) rfl rfl ?_
        refine zh_iconst (pn := 81) rfl dX5_tally_80 (v := (zI 5)) rfl ?_
        refine zh_icmp_ne (pn := 84) rfl dX5_tally_81 (tgt := 97) rfl (fun cc1 => ?_) (fun cc1 => ?_)
        · replace h := h.1 cc1
          refine zh_iconst (pn := 98) rfl dX5_tally_97 (v := (zI 0)) rfl ?_
          refine zh_iadd (pn := 99) rfl dX5_tally_98 ?_
          refine zh_istore_n (pn := 100) rfl dX5_tally_99 (i := 2) (lo' := [some (.ref 39), some (.int l1), some (.int (l2 + (zI 0))), some (.int l3)]) rfl (by decide) rfl ?_
          refine zh_iinc (pn := 103) rfl dX5_tally_100 (i := 3) (x := l3) (v := l3 + (zI 1)) (lo' := [some (.ref 39), some (.int l1), some (.int (l2 + (zI 0))), some (.int (l3 + (zI 1)))]) rfl rfl (by decide) rfl ?_
          refine zh_goto dX5_tally_103 (tgt := 58) rfl ?_
          exact ih _ _ _ h
        · replace h := h.2 cc1
          refine zh_aload_n (pn := 85) rfl dX5_tally_84 (i := 0) (v := .ref 39) rfl rfl (Or.inr ⟨_, rfl⟩) ?_
          refine zh_get (pn := 88) rfl dX5_tally_85 (v := .ref 48) (k := 8) rfl rfl (by decide) (by decide) in_X5 mf_X5_35 rfl ?_
          refine zh_iload_n (pn := 89) rfl dX5_tally_88 (i := 3) (x := l3) rfl rfl ?_
          refine zh_zald (pn := 90) rfl dX5_tally_89 rfl h.1 ?_
          replace h := h.2
          refine zh_if_eq (pn := 93) rfl dX5_tally_90 (tgt := 97) rfl (fun cc1 => ?_) (fun cc1 => ?_)
          · replace h := h.1 cc1
            refine zh_iconst (pn := 98) rfl dX5_tally_97 (v := (zI 0)) rfl ?_
            refine zh_iadd (pn := 99) rfl dX5_tally_98 ?_
            refine zh_istore_n (pn := 100) rfl dX5_tally_99 (i := 2) (lo' := [some (.ref 39), some (.int l1), some (.int (l2 + (zI 0))), some (.int l3)]) rfl (by decide) rfl ?_
            refine zh_iinc (pn := 103) rfl dX5_tally_100 (i := 3) (x := l3) (v := l3 + (zI 1)) (lo' := [some (.ref 39), some (.int l1), some (.int (l2 + (zI 0))), some (.int (l3 + (zI 1)))]) rfl rfl (by decide) rfl ?_
            refine zh_goto dX5_tally_103 (tgt := 58) rfl ?_
            exact ih _ _ _ h
          · replace h := h.2 cc1
            refine zh_iconst (pn := 94) rfl dX5_tally_93 (v := (zI 1)) rfl ?_
            refine zh_goto dX5_tally_94 (tgt := 98) rfl ?_
            refine zh_iadd (pn := 99) rfl dX5_tally_98 ?_
            refine zh_istore_n (pn := 100) rfl dX5_tally_99 (i := 2) (lo' := [some (.ref 39), some (.int l1), some (.int (l2 + (zI 1))), some (.int l3)]) rfl (by decide) rfl ?_
            refine zh_iinc (pn := 103) rfl dX5_tally_100 (i := 3) (x := l3) (v := l3 + (zI 1)) (lo' := [some (.ref 39), some (.int l1), some (.int (l2 + (zI 1))), some (.int (l3 + (zI 1)))]) rfl rfl (by decide) rfl ?_
            refine zh_goto dX5_tally_103 (tgt := 58) rfl ?_
            exact ih _ _ _ h
      · replace h := h.2 cc1
        refine zh_aload_n (pn := 71) rfl dX5_tally_70 (i := 0) (v := .ref 39) rfl rfl (Or.inr ⟨_, rfl⟩) ?_
        refine zh_get (pn := 74) rfl dX5_tally_71 (v := .ref 47) (k := 7) rfl rfl (by decide) (by decide) in_X5 mf_X5_32 rfl ?_
        refine zh_iload_n (pn := 75) rfl dX5_tally_74 (i := 3) (x := l3) rfl rfl ?_
        refine zh_iald (pn := 76) rfl dX5_tally_75 rfl h.1 ?_
        replace h := h.2
        refine zh_if_eq (pn := 79) rfl dX5_tally_76 (tgt := 93) rfl (fun cc1 => ?_) (fun cc1 => ?_)
        · replace h := h.1 cc1
          refine zh_iconst (pn := 94) rfl dX5_tally_93 (v := (zI 1)) rfl ?_
          refine zh_goto dX5_tally_94 (tgt := 98) rfl ?_
          refine zh_iadd (pn := 99) rfl dX5_tally_98 ?_
          refine zh_istore_n (pn := 100) rfl dX5_tally_99 (i := 2) (lo' := [some (.ref 39), some (.int l1), some (.int (l2 + (zI 1))), some (.int l3)]) rfl (by decide) rfl ?_
          refine zh_iinc (pn := 103) rfl dX5_tally_100 (i := 3) (x := l3) (v := l3 + (zI 1)) (lo' := [some (.ref 39), some (.int l1), some (.int (l2 + (zI 1))), some (.int (l3 + (zI 1)))]) rfl rfl (by decide) rfl ?_
          refine zh_goto dX5_tally_103 (tgt := 58) rfl ?_
          exact ih _ _ _ h
        · replace h := h.2 cc1
          refine zh_iload_n (pn := 80) rfl dX5_tally_79 (i := 1) (x := l1) rfl rfl ?_
          refine zh_iconst (pn := 81) rfl dX5_tally_80 (v := (zI 5)) rfl ?_
          refine zh_icmp_ne (pn := 84) rfl dX5_tally_81 (tgt := 97) rfl (fun cc1 => ?_) (fun cc1 => ?_)
          · replace h := h.1 cc1
            refine zh_iconst (pn := 98) rfl dX5_tally_97 (v := (zI 0)) rfl ?_
            refine zh_iadd (pn := 99) rfl dX5_tally_98 ?_
            refine zh_istore_n (pn := 100) rfl dX5_tally_99 (i := 2) (lo' := [some (.ref 39), some (.int l1), some (.int (l2 + (zI 0))), some (.int l3)]) rfl (by decide) rfl ?_
            refine zh_iinc (pn := 103) rfl dX5_tally_100 (i := 3) (x := l3) (v := l3 + (zI 1)) (lo' := [some (.ref 39), some (.int l1), some (.int (l2 + (zI 0))), some (.int (l3 + (zI 1)))]) rfl rfl (by decide) rfl ?_
            refine zh_goto dX5_tally_103 (tgt := 58) rfl ?_
            exact ih _ _ _ h
          · replace h := h.2 cc1
            refine zh_aload_n (pn := 85) rfl dX5_tally_84 (i := 0) (v := .ref 39) rfl rfl (Or.inr ⟨_, rfl⟩) ?_
            refine zh_get (pn := 88) rfl dX5_tally_85 (v := .ref 48) (k := 8) rfl rfl (by decide) (by decide) in_X5 mf_X5_35 rfl ?_
            refine zh_iload_n (pn := 89) rfl dX5_tally_88 (i := 3) (x := l3) rfl rfl ?_
            refine zh_zald (pn := 90) rfl dX5_tally_89 rfl h.1 ?_
            replace h := h.2
            refine zh_if_eq (pn := 93) rfl dX5_tally_90 (tgt := 97) rfl (fun cc1 => ?_) (fun cc1 => ?_)
            · replace h := h.1 cc1
              refine zh_iconst (pn := 98) rfl dX5_tally_97 (v := (zI 0)) rfl ?_
              refine zh_iadd (pn := 99) rfl dX5_tally_98 ?_
              refine zh_istore_n (pn := 100) rfl dX5_tally_99 (i := 2) (lo' := [some (.ref 39), some (.int l1), some (.int (l2 + (zI 0))), some (.int l3)]) rfl (by decide) rfl ?_
              refine zh_iinc (pn := 103) rfl dX5_tally_100 (i := 3) (x := l3) (v := l3 + (zI 1)) (lo' := [some (.ref 39), some (.int l1), some (.int (l2 + (zI 0))), some (.int (l3 + (zI 1)))]) rfl rfl (by decide) rfl ?_
              refine zh_goto dX5_tally_103 (tgt := 58) rfl ?_
              exact ih _ _ _ h
            · replace h := h.2 cc1
              refine zh_iconst (pn := 94) rfl dX5_tally_93 (v := (zI 1)) rfl ?_
              refine zh_goto dX5_tally_94 (tgt := 98) rfl ?_
              refine zh_iadd (pn := 99) rfl dX5_tally_98 ?_
              refine zh_istore_n (pn := 100) rfl dX5_tally_99 (i := 2) (lo' := [some (.ref 39), some (.int l1), some (.int (l2 + (zI 1))), some (.int l3)]) rfl (by decide) rfl ?_
              refine zh_iinc (pn := 103) rfl dX5_tally_100 (i := 3) (x := l3) (v := l3 + (zI 1)) (lo' := [some (.ref 39), some (.int l1), some (.int (l2 + (zI 1))), some (.int (l3 + (zI 1)))]) rfl rfl (by decide) rfl ?_
              refine zh_goto dX5_tally_103 (tgt := 58) rfl ?_
              exact ih _ _ _ h
set_option maxRecDepth 100000 in
set_option maxHeartbeats 4000000 in
theorem wk_X5_tally {X : Nat × (Nat → Int32)} {d : Nat} {M : zh_M} {a1 : Int32} {P : Int32 → zh_M → Prop} (h : wp_X5_tally M a1 P) : zh_W X (d + 1) yX5_tally cX5_tally 4 (some .int) 0 (zh_en [.ref 39, .int a1] 4) [] zh_LL M 0 0 (zh_pi P) := by
  unfold wp_X5_tally at h
  show zh_W X (d + 1) yX5_tally cX5_tally 4 (some .int) 0 [some (.ref 39), some (.int a1), none, none] [] zh_LL M 0 0 (zh_pi P)
  refine zh_iconst (pn := 1) rfl dX5_tally_0 (v := (zI 0)) rfl ?_
  refine zh_istore_n (pn := 2) rfl dX5_tally_1 (i := 2) (lo' := [some (.ref 39), some (.int a1), some (.int (zI 0)), none]) rfl (by decide) rfl ?_
  refine zh_iconst (pn := 3) rfl dX5_tally_2 (v := (zI 0)) rfl ?_
  refine zh_istore_n (pn := 4) rfl dX5_tally_3 (i := 3) (lo' := [some (.ref 39), some (.int a1), some (.int (zI 0)), some (.int (zI 0))]) rfl (by decide) rfl ?_
  obtain ⟨n7, h⟩ := h
  refine wkl_X5_tally_4 (fun v2_3 M4 w3_5 h => ?_) n7 _ _ _ h
  refine zh_iconst (pn := 57) rfl dX5_tally_56 (v := (zI 0)) rfl ?_
  refine zh_istore_n (pn := 58) rfl dX5_tally_57 (i := 3) (lo' := [some (.ref 39), some (.int a1), some (.int v2_3), some (.int (zI 0))]) rfl (by decide) rfl ?_
  obtain ⟨n6, h⟩ := h
  refine wkl_X5_tally_58 n6 _ _ _ h
set_option maxRecDepth 100000 in
theorem ca_X5_tally {X : Nat × (Nat → Int32)} {d : Nat} {y : MethodName} {cc : ByteArray} {nL : Nat} {rt : Option FieldType} {pc pn idx : Nat} {lo : List (Option Value)} {st : List Value} {M : zh_M} {P : Option Value → List zh_LC → zh_M → Prop} {a1 : Int32} {K : Int32 → zh_M → Prop} (hp : pc + 3 = pn) (hd : decode cc pc = .ok (.invokevirtual idx, 3)) (m1 : Cond.methodLink y.cls idx yX5_tally ∈ zh_WS) (hsc : ∀ base b, ((st.map (zh_tr base b)).map fun v => v.category).sum ≤ 8) (h : wp_X5_tally M a1 K) (kk : ∀ r M1, K r M1 → zh_W X (d + 2) y cc nL rt pn lo (.int r :: st) zh_LL M1 0 0 P) : zh_W X (d + 2) y cc nL rt pc lo (.int a1 :: .ref 39 :: st) zh_LL M 0 0 P := by
  refine zh_callV (bc := 0) (bs := 0) (bc' := 0) (bs' := 0) (as := [.int a1]) (st := st) hp hd rfl (by decide) rfl rfl m1 me_X5_tally.1 me_X5_tally.2.1 me_X5_tally.2.2.1 me_X5_tally.2.2.2 ⟨by decide, by decide, by decide⟩ (by show _ = some 1; decide +kernel) (by intro v hv; simp only [List.mem_cons, List.not_mem_nil, or_false] at hv; rcases hv with rfl <;> (intro _ _; rfl)) hsc (Nat.le_of_ble_eq_true rfl) (by decide) (wk_X5_tally  h) (fun r L' M' q => ?_) (fun r L' M' q => ?_)
  · obtain ⟨v, -, rfl, q⟩ := q; rfl
  · obtain ⟨v, rfl, rfl, q⟩ := q; exact kk v M' q
