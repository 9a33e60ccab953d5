set_option maxRecDepth 100000 in
set_option maxHeartbeats 4000000 in
theorem wk_X4_lives {X : Nat × (Nat → Int32)} {d : Nat} {M : zh_M} {a1 : Int32} {P : Int32 → zh_M → Prop} (h : wp_X4_lives M a1 P) : zh_W X (d + 0) yX4_lives cX4_lives 2 (some .boolean) 0 (zh_en [.ref 1, .int a1] 2) [] zh_LL M 0 0 (zh_pi P) := by
  unfold wp_X4_lives at h
  show zh_W X (d + 0) yX4_lives cX4_lives 2 (some .boolean) 0 [some (.ref 1), some (.int a1)] [] zh_LL M 0 0 (zh_pi P)
  refine zh_iload_n (pn := 1) rfl dX4_lives_0 (i := 1) (x := a1) rfl rfl ?_
  refine zh_if_lt (pn := 4) rfl dX4_lives_1 (tgt := 26) rfl (fun cc1 => ?_) (fun cc1 => ?_)
  · replace h := h.1 cc1
    refine zh_iconst (pn := 27) rfl dX4_lives_26 (v := (zI 0)) rfl ?_
    exact zh_iret dX4_lives_27 rfl rfl ⟨_, rfl, rfl, h⟩
  · replace h := h.2 cc1
    refine zh_iload_n (pn := 5) rfl dX4_lives_4 (i := 1) (x := a1) rfl rfl ?_
    refine zh_bipush (pn := 7) rfl dX4_lives_5 (v := (zI 6)) rfl ?_
    refine zh_icmp_ge (pn := 10) rfl dX4_lives_7 (tgt := 26) rfl (fun cc1 => ?_) (fun cc1 => ?_)
    · replace h := h.1 cc1
      refine zh_iconst (pn := 27) rfl dX4_lives_26 (v := (zI 0)) rfl ?_
      exact zh_iret dX4_lives_27 rfl rfl ⟨_, rfl, rfl, h⟩
    · replace h := h.2 cc1
      refine zh_aload_n (pn := 11) rfl dX4_lives_10 (i := 0) (v := .ref 1) rfl rfl (Or.inr ⟨_, rfl⟩) ?_
      refine zh_get (pn := 14) rfl dX4_lives_11 (v := .ref 9) (k := 1) rfl rfl (by decide) (by decide) in_X4 mf_X4_18 rfl ?_
      refine zh_iload_n (pn := 15) rfl dX4_lives_14 (i := 1) (x := a1) rfl rfl ?_
      refine zh_aald_Fiber (pn := 16) rfl dX4_lives_15 h.1 ?_
      have zf1 := zf_of_Fiber h.1
      replace h := h.2
      refine zh_get (pn := 19) rfl dX4_lives_16 (v := .int (M (zi_Fiber a1) 2)) (k := 2) (at_Fiber zf1) rfl (by decide) (by decide) in_X2 mf_X4_70 rfl ?_
      refine zh_if_eq (pn := 22) rfl dX4_lives_19 (tgt := 26) rfl (fun cc1 => ?_) (fun cc1 => ?_)
      · replace h := h.1 cc1
        refine zh_iconst (pn := 27) rfl dX4_lives_26 (v := (zI 0)) rfl ?_
        exact zh_iret dX4_lives_27 rfl rfl ⟨_, rfl, rfl, h⟩
      · replace h := h.2 cc1
        refine zh_iconst (pn := 23) rfl dX4_lives_22 (v := (zI 1)) rfl ?_
        refine zh_goto dX4_lives_23 (tgt := 27) rfl ?_
        exact zh_iret dX4_lives_27 rfl rfl ⟨_, rfl, rfl, h⟩
set_option maxRecDepth 100000 in
theorem ca_X4_lives {X : Nat × (Nat → Int32)} {d : Nat} {y : MethodName} {cc : ByteArray} {nL : Nat} {rt : Option FieldType} {pc pn idx : Nat} {lo : List (Option Value)} {st : List Value} {M : zh_M} {P : Option Value → List zh_LC → zh_M → Prop} {a1 : Int32} {K : Int32 → zh_M → Prop} (hp : pc + 3 = pn) (hd : decode cc pc = .ok (.invokevirtual idx, 3)) (m1 : Cond.methodLink y.cls idx yX4_lives ∈ zh_WS) (hsc : ∀ base b, ((st.map (zh_tr base b)).map fun v => v.category).sum ≤ 8) (h : wp_X4_lives M a1 K) (kk : ∀ r M1, K r M1 → zh_W X (d + 1) y cc nL rt pn lo (.int r :: st) zh_LL M1 0 0 P) : zh_W X (d + 1) y cc nL rt pc lo (.int a1 :: .ref 1 :: st) zh_LL M 0 0 P := by
  refine zh_callV (bc := 0) (bs := 0) (bc' := 0) (bs' := 0) (as := [.int a1]) (st := st) hp hd rfl (by decide) rfl rfl m1 me_X4_lives.1 me_X4_lives.2.1 me_X4_lives.2.2.1 me_X4_lives.2.2.2 ⟨by decide, by decide, by decide⟩ (by show _ = some 1; decide +kernel) (by intro v hv; simp only [List.mem_cons, List.not_mem_nil, or_false] at hv; rcases hv with rfl <;> (intro _ _; rfl)) hsc (Nat.le_of_ble_eq_true rfl) (by decide) (wk_X4_lives  h) (fun r L' M' q => ?_) (fun r L' M' q => ?_)
  · obtain ⟨v, -, rfl, q⟩ := q; rfl
  · obtain ⟨v, rfl, rfl, q⟩ := q; exact kk v M' q
set_option maxRecDepth 100000 in
set_option maxHeartbeats 4000000 in
theorem wk_X4_readyFiber {X : Nat × (Nat → Int32)} {d : Nat} {M : zh_M} {a1 : Int32} {P : Option Nat → zh_M → Prop} (h : wp_X4_readyFiber M a1 P) : zh_W X (d + 1) yX4_readyFiber cX4_readyFiber 2 (some (.object "FiberHeap$Fiber")) 0 (zh_en [.ref 1, .int a1] 2) [] zh_LL M 0 0 (zh_pq P) := by
  unfold wp_X4_readyFiber at h
  show zh_W X (d + 1) yX4_readyFiber cX4_readyFiber 2 (some (.object "FiberHeap$Fiber")) 0 [some (.ref 1), some (.int a1)] [] zh_LL M 0 0 (zh_pq P)
  refine zh_aload_n (pn := 1) rfl dX4_readyFiber_0 (i := 0) (v := .ref 1) rfl rfl (Or.inr ⟨_, rfl⟩) ?_
  refine zh_iload_n (pn := 2) rfl dX4_readyFiber_1 (i := 1) (x := a1) rfl rfl ?_
  refine ca_X4_lives (pn := 5) rfl dX4_readyFiber_2 mc_X4_64 (fun _ _ => Nat.le_of_ble_eq_true rfl) h (fun r2 M1 h => ?_)
  refine zh_if_eq (pn := 8) rfl dX4_readyFiber_5 (tgt := 30) rfl (fun cc1 => ?_) (fun cc1 => ?_)
  · replace h := h.1 cc1
    refine zh_null (pn := 31) rfl dX4_readyFiber_30 ?_
    exact zh_aret (r := none) dX4_readyFiber_31 rfl (Or.inl ⟨_, rfl⟩) ⟨_, rfl, rfl, h⟩
  · replace h := h.2 cc1
    refine zh_aload_n (pn := 9) rfl dX4_readyFiber_8 (i := 0) (v := .ref 1) rfl rfl (Or.inr ⟨_, rfl⟩) ?_
    refine zh_get (pn := 12) rfl dX4_readyFiber_9 (v := .ref 9) (k := 1) rfl rfl (by decide) (by decide) in_X4 mf_X4_18 rfl ?_
    refine zh_iload_n (pn := 13) rfl dX4_readyFiber_12 (i := 1) (x := a1) rfl rfl ?_
    refine zh_aald_Fiber (pn := 14) rfl dX4_readyFiber_13 h.1 ?_
    have zf3 := zf_of_Fiber h.1
    replace h := h.2
    refine zh_get (pn := 17) rfl dX4_readyFiber_14 (v := .int (M1 (zi_Fiber a1) 2)) (k := 2) (at_Fiber zf3) rfl (by decide) (by decide) in_X2 mf_X4_70 rfl ?_
    refine zh_iconst (pn := 18) rfl dX4_readyFiber_17 (v := (zI 1)) rfl ?_
    refine zh_icmp_ne (pn := 21) rfl dX4_readyFiber_18 (tgt := 30) rfl (fun cc1 => ?_) (fun cc1 => ?_)
    · replace h := h.1 cc1
      refine zh_null (pn := 31) rfl dX4_readyFiber_30 ?_
      exact zh_aret (r := none) dX4_readyFiber_31 rfl (Or.inl ⟨_, rfl⟩) ⟨_, rfl, rfl, h⟩
    · replace h := h.2 cc1
      refine zh_aload_n (pn := 22) rfl dX4_readyFiber_21 (i := 0) (v := .ref 1) rfl rfl (Or.inr ⟨_, rfl⟩) ?_
      refine zh_get (pn := 25) rfl dX4_readyFiber_22 (v := .ref 9) (k := 1) rfl rfl (by decide) (by decide) in_X4 mf_X4_18 rfl ?_
      refine zh_iload_n (pn := 26) rfl dX4_readyFiber_25 (i := 1) (x := a1) rfl rfl ?_
      refine zh_aald_Fiber (pn := 27) rfl dX4_readyFiber_26 h.1 ?_
      have zf4 := zf_of_Fiber h.1
      replace h := h.2
      refine zh_goto dX4_readyFiber_27 (tgt := 31) rfl ?_
      exact zh_aret (r := (some (zi_Fiber a1))) dX4_readyFiber_31 rfl (Or.inl ⟨_, rfl⟩) ⟨_, rfl, rfl, h⟩
set_option maxRecDepth 100000 in
theorem ca_X4_readyFiber {X : Nat × (Nat → Int32)} {d : Nat} {y : MethodName} {cc : ByteArray} {nL : Nat} {rt : Option FieldType} {pc pn idx : Nat} {lo : List (Option Value)} {st : List Value} {M : zh_M} {P : Option Value → List zh_LC → zh_M → Prop} {a1 : Int32} {K : Option Nat → zh_M → Prop} (hp : pc + 3 = pn) (hd : decode cc pc = .ok (.invokevirtual idx, 3)) (m1 : Cond.methodLink y.cls idx yX4_readyFiber ∈ zh_WS) (hsc : ∀ base b, ((st.map (zh_tr base b)).map fun v => v.category).sum ≤ 8) (h : wp_X4_readyFiber M a1 K) (kk : ∀ r M1, K r M1 → zh_W X (d + 2) y cc nL rt pn lo (va_rf r :: st) zh_LL M1 0 0 P) : zh_W X (d + 2) y cc nL rt pc lo (.int a1 :: .ref 1 :: st) zh_LL M 0 0 P := by
  refine zh_callV (bc := 0) (bs := 0) (bc' := 0) (bs' := 0) (as := [.int a1]) (st := st) hp hd rfl (by decide) rfl rfl m1 me_X4_readyFiber.1 me_X4_readyFiber.2.1 me_X4_readyFiber.2.2.1 me_X4_readyFiber.2.2.2 ⟨by decide, by decide, by decide⟩ (by show _ = some 1; decide +kernel) (by intro v hv; simp only [List.mem_cons, List.not_mem_nil, or_false] at hv; rcases hv with rfl <;> (intro _ _; rfl)) hsc (Nat.le_of_ble_eq_true rfl) (by decide) (wk_X4_readyFiber  h) (fun r L' M' q => ?_) (fun r L' M' q => ?_)
  · obtain ⟨v, -, rfl, q⟩ := q; rfl
  · obtain ⟨v, rfl, rfl, q⟩ := q; exact kk v M' q
set_option maxRecDepth 100000 in
set_option maxHeartbeats 4000000 in
theorem wkl_X4_lowestGoneFiber_2 {X : Nat × (Nat → Int32)} {d : Nat} {P : Int32 → zh_M → Prop} : ∀ (n : Nat) (l1 : Int32) (M : zh_M) , wl_X4_lowestGoneFiber_2 P n l1 M → zh_W X (d + 1) yX4_lowestGoneFiber cX4_lowestGoneFiber 2 (some .int) 2 [some (.ref 1), some (.int l1)] [] zh_LL M 0 0 (zh_pi P) := by
  intro n
  induction n with
  | zero => intro l1 M  h; exact h.elim
  | succ n ih =>
    intro l1 M  h
    unfold wl_X4_lowestGoneFiber_2 at h
    refine zh_iload_n (pn := 3) rfl dX4_lowestGoneFiber_2 (i := 1) (x := l1) rfl rfl ?_
    refine zh_bipush (pn := 5) rfl dX4_lowestGoneFiber_3 (v := (zI 6)) rfl ?_
    refine zh_icmp_ge (pn := 8) rfl dX4_lowestGoneFiber_5 (tgt := 24) rfl (fun cc1 => ?_) (fun cc1 => ?_)
    · replace h := h.1 cc1
      refine zh_iconst (pn := 25) rfl dX4_lowestGoneFiber_24 (v := (zI (-1))) rfl ?_
      exact zh_iret dX4_lowestGoneFiber_25 rfl rfl ⟨_, rfl, rfl, h⟩
    · replace h := h.2 cc1
      refine zh_aload_n (pn := 9) rfl dX4_lowestGoneFiber_8 (i := 0) (v := .ref 1) rfl rfl (Or.inr ⟨_, rfl⟩) ?_
      refine zh_iload_n (pn := 10) rfl dX4_lowestGoneFiber_9 (i := 1) (x := l1) rfl rfl ?_
      refine ca_X4_lives (pn := 13) rfl dX4_lowestGoneFiber_10 mc_X4_64 (fun _ _ => Nat.le_of_ble_eq_true rfl) h (fun r2 M1 h => ?_)
      refine zh_if_ne (pn := 16) rfl dX4_lowestGoneFiber_13 (tgt := 18) rfl (fun cc1 => ?_) (fun cc1 => ?_)
      · replace h := h.1 cc1
        refine zh_iinc (pn := 21) rfl dX4_lowestGoneFiber_18 (i := 1) (x := l1) (v := l1 + (zI 1)) (lo' := [some (.ref 1), some (.int (l1 + (zI 1)))]) rfl rfl (by decide) rfl ?_
        refine zh_goto dX4_lowestGoneFiber_21 (tgt := 2) rfl ?_
        exact ih _ _ h
      · replace h := h.2 cc1
        refine zh_iload_n (pn := 17) rfl dX4_lowestGoneFiber_16 (i := 1) (x := l1) rfl rfl ?_
        exact zh_iret dX4_lowestGoneFiber_17 rfl rfl ⟨_, rfl, rfl, h⟩
set_option maxRecDepth 100000 in
set_option maxHeartbeats 4000000 in
theorem wk_X4_lowestGoneFiber {X : Nat × (Nat → Int32)} {d : Nat} {M : zh_M} {P : Int32 → zh_M → Prop} (h : wp_X4_lowestGoneFiber M P) : zh_W X (d + 1) yX4_lowestGoneFiber cX4_lowestGoneFiber 2 (some .int) 0 (zh_en [.ref 1] 2) [] zh_LL M 0 0 (zh_pi P) := by
  unfold wp_X4_lowestGoneFiber at h
  show zh_W X (d + 1) yX4_lowestGoneFiber cX4_lowestGoneFiber 2 (some .int) 0 [some (.ref 1), none] [] zh_LL M 0 0 (zh_pi P)
  refine zh_iconst (pn := 1) rfl dX4_lowestGoneFiber_0 (v := (zI 0)) rfl ?_
  refine zh_istore_n (pn := 2) rfl dX4_lowestGoneFiber_1 (i := 1) (lo' := [some (.ref 1), some (.int (zI 0))]) rfl (by decide) rfl ?_
  obtain ⟨n3, h⟩ := h
  refine wkl_X4_lowestGoneFiber_2 n3 _ _ h
set_option maxRecDepth 100000 in
theorem ca_X4_lowestGoneFiber {X : Nat × (Nat → Int32)} {d : Nat} {y : MethodName} {cc : ByteArray} {nL : Nat} {rt : Option FieldType} {pc pn idx : Nat} {lo : List (Option Value)} {st : List Value} {M : zh_M} {P : Option Value → List zh_LC → zh_M → Prop} {K : Int32 → zh_M → Prop} (hp : pc + 3 = pn) (hd : decode cc pc = .ok (.invokevirtual idx, 3)) (m1 : Cond.methodLink y.cls idx yX4_lowestGoneFiber ∈ zh_WS) (hsc : ∀ base b, ((st.map (zh_tr base b)).map fun v => v.category).sum ≤ 8) (h : wp_X4_lowestGoneFiber M K) (kk : ∀ r M1, K r M1 → zh_W X (d + 2) y cc nL rt pn lo (.int r :: st) zh_LL M1 0 0 P) : zh_W X (d + 2) y cc nL rt pc lo (.ref 1 :: st) zh_LL M 0 0 P := by
  refine zh_callV (bc := 0) (bs := 0) (bc' := 0) (bs' := 0) (as := []) (st := st) hp hd rfl (by decide) rfl rfl m1 me_X4_lowestGoneFiber.1 me_X4_lowestGoneFiber.2.1 me_X4_lowestGoneFiber.2.2.1 me_X4_lowestGoneFiber.2.2.2 ⟨by decide, by decide, by decide⟩ (by show _ = some 0; decide +kernel) (fun v hv => by cases hv) hsc (Nat.le_of_ble_eq_true rfl) (by decide) (wk_X4_lowestGoneFiber  h) (fun r L' M' q => ?_) (fun r L' M' q => ?_)
  · obtain ⟨v, -, rfl, q⟩ := q; rfl
  · obtain ⟨v, rfl, rfl, q⟩ := q; exact kk v M' q
set_option maxRecDepth 100000 in
set_option maxHeartbeats 4000000 in
theorem wk_X2_cellIndex {X : Nat × (Nat → Int32)} {d : Nat} {M : zh_M} {o : Nat} {a1 : Int32} {P : Int32 → zh_M → Prop} (zo : zf_Fiber o) (h : wp_X2_cellIndex M o a1 P) : zh_W X (d + 0) yX2_cellIndex cX2_cellIndex 2 (some .int) 0 (zh_en [.ref o, .int a1] 2) [] zh_LL M 0 0 (zh_pi P) := by
  unfold wp_X2_cellIndex at h
  show zh_W X (d + 0) yX2_cellIndex cX2_cellIndex 2 (some .int) 0 [some (.ref o), some (.int a1)] [] zh_LL M 0 0 (zh_pi P)
  refine zh_iload_n (pn := 1) rfl dX2_cellIndex_0 (i := 1) (x := a1) rfl rfl ?_
  refine zh_if_lt (pn := 4) rfl dX2_cellIndex_1 (tgt := 20) rfl (fun cc1 => ?_) (fun cc1 => ?_)
  · replace h := h.1 cc1
    refine zh_iload_n (pn := 21) rfl dX2_cellIndex_20 (i := 1) (x := a1) rfl rfl ?_
    refine zh_iconst (pn := 22) rfl dX2_cellIndex_21 (v := (zI 4)) rfl ?_
    refine zh_icmp_ne (pn := 25) rfl dX2_cellIndex_22 (tgt := 39) rfl (fun cc1 => ?_) (fun cc1 => ?_)
    · replace h := h.1 cc1
      refine zh_iconst (pn := 40) rfl dX2_cellIndex_39 (v := (zI (-1))) rfl ?_
      exact zh_iret dX2_cellIndex_40 rfl rfl ⟨_, rfl, rfl, h⟩
    · replace h := h.2 cc1
      refine zh_aload_n (pn := 26) rfl dX2_cellIndex_25 (i := 0) (v := .ref o) rfl rfl (Or.inr ⟨_, rfl⟩) ?_
      refine zh_get (pn := 29) rfl dX2_cellIndex_26 (v := .ref (o + 2)) (k := 1) (at_Fiber zo) rfl (by decide) (by decide) in_X2 mf_X2_15 rfl ?_
      refine zh_aload_n (pn := 30) rfl dX2_cellIndex_29 (i := 0) (v := .ref o) rfl rfl (Or.inr ⟨_, rfl⟩) ?_
      refine zh_get (pn := 33) rfl dX2_cellIndex_30 (v := .int (M o 3)) (k := 3) (at_Fiber zo) rfl (by decide) (by decide) in_X2 mf_X2_22 rfl ?_
      refine zh_iconst (pn := 34) rfl dX2_cellIndex_33 (v := (zI 1)) rfl ?_
      refine zh_isub (pn := 35) rfl dX2_cellIndex_34 ?_
      refine zh_iald (pn := 36) rfl dX2_cellIndex_35 (at_Fiber_2 zo) h.1 ?_
      replace h := h.2
      refine zh_goto dX2_cellIndex_36 (tgt := 40) rfl ?_
      exact zh_iret dX2_cellIndex_40 rfl rfl ⟨_, rfl, rfl, h⟩
  · replace h := h.2 cc1
    refine zh_iload_n (pn := 5) rfl dX2_cellIndex_4 (i := 1) (x := a1) rfl rfl ?_
    refine zh_iconst (pn := 6) rfl dX2_cellIndex_5 (v := (zI 4)) rfl ?_
    refine zh_icmp_ge (pn := 9) rfl dX2_cellIndex_6 (tgt := 20) rfl (fun cc1 => ?_) (fun cc1 => ?_)
    · replace h := h.1 cc1
      refine zh_iload_n (pn := 21) rfl dX2_cellIndex_20 (i := 1) (x := a1) rfl rfl ?_
      refine zh_iconst (pn := 22) rfl dX2_cellIndex_21 (v := (zI 4)) rfl ?_
      refine zh_icmp_ne (pn := 25) rfl dX2_cellIndex_22 (tgt := 39) rfl (fun cc1 => ?_) (fun cc1 => ?_)
      · replace h := h.1 cc1
        refine zh_iconst (pn := 40) rfl dX2_cellIndex_39 (v := (zI (-1))) rfl ?_
        exact zh_iret dX2_cellIndex_40 rfl rfl ⟨_, rfl, rfl, h⟩
      · replace h := h.2 cc1
        refine zh_aload_n (pn := 26) rfl dX2_cellIndex_25 (i := 0) (v := .ref o) rfl rfl (Or.inr ⟨_, rfl⟩) ?_
        refine zh_get (pn := 29) rfl dX2_cellIndex_26 (v := .ref (o + 2)) (k := 1) (at_Fiber zo) rfl (by decide) (by decide) in_X2 mf_X2_15 rfl ?_
        refine zh_aload_n (pn := 30) rfl dX2_cellIndex_29 (i := 0) (v := .ref o) rfl rfl (Or.inr ⟨_, rfl⟩) ?_
        refine zh_get (pn := 33) rfl dX2_cellIndex_30 (v := .int (M o 3)) (k := 3) (at_Fiber zo) rfl (by decide) (by decide) in_X2 mf_X2_22 rfl ?_
        refine zh_iconst (pn := 34) rfl dX2_cellIndex_33 (v := (zI 1)) rfl ?_
        refine zh_isub (pn := 35) rfl dX2_cellIndex_34 ?_
        refine zh_iald (pn := 36) rfl dX2_cellIndex_35 (at_Fiber_2 zo) h.1 ?_
        replace h := h.2
        refine zh_goto dX2_cellIndex_36 (tgt := 40) rfl ?_
        exact zh_iret dX2_cellIndex_40 rfl rfl ⟨_, rfl, rfl, h⟩
    · replace h := h.2 cc1
      refine zh_aload_n (pn := 10) rfl dX2_cellIndex_9 (i := 0) (v := .ref o) rfl rfl (Or.inr ⟨_, rfl⟩) ?_
      refine zh_get (pn := 13) rfl dX2_cellIndex_10 (v := .int (M o 3)) (k := 3) (at_Fiber zo) rfl (by decide) (by decide) in_X2 mf_X2_22 rfl ?_
      refine zh_iconst (pn := 14) rfl dX2_cellIndex_13 (v := (zI 1)) rfl ?_
      refine zh_isub (pn := 15) rfl dX2_cellIndex_14 ?_
      refine zh_iconst (pn := 16) rfl dX2_cellIndex_15 (v := (zI 4)) rfl ?_
      refine zh_imul (pn := 17) rfl dX2_cellIndex_16 ?_
      refine zh_iload_n (pn := 18) rfl dX2_cellIndex_17 (i := 1) (x := a1) rfl rfl ?_
      refine zh_iadd (pn := 19) rfl dX2_cellIndex_18 ?_
      exact zh_iret dX2_cellIndex_19 rfl rfl ⟨_, rfl, rfl, h⟩
set_option maxRecDepth 100000 in
theorem ca_X2_cellIndex {X : Nat × (Nat → Int32)} {d : Nat} {y : MethodName} {cc : ByteArray} {nL : Nat} {rt : Option FieldType} {pc pn idx : Nat} {lo : List (Option Value)} {st : List Value} {M : zh_M} {P : Option Value → List zh_LC → zh_M → Prop} {o : Nat} {a1 : Int32} {K : Int32 → zh_M → Prop} (hp : pc + 3 = pn) (hd : decode cc pc = .ok (.invokevirtual idx, 3)) (m1 : Cond.methodLink y.cls idx yX2_cellIndex ∈ zh_WS) (zo : zf_Fiber o) (hsc : ∀ base b, ((st.map (zh_tr base b)).map fun v => v.category).sum ≤ 8) (h : wp_X2_cellIndex M o a1 K) (kk : ∀ r M1, K r M1 → zh_W X (d + 1) y cc nL rt pn lo (.int r :: st) zh_LL M1 0 0 P) : zh_W X (d + 1) y cc nL rt pc lo (.int a1 :: .ref o :: st) zh_LL M 0 0 P := by
  refine zh_callV (bc := 0) (bs := 0) (bc' := 0) (bs' := 0) (as := [.int a1]) (st := st) hp hd (at_Fiber zo) (by decide) rfl rfl m1 me_X2_cellIndex.1 me_X2_cellIndex.2.1 me_X2_cellIndex.2.2.1 me_X2_cellIndex.2.2.2 ⟨by decide, by decide, by decide⟩ (by show _ = some 1; decide +kernel) (by intro v hv; simp only [List.mem_cons, List.not_mem_nil, or_false] at hv; rcases hv with rfl <;> (intro _ _; rfl)) hsc (Nat.le_of_ble_eq_true rfl) (by decide) (wk_X2_cellIndex zo h) (fun r L' M' q => ?_) (fun r L' M' q => ?_)
  · obtain ⟨v, -, rfl, q⟩ := q; rfl
  · obtain ⟨v, rfl, rfl, q⟩ := q; exact kk v M' q
set_option maxRecDepth 100000 in
set_option maxHeartbeats 4000000 in
theorem wk_X2_isCell {X : Nat × (Nat → Int32)} {d : Nat} {M : zh_M} {o : Nat} {a1 : Int32} {P : Int32 → zh_M → Prop} (zo : zf_Fiber o) (h : wp_X2_isCell M o a1 P) : zh_W X (d + 1) yX2_isCell cX2_isCell 2 (some .boolean) 0 (zh_en [.ref o, .int a1] 2) [] zh_LL M 0 0 (zh_pi P) := by
  unfold wp_X2_isCell at h
  show zh_W X (d + 1) yX2_isCell cX2_isCell 2 (some .boolean) 0 [some (.ref o), some (.int a1)] [] zh_LL M 0 0 (zh_pi P)
  refine zh_aload_n (pn := 1) rfl dX2_isCell_0 (i := 0) (v := .ref o) rfl rfl (Or.inr ⟨_, rfl⟩) ?_
  refine zh_iload_n (pn := 2) rfl dX2_isCell_1 (i := 1) (x := a1) rfl rfl ?_
  refine ca_X2_cellIndex (pn := 5) rfl dX2_isCell_2 mc_X2_35 zo (fun _ _ => Nat.le_of_ble_eq_true rfl) h (fun r2 M1 h => ?_)
  refine zh_iconst (pn := 6) rfl dX2_isCell_5 (v := (zI (-1))) rfl ?_
  refine zh_icmp_eq (pn := 9) rfl dX2_isCell_6 (tgt := 13) rfl (fun cc1 => ?_) (fun cc1 => ?_)
  · replace h := h.1 cc1
    refine zh_iconst (pn := 14) rfl dX2_isCell_13 (v := (zI 0)) rfl ?_
    exact zh_iret dX2_isCell_14 rfl rfl ⟨_, rfl, rfl, h⟩
  · replace h := h.2 cc1
    refine zh_iconst (pn := 10) rfl dX2_isCell_9 (v := (zI 1)) rfl ?_
    refine zh_goto dX2_isCell_10 (tgt := 14) rfl ?_
    exact zh_iret dX2_isCell_14 rfl rfl ⟨_, rfl, rfl, h⟩
set_option maxRecDepth 100000 in
theorem ca_X2_isCell {X : Nat × (Nat → Int32)} {d : Nat} {y : MethodName} {cc : ByteArray} {nL : Nat} {rt : Option FieldType} {pc pn idx : Nat} {lo : List (Option Value)} {st : List Value} {M : zh_M} {P : Option Value → List zh_LC → zh_M → Prop} {o : Nat} {a1 : Int32} {K : Int32 → zh_M → Prop} (hp : pc + 3 = pn) (hd : decode cc pc = .ok (.invokevirtual idx, 3)) (m1 : Cond.methodLink y.cls idx yX2_isCell ∈ zh_WS) (zo : zf_Fiber o) (hsc : ∀ base b, ((st.map (zh_tr base b)).map fun v => v.category).sum ≤ 8) (h : wp_X2_isCell M o a1 K) (kk : ∀ r M1, K r M1 → zh_W X (d + 2) y cc nL rt pn lo (.int r :: st) zh_LL M1 0 0 P) : zh_W X (d + 2) y cc nL rt pc lo (.int a1 :: .ref o :: st) zh_LL M 0 0 P := by
  refine zh_callV (bc := 0) (bs := 0) (bc' := 0) (bs' := 0) (as := [.int a1]) (st := st) hp hd (at_Fiber zo) (by decide) rfl rfl m1 me_X2_isCell.1 me_X2_isCell.2.1 me_X2_isCell.2.2.1 me_X2_isCell.2.2.2 ⟨by decide, by decide, by decide⟩ (by show _ = some 1; decide +kernel) (by intro v hv; simp only [List.mem_cons, List.not_mem_nil, or_false] at hv; rcases hv with rfl <;> (intro _ _; rfl)) hsc (Nat.le_of_ble_eq_true rfl) (by decide) (wk_X2_isCell zo h) (fun r L' M' q => ?_) (fun r L' M' q => ?_)
  · obtain ⟨v, -, rfl, q⟩ := q; rfl
  · obtain ⟨v, rfl, rfl, q⟩ := q; exact kk v M' q
set_option maxRecDepth 100000 in
set_option maxHeartbeats 4000000 in
theorem wk_X2_isSource {X : Nat × (Nat → Int32)} {d : Nat} {M : zh_M} {o : Nat} {a1 : Int32} {P : Int32 → zh_M → Prop} (zo : zf_Fiber o) (h : wp_X2_isSource M o a1 P) : zh_W X (d + 2) yX2_isSource cX2_isSource 2 (some .boolean) 0 (zh_en [.ref o, .int a1] 2) [] zh_LL M 0 0 (zh_pi P) := by
  unfold wp_X2_isSource at h
  show zh_W X (d + 2) yX2_isSource cX2_isSource 2 (some .boolean) 0 [some (.ref o), some (.int a1)] [] zh_LL M 0 0 (zh_pi P)
  refine zh_iload_n (pn := 1) rfl dX2_isSource_0 (i := 1) (x := a1) rfl rfl ?_
  refine zh_iconst (pn := 2) rfl dX2_isSource_1 (v := (zI (-1))) rfl ?_
  refine zh_icmp_eq (pn := 5) rfl dX2_isSource_2 (tgt := 13) rfl (fun cc1 => ?_) (fun cc1 => ?_)
  · replace h := h.1 cc1
    refine zh_iconst (pn := 14) rfl dX2_isSource_13 (v := (zI 1)) rfl ?_
    refine zh_goto dX2_isSource_14 (tgt := 18) rfl ?_
    exact zh_iret dX2_isSource_18 rfl rfl ⟨_, rfl, rfl, h⟩
  · replace h := h.2 cc1
    refine zh_aload_n (pn := 6) rfl dX2_isSource_5 (i := 0) (v := .ref o) rfl rfl (Or.inr ⟨_, rfl⟩) ?_
    refine zh_iload_n (pn := 7) rfl dX2_isSource_6 (i := 1) (x := a1) rfl rfl ?_
    refine ca_X2_isCell (pn := 10) rfl dX2_isSource_7 mc_X2_39 zo (fun _ _ => Nat.le_of_ble_eq_true rfl) h (fun r2 M1 h => ?_)
    refine zh_if_eq (pn := 13) rfl dX2_isSource_10 (tgt := 17) rfl (fun cc1 => ?_) (fun cc1 => ?_)
    · replace h := h.1 cc1
      refine zh_iconst (pn := 18) rfl dX2_isSource_17 (v := (zI 0)) rfl ?_
      exact zh_iret dX2_isSource_18 rfl rfl ⟨_, rfl, rfl, h⟩
    · replace h := h.2 cc1
      refine zh_iconst (pn := 14) rfl dX2_isSource_13 (v := (zI 1)) rfl ?_
      refine zh_goto dX2_isSource_14 (tgt := 18) rfl ?_
      exact zh_iret dX2_isSource_18 rfl rfl ⟨_, rfl, rfl, h⟩
set_option maxRecDepth 100000 in
theorem ca_X2_isSource {X : Nat × (Nat → Int32)} {d : Nat} {y : MethodName} {cc : ByteArray} {nL : Nat} {rt : Option FieldType} {pc pn idx : Nat} {lo : List (Option Value)} {st : List Value} {M : zh_M} {P : Option Value → List zh_LC → zh_M → Prop} {o : Nat} {a1 : Int32} {K : Int32 → zh_M → Prop} (hp : pc + 3 = pn) (hd : decode cc pc = .ok (.invokevirtual idx, 3)) (m1 : Cond.methodLink y.cls idx yX2_isSource ∈ zh_WS) (zo : zf_Fiber o) (hsc : ∀ base b, ((st.map (zh_tr base b)).map fun v => v.category).sum ≤ 8) (h : wp_X2_isSource M o a1 K) (kk : ∀ r M1, K r M1 → zh_W X (d + 3) y cc nL rt pn lo (.int r :: st) zh_LL M1 0 0 P) : zh_W X (d + 3) y cc nL rt pc lo (.int a1 :: .ref o :: st) zh_LL M 0 0 P := by
  refine zh_callV (bc := 0) (bs := 0) (bc' := 0) (bs' := 0) (as := [.int a1]) (st := st) hp hd (at_Fiber zo) (by decide) rfl rfl m1 me_X2_isSource.1 me_X2_isSource.2.1 me_X2_isSource.2.2.1 me_X2_isSource.2.2.2 ⟨by decide, by decide, by decide⟩ (by show _ = some 1; decide +kernel) (by intro v hv; simp only [List.mem_cons, List.not_mem_nil, or_false] at hv; rcases hv with rfl <;> (intro _ _; rfl)) hsc (Nat.le_of_ble_eq_true rfl) (by decide) (wk_X2_isSource zo h) (fun r L' M' q => ?_) (fun r L' M' q => ?_)
  · obtain ⟨v, -, rfl, q⟩ := q; rfl
  · obtain ⟨v, rfl, rfl, q⟩ := q; exact kk v M' q
set_option maxRecDepth 100000 in
set_option maxHeartbeats 4000000 in
theorem wk_X2_pointerFrom {X : Nat × (Nat → Int32)} {d : Nat} {M : zh_M} {o : Nat} {a1 : Int32} {P : Int32 → zh_M → Prop} (zo : zf_Fiber o) (h : wp_X2_pointerFrom M o a1 P) : zh_W X (d + 1) yX2_pointerFrom cX2_pointerFrom 3 (some .int) 0 (zh_en [.ref o, .int a1] 3) [] zh_LL M 0 0 (zh_pi P) := by
  unfold wp_X2_pointerFrom at h
  show zh_W X (d + 1) yX2_pointerFrom cX2_pointerFrom 3 (some .int) 0 [some (.ref o), some (.int a1), none] [] zh_LL M 0 0 (zh_pi P)
  refine zh_aload_n (pn := 1) rfl dX2_pointerFrom_0 (i := 0) (v := .ref o) rfl rfl (Or.inr ⟨_, rfl⟩) ?_
  refine zh_iload_n (pn := 2) rfl dX2_pointerFrom_1 (i := 1) (x := a1) rfl rfl ?_
  refine ca_X2_cellIndex (pn := 5) rfl dX2_pointerFrom_2 mc_X2_35 zo (fun _ _ => Nat.le_of_ble_eq_true rfl) h (fun r2 M1 h => ?_)
  refine zh_istore_n (pn := 6) rfl dX2_pointerFrom_5 (i := 2) (lo' := [some (.ref o), some (.int a1), some (.int r2)]) rfl (by decide) rfl ?_
  refine zh_iload_n (pn := 7) rfl dX2_pointerFrom_6 (i := 2) (x := r2) rfl rfl ?_
  refine zh_iconst (pn := 8) rfl dX2_pointerFrom_7 (v := (zI (-1))) rfl ?_
  refine zh_icmp_ne (pn := 11) rfl dX2_pointerFrom_8 (tgt := 15) rfl (fun cc1 => ?_) (fun cc1 => ?_)
  · replace h := h.1 cc1
    refine zh_aload_n (pn := 16) rfl dX2_pointerFrom_15 (i := 0) (v := .ref o) rfl rfl (Or.inr ⟨_, rfl⟩) ?_
    refine zh_get (pn := 19) rfl dX2_pointerFrom_16 (v := .ref (o + 1)) (k := 0) (at_Fiber zo) rfl (by decide) (by decide) in_X2 mf_X2_9 rfl ?_
    refine zh_iload_n (pn := 20) rfl dX2_pointerFrom_19 (i := 2) (x := r2) rfl rfl ?_
    refine zh_iald (pn := 21) rfl dX2_pointerFrom_20 (at_Fiber_1 zo) h.1 ?_
    replace h := h.2
    exact zh_iret dX2_pointerFrom_21 rfl rfl ⟨_, rfl, rfl, h⟩
  · replace h := h.2 cc1
    refine zh_iconst (pn := 12) rfl dX2_pointerFrom_11 (v := (zI (-1))) rfl ?_
    refine zh_goto dX2_pointerFrom_12 (tgt := 21) rfl ?_
    exact zh_iret dX2_pointerFrom_21 rfl rfl ⟨_, rfl, rfl, h⟩
set_option maxRecDepth 100000 in
theorem ca_X2_pointerFrom {X : Nat × (Nat → Int32)} {d : Nat} {y : MethodName} {cc : ByteArray} {nL : Nat} {rt : Option FieldType} {pc pn idx : Nat} {lo : List (Option Value)} {st : List Value} {M : zh_M} {P : Option Value → List zh_LC → zh_M → Prop} {o : Nat} {a1 : Int32} {K : Int32 → zh_M → Prop} (hp : pc + 3 = pn) (hd : decode cc pc = .ok (.invokevirtual idx, 3)) (m1 : Cond.methodLink y.cls idx yX2_pointerFrom ∈ zh_WS) (zo : zf_Fiber o) (hsc : ∀ base b, ((st.map (zh_tr base b)).map fun v => v.category).sum ≤ 8) (h : wp_X2_pointerFrom M o a1 K) (kk : ∀ r M1, K r M1 → zh_W X (d + 2) y cc nL rt pn lo (.int r :: st) zh_LL M1 0 0 P) : zh_W X (d + 2) y cc nL rt pc lo (.int a1 :: .ref o :: st) zh_LL M 0 0 P := by
  refine zh_callV (bc := 0) (bs := 0) (bc' := 0) (bs' := 0) (as := [.int a1]) (st := st) hp hd (at_Fiber zo) (by decide) rfl rfl m1 me_X2_pointerFrom.1 me_X2_pointerFrom.2.1 me_X2_pointerFrom.2.2.1 me_X2_pointerFrom.2.2.2 ⟨by decide, by decide, by decide⟩ (by show _ = some 1; decide +kernel) (by intro v hv; simp only [List.mem_cons, List.not_mem_nil, or_false] at hv; rcases hv with rfl <;> (intro _ _; rfl)) hsc (Nat.le_of_ble_eq_true rfl) (by decide) (wk_X2_pointerFrom zo h) (fun r L' M' q => ?_) (fun r L' M' q => ?_)
  · obtain ⟨v, -, rfl, q⟩ := q; rfl
  · obtain ⟨v, rfl, rfl, q⟩ := q; exact kk v M' q
set_option maxRecDepth 100000 in
set_option maxHeartbeats 4000000 in
theorem wkl_X2_beginToLive_34 {X : Nat × (Nat → Int32)} {d : Nat} {P : zh_M → Prop} {l0 : Nat} (z0 : zf_Fiber l0) : ∀ (n : Nat) (l2 : Int32) (M : zh_M) (w1 : Option Value), wl_X2_beginToLive_34 l0 P n l2 M → zh_W X (d + 0) yX2_beginToLive cX2_beginToLive 3 none 34 [some (.ref l0), w1, some (.int l2)] [] zh_LL M 0 0 (zh_pv P) := by
  intro n
  induction n with
  | zero => intro l2 M w1 h; exact h.elim
  | succ n ih =>
    intro l2 M w1 h
    unfold wl_X2_beginToLive_34 at h
    refine zh_iload_n (pn := 35) rfl dX2_beginToLive_34 (i := 2) (x := l2) rfl rfl ?_
    refine zh_iconst (pn := 36) rfl dX2_beginToLive_35 (v := (zI 4)) rfl ?_
    refine zh_icmp_ge (pn := 39) rfl dX2_beginToLive_36 (tgt := 52) rfl (fun cc1 => ?_) (fun cc1 => ?_)
    · replace h := h.1 cc1
      refine zh_aload_n (pn := 53) rfl dX2_beginToLive_52 (i := 0) (v := .ref l0) rfl rfl (Or.inr ⟨_, rfl⟩) ?_
      refine zh_get (pn := 56) rfl dX2_beginToLive_53 (v := .ref (l0 + 2)) (k := 1) (at_Fiber z0) rfl (by decide) (by decide) in_X2 mf_X2_15 rfl ?_
      refine zh_iconst (pn := 57) rfl dX2_beginToLive_56 (v := (zI 0)) rfl ?_
      refine zh_iconst (pn := 58) rfl dX2_beginToLive_57 (v := (zI (-1))) rfl ?_
      refine zh_iast (pn := 59) rfl dX2_beginToLive_58 (at_Fiber_2 z0) h.1 ?_
      obtain ⟨M7, eM7⟩ : ∃ q : zh_M, q = zh_set M (l0 + 2) ((zI 0) : Int32).toNatClampNeg (zI (-1)) := ⟨_, rfl⟩
      replace h := h.2 M7 eM7
      rw [← eM7]
      exact zh_vret dX2_beginToLive_59 rfl ⟨rfl, rfl, h⟩
    · replace h := h.2 cc1
      refine zh_aload_n (pn := 40) rfl dX2_beginToLive_39 (i := 0) (v := .ref l0) rfl rfl (Or.inr ⟨_, rfl⟩) ?_
      refine zh_get (pn := 43) rfl dX2_beginToLive_40 (v := .ref (l0 + 1)) (k := 0) (at_Fiber z0) rfl (by decide) (by decide) in_X2 mf_X2_9 rfl ?_
      refine zh_iload_n (pn := 44) rfl dX2_beginToLive_43 (i := 2) (x := l2) rfl rfl ?_
      refine zh_iconst (pn := 45) rfl dX2_beginToLive_44 (v := (zI (-1))) rfl ?_
      refine zh_iast (pn := 46) rfl dX2_beginToLive_45 (at_Fiber_1 z0) h.1 ?_
      obtain ⟨M8, eM8⟩ : ∃ q : zh_M, q = zh_set M (l0 + 1) l2.toNatClampNeg (zI (-1)) := ⟨_, rfl⟩
      replace h := h.2 M8 eM8
      rw [← eM8]
      refine zh_iinc (pn := 49) rfl dX2_beginToLive_46 (i := 2) (x := l2) (v := l2 + (zI 1)) (lo' := [some (.ref l0), w1, some (.int (l2 + (zI 1)))]) rfl rfl (by decide) rfl ?_
      refine zh_goto dX2_beginToLive_49 (tgt := 34) rfl ?_
      exact ih _ _ _ h
set_option maxRecDepth 100000 in
set_option maxHeartbeats 4000000 in
theorem wk_X2_beginToLive {X : Nat × (Nat → Int32)} {d : Nat} {M : zh_M} {o : Nat} {a1 : Int32} {P : zh_M → Prop} (zo : zf_Fiber o) (h : wp_X2_beginToLive M o a1 P) : zh_W X (d + 0) yX2_beginToLive cX2_beginToLive 3 none 0 (zh_en [.ref o, .int a1] 3) [] zh_LL M 0 0 (zh_pv P) := by
  unfold wp_X2_beginToLive at h
  show zh_W X (d + 0) yX2_beginToLive cX2_beginToLive 3 none 0 [some (.ref o), some (.int a1), none] [] zh_LL M 0 0 (zh_pv P)
  refine zh_aload_n (pn := 1) rfl dX2_beginToLive_0 (i := 0) (v := .ref o) rfl rfl (Or.inr ⟨_, rfl⟩) ?_
  refine zh_iconst (pn := 2) rfl dX2_beginToLive_1 (v := (zI 1)) rfl ?_
  refine zh_put (pn := 5) rfl dX2_beginToLive_2 (k := 2) (at_Fiber zo) rfl (by decide) (by decide) in_X2 tyX2_ok nmX2 mf_X2_18 rfl rfl rfl rfl ?_
  obtain ⟨M1, eM1⟩ : ∃ q : zh_M, q = zh_set M o 2 (zI 1) := ⟨_, rfl⟩
  replace h := h M1 eM1
  rw [← eM1]
  refine zh_aload_n (pn := 6) rfl dX2_beginToLive_5 (i := 0) (v := .ref o) rfl rfl (Or.inr ⟨_, rfl⟩) ?_
  refine zh_iconst (pn := 7) rfl dX2_beginToLive_6 (v := (zI 1)) rfl ?_
  refine zh_put (pn := 10) rfl dX2_beginToLive_7 (k := 3) (at_Fiber zo) rfl (by decide) (by decide) in_X2 tyX2_ok nmX2 mf_X2_22 rfl rfl rfl rfl ?_
  obtain ⟨M2, eM2⟩ : ∃ q : zh_M, q = zh_set M1 o 3 (zI 1) := ⟨_, rfl⟩
  replace h := h M2 eM2
  rw [← eM2]
  refine zh_aload_n (pn := 11) rfl dX2_beginToLive_10 (i := 0) (v := .ref o) rfl rfl (Or.inr ⟨_, rfl⟩) ?_
  refine zh_iconst (pn := 12) rfl dX2_beginToLive_11 (v := (zI 2)) rfl ?_
  refine zh_put (pn := 15) rfl dX2_beginToLive_12 (k := 4) (at_Fiber zo) rfl (by decide) (by decide) in_X2 tyX2_ok nmX2 mf_X2_25 rfl rfl rfl rfl ?_
  obtain ⟨M3, eM3⟩ : ∃ q : zh_M, q = zh_set M2 o 4 (zI 2) := ⟨_, rfl⟩
  replace h := h M3 eM3
  rw [← eM3]
  refine zh_aload_n (pn := 16) rfl dX2_beginToLive_15 (i := 0) (v := .ref o) rfl rfl (Or.inr ⟨_, rfl⟩) ?_
  refine zh_iconst (pn := 17) rfl dX2_beginToLive_16 (v := (zI 0)) rfl ?_
  refine zh_put (pn := 20) rfl dX2_beginToLive_17 (k := 6) (at_Fiber zo) rfl (by decide) (by decide) in_X2 tyX2_ok nmX2 mf_X2_31 rfl rfl rfl rfl ?_
  obtain ⟨M4, eM4⟩ : ∃ q : zh_M, q = zh_set M3 o 6 (zI 0) := ⟨_, rfl⟩
  replace h := h M4 eM4
  rw [← eM4]
  refine zh_aload_n (pn := 21) rfl dX2_beginToLive_20 (i := 0) (v := .ref o) rfl rfl (Or.inr ⟨_, rfl⟩) ?_
  refine zh_iconst (pn := 22) rfl dX2_beginToLive_21 (v := (zI (-1))) rfl ?_
  refine zh_put (pn := 25) rfl dX2_beginToLive_22 (k := 7) (at_Fiber zo) rfl (by decide) (by decide) in_X2 tyX2_ok nmX2 mf_X2_28 rfl rfl rfl rfl ?_
  obtain ⟨M5, eM5⟩ : ∃ q : zh_M, q = zh_set M4 o 7 (zI (-1)) := ⟨_, rfl⟩
  replace h := h M5 eM5
  rw [← eM5]
  refine zh_aload_n (pn := 26) rfl dX2_beginToLive_25 (i := 0) (v := .ref o) rfl rfl (Or.inr ⟨_, rfl⟩) ?_
  refine zh_get (pn := 29) rfl dX2_beginToLive_26 (v := .ref (o + 1)) (k := 0) (at_Fiber zo) rfl (by decide) (by decide) in_X2 mf_X2_9 rfl ?_
  refine zh_iconst (pn := 30) rfl dX2_beginToLive_29 (v := (zI 0)) rfl ?_
  refine zh_iload_n (pn := 31) rfl dX2_beginToLive_30 (i := 1) (x := a1) rfl rfl ?_
  refine zh_iast (pn := 32) rfl dX2_beginToLive_31 (at_Fiber_1 zo) h.1 ?_
  obtain ⟨M6, eM6⟩ : ∃ q : zh_M, q = zh_set M5 (o + 1) ((zI 0) : Int32).toNatClampNeg a1 := ⟨_, rfl⟩
  replace h := h.2 M6 eM6
  rw [← eM6]
  refine zh_iconst (pn := 33) rfl dX2_beginToLive_32 (v := (zI 1)) rfl ?_
  refine zh_istore_n (pn := 34) rfl dX2_beginToLive_33 (i := 2) (lo' := [some (.ref o), some (.int a1), some (.int (zI 1))]) rfl (by decide) rfl ?_
  obtain ⟨n9, h⟩ := h
  refine wkl_X2_beginToLive_34 zo n9 _ _ _ h
set_option maxRecDepth 100000 in
theorem ca_X2_beginToLive {X : Nat × (Nat → Int32)} {d : Nat} {y : MethodName} {cc : ByteArray} {nL : Nat} {rt : Option FieldType} {pc pn idx : Nat} {lo : List (Option Value)} {st : List Value} {M : zh_M} {P : Option Value → List zh_LC → zh_M → Prop} {o : Nat} {a1 : Int32} {K : zh_M → Prop} (hp : pc + 3 = pn) (hd : decode cc pc = .ok (.invokevirtual idx, 3)) (m1 : Cond.methodLink y.cls idx yX2_beginToLive ∈ zh_WS) (zo : zf_Fiber o) (hsc : ∀ base b, ((st.map (zh_tr base b)).map fun v => v.category).sum ≤ 8) (h : wp_X2_beginToLive M o a1 K) (kk : ∀ M1, K M1 → zh_W X (d + 1) y cc nL rt pn lo st zh_LL M1 0 0 P) : zh_W X (d + 1) y cc nL rt pc lo (.int a1 :: .ref o :: st) zh_LL M 0 0 P := by
  refine zh_callV (bc := 0) (bs := 0) (bc' := 0) (bs' := 0) (as := [.int a1]) (st := st) hp hd (at_Fiber zo) (by decide) rfl rfl m1 me_X2_beginToLive.1 me_X2_beginToLive.2.1 me_X2_beginToLive.2.2.1 me_X2_beginToLive.2.2.2 ⟨by decide, by decide, by decide⟩ (by show _ = some 1; decide +kernel) (by intro v hv; simp only [List.mem_cons, List.not_mem_nil, or_false] at hv; rcases hv with rfl <;> (intro _ _; rfl)) hsc (Nat.le_of_ble_eq_true rfl) (by decide) (wk_X2_beginToLive zo h) (fun r L' M' q => ?_) (fun r L' M' q => ?_)
  · obtain ⟨-, rfl, q⟩ := q; rfl
  · obtain ⟨rfl, rfl, q⟩ := q; exact kk M' q
set_option maxRecDepth 100000 in
set_option maxHeartbeats 4000000 in
theorem wk_X4_spawn {X : Nat × (Nat → Int32)} {d : Nat} {M : zh_M} {a1 : Int32} {a2 : Int32} {P : Int32 → zh_M → Prop} (h : wp_X4_spawn M a1 a2 P) : zh_W X (d + 3) yX4_spawn cX4_spawn 5 (some .int) 0 (zh_en [.ref 1, .int a1, .int a2] 5) [] zh_LL M 0 0 (zh_pi P) := by
  unfold wp_X4_spawn at h
  show zh_W X (d + 3) yX4_spawn cX4_spawn 5 (some .int) 0 [some (.ref 1), some (.int a1), some (.int a2), none, none] [] zh_LL M 0 0 (zh_pi P)
  refine zh_aload_n (pn := 1) rfl dX4_spawn_0 (i := 0) (v := .ref 1) rfl rfl (Or.inr ⟨_, rfl⟩) ?_
  refine zh_iload_n (pn := 2) rfl dX4_spawn_1 (i := 1) (x := a1) rfl rfl ?_
  refine ca_X4_readyFiber (pn := 5) rfl dX4_spawn_2 mc_X4_48 (fun _ _ => Nat.le_of_ble_eq_true rfl) h (fun r2 M1 h => ?_)
  refine zh_astore_n (pn := 6) rfl dX4_spawn_5 (i := 3) (lo' := [some (.ref 1), some (.int a1), some (.int a2), some (va_rf r2), none]) rfl (by decide) (zh_rfor r2) rfl ?_
  refine zh_aload_n (pn := 7) rfl dX4_spawn_6 (i := 0) (v := .ref 1) rfl rfl (Or.inr ⟨_, rfl⟩) ?_
  refine ca_X4_lowestGoneFiber (pn := 10) rfl dX4_spawn_7 mc_X4_52 (fun _ _ => Nat.le_of_ble_eq_true rfl) h (fun r4 M3 h => ?_)
  refine zh_istore (pn := 12) rfl dX4_spawn_10 (i := 4) (lo' := [some (.ref 1), some (.int a1), some (.int a2), some (va_rf r2), some (.int r4)]) (by decide) rfl ?_
  refine zh_aload_n (pn := 13) rfl dX4_spawn_12 (i := 3) (v := va_rf r2) rfl rfl (zh_rfor r2) ?_
  refine zh_ifnull (pn := 16) rfl dX4_spawn_13 (tgt := 30) rfl (fun cc1 => ?_) (fun o5 cc1 => ?_)
  · subst cc1
    replace h := h.1 rfl
    refine zh_iconst (pn := 31) rfl dX4_spawn_30 (v := (zI (-1))) rfl ?_
    exact zh_iret dX4_spawn_31 rfl rfl ⟨_, rfl, rfl, h⟩
  · subst cc1
    obtain ⟨zo5, h⟩ := h.2 o5 rfl
    refine zh_aload_n (pn := 17) rfl dX4_spawn_16 (i := 3) (v := .ref o5) rfl rfl (Or.inr ⟨_, rfl⟩) ?_
    refine zh_iload_n (pn := 18) rfl dX4_spawn_17 (i := 2) (x := a2) rfl rfl ?_
    refine ca_X2_isSource (pn := 21) rfl dX4_spawn_18 mc_X4_56 zo5 (fun _ _ => Nat.le_of_ble_eq_true rfl) h (fun r7 M6 h => ?_)
    refine zh_if_eq (pn := 24) rfl dX4_spawn_21 (tgt := 30) rfl (fun cc1 => ?_) (fun cc1 => ?_)
    · replace h := h.1 cc1
      refine zh_iconst (pn := 31) rfl dX4_spawn_30 (v := (zI (-1))) rfl ?_
      exact zh_iret dX4_spawn_31 rfl rfl ⟨_, rfl, rfl, h⟩
    · replace h := h.2 cc1
      refine zh_iload (pn := 26) rfl dX4_spawn_24 (i := 4) (x := r4) rfl ?_
      refine zh_iconst (pn := 27) rfl dX4_spawn_26 (v := (zI (-1))) rfl ?_
      refine zh_icmp_ne (pn := 30) rfl dX4_spawn_27 (tgt := 32) rfl (fun cc1 => ?_) (fun cc1 => ?_)
      · replace h := h.1 cc1
        refine zh_aload_n (pn := 33) rfl dX4_spawn_32 (i := 0) (v := .ref 1) rfl rfl (Or.inr ⟨_, rfl⟩) ?_
        refine zh_get (pn := 36) rfl dX4_spawn_33 (v := .ref 9) (k := 1) rfl rfl (by decide) (by decide) in_X4 mf_X4_18 rfl ?_
        refine zh_iload (pn := 38) rfl dX4_spawn_36 (i := 4) (x := r4) rfl ?_
        refine zh_aald_Fiber (pn := 39) rfl dX4_spawn_38 h.1 ?_
        have zf8 := zf_of_Fiber h.1
        replace h := h.2
        refine zh_aload_n (pn := 40) rfl dX4_spawn_39 (i := 3) (v := .ref o5) rfl rfl (Or.inr ⟨_, rfl⟩) ?_
        refine zh_iload_n (pn := 41) rfl dX4_spawn_40 (i := 2) (x := a2) rfl rfl ?_
        refine ca_X2_pointerFrom (pn := 44) rfl dX4_spawn_41 mc_X4_60 zo5 (fun _ _ => Nat.le_of_ble_eq_true rfl) h (fun r10 M9 h => ?_)
        refine ca_X2_beginToLive (pn := 47) rfl dX4_spawn_44 mc_X4_45 zf8 (fun _ _ => Nat.le_of_ble_eq_true rfl) h (fun M11 h => ?_)
        refine zh_iload (pn := 49) rfl dX4_spawn_47 (i := 4) (x := r4) rfl ?_
        exact zh_iret dX4_spawn_49 rfl rfl ⟨_, rfl, rfl, h⟩
      · replace h := h.2 cc1
        refine zh_iconst (pn := 31) rfl dX4_spawn_30 (v := (zI (-1))) rfl ?_
        exact zh_iret dX4_spawn_31 rfl rfl ⟨_, rfl, rfl, h⟩
set_option maxRecDepth 100000 in
theorem ca_X4_spawn {X : Nat × (Nat → Int32)} {d : Nat} {y : MethodName} {cc : ByteArray} {nL : Nat} {rt : Option FieldType} {pc pn idx : Nat} {lo : List (Option Value)} {st : List Value} {M : zh_M} {P : Option Value → List zh_LC → zh_M → Prop} {a1 : Int32} {a2 : Int32} {K : Int32 → zh_M → Prop} (hp : pc + 3 = pn) (hd : decode cc pc = .ok (.invokevirtual idx, 3)) (m1 : Cond.methodLink y.cls idx yX4_spawn ∈ zh_WS) (hsc : ∀ base b, ((st.map (zh_tr base b)).map fun v => v.category).sum ≤ 8) (h : wp_X4_spawn M a1 a2 K) (kk : ∀ r M1, K r M1 → zh_W X (d + 4) y cc nL rt pn lo (.int r :: st) zh_LL M1 0 0 P) : zh_W X (d + 4) y cc nL rt pc lo (.int a2 :: .int a1 :: .ref 1 :: st) zh_LL M 0 0 P := by
  refine zh_callV (bc := 0) (bs := 0) (bc' := 0) (bs' := 0) (as := [.int a1, .int a2]) (st := st) hp hd rfl (by decide) rfl rfl m1 me_X4_spawn.1 me_X4_spawn.2.1 me_X4_spawn.2.2.1 me_X4_spawn.2.2.2 ⟨by decide, by decide, by decide⟩ (by show _ = some 2; decide +kernel) (by intro v hv; simp only [List.mem_cons, List.not_mem_nil, or_false] at hv; rcases hv with rfl | rfl <;> (intro _ _; rfl)) hsc (Nat.le_of_ble_eq_true rfl) (by decide) (wk_X4_spawn  h) (fun r L' M' q => ?_) (fun r L' M' q => ?_)
  · obtain ⟨v, -, rfl, q⟩ := q; rfl
  · obtain ⟨v, rfl, rfl, q⟩ := q; exact kk v M' q
set_option maxRecDepth 100000 in
set_option maxHeartbeats 4000000 in
theorem wkl_X4_livingFibers_4 {X : Nat × (Nat → Int32)} {d : Nat} {P : Int32 → zh_M → Prop} : ∀ (n : Nat) (l1 : Int32) (l2 : Int32) (M : zh_M) , wl_X4_livingFibers_4 P n l1 l2 M → zh_W X (d + 1) yX4_livingFibers cX4_livingFibers 3 (some .int) 4 [some (.ref 1), some (.int l1), some (.int l2)] [] zh_LL M 0 0 (zh_pi P) := by
  intro n
  induction n with
  | zero => intro l1 l2 M  h; exact h.elim
  | succ n ih =>
    intro l1 l2 M  h
    unfold wl_X4_livingFibers_4 at h
    refine zh_iload_n (pn := 5) rfl dX4_livingFibers_4 (i := 2) (x := l2) rfl rfl ?_
    refine zh_bipush (pn := 7) rfl dX4_livingFibers_5 (v := (zI 6)) rfl ?_
    refine zh_icmp_ge (pn := 10) rfl dX4_livingFibers_7 (tgt := 27) rfl (fun cc1 => ?_) (fun cc1 => ?_)
    · replace h := h.1 cc1
      refine zh_iload_n (pn := 28) rfl dX4_livingFibers_27 (i := 1) (x := l1) rfl rfl ?_
      exact zh_iret dX4_livingFibers_28 rfl rfl ⟨_, rfl, rfl, h⟩
    · replace h := h.2 cc1
      refine zh_aload_n (pn := 11) rfl dX4_livingFibers_10 (i := 0) (v := .ref 1) rfl rfl (Or.inr ⟨_, rfl⟩) ?_
      refine zh_iload_n (pn := 12) rfl dX4_livingFibers_11 (i := 2) (x := l2) rfl rfl ?_
      refine ca_X4_lives (pn := 15) rfl dX4_livingFibers_12 mc_X4_64 (fun _ _ => Nat.le_of_ble_eq_true rfl) h (fun r2 M1 h => ?_)
      refine zh_if_eq (pn := 18) rfl dX4_livingFibers_15 (tgt := 21) rfl (fun cc1 => ?_) (fun cc1 => ?_)
      · replace h := h.1 cc1
        refine zh_iinc (pn := 24) rfl dX4_livingFibers_21 (i := 2) (x := l2) (v := l2 + (zI 1)) (lo' := [some (.ref 1), some (.int l1), some (.int (l2 + (zI 1)))]) rfl rfl (by decide) rfl ?_
        refine zh_goto dX4_livingFibers_24 (tgt := 4) rfl ?_
        exact ih _ _ _ h
      · replace h := h.2 cc1
        refine zh_iinc (pn := 21) rfl dX4_livingFibers_18 (i := 1) (x := l1) (v := l1 + (zI 1)) (lo' := [some (.ref 1), some (.int (l1 + (zI 1))), some (.int l2)]) rfl rfl (by decide) rfl ?_
        refine zh_iinc (pn := 24) rfl dX4_livingFibers_21 (i := 2) (x := l2) (v := l2 + (zI 1)) (lo' := [some (.ref 1), some (.int (l1 + (zI 1))), some (.int (l2 + (zI 1)))]) rfl rfl (by decide) rfl ?_
        refine zh_goto dX4_livingFibers_24 (tgt := 4) rfl ?_
        exact ih _ _ _ h
set_option maxRecDepth 100000 in
set_option maxHeartbeats 4000000 in
theorem wk_X4_livingFibers {X : Nat × (Nat → Int32)} {d : Nat} {M : zh_M} {P : Int32 → zh_M → Prop} (h : wp_X4_livingFibers M P) : zh_W X (d + 1) yX4_livingFibers cX4_livingFibers 3 (some .int) 0 (zh_en [.ref 1] 3) [] zh_LL M 0 0 (zh_pi P) := by
  unfold wp_X4_livingFibers at h
  show zh_W X (d + 1) yX4_livingFibers cX4_livingFibers 3 (some .int) 0 [some (.ref 1), none, none] [] zh_LL M 0 0 (zh_pi P)
  refine zh_iconst (pn := 1) rfl dX4_livingFibers_0 (v := (zI 0)) rfl ?_
  refine zh_istore_n (pn := 2) rfl dX4_livingFibers_1 (i := 1) (lo' := [some (.ref 1), some (.int (zI 0)), none]) rfl (by decide) rfl ?_
  refine zh_iconst (pn := 3) rfl dX4_livingFibers_2 (v := (zI 0)) rfl ?_
  refine zh_istore_n (pn := 4) rfl dX4_livingFibers_3 (i := 2) (lo' := [some (.ref 1), some (.int (zI 0)), some (.int (zI 0))]) rfl (by decide) rfl ?_
  obtain ⟨n3, h⟩ := h
  refine wkl_X4_livingFibers_4 n3 _ _ _ h
set_option maxRecDepth 100000 in
theorem ca_X4_livingFibers {X : Nat × (Nat → Int32)} {d : Nat} {y : MethodName} {cc : ByteArray} {nL : Nat} {rt : Option FieldType} {pc pn idx : Nat} {lo : List (Option Value)} {st : List Value} {M : zh_M} {P : Option Value → List zh_LC → zh_M → Prop} {K : Int32 → zh_M → Prop} (hp : pc + 3 = pn) (hd : decode cc pc = .ok (.invokevirtual idx, 3)) (m1 : Cond.methodLink y.cls idx yX4_livingFibers ∈ zh_WS) (hsc : ∀ base b, ((st.map (zh_tr base b)).map fun v => v.category).sum ≤ 8) (h : wp_X4_livingFibers M K) (kk : ∀ r M1, K r M1 → zh_W X (d + 2) y cc nL rt pn lo (.int r :: st) zh_LL M1 0 0 P) : zh_W X (d + 2) y cc nL rt pc lo (.ref 1 :: st) zh_LL M 0 0 P := by
  refine zh_callV (bc := 0) (bs := 0) (bc' := 0) (bs' := 0) (as := []) (st := st) hp hd rfl (by decide) rfl rfl m1 me_X4_livingFibers.1 me_X4_livingFibers.2.1 me_X4_livingFibers.2.2.1 me_X4_livingFibers.2.2.2 ⟨by decide, by decide, by decide⟩ (by show _ = some 0; decide +kernel) (fun v hv => by cases hv) hsc (Nat.le_of_ble_eq_true rfl) (by decide) (wk_X4_livingFibers  h) (fun r L' M' q => ?_) (fun r L' M' q => ?_)
  · obtain ⟨v, -, rfl, q⟩ := q; rfl
  · obtain ⟨v, rfl, rfl, q⟩ := q; exact kk v M' q
set_option maxRecDepth 100000 in
set_option maxHeartbeats 4000000 in
theorem wk_X4_end {X : Nat × (Nat → Int32)} {d : Nat} {M : zh_M} {a1 : Int32} {P : Int32 → zh_M → Prop} (h : wp_X4_end M a1 P) : zh_W X (d + 2) yX4_end cX4_end 2 (some .boolean) 0 (zh_en [.ref 1, .int a1] 2) [] zh_LL M 0 0 (zh_pi P) := by
  unfold wp_X4_end at h
  show zh_W X (d + 2) yX4_end cX4_end 2 (some .boolean) 0 [some (.ref 1), some (.int a1)] [] zh_LL M 0 0 (zh_pi P)
  refine zh_aload_n (pn := 1) rfl dX4_end_0 (i := 0) (v := .ref 1) rfl rfl (Or.inr ⟨_, rfl⟩) ?_
  refine zh_iload_n (pn := 2) rfl dX4_end_1 (i := 1) (x := a1) rfl rfl ?_
  refine ca_X4_lives (pn := 5) rfl dX4_end_2 mc_X4_64 (fun _ _ => Nat.le_of_ble_eq_true rfl) h (fun r2 M1 h => ?_)
  refine zh_if_eq (pn := 8) rfl dX4_end_5 (tgt := 16) rfl (fun cc1 => ?_) (fun cc1 => ?_)
  · replace h := h.1 cc1
    refine zh_iconst (pn := 17) rfl dX4_end_16 (v := (zI 0)) rfl ?_
    exact zh_iret dX4_end_17 rfl rfl ⟨_, rfl, rfl, h⟩
  · replace h := h.2 cc1
    refine zh_aload_n (pn := 9) rfl dX4_end_8 (i := 0) (v := .ref 1) rfl rfl (Or.inr ⟨_, rfl⟩) ?_
    refine ca_X4_livingFibers (pn := 12) rfl dX4_end_9 mc_X4_67 (fun _ _ => Nat.le_of_ble_eq_true rfl) h (fun r4 M3 h => ?_)
    refine zh_iconst (pn := 13) rfl dX4_end_12 (v := (zI 1)) rfl ?_
    refine zh_icmp_ne (pn := 16) rfl dX4_end_13 (tgt := 18) rfl (fun cc1 => ?_) (fun cc1 => ?_)
    · replace h := h.1 cc1
      refine zh_aload_n (pn := 19) rfl dX4_end_18 (i := 0) (v := .ref 1) rfl rfl (Or.inr ⟨_, rfl⟩) ?_
      refine zh_get (pn := 22) rfl dX4_end_19 (v := .ref 9) (k := 1) rfl rfl (by decide) (by decide) in_X4 mf_X4_18 rfl ?_
      refine zh_iload_n (pn := 23) rfl dX4_end_22 (i := 1) (x := a1) rfl rfl ?_
      refine zh_aald_Fiber (pn := 24) rfl dX4_end_23 h.1 ?_
      have zf5 := zf_of_Fiber h.1
      replace h := h.2
      refine zh_iconst (pn := 25) rfl dX4_end_24 (v := (zI 0)) rfl ?_
      refine zh_put (pn := 28) rfl dX4_end_25 (k := 2) (at_Fiber zf5) rfl (by decide) (by decide) in_X2 tyX2_ok nmX2 mf_X4_70 rfl rfl rfl rfl ?_
      obtain ⟨M6, eM6⟩ : ∃ q : zh_M, q = zh_set M3 (zi_Fiber a1) 2 (zI 0) := ⟨_, rfl⟩
      replace h := h M6 eM6
      rw [← eM6]
      refine zh_iconst (pn := 29) rfl dX4_end_28 (v := (zI 1)) rfl ?_
      exact zh_iret dX4_end_29 rfl rfl ⟨_, rfl, rfl, h⟩
    · replace h := h.2 cc1
      refine zh_iconst (pn := 17) rfl dX4_end_16 (v := (zI 0)) rfl ?_
      exact zh_iret dX4_end_17 rfl rfl ⟨_, rfl, rfl, h⟩
set_option maxRecDepth 100000 in
theorem ca_X4_end {X : Nat × (Nat → Int32)} {d : Nat} {y : MethodName} {cc : ByteArray} {nL : Nat} {rt : Option FieldType} {pc pn idx : Nat} {lo : List (Option Value)} {st : List Value} {M : zh_M} {P : Option Value → List zh_LC → zh_M → Prop} {a1 : Int32} {K : Int32 → zh_M → Prop} (hp : pc + 3 = pn) (hd : decode cc pc = .ok (.invokevirtual idx, 3)) (m1 : Cond.methodLink y.cls idx yX4_end ∈ zh_WS) (hsc : ∀ base b, ((st.map (zh_tr base b)).map fun v => v.category).sum ≤ 8) (h : wp_X4_end M a1 K) (kk : ∀ r M1, K r M1 → zh_W X (d + 3) y cc nL rt pn lo (.int r :: st) zh_LL M1 0 0 P) : zh_W X (d + 3) y cc nL rt pc lo (.int a1 :: .ref 1 :: st) zh_LL M 0 0 P := by
  refine zh_callV (bc := 0) (bs := 0) (bc' := 0) (bs' := 0) (as := [.int a1]) (st := st) hp hd rfl (by decide) rfl rfl m1 me_X4_end.1 me_X4_end.2.1 me_X4_end.2.2.1 me_X4_end.2.2.2 ⟨by decide, by decide, by decide⟩ (by show _ = some 1; decide +kernel) (by intro v hv; simp only [List.mem_cons, List.not_mem_nil, or_false] at hv; rcases hv with rfl <;> (intro _ _; rfl)) hsc (Nat.le_of_ble_eq_true rfl) (by decide) (wk_X4_end  h) (fun r L' M' q => ?_) (fun r L' M' q => ?_)
  · obtain ⟨v, -, rfl, q⟩ := q; rfl
  · obtain ⟨v, rfl, rfl, q⟩ := q; exact kk v M' q
set_option maxRecDepth 100000 in
set_option maxHeartbeats 4000000 in
theorem wk_X4_wake {X : Nat × (Nat → Int32)} {d : Nat} {M : zh_M} {a1 : Int32} {P : Int32 → zh_M → Prop} (h : wp_X4_wake M a1 P) : zh_W X (d + 1) yX4_wake cX4_wake 2 (some .boolean) 0 (zh_en [.ref 1, .int a1] 2) [] zh_LL M 0 0 (zh_pi P) := by
  unfold wp_X4_wake at h
  show zh_W X (d + 1) yX4_wake cX4_wake 2 (some .boolean) 0 [some (.ref 1), some (.int a1)] [] zh_LL M 0 0 (zh_pi P)
  refine zh_aload_n (pn := 1) rfl dX4_wake_0 (i := 0) (v := .ref 1) rfl rfl (Or.inr ⟨_, rfl⟩) ?_
  refine zh_iload_n (pn := 2) rfl dX4_wake_1 (i := 1) (x := a1) rfl rfl ?_
  refine ca_X4_lives (pn := 5) rfl dX4_wake_2 mc_X4_64 (fun _ _ => Nat.le_of_ble_eq_true rfl) h (fun r2 M1 h => ?_)
  refine zh_if_eq (pn := 8) rfl dX4_wake_5 (tgt := 21) rfl (fun cc1 => ?_) (fun cc1 => ?_)
  · replace h := h.1 cc1
    refine zh_iconst (pn := 22) rfl dX4_wake_21 (v := (zI 0)) rfl ?_
    exact zh_iret dX4_wake_22 rfl rfl ⟨_, rfl, rfl, h⟩
  · replace h := h.2 cc1
    refine zh_aload_n (pn := 9) rfl dX4_wake_8 (i := 0) (v := .ref 1) rfl rfl (Or.inr ⟨_, rfl⟩) ?_
    refine zh_get (pn := 12) rfl dX4_wake_9 (v := .ref 9) (k := 1) rfl rfl (by decide) (by decide) in_X4 mf_X4_18 rfl ?_
    refine zh_iload_n (pn := 13) rfl dX4_wake_12 (i := 1) (x := a1) rfl rfl ?_
    refine zh_aald_Fiber (pn := 14) rfl dX4_wake_13 h.1 ?_
    have zf3 := zf_of_Fiber h.1
    replace h := h.2
    refine zh_get (pn := 17) rfl dX4_wake_14 (v := .int (M1 (zi_Fiber a1) 2)) (k := 2) (at_Fiber zf3) rfl (by decide) (by decide) in_X2 mf_X4_70 rfl ?_
    refine zh_iconst (pn := 18) rfl dX4_wake_17 (v := (zI 1)) rfl ?_
    refine zh_icmp_ne (pn := 21) rfl dX4_wake_18 (tgt := 23) rfl (fun cc1 => ?_) (fun cc1 => ?_)
    · replace h := h.1 cc1
      refine zh_aload_n (pn := 24) rfl dX4_wake_23 (i := 0) (v := .ref 1) rfl rfl (Or.inr ⟨_, rfl⟩) ?_
      refine zh_get (pn := 27) rfl dX4_wake_24 (v := .ref 9) (k := 1) rfl rfl (by decide) (by decide) in_X4 mf_X4_18 rfl ?_
      refine zh_iload_n (pn := 28) rfl dX4_wake_27 (i := 1) (x := a1) rfl rfl ?_
      refine zh_aald_Fiber (pn := 29) rfl dX4_wake_28 h.1 ?_
      have zf4 := zf_of_Fiber h.1
      replace h := h.2
      refine zh_iconst (pn := 30) rfl dX4_wake_29 (v := (zI 1)) rfl ?_
      refine zh_put (pn := 33) rfl dX4_wake_30 (k := 2) (at_Fiber zf4) rfl (by decide) (by decide) in_X2 tyX2_ok nmX2 mf_X4_70 rfl rfl rfl rfl ?_
      obtain ⟨M5, eM5⟩ : ∃ q : zh_M, q = zh_set M1 (zi_Fiber a1) 2 (zI 1) := ⟨_, rfl⟩
      replace h := h M5 eM5
      rw [← eM5]
      refine zh_iconst (pn := 34) rfl dX4_wake_33 (v := (zI 1)) rfl ?_
      exact zh_iret dX4_wake_34 rfl rfl ⟨_, rfl, rfl, h⟩
    · replace h := h.2 cc1
      refine zh_iconst (pn := 22) rfl dX4_wake_21 (v := (zI 0)) rfl ?_
      exact zh_iret dX4_wake_22 rfl rfl ⟨_, rfl, rfl, h⟩
set_option maxRecDepth 100000 in
theorem ca_X4_wake {X : Nat × (Nat → Int32)} {d : Nat} {y : MethodName} {cc : ByteArray} {nL : Nat} {rt : Option FieldType} {pc pn idx : Nat} {lo : List (Option Value)} {st : List Value} {M : zh_M} {P : Option Value → List zh_LC → zh_M → Prop} {a1 : Int32} {K : Int32 → zh_M → Prop} (hp : pc + 3 = pn) (hd : decode cc pc = .ok (.invokevirtual idx, 3)) (m1 : Cond.methodLink y.cls idx yX4_wake ∈ zh_WS) (hsc : ∀ base b, ((st.map (zh_tr base b)).map fun v => v.category).sum ≤ 8) (h : wp_X4_wake M a1 K) (kk : ∀ r M1, K r M1 → zh_W X (d + 2) y cc nL rt pn lo (.int r :: st) zh_LL M1 0 0 P) : zh_W X (d + 2) y cc nL rt pc lo (.int a1 :: .ref 1 :: st) zh_LL M 0 0 P := by
  refine zh_callV (bc := 0) (bs := 0) (bc' := 0) (bs' := 0) (as := [.int a1]) (st := st) hp hd rfl (by decide) rfl rfl m1 me_X4_wake.1 me_X4_wake.2.1 me_X4_wake.2.2.1 me_X4_wake.2.2.2 ⟨by decide, by decide, by decide⟩ (by show _ = some 1; decide +kernel) (by intro v hv; simp only [List.mem_cons, List.not_mem_nil, or_false] at hv; rcases hv with rfl <;> (intro _ _; rfl)) hsc (Nat.le_of_ble_eq_true rfl) (by decide) (wk_X4_wake  h) (fun r L' M' q => ?_) (fun r L' M' q => ?_)
  · obtain ⟨v, -, rfl, q⟩ := q; rfl
  · obtain ⟨v, rfl, rfl, q⟩ := q; exact kk v M' q
set_option maxRecDepth 100000 in
set_option maxHeartbeats 4000000 in
theorem wk_X2_moveTo {X : Nat × (Nat → Int32)} {d : Nat} {M : zh_M} {o : Nat} {a1 : Int32} {P : zh_M → Prop} (zo : zf_Fiber o) (h : wp_X2_moveTo M o a1 P) : zh_W X (d + 0) yX2_moveTo cX2_moveTo 2 none 0 (zh_en [.ref o, .int a1] 2) [] zh_LL M 0 0 (zh_pv P) := by
  unfold wp_X2_moveTo at h
  show zh_W X (d + 0) yX2_moveTo cX2_moveTo 2 none 0 [some (.ref o), some (.int a1)] [] zh_LL M 0 0 (zh_pv P)
  refine zh_aload_n (pn := 1) rfl dX2_moveTo_0 (i := 0) (v := .ref o) rfl rfl (Or.inr ⟨_, rfl⟩) ?_
  refine zh_iload_n (pn := 2) rfl dX2_moveTo_1 (i := 1) (x := a1) rfl rfl ?_
  refine zh_put (pn := 5) rfl dX2_moveTo_2 (k := 4) (at_Fiber zo) rfl (by decide) (by decide) in_X2 tyX2_ok nmX2 mf_X2_25 rfl rfl rfl rfl ?_
  obtain ⟨M1, eM1⟩ : ∃ q : zh_M, q = zh_set M o 4 a1 := ⟨_, rfl⟩
  replace h := h M1 eM1
  rw [← eM1]
  refine zh_aload_n (pn := 6) rfl dX2_moveTo_5 (i := 0) (v := .ref o) rfl rfl (Or.inr ⟨_, rfl⟩) ?_
  refine zh_dup (pn := 7) rfl dX2_moveTo_6 (fun _ _ => rfl) ?_
  refine zh_get (pn := 10) rfl dX2_moveTo_7 (v := .int (M1 o 5)) (k := 5) (at_Fiber zo) rfl (by decide) (by decide) in_X2 mf_X2_53 rfl ?_
  refine zh_aload_n (pn := 11) rfl dX2_moveTo_10 (i := 0) (v := .ref o) rfl rfl (Or.inr ⟨_, rfl⟩) ?_
  refine zh_get (pn := 14) rfl dX2_moveTo_11 (v := .int (M1 o 3)) (k := 3) (at_Fiber zo) rfl (by decide) (by decide) in_X2 mf_X2_22 rfl ?_
  refine zh_iadd (pn := 15) rfl dX2_moveTo_14 ?_
  refine zh_put (pn := 18) rfl dX2_moveTo_15 (k := 5) (at_Fiber zo) rfl (by decide) (by decide) in_X2 tyX2_ok nmX2 mf_X2_53 rfl rfl rfl rfl ?_
  obtain ⟨M2, eM2⟩ : ∃ q : zh_M, q = zh_set M1 o 5 ((M1 o 5) + (M1 o 3)) := ⟨_, rfl⟩
  replace h := h M2 eM2
  rw [← eM2]
  exact zh_vret dX2_moveTo_18 rfl ⟨rfl, rfl, h⟩
set_option maxRecDepth 100000 in
theorem ca_X2_moveTo {X : Nat × (Nat → Int32)} {d : Nat} {y : MethodName} {cc : ByteArray} {nL : Nat} {rt : Option FieldType} {pc pn idx : Nat} {lo : List (Option Value)} {st : List Value} {M : zh_M} {P : Option Value → List zh_LC → zh_M → Prop} {o : Nat} {a1 : Int32} {K : zh_M → Prop} (hp : pc + 3 = pn) (hd : decode cc pc = .ok (.invokevirtual idx, 3)) (m1 : Cond.methodLink y.cls idx yX2_moveTo ∈ zh_WS) (zo : zf_Fiber o) (hsc : ∀ base b, ((st.map (zh_tr base b)).map fun v => v.category).sum ≤ 8) (h : wp_X2_moveTo M o a1 K) (kk : ∀ M1, K M1 → zh_W X (d + 1) y cc nL rt pn lo st zh_LL M1 0 0 P) : zh_W X (d + 1) y cc nL rt pc lo (.int a1 :: .ref o :: st) zh_LL M 0 0 P := by
  refine zh_callV (bc := 0) (bs := 0) (bc' := 0) (bs' := 0) (as := [.int a1]) (st := st) hp hd (at_Fiber zo) (by decide) rfl rfl m1 me_X2_moveTo.1 me_X2_moveTo.2.1 me_X2_moveTo.2.2.1 me_X2_moveTo.2.2.2 ⟨by decide, by decide, by decide⟩ (by show _ = some 1; decide +kernel) (by intro v hv; simp only [List.mem_cons, List.not_mem_nil, or_false] at hv; rcases hv with rfl <;> (intro _ _; rfl)) hsc (Nat.le_of_ble_eq_true rfl) (by decide) (wk_X2_moveTo zo h) (fun r L' M' q => ?_) (fun r L' M' q => ?_)
  · obtain ⟨-, rfl, q⟩ := q; rfl
  · obtain ⟨rfl, rfl, q⟩ := q; exact kk M' q
set_option maxRecDepth 100000 in
set_option maxHeartbeats 4000000 in
theorem wk_X2_addFrame {X : Nat × (Nat → Int32)} {d : Nat} {M : zh_M} {o : Nat} {P : zh_M → Prop} (zo : zf_Fiber o) (h : wp_X2_addFrame M o P) : zh_W X (d + 1) yX2_addFrame cX2_addFrame 1 none 0 (zh_en [.ref o] 1) [] zh_LL M 0 0 (zh_pv P) := by
  unfold wp_X2_addFrame at h
  show zh_W X (d + 1) yX2_addFrame cX2_addFrame 1 none 0 [some (.ref o)] [] zh_LL M 0 0 (zh_pv P)
  refine zh_aload_n (pn := 1) rfl dX2_addFrame_0 (i := 0) (v := .ref o) rfl rfl (Or.inr ⟨_, rfl⟩) ?_
  refine zh_get (pn := 4) rfl dX2_addFrame_1 (v := .int (M o 3)) (k := 3) (at_Fiber zo) rfl (by decide) (by decide) in_X2 mf_X2_22 rfl ?_
  refine zh_aload_n (pn := 5) rfl dX2_addFrame_4 (i := 0) (v := .ref o) rfl rfl (Or.inr ⟨_, rfl⟩) ?_
  refine zh_get (pn := 8) rfl dX2_addFrame_5 (v := .int (M o 4)) (k := 4) (at_Fiber zo) rfl (by decide) (by decide) in_X2 mf_X2_25 rfl ?_
  refine zh_icmp_ne (pn := 11) rfl dX2_addFrame_8 (tgt := 21) rfl (fun cc1 => ?_) (fun cc1 => ?_)
  · replace h := h.1 cc1
    refine zh_aload_n (pn := 22) rfl dX2_addFrame_21 (i := 0) (v := .ref o) rfl rfl (Or.inr ⟨_, rfl⟩) ?_
    refine zh_get (pn := 25) rfl dX2_addFrame_22 (v := .ref (o + 1)) (k := 0) (at_Fiber zo) rfl (by decide) (by decide) in_X2 mf_X2_9 rfl ?_
    refine zh_aload_n (pn := 26) rfl dX2_addFrame_25 (i := 0) (v := .ref o) rfl rfl (Or.inr ⟨_, rfl⟩) ?_
    refine zh_get (pn := 29) rfl dX2_addFrame_26 (v := .int (M o 3)) (k := 3) (at_Fiber zo) rfl (by decide) (by decide) in_X2 mf_X2_22 rfl ?_
    refine zh_iconst (pn := 30) rfl dX2_addFrame_29 (v := (zI 1)) rfl ?_
    refine zh_isub (pn := 31) rfl dX2_addFrame_30 ?_
    refine zh_iconst (pn := 32) rfl dX2_addFrame_31 (v := (zI 4)) rfl ?_
    refine zh_imul (pn := 33) rfl dX2_addFrame_32 ?_
    refine zh_aload_n (pn := 34) rfl dX2_addFrame_33 (i := 0) (v := .ref o) rfl rfl (Or.inr ⟨_, rfl⟩) ?_
    refine zh_get (pn := 37) rfl dX2_addFrame_34 (v := .ref (o + 1)) (k := 0) (at_Fiber zo) rfl (by decide) (by decide) in_X2 mf_X2_9 rfl ?_
    refine zh_aload_n (pn := 38) rfl dX2_addFrame_37 (i := 0) (v := .ref o) rfl rfl (Or.inr ⟨_, rfl⟩) ?_
    refine zh_get (pn := 41) rfl dX2_addFrame_38 (v := .int (M o 3)) (k := 3) (at_Fiber zo) rfl (by decide) (by decide) in_X2 mf_X2_22 rfl ?_
    refine zh_iconst (pn := 42) rfl dX2_addFrame_41 (v := (zI 4)) rfl ?_
    refine zh_imul (pn := 43) rfl dX2_addFrame_42 ?_
    refine zh_iconst (pn := 44) rfl dX2_addFrame_43 (v := (zI 4)) rfl ?_
    refine zh_copy (pn := 47) rfl dX2_addFrame_44 mc_X2_47 me_copy.1 me_copy.2.1 me_copy.2.2 (at_Fiber_1 zo) (at_Fiber_1 zo) h.1 h.2.1 h.2.2.1 h.2.2.2.1 h.2.2.2.2.1 (fun _ _ => Nat.le_of_ble_eq_true rfl) (by decide) ?_
    obtain ⟨M1, eM1⟩ : ∃ q : zh_M, q = zh_row M (o + 1) (va_cpy (M (o + 1)) (M (o + 1)) ((((M o 3) - (zI 1)) * (zI 4)).toNatClampNeg) (((M o 3) * (zI 4)).toNatClampNeg) (((zI 4) : Int32).toNatClampNeg)) := ⟨_, rfl⟩
    replace h := h.2.2.2.2.2 M1 eM1
    rw [← eM1]
    refine zh_aload_n (pn := 48) rfl dX2_addFrame_47 (i := 0) (v := .ref o) rfl rfl (Or.inr ⟨_, rfl⟩) ?_
    refine zh_get (pn := 51) rfl dX2_addFrame_48 (v := .ref (o + 2)) (k := 1) (at_Fiber zo) rfl (by decide) (by decide) in_X2 mf_X2_15 rfl ?_
    refine zh_aload_n (pn := 52) rfl dX2_addFrame_51 (i := 0) (v := .ref o) rfl rfl (Or.inr ⟨_, rfl⟩) ?_
    refine zh_get (pn := 55) rfl dX2_addFrame_52 (v := .int (M1 o 3)) (k := 3) (at_Fiber zo) rfl (by decide) (by decide) in_X2 mf_X2_22 rfl ?_
    refine zh_aload_n (pn := 56) rfl dX2_addFrame_55 (i := 0) (v := .ref o) rfl rfl (Or.inr ⟨_, rfl⟩) ?_
    refine zh_get (pn := 59) rfl dX2_addFrame_56 (v := .ref (o + 2)) (k := 1) (at_Fiber zo) rfl (by decide) (by decide) in_X2 mf_X2_15 rfl ?_
    refine zh_aload_n (pn := 60) rfl dX2_addFrame_59 (i := 0) (v := .ref o) rfl rfl (Or.inr ⟨_, rfl⟩) ?_
    refine zh_get (pn := 63) rfl dX2_addFrame_60 (v := .int (M1 o 3)) (k := 3) (at_Fiber zo) rfl (by decide) (by decide) in_X2 mf_X2_22 rfl ?_
    refine zh_iconst (pn := 64) rfl dX2_addFrame_63 (v := (zI 1)) rfl ?_
    refine zh_isub (pn := 65) rfl dX2_addFrame_64 ?_
    refine zh_iald (pn := 66) rfl dX2_addFrame_65 (at_Fiber_2 zo) h.1 ?_
    replace h := h.2
    refine zh_iast (pn := 67) rfl dX2_addFrame_66 (at_Fiber_2 zo) h.1 ?_
    obtain ⟨M2, eM2⟩ : ∃ q : zh_M, q = zh_set M1 (o + 2) (M1 o 3).toNatClampNeg (M1 (o + 2) ((M1 o 3) - (zI 1)).toNatClampNeg) := ⟨_, rfl⟩
    replace h := h.2 M2 eM2
    rw [← eM2]
    refine zh_aload_n (pn := 68) rfl dX2_addFrame_67 (i := 0) (v := .ref o) rfl rfl (Or.inr ⟨_, rfl⟩) ?_
    refine zh_dup (pn := 69) rfl dX2_addFrame_68 (fun _ _ => rfl) ?_
    refine zh_get (pn := 72) rfl dX2_addFrame_69 (v := .int (M2 o 3)) (k := 3) (at_Fiber zo) rfl (by decide) (by decide) in_X2 mf_X2_22 rfl ?_
    refine zh_iconst (pn := 73) rfl dX2_addFrame_72 (v := (zI 1)) rfl ?_
    refine zh_iadd (pn := 74) rfl dX2_addFrame_73 ?_
    refine zh_put (pn := 77) rfl dX2_addFrame_74 (k := 3) (at_Fiber zo) rfl (by decide) (by decide) in_X2 tyX2_ok nmX2 mf_X2_22 rfl rfl rfl rfl ?_
    obtain ⟨M3, eM3⟩ : ∃ q : zh_M, q = zh_set M2 o 3 ((M2 o 3) + (zI 1)) := ⟨_, rfl⟩
    replace h := h M3 eM3
    rw [← eM3]
    exact zh_vret dX2_addFrame_77 rfl ⟨rfl, rfl, h⟩
  · replace h := h.2 cc1
    refine zh_aload_n (pn := 12) rfl dX2_addFrame_11 (i := 0) (v := .ref o) rfl rfl (Or.inr ⟨_, rfl⟩) ?_
    refine zh_aload_n (pn := 13) rfl dX2_addFrame_12 (i := 0) (v := .ref o) rfl rfl (Or.inr ⟨_, rfl⟩) ?_
    refine zh_get (pn := 16) rfl dX2_addFrame_13 (v := .int (M o 4)) (k := 4) (at_Fiber zo) rfl (by decide) (by decide) in_X2 mf_X2_25 rfl ?_
    refine zh_iconst (pn := 17) rfl dX2_addFrame_16 (v := (zI 2)) rfl ?_
    refine zh_imul (pn := 18) rfl dX2_addFrame_17 ?_
    refine ca_X2_moveTo (pn := 21) rfl dX2_addFrame_18 mc_X2_43 zo (fun _ _ => Nat.le_of_ble_eq_true rfl) h (fun M4 h => ?_)
    refine zh_aload_n (pn := 22) rfl dX2_addFrame_21 (i := 0) (v := .ref o) rfl rfl (Or.inr ⟨_, rfl⟩) ?_
    refine zh_get (pn := 25) rfl dX2_addFrame_22 (v := .ref (o + 1)) (k := 0) (at_Fiber zo) rfl (by decide) (by decide) in_X2 mf_X2_9 rfl ?_
    refine zh_aload_n (pn := 26) rfl dX2_addFrame_25 (i := 0) (v := .ref o) rfl rfl (Or.inr ⟨_, rfl⟩) ?_
    refine zh_get (pn := 29) rfl dX2_addFrame_26 (v := .int (M4 o 3)) (k := 3) (at_Fiber zo) rfl (by decide) (by decide) in_X2 mf_X2_22 rfl ?_
    refine zh_iconst (pn := 30) rfl dX2_addFrame_29 (v := (zI 1)) rfl ?_
    refine zh_isub (pn := 31) rfl dX2_addFrame_30 ?_
    refine zh_iconst (pn := 32) rfl dX2_addFrame_31 (v := (zI 4)) rfl ?_
    refine zh_imul (pn := 33) rfl dX2_addFrame_32 ?_
    refine zh_aload_n (pn := 34) rfl dX2_addFrame_33 (i := 0) (v := .ref o) rfl rfl (Or.inr ⟨_, rfl⟩) ?_
    refine zh_get (pn := 37) rfl dX2_addFrame_34 (v := .ref (o + 1)) (k := 0) (at_Fiber zo) rfl (by decide) (by decide) in_X2 mf_X2_9 rfl ?_
    refine zh_aload_n (pn := 38) rfl dX2_addFrame_37 (i := 0) (v := .ref o) rfl rfl (Or.inr ⟨_, rfl⟩) ?_
    refine zh_get (pn := 41) rfl dX2_addFrame_38 (v := .int (M4 o 3)) (k := 3) (at_Fiber zo) rfl (by decide) (by decide) in_X2 mf_X2_22 rfl ?_
    refine zh_iconst (pn := 42) rfl dX2_addFrame_41 (v := (zI 4)) rfl ?_
    refine zh_imul (pn := 43) rfl dX2_addFrame_42 ?_
    refine zh_iconst (pn := 44) rfl dX2_addFrame_43 (v := (zI 4)) rfl ?_
    refine zh_copy (pn := 47) rfl dX2_addFrame_44 mc_X2_47 me_copy.1 me_copy.2.1 me_copy.2.2 (at_Fiber_1 zo) (at_Fiber_1 zo) h.1 h.2.1 h.2.2.1 h.2.2.2.1 h.2.2.2.2.1 (fun _ _ => Nat.le_of_ble_eq_true rfl) (by decide) ?_
    obtain ⟨M5, eM5⟩ : ∃ q : zh_M, q = zh_row M4 (o + 1) (va_cpy (M4 (o + 1)) (M4 (o + 1)) ((((M4 o 3) - (zI 1)) * (zI 4)).toNatClampNeg) (((M4 o 3) * (zI 4)).toNatClampNeg) (((zI 4) : Int32).toNatClampNeg)) := ⟨_, rfl⟩
    replace h := h.2.2.2.2.2 M5 eM5
    rw [← eM5]
    refine zh_aload_n (pn := 48) rfl dX2_addFrame_47 (i := 0) (v := .ref o) rfl rfl (Or.inr ⟨_, rfl⟩) ?_
    refine zh_get (pn := 51) rfl dX2_addFrame_48 (v := .ref (o + 2)) (k := 1) (at_Fiber zo) rfl (by decide) (by decide) in_X2 mf_X2_15 rfl ?_
    refine zh_aload_n (pn := 52) rfl dX2_addFrame_51 (i := 0) (v := .ref o) rfl rfl (Or.inr ⟨_, rfl⟩) ?_
    refine zh_get (pn := 55) rfl dX2_addFrame_52 (v := .int (M5 o 3)) (k := 3) (at_Fiber zo) rfl (by decide) (by decide) in_X2 mf_X2_22 rfl ?_
    refine zh_aload_n (pn := 56) rfl dX2_addFrame_55 (i := 0) (v := .ref o) rfl rfl (Or.inr ⟨_, rfl⟩) ?_
    refine zh_get (pn := 59) rfl dX2_addFrame_56 (v := .ref (o + 2)) (k := 1) (at_Fiber zo) rfl (by decide) (by decide) in_X2 mf_X2_15 rfl ?_
    refine zh_aload_n (pn := 60) rfl dX2_addFrame_59 (i := 0) (v := .ref o) rfl rfl (Or.inr ⟨_, rfl⟩) ?_
    refine zh_get (pn := 63) rfl dX2_addFrame_60 (v := .int (M5 o 3)) (k := 3) (at_Fiber zo) rfl (by decide) (by decide) in_X2 mf_X2_22 rfl ?_
    refine zh_iconst (pn := 64) rfl dX2_addFrame_63 (v := (zI 1)) rfl ?_
    refine zh_isub (pn := 65) rfl dX2_addFrame_64 ?_
    refine zh_iald (pn := 66) rfl dX2_addFrame_65 (at_Fiber_2 zo) h.1 ?_
    replace h := h.2
    refine zh_iast (pn := 67) rfl dX2_addFrame_66 (at_Fiber_2 zo) h.1 ?_
    obtain ⟨M6, eM6⟩ : ∃ q : zh_M, q = zh_set M5 (o + 2) (M5 o 3).toNatClampNeg (M5 (o + 2) ((M5 o 3) - (zI 1)).toNatClampNeg) := ⟨_, rfl⟩
    replace h := h.2 M6 eM6
    rw [← eM6]
    refine zh_aload_n (pn := 68) rfl dX2_addFrame_67 (i := 0) (v := .ref o) rfl rfl (Or.inr ⟨_, rfl⟩) ?_
    refine zh_dup (pn := 69) rfl dX2_addFrame_68 (fun _ _ => rfl) ?_
    refine zh_get (pn := 72) rfl dX2_addFrame_69 (v := .int (M6 o 3)) (k := 3) (at_Fiber zo) rfl (by decide) (by decide) in_X2 mf_X2_22 rfl ?_
    refine zh_iconst (pn := 73) rfl dX2_addFrame_72 (v := (zI 1)) rfl ?_
    refine zh_iadd (pn := 74) rfl dX2_addFrame_73 ?_
    refine zh_put (pn := 77) rfl dX2_addFrame_74 (k := 3) (at_Fiber zo) rfl (by decide) (by decide) in_X2 tyX2_ok nmX2 mf_X2_22 rfl rfl rfl rfl ?_
    obtain ⟨M7, eM7⟩ : ∃ q : zh_M, q = zh_set M6 o 3 ((M6 o 3) + (zI 1)) := ⟨_, rfl⟩
    replace h := h M7 eM7
    rw [← eM7]
    exact zh_vret dX2_addFrame_77 rfl ⟨rfl, rfl, h⟩
set_option maxRecDepth 100000 in
theorem ca_X2_addFrame {X : Nat × (Nat → Int32)} {d : Nat} {y : MethodName} {cc : ByteArray} {nL : Nat} {rt : Option FieldType} {pc pn idx : Nat} {lo : List (Option Value)} {st : List Value} {M : zh_M} {P : Option Value → List zh_LC → zh_M → Prop} {o : Nat} {K : zh_M → Prop} (hp : pc + 3 = pn) (hd : decode cc pc = .ok (.invokevirtual idx, 3)) (m1 : Cond.methodLink y.cls idx yX2_addFrame ∈ zh_WS) (zo : zf_Fiber o) (hsc : ∀ base b, ((st.map (zh_tr base b)).map fun v => v.category).sum ≤ 8) (h : wp_X2_addFrame M o K) (kk : ∀ M1, K M1 → zh_W X (d + 2) y cc nL rt pn lo st zh_LL M1 0 0 P) : zh_W X (d + 2) y cc nL rt pc lo (.ref o :: st) zh_LL M 0 0 P := by
  refine zh_callV (bc := 0) (bs := 0) (bc' := 0) (bs' := 0) (as := []) (st := st) hp hd (at_Fiber zo) (by decide) rfl rfl m1 me_X2_addFrame.1 me_X2_addFrame.2.1 me_X2_addFrame.2.2.1 me_X2_addFrame.2.2.2 ⟨by decide, by decide, by decide⟩ (by show _ = some 0; decide +kernel) (fun v hv => by cases hv) hsc (Nat.le_of_ble_eq_true rfl) (by decide) (wk_X2_addFrame zo h) (fun r L' M' q => ?_) (fun r L' M' q => ?_)
  · obtain ⟨-, rfl, q⟩ := q; rfl
  · obtain ⟨rfl, rfl, q⟩ := q; exact kk M' q
set_option maxRecDepth 100000 in
set_option maxHeartbeats 4000000 in
theorem wk_X4_call {X : Nat × (Nat → Int32)} {d : Nat} {M : zh_M} {a1 : Int32} {P : Int32 → zh_M → Prop} (h : wp_X4_call M a1 P) : zh_W X (d + 2) yX4_call cX4_call 3 (some .boolean) 0 (zh_en [.ref 1, .int a1] 3) [] zh_LL M 0 0 (zh_pi P) := by
  unfold wp_X4_call at h
  show zh_W X (d + 2) yX4_call cX4_call 3 (some .boolean) 0 [some (.ref 1), some (.int a1), none] [] zh_LL M 0 0 (zh_pi P)
  refine zh_aload_n (pn := 1) rfl dX4_call_0 (i := 0) (v := .ref 1) rfl rfl (Or.inr ⟨_, rfl⟩) ?_
  refine zh_iload_n (pn := 2) rfl dX4_call_1 (i := 1) (x := a1) rfl rfl ?_
  refine ca_X4_readyFiber (pn := 5) rfl dX4_call_2 mc_X4_48 (fun _ _ => Nat.le_of_ble_eq_true rfl) h (fun r2 M1 h => ?_)
  refine zh_astore_n (pn := 6) rfl dX4_call_5 (i := 2) (lo' := [some (.ref 1), some (.int a1), some (va_rf r2)]) rfl (by decide) (zh_rfor r2) rfl ?_
  refine zh_aload_n (pn := 7) rfl dX4_call_6 (i := 2) (v := va_rf r2) rfl rfl (zh_rfor r2) ?_
  refine zh_ifnull (pn := 10) rfl dX4_call_7 (tgt := 19) rfl (fun cc1 => ?_) (fun o3 cc1 => ?_)
  · subst cc1
    replace h := h.1 rfl
    refine zh_iconst (pn := 20) rfl dX4_call_19 (v := (zI 0)) rfl ?_
    exact zh_iret dX4_call_20 rfl rfl ⟨_, rfl, rfl, h⟩
  · subst cc1
    obtain ⟨zo3, h⟩ := h.2 o3 rfl
    refine zh_aload_n (pn := 11) rfl dX4_call_10 (i := 2) (v := .ref o3) rfl rfl (Or.inr ⟨_, rfl⟩) ?_
    refine zh_get (pn := 14) rfl dX4_call_11 (v := .int (M1 o3 3)) (k := 3) (at_Fiber zo3) rfl (by decide) (by decide) in_X2 mf_X4_73 rfl ?_
    refine zh_bipush (pn := 16) rfl dX4_call_14 (v := (zI 16)) rfl ?_
    refine zh_icmp_lt (pn := 19) rfl dX4_call_16 (tgt := 21) rfl (fun cc1 => ?_) (fun cc1 => ?_)
    · replace h := h.1 cc1
      refine zh_aload_n (pn := 22) rfl dX4_call_21 (i := 2) (v := .ref o3) rfl rfl (Or.inr ⟨_, rfl⟩) ?_
      refine ca_X2_addFrame (pn := 25) rfl dX4_call_22 mc_X4_76 zo3 (fun _ _ => Nat.le_of_ble_eq_true rfl) h (fun M4 h => ?_)
      refine zh_iconst (pn := 26) rfl dX4_call_25 (v := (zI 1)) rfl ?_
      exact zh_iret dX4_call_26 rfl rfl ⟨_, rfl, rfl, h⟩
    · replace h := h.2 cc1
      refine zh_iconst (pn := 20) rfl dX4_call_19 (v := (zI 0)) rfl ?_
      exact zh_iret dX4_call_20 rfl rfl ⟨_, rfl, rfl, h⟩
set_option maxRecDepth 100000 in
theorem ca_X4_call {X : Nat × (Nat → Int32)} {d : Nat} {y : MethodName} {cc : ByteArray} {nL : Nat} {rt : Option FieldType} {pc pn idx : Nat} {lo : List (Option Value)} {st : List Value} {M : zh_M} {P : Option Value → List zh_LC → zh_M → Prop} {a1 : Int32} {K : Int32 → zh_M → Prop} (hp : pc + 3 = pn) (hd : decode cc pc = .ok (.invokevirtual idx, 3)) (m1 : Cond.methodLink y.cls idx yX4_call ∈ zh_WS) (hsc : ∀ base b, ((st.map (zh_tr base b)).map fun v => v.category).sum ≤ 8) (h : wp_X4_call M a1 K) (kk : ∀ r M1, K r M1 → zh_W X (d + 3) y cc nL rt pn lo (.int r :: st) zh_LL M1 0 0 P) : zh_W X (d + 3) y cc nL rt pc lo (.int a1 :: .ref 1 :: st) zh_LL M 0 0 P := by
  refine zh_callV (bc := 0) (bs := 0) (bc' := 0) (bs' := 0) (as := [.int a1]) (st := st) hp hd rfl (by decide) rfl rfl m1 me_X4_call.1 me_X4_call.2.1 me_X4_call.2.2.1 me_X4_call.2.2.2 ⟨by decide, by decide, by decide⟩ (by show _ = some 1; decide +kernel) (by intro v hv; simp only [List.mem_cons, List.not_mem_nil, or_false] at hv; rcases hv with rfl <;> (intro _ _; rfl)) hsc (Nat.le_of_ble_eq_true rfl) (by decide) (wk_X4_call  h) (fun r L' M' q => ?_) (fun r L' M' q => ?_)
  · obtain ⟨v, -, rfl, q⟩ := q; rfl
  · obtain ⟨v, rfl, rfl, q⟩ := q; exact kk v M' q
set_option maxRecDepth 100000 in
set_option maxHeartbeats 4000000 in
theorem wk_X2_dropFrame {X : Nat × (Nat → Int32)} {d : Nat} {M : zh_M} {o : Nat} {P : zh_M → Prop} (zo : zf_Fiber o) (h : wp_X2_dropFrame M o P) : zh_W X (d + 0) yX2_dropFrame cX2_dropFrame 2 none 0 (zh_en [.ref o] 2) [] zh_LL M 0 0 (zh_pv P) := by
  unfold wp_X2_dropFrame at h
  show zh_W X (d + 0) yX2_dropFrame cX2_dropFrame 2 none 0 [some (.ref o), none] [] zh_LL M 0 0 (zh_pv P)
  refine zh_aload_n (pn := 1) rfl dX2_dropFrame_0 (i := 0) (v := .ref o) rfl rfl (Or.inr ⟨_, rfl⟩) ?_
  refine zh_get (pn := 4) rfl dX2_dropFrame_1 (v := .ref (o + 1)) (k := 0) (at_Fiber zo) rfl (by decide) (by decide) in_X2 mf_X2_9 rfl ?_
  refine zh_aload_n (pn := 5) rfl dX2_dropFrame_4 (i := 0) (v := .ref o) rfl rfl (Or.inr ⟨_, rfl⟩) ?_
  refine zh_get (pn := 8) rfl dX2_dropFrame_5 (v := .int (M o 3)) (k := 3) (at_Fiber zo) rfl (by decide) (by decide) in_X2 mf_X2_22 rfl ?_
  refine zh_iconst (pn := 9) rfl dX2_dropFrame_8 (v := (zI 1)) rfl ?_
  refine zh_isub (pn := 10) rfl dX2_dropFrame_9 ?_
  refine zh_iconst (pn := 11) rfl dX2_dropFrame_10 (v := (zI 4)) rfl ?_
  refine zh_imul (pn := 12) rfl dX2_dropFrame_11 ?_
  refine zh_iald (pn := 13) rfl dX2_dropFrame_12 (at_Fiber_1 zo) h.1 ?_
  replace h := h.2
  refine zh_istore_n (pn := 14) rfl dX2_dropFrame_13 (i := 1) (lo' := [some (.ref o), some (.int (M (o + 1) (((M o 3) - (zI 1)) * (zI 4)).toNatClampNeg))]) rfl (by decide) rfl ?_
  refine zh_aload_n (pn := 15) rfl dX2_dropFrame_14 (i := 0) (v := .ref o) rfl rfl (Or.inr ⟨_, rfl⟩) ?_
  refine zh_dup (pn := 16) rfl dX2_dropFrame_15 (fun _ _ => rfl) ?_
  refine zh_get (pn := 19) rfl dX2_dropFrame_16 (v := .int (M o 3)) (k := 3) (at_Fiber zo) rfl (by decide) (by decide) in_X2 mf_X2_22 rfl ?_
  refine zh_iconst (pn := 20) rfl dX2_dropFrame_19 (v := (zI 1)) rfl ?_
  refine zh_isub (pn := 21) rfl dX2_dropFrame_20 ?_
  refine zh_put (pn := 24) rfl dX2_dropFrame_21 (k := 3) (at_Fiber zo) rfl (by decide) (by decide) in_X2 tyX2_ok nmX2 mf_X2_22 rfl rfl rfl rfl ?_
  obtain ⟨M1, eM1⟩ : ∃ q : zh_M, q = zh_set M o 3 ((M o 3) - (zI 1)) := ⟨_, rfl⟩
  replace h := h M1 eM1
  rw [← eM1]
  refine zh_aload_n (pn := 25) rfl dX2_dropFrame_24 (i := 0) (v := .ref o) rfl rfl (Or.inr ⟨_, rfl⟩) ?_
  refine zh_get (pn := 28) rfl dX2_dropFrame_25 (v := .ref (o + 1)) (k := 0) (at_Fiber zo) rfl (by decide) (by decide) in_X2 mf_X2_9 rfl ?_
  refine zh_aload_n (pn := 29) rfl dX2_dropFrame_28 (i := 0) (v := .ref o) rfl rfl (Or.inr ⟨_, rfl⟩) ?_
  refine zh_get (pn := 32) rfl dX2_dropFrame_29 (v := .int (M1 o 3)) (k := 3) (at_Fiber zo) rfl (by decide) (by decide) in_X2 mf_X2_22 rfl ?_
  refine zh_iconst (pn := 33) rfl dX2_dropFrame_32 (v := (zI 1)) rfl ?_
  refine zh_isub (pn := 34) rfl dX2_dropFrame_33 ?_
  refine zh_iconst (pn := 35) rfl dX2_dropFrame_34 (v := (zI 4)) rfl ?_
  refine zh_imul (pn := 36) rfl dX2_dropFrame_35 ?_
  refine zh_iload_n (pn := 37) rfl dX2_dropFrame_36 (i := 1) (x := M (o + 1) (((M o 3) - (zI 1)) * (zI 4)).toNatClampNeg) rfl rfl ?_
  refine zh_iast (pn := 38) rfl dX2_dropFrame_37 (at_Fiber_1 zo) h.1 ?_
  obtain ⟨M2, eM2⟩ : ∃ q : zh_M, q = zh_set M1 (o + 1) (((M1 o 3) - (zI 1)) * (zI 4)).toNatClampNeg (M (o + 1) (((M o 3) - (zI 1)) * (zI 4)).toNatClampNeg) := ⟨_, rfl⟩
  replace h := h.2 M2 eM2
  rw [← eM2]
  exact zh_vret dX2_dropFrame_38 rfl ⟨rfl, rfl, h⟩
set_option maxRecDepth 100000 in
theorem ca_X2_dropFrame {X : Nat × (Nat → Int32)} {d : Nat} {y : MethodName} {cc : ByteArray} {nL : Nat} {rt : Option FieldType} {pc pn idx : Nat} {lo : List (Option Value)} {st : List Value} {M : zh_M} {P : Option Value → List zh_LC → zh_M → Prop} {o : Nat} {K : zh_M → Prop} (hp : pc + 3 = pn) (hd : decode cc pc = .ok (.invokevirtual idx, 3)) (m1 : Cond.methodLink y.cls idx yX2_dropFrame ∈ zh_WS) (zo : zf_Fiber o) (hsc : ∀ base b, ((st.map (zh_tr base b)).map fun v => v.category).sum ≤ 8) (h : wp_X2_dropFrame M o K) (kk : ∀ M1, K M1 → zh_W X (d + 1) y cc nL rt pn lo st zh_LL M1 0 0 P) : zh_W X (d + 1) y cc nL rt pc lo (.ref o :: st) zh_LL M 0 0 P := by
  refine zh_callV (bc := 0) (bs := 0) (bc' := 0) (bs' := 0) (as := []) (st := st) hp hd (at_Fiber zo) (by decide) rfl rfl m1 me_X2_dropFrame.1 me_X2_dropFrame.2.1 me_X2_dropFrame.2.2.1 me_X2_dropFrame.2.2.2 ⟨by decide, by decide, by decide⟩ (by show _ = some 0; decide +kernel) (fun v hv => by cases hv) hsc (Nat.le_of_ble_eq_true rfl) (by decide) (wk_X2_dropFrame zo h) (fun r L' M' q => ?_) (fun r L' M' q => ?_)
  · obtain ⟨-, rfl, q⟩ := q; rfl
  · obtain ⟨rfl, rfl, q⟩ := q; exact kk M' q
