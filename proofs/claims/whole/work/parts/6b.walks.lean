set_option maxRecDepth 100000 in
set_option maxHeartbeats 4000000 in
theorem wk_X4_leave {X : Nat × (Nat → Int32)} {d : Nat} {M : zh_M} {a1 : Int32} {P : Int32 → zh_M → Prop} (h : wp_X4_leave M a1 P) : zh_W X (d + 2) yX4_leave cX4_leave 3 (some .boolean) 0 (zh_en [.ref 1, .int a1] 3) [] zh_LL M 0 0 (zh_pi P) := by
  unfold wp_X4_leave at h
  show zh_W X (d + 2) yX4_leave cX4_leave 3 (some .boolean) 0 [some (.ref 1), some (.int a1), none] [] zh_LL M 0 0 (zh_pi P)
  refine zh_aload_n (pn := 1) rfl dX4_leave_0 (i := 0) (v := .ref 1) rfl rfl (Or.inr ⟨_, rfl⟩) ?_
  refine zh_iload_n (pn := 2) rfl dX4_leave_1 (i := 1) (x := a1) rfl rfl ?_
  refine ca_X4_readyFiber (pn := 5) rfl dX4_leave_2 mc_X4_48 (fun _ _ => Nat.le_of_ble_eq_true rfl) h (fun r2 M1 h => ?_)
  refine zh_astore_n (pn := 6) rfl dX4_leave_5 (i := 2) (lo' := [some (.ref 1), some (.int a1), some (va_rf r2)]) rfl (by decide) (zh_rfor r2) rfl ?_
  refine zh_aload_n (pn := 7) rfl dX4_leave_6 (i := 2) (v := va_rf r2) rfl rfl (zh_rfor r2) ?_
  refine zh_ifnull (pn := 10) rfl dX4_leave_7 (tgt := 18) rfl (fun cc1 => ?_) (fun o3 cc1 => ?_)
  · subst cc1
    replace h := h.1 rfl
    refine zh_iconst (pn := 19) rfl dX4_leave_18 (v := (zI 0)) rfl ?_
    exact zh_iret dX4_leave_19 rfl rfl ⟨_, rfl, rfl, h⟩
  · subst cc1
    obtain ⟨zo3, h⟩ := h.2 o3 rfl
    refine zh_aload_n (pn := 11) rfl dX4_leave_10 (i := 2) (v := .ref o3) rfl rfl (Or.inr ⟨_, rfl⟩) ?_
    refine zh_get (pn := 14) rfl dX4_leave_11 (v := .int (M1 o3 3)) (k := 3) (at_Fiber zo3) rfl (by decide) (by decide) in_X2 mf_X4_73 rfl ?_
    refine zh_iconst (pn := 15) rfl dX4_leave_14 (v := (zI 1)) rfl ?_
    refine zh_icmp_gt (pn := 18) rfl dX4_leave_15 (tgt := 20) rfl (fun cc1 => ?_) (fun cc1 => ?_)
    · replace h := h.1 cc1
      refine zh_aload_n (pn := 21) rfl dX4_leave_20 (i := 2) (v := .ref o3) rfl rfl (Or.inr ⟨_, rfl⟩) ?_
      refine ca_X2_dropFrame (pn := 24) rfl dX4_leave_21 mc_X4_79 zo3 (fun _ _ => Nat.le_of_ble_eq_true rfl) h (fun M4 h => ?_)
      refine zh_iconst (pn := 25) rfl dX4_leave_24 (v := (zI 1)) rfl ?_
      exact zh_iret dX4_leave_25 rfl rfl ⟨_, rfl, rfl, h⟩
    · replace h := h.2 cc1
      refine zh_iconst (pn := 19) rfl dX4_leave_18 (v := (zI 0)) rfl ?_
      exact zh_iret dX4_leave_19 rfl rfl ⟨_, rfl, rfl, h⟩
set_option maxRecDepth 100000 in
theorem ca_X4_leave {X : Nat × (Nat → Int32)} {d : Nat} {y : MethodName} {cc : ByteArray} {nL : Nat} {rt : Option FieldType} {pc pn idx : Nat} {lo : List (Option Value)} {st : List Value} {M : zh_M} {P : Option Value → List zh_LC → zh_M → Prop} {a1 : Int32} {K : Int32 → zh_M → Prop} (hp : pc + 3 = pn) (hd : decode cc pc = .ok (.invokevirtual idx, 3)) (m1 : Cond.methodLink y.cls idx yX4_leave ∈ zh_WS) (hsc : ∀ base b, ((st.map (zh_tr base b)).map fun v => v.category).sum ≤ 8) (h : wp_X4_leave M a1 K) (kk : ∀ r M1, K r M1 → zh_W X (d + 3) y cc nL rt pn lo (.int r :: st) zh_LL M1 0 0 P) : zh_W X (d + 3) y cc nL rt pc lo (.int a1 :: .ref 1 :: st) zh_LL M 0 0 P := by
  refine zh_callV (bc := 0) (bs := 0) (bc' := 0) (bs' := 0) (as := [.int a1]) (st := st) hp hd rfl (by decide) rfl rfl m1 me_X4_leave.1 me_X4_leave.2.1 me_X4_leave.2.2.1 me_X4_leave.2.2.2 ⟨by decide, by decide, by decide⟩ (by show _ = some 1; decide +kernel) (by intro v hv; simp only [List.mem_cons, List.not_mem_nil, or_false] at hv; rcases hv with rfl <;> (intro _ _; rfl)) hsc (Nat.le_of_ble_eq_true rfl) (by decide) (wk_X4_leave  h) (fun r L' M' q => ?_) (fun r L' M' q => ?_)
  · obtain ⟨v, -, rfl, q⟩ := q; rfl
  · obtain ⟨v, rfl, rfl, q⟩ := q; exact kk v M' q
set_option maxRecDepth 100000 in
set_option maxHeartbeats 4000000 in
theorem wk_X4_aim {X : Nat × (Nat → Int32)} {d : Nat} {M : zh_M} {a1 : Int32} {a2 : Int32} {P : Int32 → zh_M → Prop} (h : wp_X4_aim M a1 a2 P) : zh_W X (d + 2) yX4_aim cX4_aim 4 (some .boolean) 0 (zh_en [.ref 1, .int a1, .int a2] 4) [] zh_LL M 0 0 (zh_pi P) := by
  unfold wp_X4_aim at h
  show zh_W X (d + 2) yX4_aim cX4_aim 4 (some .boolean) 0 [some (.ref 1), some (.int a1), some (.int a2), none] [] zh_LL M 0 0 (zh_pi P)
  refine zh_aload_n (pn := 1) rfl dX4_aim_0 (i := 0) (v := .ref 1) rfl rfl (Or.inr ⟨_, rfl⟩) ?_
  refine zh_iload_n (pn := 2) rfl dX4_aim_1 (i := 1) (x := a1) rfl rfl ?_
  refine ca_X4_readyFiber (pn := 5) rfl dX4_aim_2 mc_X4_48 (fun _ _ => Nat.le_of_ble_eq_true rfl) h (fun r2 M1 h => ?_)
  refine zh_astore_n (pn := 6) rfl dX4_aim_5 (i := 3) (lo' := [some (.ref 1), some (.int a1), some (.int a2), some (va_rf r2)]) rfl (by decide) (zh_rfor r2) rfl ?_
  refine zh_aload_n (pn := 7) rfl dX4_aim_6 (i := 3) (v := va_rf r2) rfl rfl (zh_rfor r2) ?_
  refine zh_ifnull (pn := 10) rfl dX4_aim_7 (tgt := 19) rfl (fun cc1 => ?_) (fun o3 cc1 => ?_)
  · subst cc1
    replace h := h.1 rfl
    refine zh_iconst (pn := 20) rfl dX4_aim_19 (v := (zI 0)) rfl ?_
    exact zh_iret dX4_aim_20 rfl rfl ⟨_, rfl, rfl, h⟩
  · subst cc1
    obtain ⟨zo3, h⟩ := h.2 o3 rfl
    refine zh_iload_n (pn := 11) rfl dX4_aim_10 (i := 2) (x := a2) rfl rfl ?_
    refine zh_if_lt (pn := 14) rfl dX4_aim_11 (tgt := 19) rfl (fun cc1 => ?_) (fun cc1 => ?_)
    · replace h := h.1 cc1
      refine zh_iconst (pn := 20) rfl dX4_aim_19 (v := (zI 0)) rfl ?_
      exact zh_iret dX4_aim_20 rfl rfl ⟨_, rfl, rfl, h⟩
    · replace h := h.2 cc1
      refine zh_iload_n (pn := 15) rfl dX4_aim_14 (i := 2) (x := a2) rfl rfl ?_
      refine zh_iconst (pn := 16) rfl dX4_aim_15 (v := (zI 4)) rfl ?_
      refine zh_icmp_lt (pn := 19) rfl dX4_aim_16 (tgt := 21) rfl (fun cc1 => ?_) (fun cc1 => ?_)
      · replace h := h.1 cc1
        refine zh_aload_n (pn := 22) rfl dX4_aim_21 (i := 3) (v := .ref o3) rfl rfl (Or.inr ⟨_, rfl⟩) ?_
        refine zh_get (pn := 25) rfl dX4_aim_22 (v := .ref (o3 + 2)) (k := 1) (at_Fiber zo3) rfl (by decide) (by decide) in_X2 mf_X4_82 rfl ?_
        refine zh_aload_n (pn := 26) rfl dX4_aim_25 (i := 3) (v := .ref o3) rfl rfl (Or.inr ⟨_, rfl⟩) ?_
        refine zh_get (pn := 29) rfl dX4_aim_26 (v := .int (M1 o3 3)) (k := 3) (at_Fiber zo3) rfl (by decide) (by decide) in_X2 mf_X4_73 rfl ?_
        refine zh_iconst (pn := 30) rfl dX4_aim_29 (v := (zI 1)) rfl ?_
        refine zh_isub (pn := 31) rfl dX4_aim_30 ?_
        refine zh_aload_n (pn := 32) rfl dX4_aim_31 (i := 3) (v := .ref o3) rfl rfl (Or.inr ⟨_, rfl⟩) ?_
        refine zh_iload_n (pn := 33) rfl dX4_aim_32 (i := 2) (x := a2) rfl rfl ?_
        refine ca_X2_cellIndex (pn := 36) rfl dX4_aim_33 mc_X4_86 zo3 (fun _ _ => Nat.le_of_ble_eq_true rfl) h (fun r5 M4 h => ?_)
        refine zh_iast (pn := 37) rfl dX4_aim_36 (at_Fiber_2 zo3) h.1 ?_
        obtain ⟨M6, eM6⟩ : ∃ q : zh_M, q = zh_set M4 (o3 + 2) ((M1 o3 3) - (zI 1)).toNatClampNeg r5 := ⟨_, rfl⟩
        replace h := h.2 M6 eM6
        rw [← eM6]
        refine zh_iconst (pn := 38) rfl dX4_aim_37 (v := (zI 1)) rfl ?_
        exact zh_iret dX4_aim_38 rfl rfl ⟨_, rfl, rfl, h⟩
      · replace h := h.2 cc1
        refine zh_iconst (pn := 20) rfl dX4_aim_19 (v := (zI 0)) rfl ?_
        exact zh_iret dX4_aim_20 rfl rfl ⟨_, rfl, rfl, h⟩
set_option maxRecDepth 100000 in
theorem ca_X4_aim {X : Nat × (Nat → Int32)} {d : Nat} {y : MethodName} {cc : ByteArray} {nL : Nat} {rt : Option FieldType} {pc pn idx : Nat} {lo : List (Option Value)} {st : List Value} {M : zh_M} {P : Option Value → List zh_LC → zh_M → Prop} {a1 : Int32} {a2 : Int32} {K : Int32 → zh_M → Prop} (hp : pc + 3 = pn) (hd : decode cc pc = .ok (.invokevirtual idx, 3)) (m1 : Cond.methodLink y.cls idx yX4_aim ∈ zh_WS) (hsc : ∀ base b, ((st.map (zh_tr base b)).map fun v => v.category).sum ≤ 8) (h : wp_X4_aim M a1 a2 K) (kk : ∀ r M1, K r M1 → zh_W X (d + 3) y cc nL rt pn lo (.int r :: st) zh_LL M1 0 0 P) : zh_W X (d + 3) y cc nL rt pc lo (.int a2 :: .int a1 :: .ref 1 :: st) zh_LL M 0 0 P := by
  refine zh_callV (bc := 0) (bs := 0) (bc' := 0) (bs' := 0) (as := [.int a1, .int a2]) (st := st) hp hd rfl (by decide) rfl rfl m1 me_X4_aim.1 me_X4_aim.2.1 me_X4_aim.2.2.1 me_X4_aim.2.2.2 ⟨by decide, by decide, by decide⟩ (by show _ = some 2; decide +kernel) (by intro v hv; simp only [List.mem_cons, List.not_mem_nil, or_false] at hv; rcases hv with rfl | rfl <;> (intro _ _; rfl)) hsc (Nat.le_of_ble_eq_true rfl) (by decide) (wk_X4_aim  h) (fun r L' M' q => ?_) (fun r L' M' q => ?_)
  · obtain ⟨v, -, rfl, q⟩ := q; rfl
  · obtain ⟨v, rfl, rfl, q⟩ := q; exact kk v M' q
set_option maxRecDepth 100000 in
set_option maxHeartbeats 4000000 in
theorem wk_X2_fillCell {X : Nat × (Nat → Int32)} {d : Nat} {M : zh_M} {o : Nat} {a1 : Int32} {a2 : Int32} {P : zh_M → Prop} (zo : zf_Fiber o) (h : wp_X2_fillCell M o a1 a2 P) : zh_W X (d + 1) yX2_fillCell cX2_fillCell 4 none 0 (zh_en [.ref o, .int a1, .int a2] 4) [] zh_LL M 0 0 (zh_pv P) := by
  unfold wp_X2_fillCell at h
  show zh_W X (d + 1) yX2_fillCell cX2_fillCell 4 none 0 [some (.ref o), some (.int a1), some (.int a2), none] [] zh_LL M 0 0 (zh_pv P)
  refine zh_aload_n (pn := 1) rfl dX2_fillCell_0 (i := 0) (v := .ref o) rfl rfl (Or.inr ⟨_, rfl⟩) ?_
  refine zh_iload_n (pn := 2) rfl dX2_fillCell_1 (i := 1) (x := a1) rfl rfl ?_
  refine ca_X2_cellIndex (pn := 5) rfl dX2_fillCell_2 mc_X2_35 zo (fun _ _ => Nat.le_of_ble_eq_true rfl) h (fun r2 M1 h => ?_)
  refine zh_istore_n (pn := 6) rfl dX2_fillCell_5 (i := 3) (lo' := [some (.ref o), some (.int a1), some (.int a2), some (.int r2)]) rfl (by decide) rfl ?_
  refine zh_iload_n (pn := 7) rfl dX2_fillCell_6 (i := 3) (x := r2) rfl rfl ?_
  refine zh_iconst (pn := 8) rfl dX2_fillCell_7 (v := (zI (-1))) rfl ?_
  refine zh_icmp_eq (pn := 11) rfl dX2_fillCell_8 (tgt := 18) rfl (fun cc1 => ?_) (fun cc1 => ?_)
  · replace h := h.1 cc1
    exact zh_vret dX2_fillCell_18 rfl ⟨rfl, rfl, h⟩
  · replace h := h.2 cc1
    refine zh_aload_n (pn := 12) rfl dX2_fillCell_11 (i := 0) (v := .ref o) rfl rfl (Or.inr ⟨_, rfl⟩) ?_
    refine zh_get (pn := 15) rfl dX2_fillCell_12 (v := .ref (o + 1)) (k := 0) (at_Fiber zo) rfl (by decide) (by decide) in_X2 mf_X2_9 rfl ?_
    refine zh_iload_n (pn := 16) rfl dX2_fillCell_15 (i := 3) (x := r2) rfl rfl ?_
    refine zh_iload_n (pn := 17) rfl dX2_fillCell_16 (i := 2) (x := a2) rfl rfl ?_
    refine zh_iast (pn := 18) rfl dX2_fillCell_17 (at_Fiber_1 zo) h.1 ?_
    obtain ⟨M3, eM3⟩ : ∃ q : zh_M, q = zh_set M1 (o + 1) r2.toNatClampNeg a2 := ⟨_, rfl⟩
    replace h := h.2 M3 eM3
    rw [← eM3]
    exact zh_vret dX2_fillCell_18 rfl ⟨rfl, rfl, h⟩
set_option maxRecDepth 100000 in
theorem ca_X2_fillCell {X : Nat × (Nat → Int32)} {d : Nat} {y : MethodName} {cc : ByteArray} {nL : Nat} {rt : Option FieldType} {pc pn idx : Nat} {lo : List (Option Value)} {st : List Value} {M : zh_M} {P : Option Value → List zh_LC → zh_M → Prop} {o : Nat} {a1 : Int32} {a2 : Int32} {K : zh_M → Prop} (hp : pc + 3 = pn) (hd : decode cc pc = .ok (.invokevirtual idx, 3)) (m1 : Cond.methodLink y.cls idx yX2_fillCell ∈ zh_WS) (zo : zf_Fiber o) (hsc : ∀ base b, ((st.map (zh_tr base b)).map fun v => v.category).sum ≤ 8) (h : wp_X2_fillCell M o a1 a2 K) (kk : ∀ M1, K M1 → zh_W X (d + 2) y cc nL rt pn lo st zh_LL M1 0 0 P) : zh_W X (d + 2) y cc nL rt pc lo (.int a2 :: .int a1 :: .ref o :: st) zh_LL M 0 0 P := by
  refine zh_callV (bc := 0) (bs := 0) (bc' := 0) (bs' := 0) (as := [.int a1, .int a2]) (st := st) hp hd (at_Fiber zo) (by decide) rfl rfl m1 me_X2_fillCell.1 me_X2_fillCell.2.1 me_X2_fillCell.2.2.1 me_X2_fillCell.2.2.2 ⟨by decide, by decide, by decide⟩ (by show _ = some 2; decide +kernel) (by intro v hv; simp only [List.mem_cons, List.not_mem_nil, or_false] at hv; rcases hv with rfl | rfl <;> (intro _ _; rfl)) hsc (Nat.le_of_ble_eq_true rfl) (by decide) (wk_X2_fillCell zo h) (fun r L' M' q => ?_) (fun r L' M' q => ?_)
  · obtain ⟨-, rfl, q⟩ := q; rfl
  · obtain ⟨rfl, rfl, q⟩ := q; exact kk M' q
set_option maxRecDepth 100000 in
set_option maxHeartbeats 4000000 in
theorem wk_X4_copy {X : Nat × (Nat → Int32)} {d : Nat} {M : zh_M} {a1 : Int32} {a2 : Int32} {a3 : Int32} {P : Int32 → zh_M → Prop} (h : wp_X4_copy M a1 a2 a3 P) : zh_W X (d + 3) yX4_copy cX4_copy 5 (some .boolean) 0 (zh_en [.ref 1, .int a1, .int a2, .int a3] 5) [] zh_LL M 0 0 (zh_pi P) := by
  unfold wp_X4_copy at h
  show zh_W X (d + 3) yX4_copy cX4_copy 5 (some .boolean) 0 [some (.ref 1), some (.int a1), some (.int a2), some (.int a3), none] [] zh_LL M 0 0 (zh_pi P)
  refine zh_aload_n (pn := 1) rfl dX4_copy_0 (i := 0) (v := .ref 1) rfl rfl (Or.inr ⟨_, rfl⟩) ?_
  refine zh_iload_n (pn := 2) rfl dX4_copy_1 (i := 1) (x := a1) rfl rfl ?_
  refine ca_X4_readyFiber (pn := 5) rfl dX4_copy_2 mc_X4_48 (fun _ _ => Nat.le_of_ble_eq_true rfl) h (fun r2 M1 h => ?_)
  refine zh_astore (pn := 7) rfl dX4_copy_5 (i := 4) (lo' := [some (.ref 1), some (.int a1), some (.int a2), some (.int a3), some (va_rf r2)]) (by decide) (zh_rfor r2) rfl ?_
  refine zh_aload (pn := 9) rfl dX4_copy_7 (i := 4) (v := va_rf r2) rfl (zh_rfor r2) ?_
  refine zh_ifnull (pn := 12) rfl dX4_copy_9 (tgt := 30) rfl (fun cc1 => ?_) (fun o3 cc1 => ?_)
  · subst cc1
    replace h := h.1 rfl
    refine zh_iconst (pn := 31) rfl dX4_copy_30 (v := (zI 0)) rfl ?_
    exact zh_iret dX4_copy_31 rfl rfl ⟨_, rfl, rfl, h⟩
  · subst cc1
    obtain ⟨zo3, h⟩ := h.2 o3 rfl
    refine zh_aload (pn := 14) rfl dX4_copy_12 (i := 4) (v := .ref o3) rfl (Or.inr ⟨_, rfl⟩) ?_
    refine zh_iload_n (pn := 15) rfl dX4_copy_14 (i := 2) (x := a2) rfl rfl ?_
    refine ca_X2_isCell (pn := 18) rfl dX4_copy_15 mc_X4_89 zo3 (fun _ _ => Nat.le_of_ble_eq_true rfl) h (fun r5 M4 h => ?_)
    refine zh_if_eq (pn := 21) rfl dX4_copy_18 (tgt := 30) rfl (fun cc1 => ?_) (fun cc1 => ?_)
    · replace h := h.1 cc1
      refine zh_iconst (pn := 31) rfl dX4_copy_30 (v := (zI 0)) rfl ?_
      exact zh_iret dX4_copy_31 rfl rfl ⟨_, rfl, rfl, h⟩
    · replace h := h.2 cc1
      refine zh_aload (pn := 23) rfl dX4_copy_21 (i := 4) (v := .ref o3) rfl (Or.inr ⟨_, rfl⟩) ?_
      refine zh_iload_n (pn := 24) rfl dX4_copy_23 (i := 3) (x := a3) rfl rfl ?_
      refine ca_X2_isSource (pn := 27) rfl dX4_copy_24 mc_X4_56 zo3 (fun _ _ => Nat.le_of_ble_eq_true rfl) h (fun r7 M6 h => ?_)
      refine zh_if_ne (pn := 30) rfl dX4_copy_27 (tgt := 32) rfl (fun cc1 => ?_) (fun cc1 => ?_)
      · replace h := h.1 cc1
        refine zh_aload (pn := 34) rfl dX4_copy_32 (i := 4) (v := .ref o3) rfl (Or.inr ⟨_, rfl⟩) ?_
        refine zh_iload_n (pn := 35) rfl dX4_copy_34 (i := 2) (x := a2) rfl rfl ?_
        refine zh_aload (pn := 37) rfl dX4_copy_35 (i := 4) (v := .ref o3) rfl (Or.inr ⟨_, rfl⟩) ?_
        refine zh_iload_n (pn := 38) rfl dX4_copy_37 (i := 3) (x := a3) rfl rfl ?_
        refine ca_X2_pointerFrom (pn := 41) rfl dX4_copy_38 mc_X4_60 zo3 (fun _ _ => Nat.le_of_ble_eq_true rfl) h (fun r9 M8 h => ?_)
        refine ca_X2_fillCell (pn := 44) rfl dX4_copy_41 mc_X4_92 zo3 (fun _ _ => Nat.le_of_ble_eq_true rfl) h (fun M10 h => ?_)
        refine zh_iconst (pn := 45) rfl dX4_copy_44 (v := (zI 1)) rfl ?_
        exact zh_iret dX4_copy_45 rfl rfl ⟨_, rfl, rfl, h⟩
      · replace h := h.2 cc1
        refine zh_iconst (pn := 31) rfl dX4_copy_30 (v := (zI 0)) rfl ?_
        exact zh_iret dX4_copy_31 rfl rfl ⟨_, rfl, rfl, h⟩
set_option maxRecDepth 100000 in
theorem ca_X4_copy {X : Nat × (Nat → Int32)} {d : Nat} {y : MethodName} {cc : ByteArray} {nL : Nat} {rt : Option FieldType} {pc pn idx : Nat} {lo : List (Option Value)} {st : List Value} {M : zh_M} {P : Option Value → List zh_LC → zh_M → Prop} {a1 : Int32} {a2 : Int32} {a3 : Int32} {K : Int32 → zh_M → Prop} (hp : pc + 3 = pn) (hd : decode cc pc = .ok (.invokevirtual idx, 3)) (m1 : Cond.methodLink y.cls idx yX4_copy ∈ zh_WS) (hsc : ∀ base b, ((st.map (zh_tr base b)).map fun v => v.category).sum ≤ 8) (h : wp_X4_copy M a1 a2 a3 K) (kk : ∀ r M1, K r M1 → zh_W X (d + 4) y cc nL rt pn lo (.int r :: st) zh_LL M1 0 0 P) : zh_W X (d + 4) y cc nL rt pc lo (.int a3 :: .int a2 :: .int a1 :: .ref 1 :: st) zh_LL M 0 0 P := by
  refine zh_callV (bc := 0) (bs := 0) (bc' := 0) (bs' := 0) (as := [.int a1, .int a2, .int a3]) (st := st) hp hd rfl (by decide) rfl rfl m1 me_X4_copy.1 me_X4_copy.2.1 me_X4_copy.2.2.1 me_X4_copy.2.2.2 ⟨by decide, by decide, by decide⟩ (by show _ = some 3; decide +kernel) (by intro v hv; simp only [List.mem_cons, List.not_mem_nil, or_false] at hv; rcases hv with rfl | rfl | rfl <;> (intro _ _; rfl)) hsc (Nat.le_of_ble_eq_true rfl) (by decide) (wk_X4_copy  h) (fun r L' M' q => ?_) (fun r L' M' q => ?_)
  · obtain ⟨v, -, rfl, q⟩ := q; rfl
  · obtain ⟨v, rfl, rfl, q⟩ := q; exact kk v M' q
set_option maxRecDepth 100000 in
set_option maxHeartbeats 4000000 in
theorem wk_X3_slotWordsFor {X : Nat × (Nat → Int32)} {d : Nat} {M : zh_M} {a1 : Int32} {P : Int32 → zh_M → Prop} (h : wp_X3_slotWordsFor M a1 P) : zh_W X (d + 0) yX3_slotWordsFor cX3_slotWordsFor 1 (some .int) 0 (zh_en [.int a1] 1) [] zh_LL M 0 0 (zh_pi P) := by
  unfold wp_X3_slotWordsFor at h
  show zh_W X (d + 0) yX3_slotWordsFor cX3_slotWordsFor 1 (some .int) 0 [some (.int a1)] [] zh_LL M 0 0 (zh_pi P)
  refine zh_iload_n (pn := 1) rfl dX3_slotWordsFor_0 (i := 0) (x := a1) rfl rfl ?_
  refine zh_iconst (pn := 2) rfl dX3_slotWordsFor_1 (v := (zI 2)) rfl ?_
  refine zh_icmp_gt (pn := 5) rfl dX3_slotWordsFor_2 (tgt := 7) rfl (fun cc1 => ?_) (fun cc1 => ?_)
  · replace h := h.1 cc1
    refine zh_iload_n (pn := 8) rfl dX3_slotWordsFor_7 (i := 0) (x := a1) rfl rfl ?_
    refine zh_iconst (pn := 9) rfl dX3_slotWordsFor_8 (v := (zI 4)) rfl ?_
    refine zh_icmp_gt (pn := 12) rfl dX3_slotWordsFor_9 (tgt := 14) rfl (fun cc1 => ?_) (fun cc1 => ?_)
    · replace h := h.1 cc1
      refine zh_iload_n (pn := 15) rfl dX3_slotWordsFor_14 (i := 0) (x := a1) rfl rfl ?_
      refine zh_bipush (pn := 17) rfl dX3_slotWordsFor_15 (v := (zI 8)) rfl ?_
      refine zh_icmp_gt (pn := 20) rfl dX3_slotWordsFor_17 (tgt := 23) rfl (fun cc1 => ?_) (fun cc1 => ?_)
      · replace h := h.1 cc1
        refine zh_iload_n (pn := 24) rfl dX3_slotWordsFor_23 (i := 0) (x := a1) rfl rfl ?_
        refine zh_bipush (pn := 26) rfl dX3_slotWordsFor_24 (v := (zI 16)) rfl ?_
        refine zh_iadd (pn := 27) rfl dX3_slotWordsFor_26 ?_
        refine zh_iconst (pn := 28) rfl dX3_slotWordsFor_27 (v := (zI 1)) rfl ?_
        refine zh_isub (pn := 29) rfl dX3_slotWordsFor_28 ?_
        refine zh_bipush (pn := 31) rfl dX3_slotWordsFor_29 (v := (zI 16)) rfl ?_
        refine zh_idiv (pn := 32) rfl dX3_slotWordsFor_31 (by decide) ?_
        refine zh_bipush (pn := 34) rfl dX3_slotWordsFor_32 (v := (zI 16)) rfl ?_
        refine zh_imul (pn := 35) rfl dX3_slotWordsFor_34 ?_
        exact zh_iret dX3_slotWordsFor_35 rfl rfl ⟨_, rfl, rfl, h⟩
      · replace h := h.2 cc1
        refine zh_bipush (pn := 22) rfl dX3_slotWordsFor_20 (v := (zI 8)) rfl ?_
        exact zh_iret dX3_slotWordsFor_22 rfl rfl ⟨_, rfl, rfl, h⟩
    · replace h := h.2 cc1
      refine zh_iconst (pn := 13) rfl dX3_slotWordsFor_12 (v := (zI 4)) rfl ?_
      exact zh_iret dX3_slotWordsFor_13 rfl rfl ⟨_, rfl, rfl, h⟩
  · replace h := h.2 cc1
    refine zh_iconst (pn := 6) rfl dX3_slotWordsFor_5 (v := (zI 2)) rfl ?_
    exact zh_iret dX3_slotWordsFor_6 rfl rfl ⟨_, rfl, rfl, h⟩
set_option maxRecDepth 100000 in
theorem ca_X3_slotWordsFor {X : Nat × (Nat → Int32)} {d : Nat} {y : MethodName} {cc : ByteArray} {nL : Nat} {rt : Option FieldType} {pc pn idx : Nat} {lo : List (Option Value)} {st : List Value} {M : zh_M} {P : Option Value → List zh_LC → zh_M → Prop} {a1 : Int32} {K : Int32 → zh_M → Prop} (hp : pc + 3 = pn) (hd : decode cc pc = .ok (.invokestatic idx, 3)) (m1 : Cond.methodLink y.cls idx yX3_slotWordsFor ∈ zh_WS) (hsc : ∀ base b, ((st.map (zh_tr base b)).map fun v => v.category).sum ≤ 8) (h : wp_X3_slotWordsFor M a1 K) (kk : ∀ r M1, K r M1 → zh_W X (d + 1) y cc nL rt pn lo (.int r :: st) zh_LL M1 0 0 P) : zh_W X (d + 1) y cc nL rt pc lo (.int a1 :: st) zh_LL M 0 0 P := by
  refine zh_callS (bc := 0) (bs := 0) (bc' := 0) (bs' := 0) (as := [.int a1]) (st := st) hp hd m1 me_X3_slotWordsFor.1 me_X3_slotWordsFor.2.1 me_X3_slotWordsFor.2.2 ⟨by decide, by decide, by decide⟩ (by show _ = some 1; decide +kernel) (by intro v hv; simp only [List.mem_cons, List.not_mem_nil, or_false] at hv; rcases hv with rfl <;> (intro _ _; rfl)) hsc (Nat.le_of_ble_eq_true rfl) (by decide) (wk_X3_slotWordsFor  h) (fun r L' M' q => ?_) (fun r L' M' q => ?_)
  · obtain ⟨v, -, rfl, q⟩ := q; rfl
  · obtain ⟨v, rfl, rfl, q⟩ := q; exact kk v M' q
set_option maxRecDepth 100000 in
set_option maxHeartbeats 4000000 in
theorem wk_X3_pagesOfSpan {X : Nat × (Nat → Int32)} {d : Nat} {M : zh_M} {a1 : Int32} {P : Int32 → zh_M → Prop} (h : wp_X3_pagesOfSpan M a1 P) : zh_W X (d + 1) yX3_pagesOfSpan cX3_pagesOfSpan 1 (some .int) 0 (zh_en [.int a1] 1) [] zh_LL M 0 0 (zh_pi P) := by
  unfold wp_X3_pagesOfSpan at h
  show zh_W X (d + 1) yX3_pagesOfSpan cX3_pagesOfSpan 1 (some .int) 0 [some (.int a1)] [] zh_LL M 0 0 (zh_pi P)
  refine zh_iconst (pn := 1) rfl dX3_pagesOfSpan_0 (v := (zI 1)) rfl ?_
  refine zh_iload_n (pn := 2) rfl dX3_pagesOfSpan_1 (i := 0) (x := a1) rfl rfl ?_
  refine zh_bipush (pn := 4) rfl dX3_pagesOfSpan_2 (v := (zI 16)) rfl ?_
  refine zh_idiv (pn := 5) rfl dX3_pagesOfSpan_4 (by decide) ?_
  refine zh_max (pn := 8) rfl dX3_pagesOfSpan_5 mc_X3_35 me_max.1 me_max.2.1 me_max.2.2 (fun _ _ => Nat.le_of_ble_eq_true rfl) ?_
  exact zh_iret dX3_pagesOfSpan_8 rfl rfl ⟨_, rfl, rfl, h⟩
set_option maxRecDepth 100000 in
theorem ca_X3_pagesOfSpan {X : Nat × (Nat → Int32)} {d : Nat} {y : MethodName} {cc : ByteArray} {nL : Nat} {rt : Option FieldType} {pc pn idx : Nat} {lo : List (Option Value)} {st : List Value} {M : zh_M} {P : Option Value → List zh_LC → zh_M → Prop} {a1 : Int32} {K : Int32 → zh_M → Prop} (hp : pc + 3 = pn) (hd : decode cc pc = .ok (.invokestatic idx, 3)) (m1 : Cond.methodLink y.cls idx yX3_pagesOfSpan ∈ zh_WS) (hsc : ∀ base b, ((st.map (zh_tr base b)).map fun v => v.category).sum ≤ 8) (h : wp_X3_pagesOfSpan M a1 K) (kk : ∀ r M1, K r M1 → zh_W X (d + 2) y cc nL rt pn lo (.int r :: st) zh_LL M1 0 0 P) : zh_W X (d + 2) y cc nL rt pc lo (.int a1 :: st) zh_LL M 0 0 P := by
  refine zh_callS (bc := 0) (bs := 0) (bc' := 0) (bs' := 0) (as := [.int a1]) (st := st) hp hd m1 me_X3_pagesOfSpan.1 me_X3_pagesOfSpan.2.1 me_X3_pagesOfSpan.2.2 ⟨by decide, by decide, by decide⟩ (by show _ = some 1; decide +kernel) (by intro v hv; simp only [List.mem_cons, List.not_mem_nil, or_false] at hv; rcases hv with rfl <;> (intro _ _; rfl)) hsc (Nat.le_of_ble_eq_true rfl) (by decide) (wk_X3_pagesOfSpan  h) (fun r L' M' q => ?_) (fun r L' M' q => ?_)
  · obtain ⟨v, -, rfl, q⟩ := q; rfl
  · obtain ⟨v, rfl, rfl, q⟩ := q; exact kk v M' q
set_option maxRecDepth 100000 in
set_option maxHeartbeats 4000000 in
theorem wkl_X3_fillPages_3 {X : Nat × (Nat → Int32)} {d : Nat} {P : zh_M → Prop} {l1 : Int32} {l2 : Int32} {l3 : Int32} : ∀ (n : Nat) (l4 : Int32) (M : zh_M) , wl_X3_fillPages_3 l1 l2 l3 P n l4 M → zh_W X (d + 0) yX3_fillPages cX3_fillPages 5 none 3 [some (.ref 2), some (.int l1), some (.int l2), some (.int l3), some (.int l4)] [] zh_LL M 0 0 (zh_pv P) := by
  intro n
  induction n with
  | zero => intro l4 M  h; exact h.elim
  | succ n ih =>
    intro l4 M  h
    unfold wl_X3_fillPages_3 at h
    refine zh_iload (pn := 5) rfl dX3_fillPages_3 (i := 4) (x := l4) rfl ?_
    refine zh_iload_n (pn := 6) rfl dX3_fillPages_5 (i := 1) (x := l1) rfl rfl ?_
    refine zh_iload_n (pn := 7) rfl dX3_fillPages_6 (i := 2) (x := l2) rfl rfl ?_
    refine zh_iadd (pn := 8) rfl dX3_fillPages_7 ?_
    refine zh_icmp_ge (pn := 11) rfl dX3_fillPages_8 (tgt := 32) rfl (fun cc1 => ?_) (fun cc1 => ?_)
    · replace h := h.1 cc1
      exact zh_vret dX3_fillPages_32 rfl ⟨rfl, rfl, h⟩
    · replace h := h.2 cc1
      refine zh_iload (pn := 13) rfl dX3_fillPages_11 (i := 4) (x := l4) rfl ?_
      refine zh_bipush (pn := 15) rfl dX3_fillPages_13 (v := (zI 16)) rfl ?_
      refine zh_icmp_ge (pn := 18) rfl dX3_fillPages_15 (tgt := 32) rfl (fun cc1 => ?_) (fun cc1 => ?_)
      · replace h := h.1 cc1
        exact zh_vret dX3_fillPages_32 rfl ⟨rfl, rfl, h⟩
      · replace h := h.2 cc1
        refine zh_aload_n (pn := 19) rfl dX3_fillPages_18 (i := 0) (v := .ref 2) rfl rfl (Or.inr ⟨_, rfl⟩) ?_
        refine zh_get (pn := 22) rfl dX3_fillPages_19 (v := .ref 4) (k := 1) rfl rfl (by decide) (by decide) in_X3 mf_X3_15 rfl ?_
        refine zh_iload (pn := 24) rfl dX3_fillPages_22 (i := 4) (x := l4) rfl ?_
        refine zh_iload_n (pn := 25) rfl dX3_fillPages_24 (i := 3) (x := l3) rfl rfl ?_
        refine zh_iast (pn := 26) rfl dX3_fillPages_25 rfl h.1 ?_
        obtain ⟨M1, eM1⟩ : ∃ q : zh_M, q = zh_set M 4 l4.toNatClampNeg l3 := ⟨_, rfl⟩
        replace h := h.2 M1 eM1
        rw [← eM1]
        refine zh_iinc (pn := 29) rfl dX3_fillPages_26 (i := 4) (x := l4) (v := l4 + (zI 1)) (lo' := [some (.ref 2), some (.int l1), some (.int l2), some (.int l3), some (.int (l4 + (zI 1)))]) rfl rfl (by decide) rfl ?_
        refine zh_goto dX3_fillPages_29 (tgt := 3) rfl ?_
        exact ih _ _ h
set_option maxRecDepth 100000 in
set_option maxHeartbeats 4000000 in
theorem wk_X3_fillPages {X : Nat × (Nat → Int32)} {d : Nat} {M : zh_M} {a1 : Int32} {a2 : Int32} {a3 : Int32} {P : zh_M → Prop} (h : wp_X3_fillPages M a1 a2 a3 P) : zh_W X (d + 0) yX3_fillPages cX3_fillPages 5 none 0 (zh_en [.ref 2, .int a1, .int a2, .int a3] 5) [] zh_LL M 0 0 (zh_pv P) := by
  unfold wp_X3_fillPages at h
  show zh_W X (d + 0) yX3_fillPages cX3_fillPages 5 none 0 [some (.ref 2), some (.int a1), some (.int a2), some (.int a3), none] [] zh_LL M 0 0 (zh_pv P)
  refine zh_iload_n (pn := 1) rfl dX3_fillPages_0 (i := 1) (x := a1) rfl rfl ?_
  refine zh_istore (pn := 3) rfl dX3_fillPages_1 (i := 4) (lo' := [some (.ref 2), some (.int a1), some (.int a2), some (.int a3), some (.int a1)]) (by decide) rfl ?_
  obtain ⟨n2, h⟩ := h
  refine wkl_X3_fillPages_3 n2 _ _ h
set_option maxRecDepth 100000 in
theorem ca_X3_fillPages {X : Nat × (Nat → Int32)} {d : Nat} {y : MethodName} {cc : ByteArray} {nL : Nat} {rt : Option FieldType} {pc pn idx : Nat} {lo : List (Option Value)} {st : List Value} {M : zh_M} {P : Option Value → List zh_LC → zh_M → Prop} {a1 : Int32} {a2 : Int32} {a3 : Int32} {K : zh_M → Prop} (hp : pc + 3 = pn) (hd : decode cc pc = .ok (.invokevirtual idx, 3)) (m1 : Cond.methodLink y.cls idx yX3_fillPages ∈ zh_WS) (hsc : ∀ base b, ((st.map (zh_tr base b)).map fun v => v.category).sum ≤ 8) (h : wp_X3_fillPages M a1 a2 a3 K) (kk : ∀ M1, K M1 → zh_W X (d + 1) y cc nL rt pn lo st zh_LL M1 0 0 P) : zh_W X (d + 1) y cc nL rt pc lo (.int a3 :: .int a2 :: .int a1 :: .ref 2 :: st) zh_LL M 0 0 P := by
  refine zh_callV (bc := 0) (bs := 0) (bc' := 0) (bs' := 0) (as := [.int a1, .int a2, .int a3]) (st := st) hp hd rfl (by decide) rfl rfl m1 me_X3_fillPages.1 me_X3_fillPages.2.1 me_X3_fillPages.2.2.1 me_X3_fillPages.2.2.2 ⟨by decide, by decide, by decide⟩ (by show _ = some 3; decide +kernel) (by intro v hv; simp only [List.mem_cons, List.not_mem_nil, or_false] at hv; rcases hv with rfl | rfl | rfl <;> (intro _ _; rfl)) hsc (Nat.le_of_ble_eq_true rfl) (by decide) (wk_X3_fillPages  h) (fun r L' M' q => ?_) (fun r L' M' q => ?_)
  · obtain ⟨-, rfl, q⟩ := q; rfl
  · obtain ⟨rfl, rfl, q⟩ := q; exact kk M' q
set_option maxRecDepth 100000 in
set_option maxHeartbeats 4000000 in
theorem wkl_X3_sweepSpan_14 {X : Nat × (Nat → Int32)} {d : Nat} {P : zh_M → Prop} {l1 : Int32} {K84 : Int32 → zh_M → Prop} (hK84 : ∀ (l2 : Int32) (M : zh_M) (w3 : Option Value), K84 l2 M → zh_W X (d + 2) yX3_sweepSpan cX3_sweepSpan 4 none 84 [some (.ref 2), some (.int l1), some (.int l2), w3] [] zh_LL M 0 0 (zh_pv P)) : ∀ (n : Nat) (l2 : Int32) (l3 : Int32) (M : zh_M) , wl_X3_sweepSpan_14 l1 K84 P n l2 l3 M → zh_W X (d + 2) yX3_sweepSpan cX3_sweepSpan 4 none 14 [some (.ref 2), some (.int l1), some (.int l2), some (.int l3)] [] zh_LL M 0 0 (zh_pv P) := by
  intro n
  induction n with
  | zero => intro l2 l3 M  h; exact h.elim
  | succ n ih =>
    intro l2 l3 M  h
    unfold wl_X3_sweepSpan_14 at h
    refine zh_iload_n (pn := 15) rfl dX3_sweepSpan_14 (i := 3) (x := l3) rfl rfl ?_
    refine zh_iload_n (pn := 16) rfl dX3_sweepSpan_15 (i := 1) (x := l1) rfl rfl ?_
    refine zh_iconst (pn := 17) rfl dX3_sweepSpan_16 (v := (zI 1)) rfl ?_
    refine zh_iadd (pn := 18) rfl dX3_sweepSpan_17 ?_
    refine zh_bipush (pn := 20) rfl dX3_sweepSpan_18 (v := (zI 8)) rfl ?_
    refine zh_imul (pn := 21) rfl dX3_sweepSpan_20 ?_
    refine zh_icmp_ge (pn := 24) rfl dX3_sweepSpan_21 (tgt := 84) rfl (fun cc1 => ?_) (fun cc1 => ?_)
    · replace h := h.1 cc1
      exact hK84 _ _ _ h
    · replace h := h.2 cc1
      refine zh_aload_n (pn := 25) rfl dX3_sweepSpan_24 (i := 0) (v := .ref 2) rfl rfl (Or.inr ⟨_, rfl⟩) ?_
      refine zh_get (pn := 28) rfl dX3_sweepSpan_25 (v := .ref 6) (k := 3) rfl rfl (by decide) (by decide) in_X3 mf_X3_22 rfl ?_
      refine zh_iload_n (pn := 29) rfl dX3_sweepSpan_28 (i := 3) (x := l3) rfl rfl ?_
      refine zh_iald (pn := 30) rfl dX3_sweepSpan_29 rfl h.1 ?_
      replace h := h.2
      refine zh_if_eq (pn := 33) rfl dX3_sweepSpan_30 (tgt := 66) rfl (fun cc1 => ?_) (fun cc1 => ?_)
      · replace h := h.1 cc1
        refine zh_aload_n (pn := 67) rfl dX3_sweepSpan_66 (i := 0) (v := .ref 2) rfl rfl (Or.inr ⟨_, rfl⟩) ?_
        refine zh_get (pn := 70) rfl dX3_sweepSpan_67 (v := .ref 6) (k := 3) rfl rfl (by decide) (by decide) in_X3 mf_X3_22 rfl ?_
        refine zh_iload_n (pn := 71) rfl dX3_sweepSpan_70 (i := 3) (x := l3) rfl rfl ?_
        refine zh_iald (pn := 72) rfl dX3_sweepSpan_71 rfl h.1 ?_
        replace h := h.2
        refine zh_if_eq (pn := 75) rfl dX3_sweepSpan_72 (tgt := 78) rfl (fun cc1 => ?_) (fun cc1 => ?_)
        · replace h := h.1 cc1
          refine zh_iinc (pn := 81) rfl dX3_sweepSpan_78 (i := 3) (x := l3) (v := l3 + (zI 1)) (lo' := [some (.ref 2), some (.int l1), some (.int l2), some (.int (l3 + (zI 1)))]) rfl rfl (by decide) rfl ?_
          refine zh_goto dX3_sweepSpan_81 (tgt := 14) rfl ?_
          exact ih _ _ _ h
        · replace h := h.2 cc1
          refine zh_iinc (pn := 78) rfl dX3_sweepSpan_75 (i := 2) (x := l2) (v := l2 + (zI 1)) (lo' := [some (.ref 2), some (.int l1), some (.int (l2 + (zI 1))), some (.int l3)]) rfl rfl (by decide) rfl ?_
          refine zh_iinc (pn := 81) rfl dX3_sweepSpan_78 (i := 3) (x := l3) (v := l3 + (zI 1)) (lo' := [some (.ref 2), some (.int l1), some (.int (l2 + (zI 1))), some (.int (l3 + (zI 1)))]) rfl rfl (by decide) rfl ?_
          refine zh_goto dX3_sweepSpan_81 (tgt := 14) rfl ?_
          exact ih _ _ _ h
      · replace h := h.2 cc1
        refine zh_aload_n (pn := 34) rfl dX3_sweepSpan_33 (i := 0) (v := .ref 2) rfl rfl (Or.inr ⟨_, rfl⟩) ?_
        refine zh_get (pn := 37) rfl dX3_sweepSpan_34 (v := .ref 8) (k := 5) rfl rfl (by decide) (by decide) in_X3 mf_X3_28 rfl ?_
        refine zh_iload_n (pn := 38) rfl dX3_sweepSpan_37 (i := 3) (x := l3) rfl rfl ?_
        refine zh_iald (pn := 39) rfl dX3_sweepSpan_38 rfl h.1 ?_
        replace h := h.2
        refine zh_if_ne (pn := 42) rfl dX3_sweepSpan_39 (tgt := 66) rfl (fun cc1 => ?_) (fun cc1 => ?_)
        · replace h := h.1 cc1
          refine zh_aload_n (pn := 67) rfl dX3_sweepSpan_66 (i := 0) (v := .ref 2) rfl rfl (Or.inr ⟨_, rfl⟩) ?_
          refine zh_get (pn := 70) rfl dX3_sweepSpan_67 (v := .ref 6) (k := 3) rfl rfl (by decide) (by decide) in_X3 mf_X3_22 rfl ?_
          refine zh_iload_n (pn := 71) rfl dX3_sweepSpan_70 (i := 3) (x := l3) rfl rfl ?_
          refine zh_iald (pn := 72) rfl dX3_sweepSpan_71 rfl h.1 ?_
          replace h := h.2
          refine zh_if_eq (pn := 75) rfl dX3_sweepSpan_72 (tgt := 78) rfl (fun cc1 => ?_) (fun cc1 => ?_)
          · replace h := h.1 cc1
            refine zh_iinc (pn := 81) rfl dX3_sweepSpan_78 (i := 3) (x := l3) (v := l3 + (zI 1)) (lo' := [some (.ref 2), some (.int l1), some (.int l2), some (.int (l3 + (zI 1)))]) rfl rfl (by decide) rfl ?_
            refine zh_goto dX3_sweepSpan_81 (tgt := 14) rfl ?_
            exact ih _ _ _ h
          · replace h := h.2 cc1
            refine zh_iinc (pn := 78) rfl dX3_sweepSpan_75 (i := 2) (x := l2) (v := l2 + (zI 1)) (lo' := [some (.ref 2), some (.int l1), some (.int (l2 + (zI 1))), some (.int l3)]) rfl rfl (by decide) rfl ?_
            refine zh_iinc (pn := 81) rfl dX3_sweepSpan_78 (i := 3) (x := l3) (v := l3 + (zI 1)) (lo' := [some (.ref 2), some (.int l1), some (.int (l2 + (zI 1))), some (.int (l3 + (zI 1)))]) rfl rfl (by decide) rfl ?_
            refine zh_goto dX3_sweepSpan_81 (tgt := 14) rfl ?_
            exact ih _ _ _ h
        · replace h := h.2 cc1
          refine zh_aload_n (pn := 43) rfl dX3_sweepSpan_42 (i := 0) (v := .ref 2) rfl rfl (Or.inr ⟨_, rfl⟩) ?_
          refine zh_get (pn := 46) rfl dX3_sweepSpan_43 (v := .ref 6) (k := 3) rfl rfl (by decide) (by decide) in_X3 mf_X3_22 rfl ?_
          refine zh_iload_n (pn := 47) rfl dX3_sweepSpan_46 (i := 3) (x := l3) rfl rfl ?_
          refine zh_iconst (pn := 48) rfl dX3_sweepSpan_47 (v := (zI 0)) rfl ?_
          refine zh_iast (pn := 49) rfl dX3_sweepSpan_48 rfl h.1 ?_
          obtain ⟨M2, eM2⟩ : ∃ q : zh_M, q = zh_set M 6 l3.toNatClampNeg (zI 0) := ⟨_, rfl⟩
          replace h := h.2 M2 eM2
          rw [← eM2]
          refine zh_aload_n (pn := 50) rfl dX3_sweepSpan_49 (i := 0) (v := .ref 2) rfl rfl (Or.inr ⟨_, rfl⟩) ?_
          refine zh_get (pn := 53) rfl dX3_sweepSpan_50 (v := .ref 7) (k := 4) rfl rfl (by decide) (by decide) in_X3 mf_X3_25 rfl ?_
          refine zh_iload_n (pn := 54) rfl dX3_sweepSpan_53 (i := 3) (x := l3) rfl rfl ?_
          refine zh_iconst (pn := 55) rfl dX3_sweepSpan_54 (v := (zI 0)) rfl ?_
          refine zh_iast (pn := 56) rfl dX3_sweepSpan_55 rfl h.1 ?_
          obtain ⟨M3, eM3⟩ : ∃ q : zh_M, q = zh_set M2 7 l3.toNatClampNeg (zI 0) := ⟨_, rfl⟩
          replace h := h.2 M3 eM3
          rw [← eM3]
          refine zh_aload_n (pn := 57) rfl dX3_sweepSpan_56 (i := 0) (v := .ref 2) rfl rfl (Or.inr ⟨_, rfl⟩) ?_
          refine zh_dup (pn := 58) rfl dX3_sweepSpan_57 (fun _ _ => rfl) ?_
          refine zh_get (pn := 61) rfl dX3_sweepSpan_58 (v := .int (M3 2 6)) (k := 6) rfl rfl (by decide) (by decide) in_X3 mf_X3_31 rfl ?_
          refine zh_iconst (pn := 62) rfl dX3_sweepSpan_61 (v := (zI 1)) rfl ?_
          refine zh_iadd (pn := 63) rfl dX3_sweepSpan_62 ?_
          refine zh_put (pn := 66) rfl dX3_sweepSpan_63 (k := 6) rfl rfl (by decide) (by decide) in_X3 tyX3_ok nmX3 mf_X3_31 rfl rfl rfl rfl ?_
          obtain ⟨M4, eM4⟩ : ∃ q : zh_M, q = zh_set M3 2 6 ((M3 2 6) + (zI 1)) := ⟨_, rfl⟩
          replace h := h M4 eM4
          rw [← eM4]
          refine zh_aload_n (pn := 67) rfl dX3_sweepSpan_66 (i := 0) (v := .ref 2) rfl rfl (Or.inr ⟨_, rfl⟩) ?_
          refine zh_get (pn := 70) rfl dX3_sweepSpan_67 (v := .ref 6) (k := 3) rfl rfl (by decide) (by decide) in_X3 mf_X3_22 rfl ?_
          refine zh_iload_n (pn := 71) rfl dX3_sweepSpan_70 (i := 3) (x := l3) rfl rfl ?_
          refine zh_iald (pn := 72) rfl dX3_sweepSpan_71 rfl h.1 ?_
          replace h := h.2
          refine zh_if_eq (pn := 75) rfl dX3_sweepSpan_72 (tgt := 78) rfl (fun cc1 => ?_) (fun cc1 => ?_)
          · replace h := h.1 cc1
            refine zh_iinc (pn := 81) rfl dX3_sweepSpan_78 (i := 3) (x := l3) (v := l3 + (zI 1)) (lo' := [some (.ref 2), some (.int l1), some (.int l2), some (.int (l3 + (zI 1)))]) rfl rfl (by decide) rfl ?_
            refine zh_goto dX3_sweepSpan_81 (tgt := 14) rfl ?_
            exact ih _ _ _ h
          · replace h := h.2 cc1
            refine zh_iinc (pn := 78) rfl dX3_sweepSpan_75 (i := 2) (x := l2) (v := l2 + (zI 1)) (lo' := [some (.ref 2), some (.int l1), some (.int (l2 + (zI 1))), some (.int l3)]) rfl rfl (by decide) rfl ?_
            refine zh_iinc (pn := 81) rfl dX3_sweepSpan_78 (i := 3) (x := l3) (v := l3 + (zI 1)) (lo' := [some (.ref 2), some (.int l1), some (.int (l2 + (zI 1))), some (.int (l3 + (zI 1)))]) rfl rfl (by decide) rfl ?_
            refine zh_goto dX3_sweepSpan_81 (tgt := 14) rfl ?_
            exact ih _ _ _ h
set_option maxRecDepth 100000 in
set_option maxHeartbeats 4000000 in
theorem wk_X3_sweepSpan {X : Nat × (Nat → Int32)} {d : Nat} {M : zh_M} {a1 : Int32} {P : zh_M → Prop} (h : wp_X3_sweepSpan M a1 P) : zh_W X (d + 2) yX3_sweepSpan cX3_sweepSpan 4 none 0 (zh_en [.ref 2, .int a1] 4) [] zh_LL M 0 0 (zh_pv P) := by
  unfold wp_X3_sweepSpan at h
  show zh_W X (d + 2) yX3_sweepSpan cX3_sweepSpan 4 none 0 [some (.ref 2), some (.int a1), none, none] [] zh_LL M 0 0 (zh_pv P)
  refine zh_aload_n (pn := 1) rfl dX3_sweepSpan_0 (i := 0) (v := .ref 2) rfl rfl (Or.inr ⟨_, rfl⟩) ?_
  refine zh_get (pn := 4) rfl dX3_sweepSpan_1 (v := .ref 5) (k := 2) rfl rfl (by decide) (by decide) in_X3 mf_X3_18 rfl ?_
  refine zh_iload_n (pn := 5) rfl dX3_sweepSpan_4 (i := 1) (x := a1) rfl rfl ?_
  refine zh_iconst (pn := 6) rfl dX3_sweepSpan_5 (v := (zI 0)) rfl ?_
  refine zh_zast (pn := 7) rfl dX3_sweepSpan_6 (x' := (zI 0)) rfl h.1 rfl ?_
  obtain ⟨M1, eM1⟩ : ∃ q : zh_M, q = zh_set M 5 a1.toNatClampNeg (zI 0) := ⟨_, rfl⟩
  replace h := h.2 M1 eM1
  rw [← eM1]
  refine zh_iconst (pn := 8) rfl dX3_sweepSpan_7 (v := (zI 0)) rfl ?_
  refine zh_istore_n (pn := 9) rfl dX3_sweepSpan_8 (i := 2) (lo' := [some (.ref 2), some (.int a1), some (.int (zI 0)), none]) rfl (by decide) rfl ?_
  refine zh_iload_n (pn := 10) rfl dX3_sweepSpan_9 (i := 1) (x := a1) rfl rfl ?_
  refine zh_bipush (pn := 12) rfl dX3_sweepSpan_10 (v := (zI 8)) rfl ?_
  refine zh_imul (pn := 13) rfl dX3_sweepSpan_12 ?_
  refine zh_istore_n (pn := 14) rfl dX3_sweepSpan_13 (i := 3) (lo' := [some (.ref 2), some (.int a1), some (.int (zI 0)), some (.int (a1 * (zI 8)))]) rfl (by decide) rfl ?_
  obtain ⟨n11, h⟩ := h
  refine wkl_X3_sweepSpan_14 (fun v2_5 M6 w3_7 h => ?_) n11 _ _ _ h
  refine zh_iload_n (pn := 85) rfl dX3_sweepSpan_84 (i := 2) (x := v2_5) rfl rfl ?_
  refine zh_if_ne (pn := 88) rfl dX3_sweepSpan_85 (tgt := 103) rfl (fun cc1 => ?_) (fun cc1 => ?_)
  · replace h := h.1 cc1
    exact zh_vret dX3_sweepSpan_103 rfl ⟨rfl, rfl, h⟩
  · replace h := h.2 cc1
    refine zh_aload_n (pn := 89) rfl dX3_sweepSpan_88 (i := 0) (v := .ref 2) rfl rfl (Or.inr ⟨_, rfl⟩) ?_
    refine zh_iload_n (pn := 90) rfl dX3_sweepSpan_89 (i := 1) (x := a1) rfl rfl ?_
    refine zh_aload_n (pn := 91) rfl dX3_sweepSpan_90 (i := 0) (v := .ref 2) rfl rfl (Or.inr ⟨_, rfl⟩) ?_
    refine zh_get (pn := 94) rfl dX3_sweepSpan_91 (v := .ref 4) (k := 1) rfl rfl (by decide) (by decide) in_X3 mf_X3_15 rfl ?_
    refine zh_iload_n (pn := 95) rfl dX3_sweepSpan_94 (i := 1) (x := a1) rfl rfl ?_
    refine zh_iald (pn := 96) rfl dX3_sweepSpan_95 rfl h.1 ?_
    replace h := h.2
    refine ca_X3_pagesOfSpan (pn := 99) rfl dX3_sweepSpan_96 mc_X3_62 (fun _ _ => Nat.le_of_ble_eq_true rfl) h (fun r9 M8 h => ?_)
    refine zh_iconst (pn := 100) rfl dX3_sweepSpan_99 (v := (zI 0)) rfl ?_
    refine ca_X3_fillPages (pn := 103) rfl dX3_sweepSpan_100 mc_X3_68 (fun _ _ => Nat.le_of_ble_eq_true rfl) h (fun M10 h => ?_)
    exact zh_vret dX3_sweepSpan_103 rfl ⟨rfl, rfl, h⟩
set_option maxRecDepth 100000 in
theorem ca_X3_sweepSpan {X : Nat × (Nat → Int32)} {d : Nat} {y : MethodName} {cc : ByteArray} {nL : Nat} {rt : Option FieldType} {pc pn idx : Nat} {lo : List (Option Value)} {st : List Value} {M : zh_M} {P : Option Value → List zh_LC → zh_M → Prop} {a1 : Int32} {K : zh_M → Prop} (hp : pc + 3 = pn) (hd : decode cc pc = .ok (.invokevirtual idx, 3)) (m1 : Cond.methodLink y.cls idx yX3_sweepSpan ∈ zh_WS) (hsc : ∀ base b, ((st.map (zh_tr base b)).map fun v => v.category).sum ≤ 8) (h : wp_X3_sweepSpan M a1 K) (kk : ∀ M1, K M1 → zh_W X (d + 3) y cc nL rt pn lo st zh_LL M1 0 0 P) : zh_W X (d + 3) y cc nL rt pc lo (.int a1 :: .ref 2 :: st) zh_LL M 0 0 P := by
  refine zh_callV (bc := 0) (bs := 0) (bc' := 0) (bs' := 0) (as := [.int a1]) (st := st) hp hd rfl (by decide) rfl rfl m1 me_X3_sweepSpan.1 me_X3_sweepSpan.2.1 me_X3_sweepSpan.2.2.1 me_X3_sweepSpan.2.2.2 ⟨by decide, by decide, by decide⟩ (by show _ = some 1; decide +kernel) (by intro v hv; simp only [List.mem_cons, List.not_mem_nil, or_false] at hv; rcases hv with rfl <;> (intro _ _; rfl)) hsc (Nat.le_of_ble_eq_true rfl) (by decide) (wk_X3_sweepSpan  h) (fun r L' M' q => ?_) (fun r L' M' q => ?_)
  · obtain ⟨-, rfl, q⟩ := q; rfl
  · obtain ⟨rfl, rfl, q⟩ := q; exact kk M' q
set_option maxRecDepth 100000 in
set_option maxHeartbeats 4000000 in
theorem wkl_X3_sweepSpans_4 {X : Nat × (Nat → Int32)} {d : Nat} {P : Int32 → zh_M → Prop} {l1 : Int32} : ∀ (n : Nat) (l2 : Int32) (l3 : Int32) (M : zh_M) , wl_X3_sweepSpans_4 l1 P n l2 l3 M → zh_W X (d + 3) yX3_sweepSpans cX3_sweepSpans 4 (some .int) 4 [some (.ref 2), some (.int l1), some (.int l2), some (.int l3)] [] zh_LL M 0 0 (zh_pi P) := by
  intro n
  induction n with
  | zero => intro l2 l3 M  h; exact h.elim
  | succ n ih =>
    intro l2 l3 M  h
    unfold wl_X3_sweepSpans_4 at h
    refine zh_iload_n (pn := 5) rfl dX3_sweepSpans_4 (i := 3) (x := l3) rfl rfl ?_
    refine zh_bipush (pn := 7) rfl dX3_sweepSpans_5 (v := (zI 16)) rfl ?_
    refine zh_icmp_ge (pn := 10) rfl dX3_sweepSpans_7 (tgt := 38) rfl (fun cc1 => ?_) (fun cc1 => ?_)
    · replace h := h.1 cc1
      refine zh_iload_n (pn := 39) rfl dX3_sweepSpans_38 (i := 2) (x := l2) rfl rfl ?_
      exact zh_iret dX3_sweepSpans_39 rfl rfl ⟨_, rfl, rfl, h⟩
    · replace h := h.2 cc1
      refine zh_iload_n (pn := 11) rfl dX3_sweepSpans_10 (i := 2) (x := l2) rfl rfl ?_
      refine zh_iload_n (pn := 12) rfl dX3_sweepSpans_11 (i := 1) (x := l1) rfl rfl ?_
      refine zh_icmp_ge (pn := 15) rfl dX3_sweepSpans_12 (tgt := 38) rfl (fun cc1 => ?_) (fun cc1 => ?_)
      · replace h := h.1 cc1
        refine zh_iload_n (pn := 39) rfl dX3_sweepSpans_38 (i := 2) (x := l2) rfl rfl ?_
        exact zh_iret dX3_sweepSpans_39 rfl rfl ⟨_, rfl, rfl, h⟩
      · replace h := h.2 cc1
        refine zh_aload_n (pn := 16) rfl dX3_sweepSpans_15 (i := 0) (v := .ref 2) rfl rfl (Or.inr ⟨_, rfl⟩) ?_
        refine zh_get (pn := 19) rfl dX3_sweepSpans_16 (v := .ref 5) (k := 2) rfl rfl (by decide) (by decide) in_X3 mf_X3_18 rfl ?_
        refine zh_iload_n (pn := 20) rfl dX3_sweepSpans_19 (i := 3) (x := l3) rfl rfl ?_
        refine zh_zald (pn := 21) rfl dX3_sweepSpans_20 rfl h.1 ?_
        replace h := h.2
        refine zh_if_eq (pn := 24) rfl dX3_sweepSpans_21 (tgt := 32) rfl (fun cc1 => ?_) (fun cc1 => ?_)
        · replace h := h.1 cc1
          refine zh_iinc (pn := 35) rfl dX3_sweepSpans_32 (i := 3) (x := l3) (v := l3 + (zI 1)) (lo' := [some (.ref 2), some (.int l1), some (.int l2), some (.int (l3 + (zI 1)))]) rfl rfl (by decide) rfl ?_
          refine zh_goto dX3_sweepSpans_35 (tgt := 4) rfl ?_
          exact ih _ _ _ h
        · replace h := h.2 cc1
          refine zh_aload_n (pn := 25) rfl dX3_sweepSpans_24 (i := 0) (v := .ref 2) rfl rfl (Or.inr ⟨_, rfl⟩) ?_
          refine zh_iload_n (pn := 26) rfl dX3_sweepSpans_25 (i := 3) (x := l3) rfl rfl ?_
          refine ca_X3_sweepSpan (pn := 29) rfl dX3_sweepSpans_26 mc_X3_55 (fun _ _ => Nat.le_of_ble_eq_true rfl) h (fun M1 h => ?_)
          refine zh_iinc (pn := 32) rfl dX3_sweepSpans_29 (i := 2) (x := l2) (v := l2 + (zI 1)) (lo' := [some (.ref 2), some (.int l1), some (.int (l2 + (zI 1))), some (.int l3)]) rfl rfl (by decide) rfl ?_
          refine zh_iinc (pn := 35) rfl dX3_sweepSpans_32 (i := 3) (x := l3) (v := l3 + (zI 1)) (lo' := [some (.ref 2), some (.int l1), some (.int (l2 + (zI 1))), some (.int (l3 + (zI 1)))]) rfl rfl (by decide) rfl ?_
          refine zh_goto dX3_sweepSpans_35 (tgt := 4) rfl ?_
          exact ih _ _ _ h
set_option maxRecDepth 100000 in
set_option maxHeartbeats 4000000 in
theorem wk_X3_sweepSpans {X : Nat × (Nat → Int32)} {d : Nat} {M : zh_M} {a1 : Int32} {P : Int32 → zh_M → Prop} (h : wp_X3_sweepSpans M a1 P) : zh_W X (d + 3) yX3_sweepSpans cX3_sweepSpans 4 (some .int) 0 (zh_en [.ref 2, .int a1] 4) [] zh_LL M 0 0 (zh_pi P) := by
  unfold wp_X3_sweepSpans at h
  show zh_W X (d + 3) yX3_sweepSpans cX3_sweepSpans 4 (some .int) 0 [some (.ref 2), some (.int a1), none, none] [] zh_LL M 0 0 (zh_pi P)
  refine zh_iconst (pn := 1) rfl dX3_sweepSpans_0 (v := (zI 0)) rfl ?_
  refine zh_istore_n (pn := 2) rfl dX3_sweepSpans_1 (i := 2) (lo' := [some (.ref 2), some (.int a1), some (.int (zI 0)), none]) rfl (by decide) rfl ?_
  refine zh_iconst (pn := 3) rfl dX3_sweepSpans_2 (v := (zI 0)) rfl ?_
  refine zh_istore_n (pn := 4) rfl dX3_sweepSpans_3 (i := 3) (lo' := [some (.ref 2), some (.int a1), some (.int (zI 0)), some (.int (zI 0))]) rfl (by decide) rfl ?_
  obtain ⟨n2, h⟩ := h
  refine wkl_X3_sweepSpans_4 n2 _ _ _ h
set_option maxRecDepth 100000 in
theorem ca_X3_sweepSpans {X : Nat × (Nat → Int32)} {d : Nat} {y : MethodName} {cc : ByteArray} {nL : Nat} {rt : Option FieldType} {pc pn idx : Nat} {lo : List (Option Value)} {st : List Value} {M : zh_M} {P : Option Value → List zh_LC → zh_M → Prop} {a1 : Int32} {K : Int32 → zh_M → Prop} (hp : pc + 3 = pn) (hd : decode cc pc = .ok (.invokevirtual idx, 3)) (m1 : Cond.methodLink y.cls idx yX3_sweepSpans ∈ zh_WS) (hsc : ∀ base b, ((st.map (zh_tr base b)).map fun v => v.category).sum ≤ 8) (h : wp_X3_sweepSpans M a1 K) (kk : ∀ r M1, K r M1 → zh_W X (d + 4) y cc nL rt pn lo (.int r :: st) zh_LL M1 0 0 P) : zh_W X (d + 4) y cc nL rt pc lo (.int a1 :: .ref 2 :: st) zh_LL M 0 0 P := by
  refine zh_callV (bc := 0) (bs := 0) (bc' := 0) (bs' := 0) (as := [.int a1]) (st := st) hp hd rfl (by decide) rfl rfl m1 me_X3_sweepSpans.1 me_X3_sweepSpans.2.1 me_X3_sweepSpans.2.2.1 me_X3_sweepSpans.2.2.2 ⟨by decide, by decide, by decide⟩ (by show _ = some 1; decide +kernel) (by intro v hv; simp only [List.mem_cons, List.not_mem_nil, or_false] at hv; rcases hv with rfl <;> (intro _ _; rfl)) hsc (Nat.le_of_ble_eq_true rfl) (by decide) (wk_X3_sweepSpans  h) (fun r L' M' q => ?_) (fun r L' M' q => ?_)
  · obtain ⟨v, -, rfl, q⟩ := q; rfl
  · obtain ⟨v, rfl, rfl, q⟩ := q; exact kk v M' q
set_option maxRecDepth 100000 in
set_option maxHeartbeats 4000000 in
theorem wk_X1_note {X : Nat × (Nat → Int32)} {d : Nat} {M : zh_M} {a1 : Int32} {P : zh_M → Prop} (h : wp_X1_note M a1 P) : zh_W X (d + 0) yX1_note cX1_note 3 none 0 (zh_en [.ref 37, .int a1] 3) [] zh_LL M 0 0 (zh_pv P) := by
  unfold wp_X1_note at h
  show zh_W X (d + 0) yX1_note cX1_note 3 none 0 [some (.ref 37), some (.int a1), none] [] zh_LL M 0 0 (zh_pv P)
  refine zh_aload_n (pn := 1) rfl dX1_note_0 (i := 0) (v := .ref 37) rfl rfl (Or.inr ⟨_, rfl⟩) ?_
  refine zh_get (pn := 4) rfl dX1_note_1 (v := .int (M 37 5)) (k := 5) rfl rfl (by decide) (by decide) in_X1 mf_X1_31 rfl ?_
  refine zh_if_eq (pn := 7) rfl dX1_note_4 (tgt := 18) rfl (fun cc1 => ?_) (fun cc1 => ?_)
  · replace h := h.1 cc1
    exact zh_vret dX1_note_18 rfl ⟨rfl, rfl, h⟩
  · replace h := h.2 cc1
    refine zh_iload_n (pn := 8) rfl dX1_note_7 (i := 1) (x := a1) rfl rfl ?_
    refine zh_if_lt (pn := 11) rfl dX1_note_8 (tgt := 18) rfl (fun cc1 => ?_) (fun cc1 => ?_)
    · replace h := h.1 cc1
      exact zh_vret dX1_note_18 rfl ⟨rfl, rfl, h⟩
    · replace h := h.2 cc1
      refine zh_iload_n (pn := 12) rfl dX1_note_11 (i := 1) (x := a1) rfl rfl ?_
      refine zh_sipush (pn := 15) rfl dX1_note_12 (v := (zI 256)) rfl ?_
      refine zh_icmp_lt (pn := 18) rfl dX1_note_15 (tgt := 19) rfl (fun cc1 => ?_) (fun cc1 => ?_)
      · replace h := h.1 cc1
        refine zh_iload_n (pn := 20) rfl dX1_note_19 (i := 1) (x := a1) rfl rfl ?_
        refine zh_iconst (pn := 21) rfl dX1_note_20 (v := (zI 2)) rfl ?_
        refine zh_idiv (pn := 22) rfl dX1_note_21 (by decide) ?_
        refine zh_istore_n (pn := 23) rfl dX1_note_22 (i := 2) (lo' := [some (.ref 37), some (.int a1), some (.int (a1 / (zI 2)))]) rfl (by decide) rfl ?_
        refine zh_aload_n (pn := 24) rfl dX1_note_23 (i := 0) (v := .ref 37) rfl rfl (Or.inr ⟨_, rfl⟩) ?_
        refine zh_get (pn := 27) rfl dX1_note_24 (v := .ref 2) (k := 0) rfl rfl (by decide) (by decide) in_X1 mf_X1_9 rfl ?_
        refine zh_get (pn := 30) rfl dX1_note_27 (v := .ref 8) (k := 5) rfl rfl (by decide) (by decide) in_X3 mf_X1_53 rfl ?_
        refine zh_iload_n (pn := 31) rfl dX1_note_30 (i := 2) (x := a1 / (zI 2)) rfl rfl ?_
        refine zh_iald (pn := 32) rfl dX1_note_31 rfl h.1 ?_
        replace h := h.2
        refine zh_if_ne (pn := 35) rfl dX1_note_32 (tgt := 75) rfl (fun cc1 => ?_) (fun cc1 => ?_)
        · replace h := h.1 cc1
          exact zh_vret dX1_note_75 rfl ⟨rfl, rfl, h⟩
        · replace h := h.2 cc1
          refine zh_aload_n (pn := 36) rfl dX1_note_35 (i := 0) (v := .ref 37) rfl rfl (Or.inr ⟨_, rfl⟩) ?_
          refine zh_get (pn := 39) rfl dX1_note_36 (v := .int (M 37 4)) (k := 4) rfl rfl (by decide) (by decide) in_X1 mf_X1_27 rfl ?_
          refine zh_sipush (pn := 42) rfl dX1_note_39 (v := (zI 128)) rfl ?_
          refine zh_icmp_ge (pn := 45) rfl dX1_note_42 (tgt := 75) rfl (fun cc1 => ?_) (fun cc1 => ?_)
          · replace h := h.1 cc1
            exact zh_vret dX1_note_75 rfl ⟨rfl, rfl, h⟩
          · replace h := h.2 cc1
            refine zh_aload_n (pn := 46) rfl dX1_note_45 (i := 0) (v := .ref 37) rfl rfl (Or.inr ⟨_, rfl⟩) ?_
            refine zh_get (pn := 49) rfl dX1_note_46 (v := .ref 2) (k := 0) rfl rfl (by decide) (by decide) in_X1 mf_X1_9 rfl ?_
            refine zh_get (pn := 52) rfl dX1_note_49 (v := .ref 8) (k := 5) rfl rfl (by decide) (by decide) in_X3 mf_X1_53 rfl ?_
            refine zh_iload_n (pn := 53) rfl dX1_note_52 (i := 2) (x := a1 / (zI 2)) rfl rfl ?_
            refine zh_iconst (pn := 54) rfl dX1_note_53 (v := (zI 2)) rfl ?_
            refine zh_iast (pn := 55) rfl dX1_note_54 rfl h.1 ?_
            obtain ⟨M1, eM1⟩ : ∃ q : zh_M, q = zh_set M 8 (a1 / (zI 2)).toNatClampNeg (zI 2) := ⟨_, rfl⟩
            replace h := h.2 M1 eM1
            rw [← eM1]
            refine zh_aload_n (pn := 56) rfl dX1_note_55 (i := 0) (v := .ref 37) rfl rfl (Or.inr ⟨_, rfl⟩) ?_
            refine zh_get (pn := 59) rfl dX1_note_56 (v := .ref 38) (k := 3) rfl rfl (by decide) (by decide) in_X1 mf_X1_23 rfl ?_
            refine zh_aload_n (pn := 60) rfl dX1_note_59 (i := 0) (v := .ref 37) rfl rfl (Or.inr ⟨_, rfl⟩) ?_
            refine zh_get (pn := 63) rfl dX1_note_60 (v := .int (M1 37 4)) (k := 4) rfl rfl (by decide) (by decide) in_X1 mf_X1_27 rfl ?_
            refine zh_iload_n (pn := 64) rfl dX1_note_63 (i := 1) (x := a1) rfl rfl ?_
            refine zh_iast (pn := 65) rfl dX1_note_64 rfl h.1 ?_
            obtain ⟨M2, eM2⟩ : ∃ q : zh_M, q = zh_set M1 38 (M1 37 4).toNatClampNeg a1 := ⟨_, rfl⟩
            replace h := h.2 M2 eM2
            rw [← eM2]
            refine zh_aload_n (pn := 66) rfl dX1_note_65 (i := 0) (v := .ref 37) rfl rfl (Or.inr ⟨_, rfl⟩) ?_
            refine zh_dup (pn := 67) rfl dX1_note_66 (fun _ _ => rfl) ?_
            refine zh_get (pn := 70) rfl dX1_note_67 (v := .int (M2 37 4)) (k := 4) rfl rfl (by decide) (by decide) in_X1 mf_X1_27 rfl ?_
            refine zh_iconst (pn := 71) rfl dX1_note_70 (v := (zI 1)) rfl ?_
            refine zh_iadd (pn := 72) rfl dX1_note_71 ?_
            refine zh_put (pn := 75) rfl dX1_note_72 (k := 4) rfl rfl (by decide) (by decide) in_X1 tyX1_ok nmX1 mf_X1_27 rfl rfl rfl rfl ?_
            obtain ⟨M3, eM3⟩ : ∃ q : zh_M, q = zh_set M2 37 4 ((M2 37 4) + (zI 1)) := ⟨_, rfl⟩
            replace h := h M3 eM3
            rw [← eM3]
            exact zh_vret dX1_note_75 rfl ⟨rfl, rfl, h⟩
      · replace h := h.2 cc1
        exact zh_vret dX1_note_18 rfl ⟨rfl, rfl, h⟩
set_option maxRecDepth 100000 in
theorem ca_X1_note {X : Nat × (Nat → Int32)} {d : Nat} {y : MethodName} {cc : ByteArray} {nL : Nat} {rt : Option FieldType} {pc pn idx : Nat} {lo : List (Option Value)} {st : List Value} {M : zh_M} {P : Option Value → List zh_LC → zh_M → Prop} {a1 : Int32} {K : zh_M → Prop} (hp : pc + 3 = pn) (hd : decode cc pc = .ok (.invokevirtual idx, 3)) (m1 : Cond.methodLink y.cls idx yX1_note ∈ zh_WS) (hsc : ∀ base b, ((st.map (zh_tr base b)).map fun v => v.category).sum ≤ 8) (h : wp_X1_note M a1 K) (kk : ∀ M1, K M1 → zh_W X (d + 1) y cc nL rt pn lo st zh_LL M1 0 0 P) : zh_W X (d + 1) y cc nL rt pc lo (.int a1 :: .ref 37 :: st) zh_LL M 0 0 P := by
  refine zh_callV (bc := 0) (bs := 0) (bc' := 0) (bs' := 0) (as := [.int a1]) (st := st) hp hd rfl (by decide) rfl rfl m1 me_X1_note.1 me_X1_note.2.1 me_X1_note.2.2.1 me_X1_note.2.2.2 ⟨by decide, by decide, by decide⟩ (by show _ = some 1; decide +kernel) (by intro v hv; simp only [List.mem_cons, List.not_mem_nil, or_false] at hv; rcases hv with rfl <;> (intro _ _; rfl)) hsc (Nat.le_of_ble_eq_true rfl) (by decide) (wk_X1_note  h) (fun r L' M' q => ?_) (fun r L' M' q => ?_)
  · obtain ⟨-, rfl, q⟩ := q; rfl
  · obtain ⟨rfl, rfl, q⟩ := q; exact kk M' q
set_option maxRecDepth 100000 in
set_option maxHeartbeats 4000000 in
theorem wkl_X1_beginCycle_43 {X : Nat × (Nat → Int32)} {d : Nat} {P : zh_M → Prop} {K65 : zh_M → Prop} (hK65 : ∀ (M : zh_M) (w1 : Option Value) (w2 : Option Value), K65 M → zh_W X (d + 4) yX1_beginCycle cX1_beginCycle 3 none 65 [some (.ref 37), w1, w2] [] zh_LL M 0 0 (zh_pv P)) : ∀ (n : Nat) (l1 : Int32) (M : zh_M) (w2 : Option Value), wl_X1_beginCycle_43 K65 P n l1 M → zh_W X (d + 4) yX1_beginCycle cX1_beginCycle 3 none 43 [some (.ref 37), some (.int l1), w2] [] zh_LL M 0 0 (zh_pv P) := by
  intro n
  induction n with
  | zero => intro l1 M w2 h; exact h.elim
  | succ n ih =>
    intro l1 M w2 h
    unfold wl_X1_beginCycle_43 at h
    refine zh_iload_n (pn := 44) rfl dX1_beginCycle_43 (i := 1) (x := l1) rfl rfl ?_
    refine zh_bipush (pn := 46) rfl dX1_beginCycle_44 (v := (zI 6)) rfl ?_
    refine zh_icmp_ge (pn := 49) rfl dX1_beginCycle_46 (tgt := 65) rfl (fun cc1 => ?_) (fun cc1 => ?_)
    · replace h := h.1 cc1
      exact hK65 _ _ _ h
    · replace h := h.2 cc1
      refine zh_aload_n (pn := 50) rfl dX1_beginCycle_49 (i := 0) (v := .ref 37) rfl rfl (Or.inr ⟨_, rfl⟩) ?_
      refine zh_get (pn := 53) rfl dX1_beginCycle_50 (v := .ref 9) (k := 1) rfl rfl (by decide) (by decide) in_X1 mf_X1_15 rfl ?_
      refine zh_iload_n (pn := 54) rfl dX1_beginCycle_53 (i := 1) (x := l1) rfl rfl ?_
      refine zh_aald_Fiber (pn := 55) rfl dX1_beginCycle_54 h.1 ?_
      have zf7 := zf_of_Fiber h.1
      replace h := h.2
      refine zh_iconst (pn := 56) rfl dX1_beginCycle_55 (v := (zI 0)) rfl ?_
      refine zh_put (pn := 59) rfl dX1_beginCycle_56 (k := 6) (at_Fiber zf7) rfl (by decide) (by decide) in_X2 tyX2_ok nmX2 mf_X1_62 rfl rfl rfl rfl ?_
      obtain ⟨M8, eM8⟩ : ∃ q : zh_M, q = zh_set M (zi_Fiber l1) 6 (zI 0) := ⟨_, rfl⟩
      replace h := h M8 eM8
      rw [← eM8]
      refine zh_iinc (pn := 62) rfl dX1_beginCycle_59 (i := 1) (x := l1) (v := l1 + (zI 1)) (lo' := [some (.ref 37), some (.int (l1 + (zI 1))), w2]) rfl rfl (by decide) rfl ?_
      refine zh_goto dX1_beginCycle_62 (tgt := 43) rfl ?_
      exact ih _ _ _ h
set_option maxRecDepth 100000 in
set_option maxHeartbeats 4000000 in
theorem wkl_X1_beginCycle_74 {X : Nat × (Nat → Int32)} {d : Nat} {P : zh_M → Prop} {l1 : Int32} {K108 : zh_M → Prop} (hK108 : ∀ (M : zh_M) (w2 : Option Value), K108 M → zh_W X (d + 4) yX1_beginCycle cX1_beginCycle 3 none 108 [some (.ref 37), some (.int l1), w2] [] zh_LL M 0 0 (zh_pv P)) : ∀ (n : Nat) (l2 : Int32) (M : zh_M) , wl_X1_beginCycle_74 l1 K108 P n l2 M → zh_W X (d + 4) yX1_beginCycle cX1_beginCycle 3 none 74 [some (.ref 37), some (.int l1), some (.int l2)] [] zh_LL M 0 0 (zh_pv P) := by
  intro n
  induction n with
  | zero => intro l2 M  h; exact h.elim
  | succ n ih =>
    intro l2 M  h
    unfold wl_X1_beginCycle_74 at h
    refine zh_iload_n (pn := 75) rfl dX1_beginCycle_74 (i := 2) (x := l2) rfl rfl ?_
    refine zh_aload_n (pn := 76) rfl dX1_beginCycle_75 (i := 0) (v := .ref 37) rfl rfl (Or.inr ⟨_, rfl⟩) ?_
    refine zh_get (pn := 79) rfl dX1_beginCycle_76 (v := .ref 28) (k := 2) rfl rfl (by decide) (by decide) in_X1 mf_X1_19 rfl ?_
    refine zh_iload_n (pn := 80) rfl dX1_beginCycle_79 (i := 1) (x := l1) rfl rfl ?_
    refine zh_aald_Channel (pn := 81) rfl dX1_beginCycle_80 h.1 ?_
    have zf12 := zf_of_Channel h.1
    replace h := h.2
    refine zh_get (pn := 84) rfl dX1_beginCycle_81 (v := .int (M (zi_Channel l1) 1)) (k := 1) (at_Channel zf12) rfl (by decide) (by decide) in_X0 mf_X1_67 rfl ?_
    refine zh_icmp_ge (pn := 87) rfl dX1_beginCycle_84 (tgt := 108) rfl (fun cc1 => ?_) (fun cc1 => ?_)
    · replace h := h.1 cc1
      exact hK108 _ _ h
    · replace h := h.2 cc1
      refine zh_aload_n (pn := 88) rfl dX1_beginCycle_87 (i := 0) (v := .ref 37) rfl rfl (Or.inr ⟨_, rfl⟩) ?_
      refine zh_aload_n (pn := 89) rfl dX1_beginCycle_88 (i := 0) (v := .ref 37) rfl rfl (Or.inr ⟨_, rfl⟩) ?_
      refine zh_get (pn := 92) rfl dX1_beginCycle_89 (v := .ref 28) (k := 2) rfl rfl (by decide) (by decide) in_X1 mf_X1_19 rfl ?_
      refine zh_iload_n (pn := 93) rfl dX1_beginCycle_92 (i := 1) (x := l1) rfl rfl ?_
      refine zh_aald_Channel (pn := 94) rfl dX1_beginCycle_93 h.1 ?_
      have zf13 := zf_of_Channel h.1
      replace h := h.2
      refine zh_get (pn := 97) rfl dX1_beginCycle_94 (v := .ref ((zi_Channel l1) + 1)) (k := 0) (at_Channel zf13) rfl (by decide) (by decide) in_X0 mf_X1_72 rfl ?_
      refine zh_iload_n (pn := 98) rfl dX1_beginCycle_97 (i := 2) (x := l2) rfl rfl ?_
      refine zh_iald (pn := 99) rfl dX1_beginCycle_98 (at_Channel_1 zf13) h.1 ?_
      replace h := h.2
      refine ca_X1_note (pn := 102) rfl dX1_beginCycle_99 mc_X1_75 (fun _ _ => Nat.le_of_ble_eq_true rfl) h (fun M14 h => ?_)
      refine zh_iinc (pn := 105) rfl dX1_beginCycle_102 (i := 2) (x := l2) (v := l2 + (zI 1)) (lo' := [some (.ref 37), some (.int l1), some (.int (l2 + (zI 1)))]) rfl rfl (by decide) rfl ?_
      refine zh_goto dX1_beginCycle_105 (tgt := 74) rfl ?_
      exact ih _ _ h
set_option maxRecDepth 100000 in
set_option maxHeartbeats 4000000 in
theorem wkl_X1_beginCycle_67 {X : Nat × (Nat → Int32)} {d : Nat} {P : zh_M → Prop} : ∀ (n : Nat) (l1 : Int32) (M : zh_M) (w2 : Option Value), wl_X1_beginCycle_67 P n l1 M → zh_W X (d + 4) yX1_beginCycle cX1_beginCycle 3 none 67 [some (.ref 37), some (.int l1), w2] [] zh_LL M 0 0 (zh_pv P) := by
  intro n
  induction n with
  | zero => intro l1 M w2 h; exact h.elim
  | succ n ih =>
    intro l1 M w2 h
    unfold wl_X1_beginCycle_67 at h
    refine zh_iload_n (pn := 68) rfl dX1_beginCycle_67 (i := 1) (x := l1) rfl rfl ?_
    refine zh_iconst (pn := 69) rfl dX1_beginCycle_68 (v := (zI 4)) rfl ?_
    refine zh_icmp_ge (pn := 72) rfl dX1_beginCycle_69 (tgt := 114) rfl (fun cc1 => ?_) (fun cc1 => ?_)
    · replace h := h.1 cc1
      exact zh_vret dX1_beginCycle_114 rfl ⟨rfl, rfl, h⟩
    · replace h := h.2 cc1
      refine zh_iconst (pn := 73) rfl dX1_beginCycle_72 (v := (zI 0)) rfl ?_
      refine zh_istore_n (pn := 74) rfl dX1_beginCycle_73 (i := 2) (lo' := [some (.ref 37), some (.int l1), some (.int (zI 0))]) rfl (by decide) rfl ?_
      obtain ⟨n17, h⟩ := h
      refine wkl_X1_beginCycle_74 (fun M15 w2_16 h => ?_) n17 _ _ h
      refine zh_iinc (pn := 111) rfl dX1_beginCycle_108 (i := 1) (x := l1) (v := l1 + (zI 1)) (lo' := [some (.ref 37), some (.int (l1 + (zI 1))), w2_16]) rfl rfl (by decide) rfl ?_
      refine zh_goto dX1_beginCycle_111 (tgt := 67) rfl ?_
      exact ih _ _ _ h
set_option maxRecDepth 100000 in
set_option maxHeartbeats 4000000 in
theorem wk_X1_beginCycle {X : Nat × (Nat → Int32)} {d : Nat} {M : zh_M} {P : zh_M → Prop} (h : wp_X1_beginCycle M P) : zh_W X (d + 4) yX1_beginCycle cX1_beginCycle 3 none 0 (zh_en [.ref 37] 3) [] zh_LL M 0 0 (zh_pv P) := by
  unfold wp_X1_beginCycle at h
  show zh_W X (d + 4) yX1_beginCycle cX1_beginCycle 3 none 0 [some (.ref 37), none, none] [] zh_LL M 0 0 (zh_pv P)
  refine zh_aload_n (pn := 1) rfl dX1_beginCycle_0 (i := 0) (v := .ref 37) rfl rfl (Or.inr ⟨_, rfl⟩) ?_
  refine zh_get (pn := 4) rfl dX1_beginCycle_1 (v := .ref 2) (k := 0) rfl rfl (by decide) (by decide) in_X1 mf_X1_9 rfl ?_
  refine zh_bipush (pn := 6) rfl dX1_beginCycle_4 (v := (zI 16)) rfl ?_
  refine ca_X3_sweepSpans (pn := 9) rfl dX1_beginCycle_6 mc_X1_47 (fun _ _ => Nat.le_of_ble_eq_true rfl) h (fun r2 M1 h => ?_)
  refine zh_pop (pn := 10) rfl dX1_beginCycle_9 (fun _ _ => rfl) ?_
  refine zh_aload_n (pn := 11) rfl dX1_beginCycle_10 (i := 0) (v := .ref 37) rfl rfl (Or.inr ⟨_, rfl⟩) ?_
  refine zh_dup (pn := 12) rfl dX1_beginCycle_11 (fun _ _ => rfl) ?_
  refine zh_get (pn := 15) rfl dX1_beginCycle_12 (v := .int (M1 37 6)) (k := 6) rfl rfl (by decide) (by decide) in_X1 mf_X1_35 rfl ?_
  refine zh_iconst (pn := 16) rfl dX1_beginCycle_15 (v := (zI 1)) rfl ?_
  refine zh_iadd (pn := 17) rfl dX1_beginCycle_16 ?_
  refine zh_put (pn := 20) rfl dX1_beginCycle_17 (k := 6) rfl rfl (by decide) (by decide) in_X1 tyX1_ok nmX1 mf_X1_35 rfl rfl rfl rfl ?_
  obtain ⟨M3, eM3⟩ : ∃ q : zh_M, q = zh_set M1 37 6 ((M1 37 6) + (zI 1)) := ⟨_, rfl⟩
  replace h := h M3 eM3
  rw [← eM3]
  refine zh_aload_n (pn := 21) rfl dX1_beginCycle_20 (i := 0) (v := .ref 37) rfl rfl (Or.inr ⟨_, rfl⟩) ?_
  refine zh_iconst (pn := 22) rfl dX1_beginCycle_21 (v := (zI 1)) rfl ?_
  refine zh_put (pn := 25) rfl dX1_beginCycle_22 (k := 5) rfl rfl (by decide) (by decide) in_X1 tyX1_ok nmX1 mf_X1_31 rfl rfl rfl rfl ?_
  obtain ⟨M4, eM4⟩ : ∃ q : zh_M, q = zh_set M3 37 5 (zI 1) := ⟨_, rfl⟩
  replace h := h M4 eM4
  rw [← eM4]
  refine zh_aload_n (pn := 26) rfl dX1_beginCycle_25 (i := 0) (v := .ref 37) rfl rfl (Or.inr ⟨_, rfl⟩) ?_
  refine zh_iconst (pn := 27) rfl dX1_beginCycle_26 (v := (zI 0)) rfl ?_
  refine zh_put (pn := 30) rfl dX1_beginCycle_27 (k := 4) rfl rfl (by decide) (by decide) in_X1 tyX1_ok nmX1 mf_X1_27 rfl rfl rfl rfl ?_
  obtain ⟨M5, eM5⟩ : ∃ q : zh_M, q = zh_set M4 37 4 (zI 0) := ⟨_, rfl⟩
  replace h := h M5 eM5
  rw [← eM5]
  refine zh_aload_n (pn := 31) rfl dX1_beginCycle_30 (i := 0) (v := .ref 37) rfl rfl (Or.inr ⟨_, rfl⟩) ?_
  refine zh_get (pn := 34) rfl dX1_beginCycle_31 (v := .ref 2) (k := 0) rfl rfl (by decide) (by decide) in_X1 mf_X1_9 rfl ?_
  refine zh_get (pn := 37) rfl dX1_beginCycle_34 (v := .ref 8) (k := 5) rfl rfl (by decide) (by decide) in_X3 mf_X1_53 rfl ?_
  refine zh_iconst (pn := 38) rfl dX1_beginCycle_37 (v := (zI 0)) rfl ?_
  refine zh_fill (pn := 41) rfl dX1_beginCycle_38 mc_X1_56 rfl (by decide) (fun _ _ => Nat.le_of_ble_eq_true rfl) ?_
  obtain ⟨M6, eM6⟩ : ∃ q : zh_M, q = zh_row M5 8 (fun j => if j < 128 then (zI 0) else M5 8 j) := ⟨_, rfl⟩
  replace h := h M6 eM6
  rw [← eM6]
  refine zh_iconst (pn := 42) rfl dX1_beginCycle_41 (v := (zI 0)) rfl ?_
  refine zh_istore_n (pn := 43) rfl dX1_beginCycle_42 (i := 1) (lo' := [some (.ref 37), some (.int (zI 0)), none]) rfl (by decide) rfl ?_
  obtain ⟨n19, h⟩ := h
  refine wkl_X1_beginCycle_43 (fun M9 w1_10 w2_11 h => ?_) n19 _ _ _ h
  refine zh_iconst (pn := 66) rfl dX1_beginCycle_65 (v := (zI 0)) rfl ?_
  refine zh_istore_n (pn := 67) rfl dX1_beginCycle_66 (i := 1) (lo' := [some (.ref 37), some (.int (zI 0)), w2_11]) rfl (by decide) rfl ?_
  obtain ⟨n18, h⟩ := h
  refine wkl_X1_beginCycle_67 n18 _ _ _ h
set_option maxRecDepth 100000 in
theorem ca_X1_beginCycle {X : Nat × (Nat → Int32)} {d : Nat} {y : MethodName} {cc : ByteArray} {nL : Nat} {rt : Option FieldType} {pc pn idx : Nat} {lo : List (Option Value)} {st : List Value} {M : zh_M} {P : Option Value → List zh_LC → zh_M → Prop} {K : zh_M → Prop} (hp : pc + 3 = pn) (hd : decode cc pc = .ok (.invokevirtual idx, 3)) (m1 : Cond.methodLink y.cls idx yX1_beginCycle ∈ zh_WS) (hsc : ∀ base b, ((st.map (zh_tr base b)).map fun v => v.category).sum ≤ 8) (h : wp_X1_beginCycle M K) (kk : ∀ M1, K M1 → zh_W X (d + 5) y cc nL rt pn lo st zh_LL M1 0 0 P) : zh_W X (d + 5) y cc nL rt pc lo (.ref 37 :: st) zh_LL M 0 0 P := by
  refine zh_callV (bc := 0) (bs := 0) (bc' := 0) (bs' := 0) (as := []) (st := st) hp hd rfl (by decide) rfl rfl m1 me_X1_beginCycle.1 me_X1_beginCycle.2.1 me_X1_beginCycle.2.2.1 me_X1_beginCycle.2.2.2 ⟨by decide, by decide, by decide⟩ (by show _ = some 0; decide +kernel) (fun v hv => by cases hv) hsc (Nat.le_of_ble_eq_true rfl) (by decide) (wk_X1_beginCycle  h) (fun r L' M' q => ?_) (fun r L' M' q => ?_)
  · obtain ⟨-, rfl, q⟩ := q; rfl
  · obtain ⟨rfl, rfl, q⟩ := q; exact kk M' q
set_option maxRecDepth 100000 in
set_option maxHeartbeats 4000000 in
theorem wkl_X1_nextToScan_2 {X : Nat × (Nat → Int32)} {d : Nat} {P : Option Nat → zh_M → Prop} : ∀ (n : Nat) (l1 : Int32) (M : zh_M) , wl_X1_nextToScan_2 P n l1 M → zh_W X (d + 0) yX1_nextToScan cX1_nextToScan 2 (some (.object "FiberHeap$Fiber")) 2 [some (.ref 37), some (.int l1)] [] zh_LL M 0 0 (zh_pq P) := by
  intro n
  induction n with
  | zero => intro l1 M  h; exact h.elim
  | succ n ih =>
    intro l1 M  h
    unfold wl_X1_nextToScan_2 at h
    refine zh_iload_n (pn := 3) rfl dX1_nextToScan_2 (i := 1) (x := l1) rfl rfl ?_
    refine zh_bipush (pn := 5) rfl dX1_nextToScan_3 (v := (zI 6)) rfl ?_
    refine zh_icmp_ge (pn := 8) rfl dX1_nextToScan_5 (tgt := 45) rfl (fun cc1 => ?_) (fun cc1 => ?_)
    · replace h := h.1 cc1
      refine zh_null (pn := 46) rfl dX1_nextToScan_45 ?_
      exact zh_aret (r := none) dX1_nextToScan_46 rfl (Or.inl ⟨_, rfl⟩) ⟨_, rfl, rfl, h⟩
    · replace h := h.2 cc1
      refine zh_aload_n (pn := 9) rfl dX1_nextToScan_8 (i := 0) (v := .ref 37) rfl rfl (Or.inr ⟨_, rfl⟩) ?_
      refine zh_get (pn := 12) rfl dX1_nextToScan_9 (v := .ref 9) (k := 1) rfl rfl (by decide) (by decide) in_X1 mf_X1_15 rfl ?_
      refine zh_iload_n (pn := 13) rfl dX1_nextToScan_12 (i := 1) (x := l1) rfl rfl ?_
      refine zh_aald_Fiber (pn := 14) rfl dX1_nextToScan_13 h.1 ?_
      have zf1 := zf_of_Fiber h.1
      replace h := h.2
      refine zh_get (pn := 17) rfl dX1_nextToScan_14 (v := .int (M (zi_Fiber l1) 2)) (k := 2) (at_Fiber zf1) rfl (by decide) (by decide) in_X2 mf_X1_105 rfl ?_
      refine zh_if_eq (pn := 20) rfl dX1_nextToScan_17 (tgt := 39) rfl (fun cc1 => ?_) (fun cc1 => ?_)
      · replace h := h.1 cc1
        refine zh_iinc (pn := 42) rfl dX1_nextToScan_39 (i := 1) (x := l1) (v := l1 + (zI 1)) (lo' := [some (.ref 37), some (.int (l1 + (zI 1)))]) rfl rfl (by decide) rfl ?_
        refine zh_goto dX1_nextToScan_42 (tgt := 2) rfl ?_
        exact ih _ _ h
      · replace h := h.2 cc1
        refine zh_aload_n (pn := 21) rfl dX1_nextToScan_20 (i := 0) (v := .ref 37) rfl rfl (Or.inr ⟨_, rfl⟩) ?_
        refine zh_get (pn := 24) rfl dX1_nextToScan_21 (v := .ref 9) (k := 1) rfl rfl (by decide) (by decide) in_X1 mf_X1_15 rfl ?_
        refine zh_iload_n (pn := 25) rfl dX1_nextToScan_24 (i := 1) (x := l1) rfl rfl ?_
        refine zh_aald_Fiber (pn := 26) rfl dX1_nextToScan_25 h.1 ?_
        have zf2 := zf_of_Fiber h.1
        replace h := h.2
        refine zh_get (pn := 29) rfl dX1_nextToScan_26 (v := .int (M (zi_Fiber l1) 6)) (k := 6) (at_Fiber zf2) rfl (by decide) (by decide) in_X2 mf_X1_62 rfl ?_
        refine zh_if_ne (pn := 32) rfl dX1_nextToScan_29 (tgt := 39) rfl (fun cc1 => ?_) (fun cc1 => ?_)
        · replace h := h.1 cc1
          refine zh_iinc (pn := 42) rfl dX1_nextToScan_39 (i := 1) (x := l1) (v := l1 + (zI 1)) (lo' := [some (.ref 37), some (.int (l1 + (zI 1)))]) rfl rfl (by decide) rfl ?_
          refine zh_goto dX1_nextToScan_42 (tgt := 2) rfl ?_
          exact ih _ _ h
        · replace h := h.2 cc1
          refine zh_aload_n (pn := 33) rfl dX1_nextToScan_32 (i := 0) (v := .ref 37) rfl rfl (Or.inr ⟨_, rfl⟩) ?_
          refine zh_get (pn := 36) rfl dX1_nextToScan_33 (v := .ref 9) (k := 1) rfl rfl (by decide) (by decide) in_X1 mf_X1_15 rfl ?_
          refine zh_iload_n (pn := 37) rfl dX1_nextToScan_36 (i := 1) (x := l1) rfl rfl ?_
          refine zh_aald_Fiber (pn := 38) rfl dX1_nextToScan_37 h.1 ?_
          have zf3 := zf_of_Fiber h.1
          replace h := h.2
          exact zh_aret (r := (some (zi_Fiber l1))) dX1_nextToScan_38 rfl (Or.inl ⟨_, rfl⟩) ⟨_, rfl, rfl, h⟩
set_option maxRecDepth 100000 in
set_option maxHeartbeats 4000000 in
theorem wk_X1_nextToScan {X : Nat × (Nat → Int32)} {d : Nat} {M : zh_M} {P : Option Nat → zh_M → Prop} (h : wp_X1_nextToScan M P) : zh_W X (d + 0) yX1_nextToScan cX1_nextToScan 2 (some (.object "FiberHeap$Fiber")) 0 (zh_en [.ref 37] 2) [] zh_LL M 0 0 (zh_pq P) := by
  unfold wp_X1_nextToScan at h
  show zh_W X (d + 0) yX1_nextToScan cX1_nextToScan 2 (some (.object "FiberHeap$Fiber")) 0 [some (.ref 37), none] [] zh_LL M 0 0 (zh_pq P)
  refine zh_iconst (pn := 1) rfl dX1_nextToScan_0 (v := (zI 0)) rfl ?_
  refine zh_istore_n (pn := 2) rfl dX1_nextToScan_1 (i := 1) (lo' := [some (.ref 37), some (.int (zI 0))]) rfl (by decide) rfl ?_
  obtain ⟨n4, h⟩ := h
  refine wkl_X1_nextToScan_2 n4 _ _ h
set_option maxRecDepth 100000 in
theorem ca_X1_nextToScan {X : Nat × (Nat → Int32)} {d : Nat} {y : MethodName} {cc : ByteArray} {nL : Nat} {rt : Option FieldType} {pc pn idx : Nat} {lo : List (Option Value)} {st : List Value} {M : zh_M} {P : Option Value → List zh_LC → zh_M → Prop} {K : Option Nat → zh_M → Prop} (hp : pc + 3 = pn) (hd : decode cc pc = .ok (.invokevirtual idx, 3)) (m1 : Cond.methodLink y.cls idx yX1_nextToScan ∈ zh_WS) (hsc : ∀ base b, ((st.map (zh_tr base b)).map fun v => v.category).sum ≤ 8) (h : wp_X1_nextToScan M K) (kk : ∀ r M1, K r M1 → zh_W X (d + 1) y cc nL rt pn lo (va_rf r :: st) zh_LL M1 0 0 P) : zh_W X (d + 1) y cc nL rt pc lo (.ref 37 :: st) zh_LL M 0 0 P := by
  refine zh_callV (bc := 0) (bs := 0) (bc' := 0) (bs' := 0) (as := []) (st := st) hp hd rfl (by decide) rfl rfl m1 me_X1_nextToScan.1 me_X1_nextToScan.2.1 me_X1_nextToScan.2.2.1 me_X1_nextToScan.2.2.2 ⟨by decide, by decide, by decide⟩ (by show _ = some 0; decide +kernel) (fun v hv => by cases hv) hsc (Nat.le_of_ble_eq_true rfl) (by decide) (wk_X1_nextToScan  h) (fun r L' M' q => ?_) (fun r L' M' q => ?_)
  · obtain ⟨v, -, rfl, q⟩ := q; rfl
  · obtain ⟨v, rfl, rfl, q⟩ := q; exact kk v M' q
