set_option maxRecDepth 100000 in
set_option maxHeartbeats 4000000 in
theorem wk_X5_leave {X : Nat × (Nat → Int32)} {d : Nat} {M : zh_M} {a1 : Int32} {P : Int32 → zh_M → Prop} (h : wp_X5_leave M a1 P) : zh_W X (d + 2) yX5_leave cX5_leave 3 (some .boolean) 0 (zh_en [.ref 39, .int a1] 3) [] zh_LL M 0 0 (zh_pi P) := by
  unfold wp_X5_leave at h
  show zh_W X (d + 2) yX5_leave cX5_leave 3 (some .boolean) 0 [some (.ref 39), some (.int a1), none] [] zh_LL M 0 0 (zh_pi P)
  refine zh_aload_n (pn := 1) rfl dX5_leave_0 (i := 0) (v := .ref 39) rfl rfl (Or.inr ⟨_, rfl⟩) ?_
  refine zh_iload_n (pn := 2) rfl dX5_leave_1 (i := 1) (x := a1) rfl rfl ?_
  refine ca_X5_ready (pn := 5) rfl dX5_leave_2 mc_X5_89 (fun _ _ => Nat.le_of_ble_eq_true rfl) h (fun r2 M1 h => ?_)
  refine zh_if_eq (pn := 8) rfl dX5_leave_5 (tgt := 18) rfl (fun cc1 => ?_) (fun cc1 => ?_)
  · replace h := h.1 cc1
    refine zh_iconst (pn := 19) rfl dX5_leave_18 (v := (zI 0)) rfl ?_
    exact zh_iret dX5_leave_19 rfl rfl ⟨_, rfl, rfl, h⟩
  · replace h := h.2 cc1
    refine zh_aload_n (pn := 9) rfl dX5_leave_8 (i := 0) (v := .ref 39) rfl rfl (Or.inr ⟨_, rfl⟩) ?_
    refine zh_get (pn := 12) rfl dX5_leave_9 (v := .ref 50) (k := 10) rfl rfl (by decide) (by decide) in_X5 mf_X5_41 rfl ?_
    refine zh_iload_n (pn := 13) rfl dX5_leave_12 (i := 1) (x := a1) rfl rfl ?_
    refine zh_iald (pn := 14) rfl dX5_leave_13 rfl h.1 ?_
    replace h := h.2
    refine zh_iconst (pn := 15) rfl dX5_leave_14 (v := (zI 1)) rfl ?_
    refine zh_icmp_ne (pn := 18) rfl dX5_leave_15 (tgt := 20) rfl (fun cc1 => ?_) (fun cc1 => ?_)
    · replace h := h.1 cc1
      refine zh_bipush (pn := 22) rfl dX5_leave_20 (v := (zI 16)) rfl ?_
      refine zh_iload_n (pn := 23) rfl dX5_leave_22 (i := 1) (x := a1) rfl rfl ?_
      refine zh_imul (pn := 24) rfl dX5_leave_23 ?_
      refine zh_aload_n (pn := 25) rfl dX5_leave_24 (i := 0) (v := .ref 39) rfl rfl (Or.inr ⟨_, rfl⟩) ?_
      refine zh_get (pn := 28) rfl dX5_leave_25 (v := .ref 50) (k := 10) rfl rfl (by decide) (by decide) in_X5 mf_X5_41 rfl ?_
      refine zh_iload_n (pn := 29) rfl dX5_leave_28 (i := 1) (x := a1) rfl rfl ?_
      refine zh_iald (pn := 30) rfl dX5_leave_29 rfl h.1 ?_
      replace h := h.2
      refine zh_iadd (pn := 31) rfl dX5_leave_30 ?_
      refine zh_iconst (pn := 32) rfl dX5_leave_31 (v := (zI 1)) rfl ?_
      refine zh_isub (pn := 33) rfl dX5_leave_32 ?_
      refine zh_istore_n (pn := 34) rfl dX5_leave_33 (i := 2) (lo' := [some (.ref 39), some (.int a1), some (.int ((((zI 16) * a1) + (M1 50 a1.toNatClampNeg)) - (zI 1)))]) rfl (by decide) rfl ?_
      refine zh_aload_n (pn := 35) rfl dX5_leave_34 (i := 0) (v := .ref 39) rfl rfl (Or.inr ⟨_, rfl⟩) ?_
      refine zh_get (pn := 38) rfl dX5_leave_35 (v := .ref 52) (k := 12) rfl rfl (by decide) (by decide) in_X5 mf_X5_47 rfl ?_
      refine zh_iconst (pn := 39) rfl dX5_leave_38 (v := (zI 4)) rfl ?_
      refine zh_iload_n (pn := 40) rfl dX5_leave_39 (i := 2) (x := (((zI 16) * a1) + (M1 50 a1.toNatClampNeg)) - (zI 1)) rfl rfl ?_
      refine zh_imul (pn := 41) rfl dX5_leave_40 ?_
      refine zh_iconst (pn := 42) rfl dX5_leave_41 (v := (zI 4)) rfl ?_
      refine zh_isub (pn := 43) rfl dX5_leave_42 ?_
      refine zh_aload_n (pn := 44) rfl dX5_leave_43 (i := 0) (v := .ref 39) rfl rfl (Or.inr ⟨_, rfl⟩) ?_
      refine zh_get (pn := 47) rfl dX5_leave_44 (v := .ref 52) (k := 12) rfl rfl (by decide) (by decide) in_X5 mf_X5_47 rfl ?_
      refine zh_iconst (pn := 48) rfl dX5_leave_47 (v := (zI 4)) rfl ?_
      refine zh_iload_n (pn := 49) rfl dX5_leave_48 (i := 2) (x := (((zI 16) * a1) + (M1 50 a1.toNatClampNeg)) - (zI 1)) rfl rfl ?_
      refine zh_imul (pn := 50) rfl dX5_leave_49 ?_
      refine zh_iald (pn := 51) rfl dX5_leave_50 rfl h.1 ?_
      replace h := h.2
      refine zh_iast (pn := 52) rfl dX5_leave_51 rfl h.1 ?_
      obtain ⟨M3, eM3⟩ : ∃ q : zh_M, q = zh_set M1 52 (((zI 4) * ((((zI 16) * a1) + (M1 50 a1.toNatClampNeg)) - (zI 1))) - (zI 4)).toNatClampNeg (M1 52 ((zI 4) * ((((zI 16) * a1) + (M1 50 a1.toNatClampNeg)) - (zI 1))).toNatClampNeg) := ⟨_, rfl⟩
      replace h := h.2 M3 eM3
      rw [← eM3]
      refine zh_aload_n (pn := 53) rfl dX5_leave_52 (i := 0) (v := .ref 39) rfl rfl (Or.inr ⟨_, rfl⟩) ?_
      refine zh_get (pn := 56) rfl dX5_leave_53 (v := .ref 50) (k := 10) rfl rfl (by decide) (by decide) in_X5 mf_X5_41 rfl ?_
      refine zh_iload_n (pn := 57) rfl dX5_leave_56 (i := 1) (x := a1) rfl rfl ?_
      refine zh_dup2 (pn := 58) rfl dX5_leave_57 (fun _ _ => rfl) (fun _ _ => rfl) ?_
      refine zh_iald (pn := 59) rfl dX5_leave_58 rfl h.1 ?_
      replace h := h.2
      refine zh_iconst (pn := 60) rfl dX5_leave_59 (v := (zI 1)) rfl ?_
      refine zh_isub (pn := 61) rfl dX5_leave_60 ?_
      refine zh_iast (pn := 62) rfl dX5_leave_61 rfl h.1 ?_
      obtain ⟨M4, eM4⟩ : ∃ q : zh_M, q = zh_set M3 50 a1.toNatClampNeg ((M3 50 a1.toNatClampNeg) - (zI 1)) := ⟨_, rfl⟩
      replace h := h.2 M4 eM4
      rw [← eM4]
      refine zh_iconst (pn := 63) rfl dX5_leave_62 (v := (zI 1)) rfl ?_
      exact zh_iret dX5_leave_63 rfl rfl ⟨_, rfl, rfl, h⟩
    · replace h := h.2 cc1
      refine zh_iconst (pn := 19) rfl dX5_leave_18 (v := (zI 0)) rfl ?_
      exact zh_iret dX5_leave_19 rfl rfl ⟨_, rfl, rfl, h⟩
set_option maxRecDepth 100000 in
theorem ca_X5_leave {X : Nat × (Nat → Int32)} {d : Nat} {y : MethodName} {cc : ByteArray} {nL : Nat} {rt : Option FieldType} {pc pn idx : Nat} {lo : List (Option Value)} {st : List Value} {M : zh_M} {P : Option Value → List zh_LC → zh_M → Prop} {a1 : Int32} {K : Int32 → zh_M → Prop} (hp : pc + 3 = pn) (hd : decode cc pc = .ok (.invokevirtual idx, 3)) (m1 : Cond.methodLink y.cls idx yX5_leave ∈ zh_WS) (hsc : ∀ base b, ((st.map (zh_tr base b)).map fun v => v.category).sum ≤ 8) (h : wp_X5_leave M a1 K) (kk : ∀ r M1, K r M1 → zh_W X (d + 3) y cc nL rt pn lo (.int r :: st) zh_LL M1 0 0 P) : zh_W X (d + 3) y cc nL rt pc lo (.int a1 :: .ref 39 :: st) zh_LL M 0 0 P := by
  refine zh_callV (bc := 0) (bs := 0) (bc' := 0) (bs' := 0) (as := [.int a1]) (st := st) hp hd rfl (by decide) rfl rfl m1 me_X5_leave.1 me_X5_leave.2.1 me_X5_leave.2.2.1 me_X5_leave.2.2.2 ⟨by decide, by decide, by decide⟩ (by show _ = some 1; decide +kernel) (by intro v hv; simp only [List.mem_cons, List.not_mem_nil, or_false] at hv; rcases hv with rfl <;> (intro _ _; rfl)) hsc (Nat.le_of_ble_eq_true rfl) (by decide) (wk_X5_leave  h) (fun r L' M' q => ?_) (fun r L' M' q => ?_)
  · obtain ⟨v, -, rfl, q⟩ := q; rfl
  · obtain ⟨v, rfl, rfl, q⟩ := q; exact kk v M' q
set_option maxRecDepth 100000 in
set_option maxHeartbeats 4000000 in
theorem wk_X5_aim {X : Nat × (Nat → Int32)} {d : Nat} {M : zh_M} {a1 : Int32} {a2 : Int32} {P : Int32 → zh_M → Prop} (h : wp_X5_aim M a1 a2 P) : zh_W X (d + 2) yX5_aim cX5_aim 3 (some .boolean) 0 (zh_en [.ref 39, .int a1, .int a2] 3) [] zh_LL M 0 0 (zh_pi P) := by
  unfold wp_X5_aim at h
  show zh_W X (d + 2) yX5_aim cX5_aim 3 (some .boolean) 0 [some (.ref 39), some (.int a1), some (.int a2)] [] zh_LL M 0 0 (zh_pi P)
  refine zh_aload_n (pn := 1) rfl dX5_aim_0 (i := 0) (v := .ref 39) rfl rfl (Or.inr ⟨_, rfl⟩) ?_
  refine zh_iload_n (pn := 2) rfl dX5_aim_1 (i := 1) (x := a1) rfl rfl ?_
  refine ca_X5_ready (pn := 5) rfl dX5_aim_2 mc_X5_89 (fun _ _ => Nat.le_of_ble_eq_true rfl) h (fun r2 M1 h => ?_)
  refine zh_if_eq (pn := 8) rfl dX5_aim_5 (tgt := 17) rfl (fun cc1 => ?_) (fun cc1 => ?_)
  · replace h := h.1 cc1
    refine zh_iconst (pn := 18) rfl dX5_aim_17 (v := (zI 0)) rfl ?_
    exact zh_iret dX5_aim_18 rfl rfl ⟨_, rfl, rfl, h⟩
  · replace h := h.2 cc1
    refine zh_iload_n (pn := 9) rfl dX5_aim_8 (i := 2) (x := a2) rfl rfl ?_
    refine zh_if_lt (pn := 12) rfl dX5_aim_9 (tgt := 17) rfl (fun cc1 => ?_) (fun cc1 => ?_)
    · replace h := h.1 cc1
      refine zh_iconst (pn := 18) rfl dX5_aim_17 (v := (zI 0)) rfl ?_
      exact zh_iret dX5_aim_18 rfl rfl ⟨_, rfl, rfl, h⟩
    · replace h := h.2 cc1
      refine zh_iload_n (pn := 13) rfl dX5_aim_12 (i := 2) (x := a2) rfl rfl ?_
      refine zh_iconst (pn := 14) rfl dX5_aim_13 (v := (zI 3)) rfl ?_
      refine zh_icmp_le (pn := 17) rfl dX5_aim_14 (tgt := 19) rfl (fun cc1 => ?_) (fun cc1 => ?_)
      · replace h := h.1 cc1
        refine zh_aload_n (pn := 20) rfl dX5_aim_19 (i := 0) (v := .ref 39) rfl rfl (Or.inr ⟨_, rfl⟩) ?_
        refine zh_get (pn := 23) rfl dX5_aim_20 (v := .ref 53) (k := 13) rfl rfl (by decide) (by decide) in_X5 mf_X5_50 rfl ?_
        refine zh_bipush (pn := 25) rfl dX5_aim_23 (v := (zI 16)) rfl ?_
        refine zh_iload_n (pn := 26) rfl dX5_aim_25 (i := 1) (x := a1) rfl rfl ?_
        refine zh_imul (pn := 27) rfl dX5_aim_26 ?_
        refine zh_aload_n (pn := 28) rfl dX5_aim_27 (i := 0) (v := .ref 39) rfl rfl (Or.inr ⟨_, rfl⟩) ?_
        refine zh_get (pn := 31) rfl dX5_aim_28 (v := .ref 50) (k := 10) rfl rfl (by decide) (by decide) in_X5 mf_X5_41 rfl ?_
        refine zh_iload_n (pn := 32) rfl dX5_aim_31 (i := 1) (x := a1) rfl rfl ?_
        refine zh_iald (pn := 33) rfl dX5_aim_32 rfl h.1 ?_
        replace h := h.2
        refine zh_iadd (pn := 34) rfl dX5_aim_33 ?_
        refine zh_iconst (pn := 35) rfl dX5_aim_34 (v := (zI 1)) rfl ?_
        refine zh_isub (pn := 36) rfl dX5_aim_35 ?_
        refine zh_iconst (pn := 37) rfl dX5_aim_36 (v := (zI 4)) rfl ?_
        refine zh_aload_n (pn := 38) rfl dX5_aim_37 (i := 0) (v := .ref 39) rfl rfl (Or.inr ⟨_, rfl⟩) ?_
        refine zh_get (pn := 41) rfl dX5_aim_38 (v := .ref 50) (k := 10) rfl rfl (by decide) (by decide) in_X5 mf_X5_41 rfl ?_
        refine zh_iload_n (pn := 42) rfl dX5_aim_41 (i := 1) (x := a1) rfl rfl ?_
        refine zh_iald (pn := 43) rfl dX5_aim_42 rfl h.1 ?_
        replace h := h.2
        refine zh_iconst (pn := 44) rfl dX5_aim_43 (v := (zI 1)) rfl ?_
        refine zh_isub (pn := 45) rfl dX5_aim_44 ?_
        refine zh_imul (pn := 46) rfl dX5_aim_45 ?_
        refine zh_iload_n (pn := 47) rfl dX5_aim_46 (i := 2) (x := a2) rfl rfl ?_
        refine zh_iadd (pn := 48) rfl dX5_aim_47 ?_
        refine zh_iast (pn := 49) rfl dX5_aim_48 rfl h.1 ?_
        obtain ⟨M3, eM3⟩ : ∃ q : zh_M, q = zh_set M1 53 ((((zI 16) * a1) + (M1 50 a1.toNatClampNeg)) - (zI 1)).toNatClampNeg (((zI 4) * ((M1 50 a1.toNatClampNeg) - (zI 1))) + a2) := ⟨_, rfl⟩
        replace h := h.2 M3 eM3
        rw [← eM3]
        refine zh_iconst (pn := 50) rfl dX5_aim_49 (v := (zI 1)) rfl ?_
        exact zh_iret dX5_aim_50 rfl rfl ⟨_, rfl, rfl, h⟩
      · replace h := h.2 cc1
        refine zh_iconst (pn := 18) rfl dX5_aim_17 (v := (zI 0)) rfl ?_
        exact zh_iret dX5_aim_18 rfl rfl ⟨_, rfl, rfl, h⟩
set_option maxRecDepth 100000 in
theorem ca_X5_aim {X : Nat × (Nat → Int32)} {d : Nat} {y : MethodName} {cc : ByteArray} {nL : Nat} {rt : Option FieldType} {pc pn idx : Nat} {lo : List (Option Value)} {st : List Value} {M : zh_M} {P : Option Value → List zh_LC → zh_M → Prop} {a1 : Int32} {a2 : Int32} {K : Int32 → zh_M → Prop} (hp : pc + 3 = pn) (hd : decode cc pc = .ok (.invokevirtual idx, 3)) (m1 : Cond.methodLink y.cls idx yX5_aim ∈ zh_WS) (hsc : ∀ base b, ((st.map (zh_tr base b)).map fun v => v.category).sum ≤ 8) (h : wp_X5_aim M a1 a2 K) (kk : ∀ r M1, K r M1 → zh_W X (d + 3) y cc nL rt pn lo (.int r :: st) zh_LL M1 0 0 P) : zh_W X (d + 3) y cc nL rt pc lo (.int a2 :: .int a1 :: .ref 39 :: st) zh_LL M 0 0 P := by
  refine zh_callV (bc := 0) (bs := 0) (bc' := 0) (bs' := 0) (as := [.int a1, .int a2]) (st := st) hp hd rfl (by decide) rfl rfl m1 me_X5_aim.1 me_X5_aim.2.1 me_X5_aim.2.2.1 me_X5_aim.2.2.2 ⟨by decide, by decide, by decide⟩ (by show _ = some 2; decide +kernel) (by intro v hv; simp only [List.mem_cons, List.not_mem_nil, or_false] at hv; rcases hv with rfl | rfl <;> (intro _ _; rfl)) hsc (Nat.le_of_ble_eq_true rfl) (by decide) (wk_X5_aim  h) (fun r L' M' q => ?_) (fun r L' M' q => ?_)
  · obtain ⟨v, -, rfl, q⟩ := q; rfl
  · obtain ⟨v, rfl, rfl, q⟩ := q; exact kk v M' q
set_option maxRecDepth 100000 in
set_option maxHeartbeats 4000000 in
theorem wk_X5_copy {X : Nat × (Nat → Int32)} {d : Nat} {M : zh_M} {a1 : Int32} {a2 : Int32} {a3 : Int32} {P : Int32 → zh_M → Prop} (h : wp_X5_copy M a1 a2 a3 P) : zh_W X (d + 3) yX5_copy cX5_copy 4 (some .boolean) 0 (zh_en [.ref 39, .int a1, .int a2, .int a3] 4) [] zh_LL M 0 0 (zh_pi P) := by
  unfold wp_X5_copy at h
  show zh_W X (d + 3) yX5_copy cX5_copy 4 (some .boolean) 0 [some (.ref 39), some (.int a1), some (.int a2), some (.int a3)] [] zh_LL M 0 0 (zh_pi P)
  refine zh_aload_n (pn := 1) rfl dX5_copy_0 (i := 0) (v := .ref 39) rfl rfl (Or.inr ⟨_, rfl⟩) ?_
  refine zh_iload_n (pn := 2) rfl dX5_copy_1 (i := 1) (x := a1) rfl rfl ?_
  refine zh_iload_n (pn := 3) rfl dX5_copy_2 (i := 2) (x := a2) rfl rfl ?_
  refine zh_iconst (pn := 4) rfl dX5_copy_3 (v := (zI 0)) rfl ?_
  refine ca_X5_cell (pn := 7) rfl dX5_copy_4 mc_X5_96 (fun _ _ => Nat.le_of_ble_eq_true rfl) h (fun r2 M1 h => ?_)
  refine zh_if_eq (pn := 10) rfl dX5_copy_7 (tgt := 20) rfl (fun cc1 => ?_) (fun cc1 => ?_)
  · replace h := h.1 cc1
    refine zh_iconst (pn := 21) rfl dX5_copy_20 (v := (zI 0)) rfl ?_
    exact zh_iret dX5_copy_21 rfl rfl ⟨_, rfl, rfl, h⟩
  · replace h := h.2 cc1
    refine zh_aload_n (pn := 11) rfl dX5_copy_10 (i := 0) (v := .ref 39) rfl rfl (Or.inr ⟨_, rfl⟩) ?_
    refine zh_iload_n (pn := 12) rfl dX5_copy_11 (i := 1) (x := a1) rfl rfl ?_
    refine zh_iload_n (pn := 13) rfl dX5_copy_12 (i := 3) (x := a3) rfl rfl ?_
    refine zh_iconst (pn := 14) rfl dX5_copy_13 (v := (zI 1)) rfl ?_
    refine ca_X5_cell (pn := 17) rfl dX5_copy_14 mc_X5_96 (fun _ _ => Nat.le_of_ble_eq_true rfl) h (fun r4 M3 h => ?_)
    refine zh_if_ne (pn := 20) rfl dX5_copy_17 (tgt := 22) rfl (fun cc1 => ?_) (fun cc1 => ?_)
    · replace h := h.1 cc1
      refine zh_aload_n (pn := 23) rfl dX5_copy_22 (i := 0) (v := .ref 39) rfl rfl (Or.inr ⟨_, rfl⟩) ?_
      refine zh_get (pn := 26) rfl dX5_copy_23 (v := .ref 52) (k := 12) rfl rfl (by decide) (by decide) in_X5 mf_X5_47 rfl ?_
      refine zh_aload_n (pn := 27) rfl dX5_copy_26 (i := 0) (v := .ref 39) rfl rfl (Or.inr ⟨_, rfl⟩) ?_
      refine zh_iload_n (pn := 28) rfl dX5_copy_27 (i := 1) (x := a1) rfl rfl ?_
      refine zh_iload_n (pn := 29) rfl dX5_copy_28 (i := 2) (x := a2) rfl rfl ?_
      refine ca_X5_place (pn := 32) rfl dX5_copy_29 mc_X5_92 (fun _ _ => Nat.le_of_ble_eq_true rfl) h (fun r6 M5 h => ?_)
      refine zh_aload_n (pn := 33) rfl dX5_copy_32 (i := 0) (v := .ref 39) rfl rfl (Or.inr ⟨_, rfl⟩) ?_
      refine zh_iload_n (pn := 34) rfl dX5_copy_33 (i := 1) (x := a1) rfl rfl ?_
      refine zh_iload_n (pn := 35) rfl dX5_copy_34 (i := 3) (x := a3) rfl rfl ?_
      refine ca_X5_value (pn := 38) rfl dX5_copy_35 mc_X5_100 (fun _ _ => Nat.le_of_ble_eq_true rfl) h (fun r8 M7 h => ?_)
      refine zh_iast (pn := 39) rfl dX5_copy_38 rfl h.1 ?_
      obtain ⟨M9, eM9⟩ : ∃ q : zh_M, q = zh_set M7 52 r6.toNatClampNeg r8 := ⟨_, rfl⟩
      replace h := h.2 M9 eM9
      rw [← eM9]
      refine zh_iconst (pn := 40) rfl dX5_copy_39 (v := (zI 1)) rfl ?_
      exact zh_iret dX5_copy_40 rfl rfl ⟨_, rfl, rfl, h⟩
    · replace h := h.2 cc1
      refine zh_iconst (pn := 21) rfl dX5_copy_20 (v := (zI 0)) rfl ?_
      exact zh_iret dX5_copy_21 rfl rfl ⟨_, rfl, rfl, h⟩
set_option maxRecDepth 100000 in
theorem ca_X5_copy {X : Nat × (Nat → Int32)} {d : Nat} {y : MethodName} {cc : ByteArray} {nL : Nat} {rt : Option FieldType} {pc pn idx : Nat} {lo : List (Option Value)} {st : List Value} {M : zh_M} {P : Option Value → List zh_LC → zh_M → Prop} {a1 : Int32} {a2 : Int32} {a3 : Int32} {K : Int32 → zh_M → Prop} (hp : pc + 3 = pn) (hd : decode cc pc = .ok (.invokevirtual idx, 3)) (m1 : Cond.methodLink y.cls idx yX5_copy ∈ zh_WS) (hsc : ∀ base b, ((st.map (zh_tr base b)).map fun v => v.category).sum ≤ 8) (h : wp_X5_copy M a1 a2 a3 K) (kk : ∀ r M1, K r M1 → zh_W X (d + 4) y cc nL rt pn lo (.int r :: st) zh_LL M1 0 0 P) : zh_W X (d + 4) y cc nL rt pc lo (.int a3 :: .int a2 :: .int a1 :: .ref 39 :: st) zh_LL M 0 0 P := by
  refine zh_callV (bc := 0) (bs := 0) (bc' := 0) (bs' := 0) (as := [.int a1, .int a2, .int a3]) (st := st) hp hd rfl (by decide) rfl rfl m1 me_X5_copy.1 me_X5_copy.2.1 me_X5_copy.2.2.1 me_X5_copy.2.2.2 ⟨by decide, by decide, by decide⟩ (by show _ = some 3; decide +kernel) (by intro v hv; simp only [List.mem_cons, List.not_mem_nil, or_false] at hv; rcases hv with rfl | rfl | rfl <;> (intro _ _; rfl)) hsc (Nat.le_of_ble_eq_true rfl) (by decide) (wk_X5_copy  h) (fun r L' M' q => ?_) (fun r L' M' q => ?_)
  · obtain ⟨v, -, rfl, q⟩ := q; rfl
  · obtain ⟨v, rfl, rfl, q⟩ := q; exact kk v M' q
set_option maxRecDepth 100000 in
set_option maxHeartbeats 4000000 in
theorem wk_X5_slotOf {X : Nat × (Nat → Int32)} {d : Nat} {M : zh_M} {a1 : Int32} {P : Int32 → zh_M → Prop} (h : wp_X5_slotOf M a1 P) : zh_W X (d + 0) yX5_slotOf cX5_slotOf 2 (some .int) 0 (zh_en [.ref 39, .int a1] 2) [] zh_LL M 0 0 (zh_pi P) := by
  unfold wp_X5_slotOf at h
  show zh_W X (d + 0) yX5_slotOf cX5_slotOf 2 (some .int) 0 [some (.ref 39), some (.int a1)] [] zh_LL M 0 0 (zh_pi P)
  refine zh_iload_n (pn := 1) rfl dX5_slotOf_0 (i := 1) (x := a1) rfl rfl ?_
  refine zh_iconst (pn := 2) rfl dX5_slotOf_1 (v := (zI 2)) rfl ?_
  refine zh_icmp_gt (pn := 5) rfl dX5_slotOf_2 (tgt := 9) rfl (fun cc1 => ?_) (fun cc1 => ?_)
  · replace h := h.1 cc1
    refine zh_iload_n (pn := 10) rfl dX5_slotOf_9 (i := 1) (x := a1) rfl rfl ?_
    refine zh_iconst (pn := 11) rfl dX5_slotOf_10 (v := (zI 4)) rfl ?_
    refine zh_icmp_gt (pn := 14) rfl dX5_slotOf_11 (tgt := 18) rfl (fun cc1 => ?_) (fun cc1 => ?_)
    · replace h := h.1 cc1
      refine zh_iload_n (pn := 19) rfl dX5_slotOf_18 (i := 1) (x := a1) rfl rfl ?_
      refine zh_bipush (pn := 21) rfl dX5_slotOf_19 (v := (zI 8)) rfl ?_
      refine zh_icmp_gt (pn := 24) rfl dX5_slotOf_21 (tgt := 29) rfl (fun cc1 => ?_) (fun cc1 => ?_)
      · replace h := h.1 cc1
        refine zh_iload_n (pn := 30) rfl dX5_slotOf_29 (i := 1) (x := a1) rfl rfl ?_
        refine zh_bipush (pn := 32) rfl dX5_slotOf_30 (v := (zI 15)) rfl ?_
        refine zh_iadd (pn := 33) rfl dX5_slotOf_32 ?_
        refine zh_bipush (pn := 35) rfl dX5_slotOf_33 (v := (zI 16)) rfl ?_
        refine zh_idiv (pn := 36) rfl dX5_slotOf_35 (by decide) ?_
        refine zh_bipush (pn := 38) rfl dX5_slotOf_36 (v := (zI 16)) rfl ?_
        refine zh_imul (pn := 39) rfl dX5_slotOf_38 ?_
        exact zh_iret dX5_slotOf_39 rfl rfl ⟨_, rfl, rfl, h⟩
      · replace h := h.2 cc1
        refine zh_bipush (pn := 26) rfl dX5_slotOf_24 (v := (zI 8)) rfl ?_
        refine zh_goto dX5_slotOf_26 (tgt := 39) rfl ?_
        exact zh_iret dX5_slotOf_39 rfl rfl ⟨_, rfl, rfl, h⟩
    · replace h := h.2 cc1
      refine zh_iconst (pn := 15) rfl dX5_slotOf_14 (v := (zI 4)) rfl ?_
      refine zh_goto dX5_slotOf_15 (tgt := 39) rfl ?_
      exact zh_iret dX5_slotOf_39 rfl rfl ⟨_, rfl, rfl, h⟩
  · replace h := h.2 cc1
    refine zh_iconst (pn := 6) rfl dX5_slotOf_5 (v := (zI 2)) rfl ?_
    refine zh_goto dX5_slotOf_6 (tgt := 39) rfl ?_
    exact zh_iret dX5_slotOf_39 rfl rfl ⟨_, rfl, rfl, h⟩
set_option maxRecDepth 100000 in
theorem ca_X5_slotOf {X : Nat × (Nat → Int32)} {d : Nat} {y : MethodName} {cc : ByteArray} {nL : Nat} {rt : Option FieldType} {pc pn idx : Nat} {lo : List (Option Value)} {st : List Value} {M : zh_M} {P : Option Value → List zh_LC → zh_M → Prop} {a1 : Int32} {K : Int32 → zh_M → Prop} (hp : pc + 3 = pn) (hd : decode cc pc = .ok (.invokevirtual idx, 3)) (m1 : Cond.methodLink y.cls idx yX5_slotOf ∈ zh_WS) (hsc : ∀ base b, ((st.map (zh_tr base b)).map fun v => v.category).sum ≤ 8) (h : wp_X5_slotOf M a1 K) (kk : ∀ r M1, K r M1 → zh_W X (d + 1) y cc nL rt pn lo (.int r :: st) zh_LL M1 0 0 P) : zh_W X (d + 1) y cc nL rt pc lo (.int a1 :: .ref 39 :: st) zh_LL M 0 0 P := by
  refine zh_callV (bc := 0) (bs := 0) (bc' := 0) (bs' := 0) (as := [.int a1]) (st := st) hp hd rfl (by decide) rfl rfl m1 me_X5_slotOf.1 me_X5_slotOf.2.1 me_X5_slotOf.2.2.1 me_X5_slotOf.2.2.2 ⟨by decide, by decide, by decide⟩ (by show _ = some 1; decide +kernel) (by intro v hv; simp only [List.mem_cons, List.not_mem_nil, or_false] at hv; rcases hv with rfl <;> (intro _ _; rfl)) hsc (Nat.le_of_ble_eq_true rfl) (by decide) (wk_X5_slotOf  h) (fun r L' M' q => ?_) (fun r L' M' q => ?_)
  · obtain ⟨v, -, rfl, q⟩ := q; rfl
  · obtain ⟨v, rfl, rfl, q⟩ := q; exact kk v M' q
set_option maxRecDepth 100000 in
set_option maxHeartbeats 4000000 in
theorem wkl_X5_sweepSpan_33 {X : Nat × (Nat → Int32)} {d : Nat} {P : zh_M → Prop} {l1 : Int32} {l2 : Int32} {K107 : Int32 → zh_M → Prop} (hK107 : ∀ (l3 : Int32) (M : zh_M) (w4 : Option Value), K107 l3 M → zh_W X (d + 0) yX5_sweepSpan cX5_sweepSpan 5 none 107 [some (.ref 39), some (.int l1), some (.int l2), some (.int l3), w4] [] zh_LL M 0 0 (zh_pv P)) : ∀ (n : Nat) (l3 : Int32) (l4 : Int32) (M : zh_M) , wl_X5_sweepSpan_33 l1 l2 K107 P n l3 l4 M → zh_W X (d + 0) yX5_sweepSpan cX5_sweepSpan 5 none 33 [some (.ref 39), some (.int l1), some (.int l2), some (.int l3), some (.int l4)] [] zh_LL M 0 0 (zh_pv P) := by
  intro n
  induction n with
  | zero => intro l3 l4 M  h; exact h.elim
  | succ n ih =>
    intro l3 l4 M  h
    unfold wl_X5_sweepSpan_33 at h
    refine zh_iload (pn := 35) rfl dX5_sweepSpan_33 (i := 4) (x := l4) rfl ?_
    refine zh_bipush (pn := 37) rfl dX5_sweepSpan_35 (v := (zI 16)) rfl ?_
    refine zh_iload_n (pn := 38) rfl dX5_sweepSpan_37 (i := 1) (x := l1) rfl rfl ?_
    refine zh_imul (pn := 39) rfl dX5_sweepSpan_38 ?_
    refine zh_bipush (pn := 41) rfl dX5_sweepSpan_39 (v := (zI 16)) rfl ?_
    refine zh_iadd (pn := 42) rfl dX5_sweepSpan_41 ?_
    refine zh_icmp_ge (pn := 45) rfl dX5_sweepSpan_42 (tgt := 107) rfl (fun cc1 => ?_) (fun cc1 => ?_)
    · replace h := h.1 cc1
      exact hK107 _ _ _ h
    · replace h := h.2 cc1
      refine zh_aload_n (pn := 46) rfl dX5_sweepSpan_45 (i := 0) (v := .ref 39) rfl rfl (Or.inr ⟨_, rfl⟩) ?_
      refine zh_get (pn := 49) rfl dX5_sweepSpan_46 (v := .ref 41) (k := 1) rfl rfl (by decide) (by decide) in_X5 mf_X5_13 rfl ?_
      refine zh_iload (pn := 51) rfl dX5_sweepSpan_49 (i := 4) (x := l4) rfl ?_
      refine zh_iald (pn := 52) rfl dX5_sweepSpan_51 rfl h.1 ?_
      replace h := h.2
      refine zh_if_le (pn := 55) rfl dX5_sweepSpan_52 (tgt := 83) rfl (fun cc1 => ?_) (fun cc1 => ?_)
      · replace h := h.1 cc1
        refine zh_iload_n (pn := 84) rfl dX5_sweepSpan_83 (i := 3) (x := l3) rfl rfl ?_
        refine zh_aload_n (pn := 85) rfl dX5_sweepSpan_84 (i := 0) (v := .ref 39) rfl rfl (Or.inr ⟨_, rfl⟩) ?_
        refine zh_get (pn := 88) rfl dX5_sweepSpan_85 (v := .ref 41) (k := 1) rfl rfl (by decide) (by decide) in_X5 mf_X5_13 rfl ?_
        refine zh_iload (pn := 90) rfl dX5_sweepSpan_88 (i := 4) (x := l4) rfl ?_
        refine zh_iald (pn := 91) rfl dX5_sweepSpan_90 rfl h.1 ?_
        replace h := h.2
        refine zh_if_le (pn := 94) rfl dX5_sweepSpan_91 (tgt := 98) rfl (fun cc1 => ?_) (fun cc1 => ?_)
        · replace h := h.1 cc1
          refine zh_iconst (pn := 99) rfl dX5_sweepSpan_98 (v := (zI 0)) rfl ?_
          refine zh_iadd (pn := 100) rfl dX5_sweepSpan_99 ?_
          refine zh_istore_n (pn := 101) rfl dX5_sweepSpan_100 (i := 3) (lo' := [some (.ref 39), some (.int l1), some (.int l2), some (.int (l3 + (zI 0))), some (.int l4)]) rfl (by decide) rfl ?_
          refine zh_iinc (pn := 104) rfl dX5_sweepSpan_101 (i := 4) (x := l4) (v := l4 + (zI 1)) (lo' := [some (.ref 39), some (.int l1), some (.int l2), some (.int (l3 + (zI 0))), some (.int (l4 + (zI 1)))]) rfl rfl (by decide) rfl ?_
          refine zh_goto dX5_sweepSpan_104 (tgt := 33) rfl ?_
          exact ih _ _ _ h
        · replace h := h.2 cc1
          refine zh_iconst (pn := 95) rfl dX5_sweepSpan_94 (v := (zI 1)) rfl ?_
          refine zh_goto dX5_sweepSpan_95 (tgt := 99) rfl ?_
          refine zh_iadd (pn := 100) rfl dX5_sweepSpan_99 ?_
          refine zh_istore_n (pn := 101) rfl dX5_sweepSpan_100 (i := 3) (lo' := [some (.ref 39), some (.int l1), some (.int l2), some (.int (l3 + (zI 1))), some (.int l4)]) rfl (by decide) rfl ?_
          refine zh_iinc (pn := 104) rfl dX5_sweepSpan_101 (i := 4) (x := l4) (v := l4 + (zI 1)) (lo' := [some (.ref 39), some (.int l1), some (.int l2), some (.int (l3 + (zI 1))), some (.int (l4 + (zI 1)))]) rfl rfl (by decide) rfl ?_
          refine zh_goto dX5_sweepSpan_104 (tgt := 33) rfl ?_
          exact ih _ _ _ h
      · replace h := h.2 cc1
        refine zh_aload_n (pn := 56) rfl dX5_sweepSpan_55 (i := 0) (v := .ref 39) rfl rfl (Or.inr ⟨_, rfl⟩) ?_
        refine zh_get (pn := 59) rfl dX5_sweepSpan_56 (v := .ref 45) (k := 5) rfl rfl (by decide) (by decide) in_X5 mf_X5_26 rfl ?_
        refine zh_iload (pn := 61) rfl dX5_sweepSpan_59 (i := 4) (x := l4) rfl ?_
        refine zh_zald (pn := 62) rfl dX5_sweepSpan_61 rfl h.1 ?_
        replace h := h.2
        refine zh_if_ne (pn := 65) rfl dX5_sweepSpan_62 (tgt := 83) rfl (fun cc1 => ?_) (fun cc1 => ?_)
        · replace h := h.1 cc1
          refine zh_iload_n (pn := 84) rfl dX5_sweepSpan_83 (i := 3) (x := l3) rfl rfl ?_
          refine zh_aload_n (pn := 85) rfl dX5_sweepSpan_84 (i := 0) (v := .ref 39) rfl rfl (Or.inr ⟨_, rfl⟩) ?_
          refine zh_get (pn := 88) rfl dX5_sweepSpan_85 (v := .ref 41) (k := 1) rfl rfl (by decide) (by decide) in_X5 mf_X5_13 rfl ?_
          refine zh_iload (pn := 90) rfl dX5_sweepSpan_88 (i := 4) (x := l4) rfl ?_
          refine zh_iald (pn := 91) rfl dX5_sweepSpan_90 rfl h.1 ?_
          replace h := h.2
          refine zh_if_le (pn := 94) rfl dX5_sweepSpan_91 (tgt := 98) rfl (fun cc1 => ?_) (fun cc1 => ?_)
          · replace h := h.1 cc1
            refine zh_iconst (pn := 99) rfl dX5_sweepSpan_98 (v := (zI 0)) rfl ?_
            refine zh_iadd (pn := 100) rfl dX5_sweepSpan_99 ?_
            refine zh_istore_n (pn := 101) rfl dX5_sweepSpan_100 (i := 3) (lo' := [some (.ref 39), some (.int l1), some (.int l2), some (.int (l3 + (zI 0))), some (.int l4)]) rfl (by decide) rfl ?_
            refine zh_iinc (pn := 104) rfl dX5_sweepSpan_101 (i := 4) (x := l4) (v := l4 + (zI 1)) (lo' := [some (.ref 39), some (.int l1), some (.int l2), some (.int (l3 + (zI 0))), some (.int (l4 + (zI 1)))]) rfl rfl (by decide) rfl ?_
            refine zh_goto dX5_sweepSpan_104 (tgt := 33) rfl ?_
            exact ih _ _ _ h
          · replace h := h.2 cc1
            refine zh_iconst (pn := 95) rfl dX5_sweepSpan_94 (v := (zI 1)) rfl ?_
            refine zh_goto dX5_sweepSpan_95 (tgt := 99) rfl ?_
            refine zh_iadd (pn := 100) rfl dX5_sweepSpan_99 ?_
            refine zh_istore_n (pn := 101) rfl dX5_sweepSpan_100 (i := 3) (lo' := [some (.ref 39), some (.int l1), some (.int l2), some (.int (l3 + (zI 1))), some (.int l4)]) rfl (by decide) rfl ?_
            refine zh_iinc (pn := 104) rfl dX5_sweepSpan_101 (i := 4) (x := l4) (v := l4 + (zI 1)) (lo' := [some (.ref 39), some (.int l1), some (.int l2), some (.int (l3 + (zI 1))), some (.int (l4 + (zI 1)))]) rfl rfl (by decide) rfl ?_
            refine zh_goto dX5_sweepSpan_104 (tgt := 33) rfl ?_
            exact ih _ _ _ h
        · replace h := h.2 cc1
          refine zh_aload_n (pn := 66) rfl dX5_sweepSpan_65 (i := 0) (v := .ref 39) rfl rfl (Or.inr ⟨_, rfl⟩) ?_
          refine zh_get (pn := 69) rfl dX5_sweepSpan_66 (v := .ref 41) (k := 1) rfl rfl (by decide) (by decide) in_X5 mf_X5_13 rfl ?_
          refine zh_iload (pn := 71) rfl dX5_sweepSpan_69 (i := 4) (x := l4) rfl ?_
          refine zh_iconst (pn := 72) rfl dX5_sweepSpan_71 (v := (zI 0)) rfl ?_
          refine zh_iast (pn := 73) rfl dX5_sweepSpan_72 rfl h.1 ?_
          obtain ⟨M1, eM1⟩ : ∃ q : zh_M, q = zh_set M 41 l4.toNatClampNeg (zI 0) := ⟨_, rfl⟩
          replace h := h.2 M1 eM1
          rw [← eM1]
          refine zh_aload_n (pn := 74) rfl dX5_sweepSpan_73 (i := 0) (v := .ref 39) rfl rfl (Or.inr ⟨_, rfl⟩) ?_
          refine zh_dup (pn := 75) rfl dX5_sweepSpan_74 (fun _ _ => rfl) ?_
          refine zh_get (pn := 78) rfl dX5_sweepSpan_75 (v := .int (M1 39 30)) (k := 30) rfl rfl (by decide) (by decide) in_X5 mf_X5_110 rfl ?_
          refine zh_iconst (pn := 79) rfl dX5_sweepSpan_78 (v := (zI 1)) rfl ?_
          refine zh_iadd (pn := 80) rfl dX5_sweepSpan_79 ?_
          refine zh_put (pn := 83) rfl dX5_sweepSpan_80 (k := 30) rfl rfl (by decide) (by decide) in_X5 tyX5_ok nmX5 mf_X5_110 rfl rfl rfl rfl ?_
          obtain ⟨M2, eM2⟩ : ∃ q : zh_M, q = zh_set M1 39 30 ((M1 39 30) + (zI 1)) := ⟨_, rfl⟩
          replace h := h M2 eM2
          rw [← eM2]
          refine zh_iload_n (pn := 84) rfl dX5_sweepSpan_83 (i := 3) (x := l3) rfl rfl ?_
          refine zh_aload_n (pn := 85) rfl dX5_sweepSpan_84 (i := 0) (v := .ref 39) rfl rfl (Or.inr ⟨_, rfl⟩) ?_
          refine zh_get (pn := 88) rfl dX5_sweepSpan_85 (v := .ref 41) (k := 1) rfl rfl (by decide) (by decide) in_X5 mf_X5_13 rfl ?_
          refine zh_iload (pn := 90) rfl dX5_sweepSpan_88 (i := 4) (x := l4) rfl ?_
          refine zh_iald (pn := 91) rfl dX5_sweepSpan_90 rfl h.1 ?_
          replace h := h.2
          refine zh_if_le (pn := 94) rfl dX5_sweepSpan_91 (tgt := 98) rfl (fun cc1 => ?_) (fun cc1 => ?_)
          · replace h := h.1 cc1
            refine zh_iconst (pn := 99) rfl dX5_sweepSpan_98 (v := (zI 0)) rfl ?_
            refine zh_iadd (pn := 100) rfl dX5_sweepSpan_99 ?_
            refine zh_istore_n (pn := 101) rfl dX5_sweepSpan_100 (i := 3) (lo' := [some (.ref 39), some (.int l1), some (.int l2), some (.int (l3 + (zI 0))), some (.int l4)]) rfl (by decide) rfl ?_
            refine zh_iinc (pn := 104) rfl dX5_sweepSpan_101 (i := 4) (x := l4) (v := l4 + (zI 1)) (lo' := [some (.ref 39), some (.int l1), some (.int l2), some (.int (l3 + (zI 0))), some (.int (l4 + (zI 1)))]) rfl rfl (by decide) rfl ?_
            refine zh_goto dX5_sweepSpan_104 (tgt := 33) rfl ?_
            exact ih _ _ _ h
          · replace h := h.2 cc1
            refine zh_iconst (pn := 95) rfl dX5_sweepSpan_94 (v := (zI 1)) rfl ?_
            refine zh_goto dX5_sweepSpan_95 (tgt := 99) rfl ?_
            refine zh_iadd (pn := 100) rfl dX5_sweepSpan_99 ?_
            refine zh_istore_n (pn := 101) rfl dX5_sweepSpan_100 (i := 3) (lo' := [some (.ref 39), some (.int l1), some (.int l2), some (.int (l3 + (zI 1))), some (.int l4)]) rfl (by decide) rfl ?_
            refine zh_iinc (pn := 104) rfl dX5_sweepSpan_101 (i := 4) (x := l4) (v := l4 + (zI 1)) (lo' := [some (.ref 39), some (.int l1), some (.int l2), some (.int (l3 + (zI 1))), some (.int (l4 + (zI 1)))]) rfl rfl (by decide) rfl ?_
            refine zh_goto dX5_sweepSpan_104 (tgt := 33) rfl ?_
            exact ih _ _ _ h
set_option maxRecDepth 100000 in
set_option maxHeartbeats 4000000 in
theorem wkl_X5_sweepSpan_117 {X : Nat × (Nat → Int32)} {d : Nat} {P : zh_M → Prop} {l1 : Int32} {l2 : Int32} {l3 : Int32} : ∀ (n : Nat) (l4 : Int32) (M : zh_M) , wl_X5_sweepSpan_117 l1 l2 l3 P n l4 M → zh_W X (d + 0) yX5_sweepSpan cX5_sweepSpan 5 none 117 [some (.ref 39), some (.int l1), some (.int l2), some (.int l3), some (.int l4)] [] zh_LL M 0 0 (zh_pv P) := by
  intro n
  induction n with
  | zero => intro l4 M  h; exact h.elim
  | succ n ih =>
    intro l4 M  h
    unfold wl_X5_sweepSpan_117 at h
    refine zh_iload (pn := 119) rfl dX5_sweepSpan_117 (i := 4) (x := l4) rfl ?_
    refine zh_iload_n (pn := 120) rfl dX5_sweepSpan_119 (i := 1) (x := l1) rfl rfl ?_
    refine zh_iload_n (pn := 121) rfl dX5_sweepSpan_120 (i := 2) (x := l2) rfl rfl ?_
    refine zh_iadd (pn := 122) rfl dX5_sweepSpan_121 ?_
    refine zh_icmp_ge (pn := 125) rfl dX5_sweepSpan_122 (tgt := 143) rfl (fun cc1 => ?_) (fun cc1 => ?_)
    · replace h := h.1 cc1
      exact zh_vret dX5_sweepSpan_143 rfl ⟨rfl, rfl, h⟩
    · replace h := h.2 cc1
      refine zh_iload_n (pn := 126) rfl dX5_sweepSpan_125 (i := 3) (x := l3) rfl rfl ?_
      refine zh_if_ne (pn := 129) rfl dX5_sweepSpan_126 (tgt := 143) rfl (fun cc1 => ?_) (fun cc1 => ?_)
      · replace h := h.1 cc1
        exact zh_vret dX5_sweepSpan_143 rfl ⟨rfl, rfl, h⟩
      · replace h := h.2 cc1
        refine zh_aload_n (pn := 130) rfl dX5_sweepSpan_129 (i := 0) (v := .ref 39) rfl rfl (Or.inr ⟨_, rfl⟩) ?_
        refine zh_get (pn := 133) rfl dX5_sweepSpan_130 (v := .ref 47) (k := 7) rfl rfl (by decide) (by decide) in_X5 mf_X5_32 rfl ?_
        refine zh_iload (pn := 135) rfl dX5_sweepSpan_133 (i := 4) (x := l4) rfl ?_
        refine zh_iconst (pn := 136) rfl dX5_sweepSpan_135 (v := (zI 0)) rfl ?_
        refine zh_iast (pn := 137) rfl dX5_sweepSpan_136 rfl h.1 ?_
        obtain ⟨M7, eM7⟩ : ∃ q : zh_M, q = zh_set M 47 l4.toNatClampNeg (zI 0) := ⟨_, rfl⟩
        replace h := h.2 M7 eM7
        rw [← eM7]
        refine zh_iinc (pn := 140) rfl dX5_sweepSpan_137 (i := 4) (x := l4) (v := l4 + (zI 1)) (lo' := [some (.ref 39), some (.int l1), some (.int l2), some (.int l3), some (.int (l4 + (zI 1)))]) rfl rfl (by decide) rfl ?_
        refine zh_goto dX5_sweepSpan_140 (tgt := 117) rfl ?_
        exact ih _ _ h
set_option maxRecDepth 100000 in
set_option maxHeartbeats 4000000 in
theorem wk_X5_sweepSpan {X : Nat × (Nat → Int32)} {d : Nat} {M : zh_M} {a1 : Int32} {P : zh_M → Prop} (h : wp_X5_sweepSpan M a1 P) : zh_W X (d + 0) yX5_sweepSpan cX5_sweepSpan 5 none 0 (zh_en [.ref 39, .int a1] 5) [] zh_LL M 0 0 (zh_pv P) := by
  unfold wp_X5_sweepSpan at h
  show zh_W X (d + 0) yX5_sweepSpan cX5_sweepSpan 5 none 0 [some (.ref 39), some (.int a1), none, none, none] [] zh_LL M 0 0 (zh_pv P)
  refine zh_aload_n (pn := 1) rfl dX5_sweepSpan_0 (i := 0) (v := .ref 39) rfl rfl (Or.inr ⟨_, rfl⟩) ?_
  refine zh_get (pn := 4) rfl dX5_sweepSpan_1 (v := .ref 47) (k := 7) rfl rfl (by decide) (by decide) in_X5 mf_X5_32 rfl ?_
  refine zh_iload_n (pn := 5) rfl dX5_sweepSpan_4 (i := 1) (x := a1) rfl rfl ?_
  refine zh_iald (pn := 6) rfl dX5_sweepSpan_5 rfl h.1 ?_
  replace h := h.2
  refine zh_bipush (pn := 8) rfl dX5_sweepSpan_6 (v := (zI 16)) rfl ?_
  refine zh_icmp_ge (pn := 11) rfl dX5_sweepSpan_8 (tgt := 15) rfl (fun cc1 => ?_) (fun cc1 => ?_)
  · replace h := h.1 cc1
    refine zh_aload_n (pn := 16) rfl dX5_sweepSpan_15 (i := 0) (v := .ref 39) rfl rfl (Or.inr ⟨_, rfl⟩) ?_
    refine zh_get (pn := 19) rfl dX5_sweepSpan_16 (v := .ref 47) (k := 7) rfl rfl (by decide) (by decide) in_X5 mf_X5_32 rfl ?_
    refine zh_iload_n (pn := 20) rfl dX5_sweepSpan_19 (i := 1) (x := a1) rfl rfl ?_
    refine zh_iald (pn := 21) rfl dX5_sweepSpan_20 rfl h.1 ?_
    replace h := h.2
    refine zh_bipush (pn := 23) rfl dX5_sweepSpan_21 (v := (zI 16)) rfl ?_
    refine zh_idiv (pn := 24) rfl dX5_sweepSpan_23 (by decide) ?_
    refine zh_istore_n (pn := 25) rfl dX5_sweepSpan_24 (i := 2) (lo' := [some (.ref 39), some (.int a1), some (.int ((M 47 a1.toNatClampNeg) / (zI 16))), none, none]) rfl (by decide) rfl ?_
    refine zh_iconst (pn := 26) rfl dX5_sweepSpan_25 (v := (zI 0)) rfl ?_
    refine zh_istore_n (pn := 27) rfl dX5_sweepSpan_26 (i := 3) (lo' := [some (.ref 39), some (.int a1), some (.int ((M 47 a1.toNatClampNeg) / (zI 16))), some (.int (zI 0)), none]) rfl (by decide) rfl ?_
    refine zh_bipush (pn := 29) rfl dX5_sweepSpan_27 (v := (zI 16)) rfl ?_
    refine zh_iload_n (pn := 30) rfl dX5_sweepSpan_29 (i := 1) (x := a1) rfl rfl ?_
    refine zh_imul (pn := 31) rfl dX5_sweepSpan_30 ?_
    refine zh_istore (pn := 33) rfl dX5_sweepSpan_31 (i := 4) (lo' := [some (.ref 39), some (.int a1), some (.int ((M 47 a1.toNatClampNeg) / (zI 16))), some (.int (zI 0)), some (.int ((zI 16) * a1))]) (by decide) rfl ?_
    obtain ⟨n9, h⟩ := h
    refine wkl_X5_sweepSpan_33 (fun v3_3 M4 w4_5 h => ?_) n9 _ _ _ h
    refine zh_aload_n (pn := 108) rfl dX5_sweepSpan_107 (i := 0) (v := .ref 39) rfl rfl (Or.inr ⟨_, rfl⟩) ?_
    refine zh_get (pn := 111) rfl dX5_sweepSpan_108 (v := .ref 48) (k := 8) rfl rfl (by decide) (by decide) in_X5 mf_X5_35 rfl ?_
    refine zh_iload_n (pn := 112) rfl dX5_sweepSpan_111 (i := 1) (x := a1) rfl rfl ?_
    refine zh_iconst (pn := 113) rfl dX5_sweepSpan_112 (v := (zI 0)) rfl ?_
    refine zh_zast (pn := 114) rfl dX5_sweepSpan_113 (x' := (zI 0)) rfl h.1 rfl ?_
    obtain ⟨M6, eM6⟩ : ∃ q : zh_M, q = zh_set M4 48 a1.toNatClampNeg (zI 0) := ⟨_, rfl⟩
    replace h := h.2 M6 eM6
    rw [← eM6]
    refine zh_iload_n (pn := 115) rfl dX5_sweepSpan_114 (i := 1) (x := a1) rfl rfl ?_
    refine zh_istore (pn := 117) rfl dX5_sweepSpan_115 (i := 4) (lo' := [some (.ref 39), some (.int a1), some (.int ((M 47 a1.toNatClampNeg) / (zI 16))), some (.int v3_3), some (.int a1)]) (by decide) rfl ?_
    obtain ⟨n8, h⟩ := h
    refine wkl_X5_sweepSpan_117 n8 _ _ h
  · replace h := h.2 cc1
    refine zh_iconst (pn := 12) rfl dX5_sweepSpan_11 (v := (zI 1)) rfl ?_
    refine zh_goto dX5_sweepSpan_12 (tgt := 24) rfl ?_
    refine zh_istore_n (pn := 25) rfl dX5_sweepSpan_24 (i := 2) (lo' := [some (.ref 39), some (.int a1), some (.int (zI 1)), none, none]) rfl (by decide) rfl ?_
    refine zh_iconst (pn := 26) rfl dX5_sweepSpan_25 (v := (zI 0)) rfl ?_
    refine zh_istore_n (pn := 27) rfl dX5_sweepSpan_26 (i := 3) (lo' := [some (.ref 39), some (.int a1), some (.int (zI 1)), some (.int (zI 0)), none]) rfl (by decide) rfl ?_
    refine zh_bipush (pn := 29) rfl dX5_sweepSpan_27 (v := (zI 16)) rfl ?_
    refine zh_iload_n (pn := 30) rfl dX5_sweepSpan_29 (i := 1) (x := a1) rfl rfl ?_
    refine zh_imul (pn := 31) rfl dX5_sweepSpan_30 ?_
    refine zh_istore (pn := 33) rfl dX5_sweepSpan_31 (i := 4) (lo' := [some (.ref 39), some (.int a1), some (.int (zI 1)), some (.int (zI 0)), some (.int ((zI 16) * a1))]) (by decide) rfl ?_
    obtain ⟨n15, h⟩ := h
    refine wkl_X5_sweepSpan_33 (fun v3_10 M11 w4_12 h => ?_) n15 _ _ _ h
    refine zh_aload_n (pn := 108) rfl dX5_sweepSpan_107 (i := 0) (v := .ref 39) rfl rfl (Or.inr ⟨_, rfl⟩) ?_
    refine zh_get (pn := 111) rfl dX5_sweepSpan_108 (v := .ref 48) (k := 8) rfl rfl (by decide) (by decide) in_X5 mf_X5_35 rfl ?_
    refine zh_iload_n (pn := 112) rfl dX5_sweepSpan_111 (i := 1) (x := a1) rfl rfl ?_
    refine zh_iconst (pn := 113) rfl dX5_sweepSpan_112 (v := (zI 0)) rfl ?_
    refine zh_zast (pn := 114) rfl dX5_sweepSpan_113 (x' := (zI 0)) rfl h.1 rfl ?_
    obtain ⟨M13, eM13⟩ : ∃ q : zh_M, q = zh_set M11 48 a1.toNatClampNeg (zI 0) := ⟨_, rfl⟩
    replace h := h.2 M13 eM13
    rw [← eM13]
    refine zh_iload_n (pn := 115) rfl dX5_sweepSpan_114 (i := 1) (x := a1) rfl rfl ?_
    refine zh_istore (pn := 117) rfl dX5_sweepSpan_115 (i := 4) (lo' := [some (.ref 39), some (.int a1), some (.int (zI 1)), some (.int v3_10), some (.int a1)]) (by decide) rfl ?_
    obtain ⟨n14, h⟩ := h
    refine wkl_X5_sweepSpan_117 n14 _ _ h
set_option maxRecDepth 100000 in
theorem ca_X5_sweepSpan {X : Nat × (Nat → Int32)} {d : Nat} {y : MethodName} {cc : ByteArray} {nL : Nat} {rt : Option FieldType} {pc pn idx : Nat} {lo : List (Option Value)} {st : List Value} {M : zh_M} {P : Option Value → List zh_LC → zh_M → Prop} {a1 : Int32} {K : zh_M → Prop} (hp : pc + 3 = pn) (hd : decode cc pc = .ok (.invokevirtual idx, 3)) (m1 : Cond.methodLink y.cls idx yX5_sweepSpan ∈ zh_WS) (hsc : ∀ base b, ((st.map (zh_tr base b)).map fun v => v.category).sum ≤ 8) (h : wp_X5_sweepSpan M a1 K) (kk : ∀ M1, K M1 → zh_W X (d + 1) y cc nL rt pn lo st zh_LL M1 0 0 P) : zh_W X (d + 1) y cc nL rt pc lo (.int a1 :: .ref 39 :: st) zh_LL M 0 0 P := by
  refine zh_callV (bc := 0) (bs := 0) (bc' := 0) (bs' := 0) (as := [.int a1]) (st := st) hp hd rfl (by decide) rfl rfl m1 me_X5_sweepSpan.1 me_X5_sweepSpan.2.1 me_X5_sweepSpan.2.2.1 me_X5_sweepSpan.2.2.2 ⟨by decide, by decide, by decide⟩ (by show _ = some 1; decide +kernel) (by intro v hv; simp only [List.mem_cons, List.not_mem_nil, or_false] at hv; rcases hv with rfl <;> (intro _ _; rfl)) hsc (Nat.le_of_ble_eq_true rfl) (by decide) (wk_X5_sweepSpan  h) (fun r L' M' q => ?_) (fun r L' M' q => ?_)
  · obtain ⟨-, rfl, q⟩ := q; rfl
  · obtain ⟨rfl, rfl, q⟩ := q; exact kk M' q
set_option maxRecDepth 100000 in
set_option maxHeartbeats 4000000 in
theorem wkl_X5_sweepUpTo_4 {X : Nat × (Nat → Int32)} {d : Nat} {P : Int32 → zh_M → Prop} {l1 : Int32} : ∀ (n : Nat) (l2 : Int32) (l3 : Int32) (M : zh_M) , wl_X5_sweepUpTo_4 l1 P n l2 l3 M → zh_W X (d + 1) yX5_sweepUpTo cX5_sweepUpTo 4 (some .int) 4 [some (.ref 39), some (.int l1), some (.int l2), some (.int l3)] [] zh_LL M 0 0 (zh_pi P) := by
  intro n
  induction n with
  | zero => intro l2 l3 M  h; exact h.elim
  | succ n ih =>
    intro l2 l3 M  h
    unfold wl_X5_sweepUpTo_4 at h
    refine zh_iload_n (pn := 5) rfl dX5_sweepUpTo_4 (i := 3) (x := l3) rfl rfl ?_
    refine zh_bipush (pn := 7) rfl dX5_sweepUpTo_5 (v := (zI 16)) rfl ?_
    refine zh_icmp_ge (pn := 10) rfl dX5_sweepUpTo_7 (tgt := 38) rfl (fun cc1 => ?_) (fun cc1 => ?_)
    · replace h := h.1 cc1
      refine zh_iload_n (pn := 39) rfl dX5_sweepUpTo_38 (i := 2) (x := l2) rfl rfl ?_
      exact zh_iret dX5_sweepUpTo_39 rfl rfl ⟨_, rfl, rfl, h⟩
    · replace h := h.2 cc1
      refine zh_aload_n (pn := 11) rfl dX5_sweepUpTo_10 (i := 0) (v := .ref 39) rfl rfl (Or.inr ⟨_, rfl⟩) ?_
      refine zh_get (pn := 14) rfl dX5_sweepUpTo_11 (v := .ref 48) (k := 8) rfl rfl (by decide) (by decide) in_X5 mf_X5_35 rfl ?_
      refine zh_iload_n (pn := 15) rfl dX5_sweepUpTo_14 (i := 3) (x := l3) rfl rfl ?_
      refine zh_zald (pn := 16) rfl dX5_sweepUpTo_15 rfl h.1 ?_
      replace h := h.2
      refine zh_if_eq (pn := 19) rfl dX5_sweepUpTo_16 (tgt := 32) rfl (fun cc1 => ?_) (fun cc1 => ?_)
      · replace h := h.1 cc1
        refine zh_iinc (pn := 35) rfl dX5_sweepUpTo_32 (i := 3) (x := l3) (v := l3 + (zI 1)) (lo' := [some (.ref 39), some (.int l1), some (.int l2), some (.int (l3 + (zI 1)))]) rfl rfl (by decide) rfl ?_
        refine zh_goto dX5_sweepUpTo_35 (tgt := 4) rfl ?_
        exact ih _ _ _ h
      · replace h := h.2 cc1
        refine zh_iload_n (pn := 20) rfl dX5_sweepUpTo_19 (i := 2) (x := l2) rfl rfl ?_
        refine zh_iload_n (pn := 21) rfl dX5_sweepUpTo_20 (i := 1) (x := l1) rfl rfl ?_
        refine zh_icmp_ge (pn := 24) rfl dX5_sweepUpTo_21 (tgt := 32) rfl (fun cc1 => ?_) (fun cc1 => ?_)
        · replace h := h.1 cc1
          refine zh_iinc (pn := 35) rfl dX5_sweepUpTo_32 (i := 3) (x := l3) (v := l3 + (zI 1)) (lo' := [some (.ref 39), some (.int l1), some (.int l2), some (.int (l3 + (zI 1)))]) rfl rfl (by decide) rfl ?_
          refine zh_goto dX5_sweepUpTo_35 (tgt := 4) rfl ?_
          exact ih _ _ _ h
        · replace h := h.2 cc1
          refine zh_aload_n (pn := 25) rfl dX5_sweepUpTo_24 (i := 0) (v := .ref 39) rfl rfl (Or.inr ⟨_, rfl⟩) ?_
          refine zh_iload_n (pn := 26) rfl dX5_sweepUpTo_25 (i := 3) (x := l3) rfl rfl ?_
          refine ca_X5_sweepSpan (pn := 29) rfl dX5_sweepUpTo_26 mc_X5_113 (fun _ _ => Nat.le_of_ble_eq_true rfl) h (fun M1 h => ?_)
          refine zh_iinc (pn := 32) rfl dX5_sweepUpTo_29 (i := 2) (x := l2) (v := l2 + (zI 1)) (lo' := [some (.ref 39), some (.int l1), some (.int (l2 + (zI 1))), some (.int l3)]) rfl rfl (by decide) rfl ?_
          refine zh_iinc (pn := 35) rfl dX5_sweepUpTo_32 (i := 3) (x := l3) (v := l3 + (zI 1)) (lo' := [some (.ref 39), some (.int l1), some (.int (l2 + (zI 1))), some (.int (l3 + (zI 1)))]) rfl rfl (by decide) rfl ?_
          refine zh_goto dX5_sweepUpTo_35 (tgt := 4) rfl ?_
          exact ih _ _ _ h
set_option maxRecDepth 100000 in
set_option maxHeartbeats 4000000 in
theorem wk_X5_sweepUpTo {X : Nat × (Nat → Int32)} {d : Nat} {M : zh_M} {a1 : Int32} {P : Int32 → zh_M → Prop} (h : wp_X5_sweepUpTo M a1 P) : zh_W X (d + 1) yX5_sweepUpTo cX5_sweepUpTo 4 (some .int) 0 (zh_en [.ref 39, .int a1] 4) [] zh_LL M 0 0 (zh_pi P) := by
  unfold wp_X5_sweepUpTo at h
  show zh_W X (d + 1) yX5_sweepUpTo cX5_sweepUpTo 4 (some .int) 0 [some (.ref 39), some (.int a1), none, none] [] zh_LL M 0 0 (zh_pi P)
  refine zh_iconst (pn := 1) rfl dX5_sweepUpTo_0 (v := (zI 0)) rfl ?_
  refine zh_istore_n (pn := 2) rfl dX5_sweepUpTo_1 (i := 2) (lo' := [some (.ref 39), some (.int a1), some (.int (zI 0)), none]) rfl (by decide) rfl ?_
  refine zh_iconst (pn := 3) rfl dX5_sweepUpTo_2 (v := (zI 0)) rfl ?_
  refine zh_istore_n (pn := 4) rfl dX5_sweepUpTo_3 (i := 3) (lo' := [some (.ref 39), some (.int a1), some (.int (zI 0)), some (.int (zI 0))]) rfl (by decide) rfl ?_
  obtain ⟨n2, h⟩ := h
  refine wkl_X5_sweepUpTo_4 n2 _ _ _ h
set_option maxRecDepth 100000 in
theorem ca_X5_sweepUpTo {X : Nat × (Nat → Int32)} {d : Nat} {y : MethodName} {cc : ByteArray} {nL : Nat} {rt : Option FieldType} {pc pn idx : Nat} {lo : List (Option Value)} {st : List Value} {M : zh_M} {P : Option Value → List zh_LC → zh_M → Prop} {a1 : Int32} {K : Int32 → zh_M → Prop} (hp : pc + 3 = pn) (hd : decode cc pc = .ok (.invokevirtual idx, 3)) (m1 : Cond.methodLink y.cls idx yX5_sweepUpTo ∈ zh_WS) (hsc : ∀ base b, ((st.map (zh_tr base b)).map fun v => v.category).sum ≤ 8) (h : wp_X5_sweepUpTo M a1 K) (kk : ∀ r M1, K r M1 → zh_W X (d + 2) y cc nL rt pn lo (.int r :: st) zh_LL M1 0 0 P) : zh_W X (d + 2) y cc nL rt pc lo (.int a1 :: .ref 39 :: st) zh_LL M 0 0 P := by
  refine zh_callV (bc := 0) (bs := 0) (bc' := 0) (bs' := 0) (as := [.int a1]) (st := st) hp hd rfl (by decide) rfl rfl m1 me_X5_sweepUpTo.1 me_X5_sweepUpTo.2.1 me_X5_sweepUpTo.2.2.1 me_X5_sweepUpTo.2.2.2 ⟨by decide, by decide, by decide⟩ (by show _ = some 1; decide +kernel) (by intro v hv; simp only [List.mem_cons, List.not_mem_nil, or_false] at hv; rcases hv with rfl <;> (intro _ _; rfl)) hsc (Nat.le_of_ble_eq_true rfl) (by decide) (wk_X5_sweepUpTo  h) (fun r L' M' q => ?_) (fun r L' M' q => ?_)
  · obtain ⟨v, -, rfl, q⟩ := q; rfl
  · obtain ⟨v, rfl, rfl, q⟩ := q; exact kk v M' q
set_option maxRecDepth 100000 in
set_option maxHeartbeats 4000000 in
theorem wkl_X5_runOf_11 {X : Nat × (Nat → Int32)} {d : Nat} {P : Int32 → zh_M → Prop} {l1 : Int32} {l2 : Int32} {K91 : Int32 → Int32 → zh_M → Prop} (hK91 : ∀ (l3 : Int32) (l4 : Int32) (M : zh_M) (w0 : Option Value) (w1 : Option Value) (w5 : Option Value) (w6 : Option Value), K91 l3 l4 M → zh_W X (d + 0) yX5_runOf cX5_runOf 7 (some .int) 91 [w0, w1, some (.int l2), some (.int l3), some (.int l4), w5, w6] [] zh_LL M 0 0 (zh_pi P)) : ∀ (n : Nat) (l3 : Int32) (l4 : Int32) (l5 : Int32) (l6 : Int32) (M : zh_M) , wl_X5_runOf_11 l1 l2 K91 P n l3 l4 l5 l6 M → zh_W X (d + 0) yX5_runOf cX5_runOf 7 (some .int) 11 [some (.ref 39), some (.int l1), some (.int l2), some (.int l3), some (.int l4), some (.int l5), some (.int l6)] [] zh_LL M 0 0 (zh_pi P) := by
  intro n
  induction n with
  | zero => intro l3 l4 l5 l6 M  h; exact h.elim
  | succ n ih =>
    intro l3 l4 l5 l6 M  h
    unfold wl_X5_runOf_11 at h
    refine zh_iload (pn := 13) rfl dX5_runOf_11 (i := 6) (x := l6) rfl ?_
    refine zh_bipush (pn := 15) rfl dX5_runOf_13 (v := (zI 16)) rfl ?_
    refine zh_icmp_gt (pn := 18) rfl dX5_runOf_15 (tgt := 91) rfl (fun cc1 => ?_) (fun cc1 => ?_)
    · replace h := h.1 cc1
      exact hK91 _ _ _ _ _ _ _ h
    · replace h := h.2 cc1
      refine zh_iload (pn := 20) rfl dX5_runOf_18 (i := 6) (x := l6) rfl ?_
      refine zh_bipush (pn := 22) rfl dX5_runOf_20 (v := (zI 16)) rfl ?_
      refine zh_icmp_ge (pn := 25) rfl dX5_runOf_22 (tgt := 41) rfl (fun cc1 => ?_) (fun cc1 => ?_)
      · replace h := h.1 cc1
        refine zh_iload (pn := 43) rfl dX5_runOf_41 (i := 5) (x := l5) rfl ?_
        refine zh_iload_n (pn := 44) rfl dX5_runOf_43 (i := 1) (x := l1) rfl rfl ?_
        refine zh_icmp_lt (pn := 47) rfl dX5_runOf_44 (tgt := 82) rfl (fun cc1 => ?_) (fun cc1 => ?_)
        · replace h := h.1 cc1
          refine zh_iconst (pn := 83) rfl dX5_runOf_82 (v := (zI 0)) rfl ?_
          refine zh_istore (pn := 85) rfl dX5_runOf_83 (i := 5) (lo' := [some (.ref 39), some (.int l1), some (.int l2), some (.int l3), some (.int l4), some (.int (zI 0)), some (.int l6)]) (by decide) rfl ?_
          refine zh_iinc (pn := 88) rfl dX5_runOf_85 (i := 6) (x := l6) (v := l6 + (zI 1)) (lo' := [some (.ref 39), some (.int l1), some (.int l2), some (.int l3), some (.int l4), some (.int (zI 0)), some (.int (l6 + (zI 1)))]) rfl rfl (by decide) rfl ?_
          refine zh_goto dX5_runOf_88 (tgt := 11) rfl ?_
          exact ih _ _ _ _ _ h
        · replace h := h.2 cc1
          refine zh_iload_n (pn := 48) rfl dX5_runOf_47 (i := 3) (x := l3) rfl rfl ?_
          refine zh_if_lt (pn := 51) rfl dX5_runOf_48 (tgt := 72) rfl (fun cc1 => ?_) (fun cc1 => ?_)
          · replace h := h.1 cc1
            refine zh_iload (pn := 74) rfl dX5_runOf_72 (i := 6) (x := l6) rfl ?_
            refine zh_iload (pn := 76) rfl dX5_runOf_74 (i := 5) (x := l5) rfl ?_
            refine zh_isub (pn := 77) rfl dX5_runOf_76 ?_
            refine zh_istore_n (pn := 78) rfl dX5_runOf_77 (i := 3) (lo' := [some (.ref 39), some (.int l1), some (.int l2), some (.int (l6 - l5)), some (.int l4), some (.int l5), some (.int l6)]) rfl (by decide) rfl ?_
            refine zh_iload (pn := 80) rfl dX5_runOf_78 (i := 5) (x := l5) rfl ?_
            refine zh_istore (pn := 82) rfl dX5_runOf_80 (i := 4) (lo' := [some (.ref 39), some (.int l1), some (.int l2), some (.int (l6 - l5)), some (.int l5), some (.int l5), some (.int l6)]) (by decide) rfl ?_
            refine zh_iconst (pn := 83) rfl dX5_runOf_82 (v := (zI 0)) rfl ?_
            refine zh_istore (pn := 85) rfl dX5_runOf_83 (i := 5) (lo' := [some (.ref 39), some (.int l1), some (.int l2), some (.int (l6 - l5)), some (.int l5), some (.int (zI 0)), some (.int l6)]) (by decide) rfl ?_
            refine zh_iinc (pn := 88) rfl dX5_runOf_85 (i := 6) (x := l6) (v := l6 + (zI 1)) (lo' := [some (.ref 39), some (.int l1), some (.int l2), some (.int (l6 - l5)), some (.int l5), some (.int (zI 0)), some (.int (l6 + (zI 1)))]) rfl rfl (by decide) rfl ?_
            refine zh_goto dX5_runOf_88 (tgt := 11) rfl ?_
            exact ih _ _ _ _ _ h
          · replace h := h.2 cc1
            refine zh_iload_n (pn := 52) rfl dX5_runOf_51 (i := 2) (x := l2) rfl rfl ?_
            refine zh_if_eq (pn := 55) rfl dX5_runOf_52 (tgt := 65) rfl (fun cc1 => ?_) (fun cc1 => ?_)
            · replace h := h.1 cc1
              refine zh_iload (pn := 67) rfl dX5_runOf_65 (i := 5) (x := l5) rfl ?_
              refine zh_iload (pn := 69) rfl dX5_runOf_67 (i := 4) (x := l4) rfl ?_
              refine zh_icmp_ge (pn := 72) rfl dX5_runOf_69 (tgt := 82) rfl (fun cc1 => ?_) (fun cc1 => ?_)
              · replace h := h.1 cc1
                refine zh_iconst (pn := 83) rfl dX5_runOf_82 (v := (zI 0)) rfl ?_
                refine zh_istore (pn := 85) rfl dX5_runOf_83 (i := 5) (lo' := [some (.ref 39), some (.int l1), some (.int l2), some (.int l3), some (.int l4), some (.int (zI 0)), some (.int l6)]) (by decide) rfl ?_
                refine zh_iinc (pn := 88) rfl dX5_runOf_85 (i := 6) (x := l6) (v := l6 + (zI 1)) (lo' := [some (.ref 39), some (.int l1), some (.int l2), some (.int l3), some (.int l4), some (.int (zI 0)), some (.int (l6 + (zI 1)))]) rfl rfl (by decide) rfl ?_
                refine zh_goto dX5_runOf_88 (tgt := 11) rfl ?_
                exact ih _ _ _ _ _ h
              · replace h := h.2 cc1
                refine zh_iload (pn := 74) rfl dX5_runOf_72 (i := 6) (x := l6) rfl ?_
                refine zh_iload (pn := 76) rfl dX5_runOf_74 (i := 5) (x := l5) rfl ?_
                refine zh_isub (pn := 77) rfl dX5_runOf_76 ?_
                refine zh_istore_n (pn := 78) rfl dX5_runOf_77 (i := 3) (lo' := [some (.ref 39), some (.int l1), some (.int l2), some (.int (l6 - l5)), some (.int l4), some (.int l5), some (.int l6)]) rfl (by decide) rfl ?_
                refine zh_iload (pn := 80) rfl dX5_runOf_78 (i := 5) (x := l5) rfl ?_
                refine zh_istore (pn := 82) rfl dX5_runOf_80 (i := 4) (lo' := [some (.ref 39), some (.int l1), some (.int l2), some (.int (l6 - l5)), some (.int l5), some (.int l5), some (.int l6)]) (by decide) rfl ?_
                refine zh_iconst (pn := 83) rfl dX5_runOf_82 (v := (zI 0)) rfl ?_
                refine zh_istore (pn := 85) rfl dX5_runOf_83 (i := 5) (lo' := [some (.ref 39), some (.int l1), some (.int l2), some (.int (l6 - l5)), some (.int l5), some (.int (zI 0)), some (.int l6)]) (by decide) rfl ?_
                refine zh_iinc (pn := 88) rfl dX5_runOf_85 (i := 6) (x := l6) (v := l6 + (zI 1)) (lo' := [some (.ref 39), some (.int l1), some (.int l2), some (.int (l6 - l5)), some (.int l5), some (.int (zI 0)), some (.int (l6 + (zI 1)))]) rfl rfl (by decide) rfl ?_
                refine zh_goto dX5_runOf_88 (tgt := 11) rfl ?_
                exact ih _ _ _ _ _ h
            · replace h := h.2 cc1
              refine zh_iload (pn := 57) rfl dX5_runOf_55 (i := 5) (x := l5) rfl ?_
              refine zh_iload (pn := 59) rfl dX5_runOf_57 (i := 4) (x := l4) rfl ?_
              refine zh_icmp_le (pn := 62) rfl dX5_runOf_59 (tgt := 82) rfl (fun cc1 => ?_) (fun cc1 => ?_)
              · replace h := h.1 cc1
                refine zh_iconst (pn := 83) rfl dX5_runOf_82 (v := (zI 0)) rfl ?_
                refine zh_istore (pn := 85) rfl dX5_runOf_83 (i := 5) (lo' := [some (.ref 39), some (.int l1), some (.int l2), some (.int l3), some (.int l4), some (.int (zI 0)), some (.int l6)]) (by decide) rfl ?_
                refine zh_iinc (pn := 88) rfl dX5_runOf_85 (i := 6) (x := l6) (v := l6 + (zI 1)) (lo' := [some (.ref 39), some (.int l1), some (.int l2), some (.int l3), some (.int l4), some (.int (zI 0)), some (.int (l6 + (zI 1)))]) rfl rfl (by decide) rfl ?_
                refine zh_goto dX5_runOf_88 (tgt := 11) rfl ?_
                exact ih _ _ _ _ _ h
              · replace h := h.2 cc1
                refine zh_goto dX5_runOf_62 (tgt := 72) rfl ?_
                refine zh_iload (pn := 74) rfl dX5_runOf_72 (i := 6) (x := l6) rfl ?_
                refine zh_iload (pn := 76) rfl dX5_runOf_74 (i := 5) (x := l5) rfl ?_
                refine zh_isub (pn := 77) rfl dX5_runOf_76 ?_
                refine zh_istore_n (pn := 78) rfl dX5_runOf_77 (i := 3) (lo' := [some (.ref 39), some (.int l1), some (.int l2), some (.int (l6 - l5)), some (.int l4), some (.int l5), some (.int l6)]) rfl (by decide) rfl ?_
                refine zh_iload (pn := 80) rfl dX5_runOf_78 (i := 5) (x := l5) rfl ?_
                refine zh_istore (pn := 82) rfl dX5_runOf_80 (i := 4) (lo' := [some (.ref 39), some (.int l1), some (.int l2), some (.int (l6 - l5)), some (.int l5), some (.int l5), some (.int l6)]) (by decide) rfl ?_
                refine zh_iconst (pn := 83) rfl dX5_runOf_82 (v := (zI 0)) rfl ?_
                refine zh_istore (pn := 85) rfl dX5_runOf_83 (i := 5) (lo' := [some (.ref 39), some (.int l1), some (.int l2), some (.int (l6 - l5)), some (.int l5), some (.int (zI 0)), some (.int l6)]) (by decide) rfl ?_
                refine zh_iinc (pn := 88) rfl dX5_runOf_85 (i := 6) (x := l6) (v := l6 + (zI 1)) (lo' := [some (.ref 39), some (.int l1), some (.int l2), some (.int (l6 - l5)), some (.int l5), some (.int (zI 0)), some (.int (l6 + (zI 1)))]) rfl rfl (by decide) rfl ?_
                refine zh_goto dX5_runOf_88 (tgt := 11) rfl ?_
                exact ih _ _ _ _ _ h
      · replace h := h.2 cc1
        refine zh_aload_n (pn := 26) rfl dX5_runOf_25 (i := 0) (v := .ref 39) rfl rfl (Or.inr ⟨_, rfl⟩) ?_
        refine zh_get (pn := 29) rfl dX5_runOf_26 (v := .ref 47) (k := 7) rfl rfl (by decide) (by decide) in_X5 mf_X5_32 rfl ?_
        refine zh_iload (pn := 31) rfl dX5_runOf_29 (i := 6) (x := l6) rfl ?_
        refine zh_iald (pn := 32) rfl dX5_runOf_31 rfl h.1 ?_
        replace h := h.2
        refine zh_if_ne (pn := 35) rfl dX5_runOf_32 (tgt := 41) rfl (fun cc1 => ?_) (fun cc1 => ?_)
        · replace h := h.1 cc1
          refine zh_iload (pn := 43) rfl dX5_runOf_41 (i := 5) (x := l5) rfl ?_
          refine zh_iload_n (pn := 44) rfl dX5_runOf_43 (i := 1) (x := l1) rfl rfl ?_
          refine zh_icmp_lt (pn := 47) rfl dX5_runOf_44 (tgt := 82) rfl (fun cc1 => ?_) (fun cc1 => ?_)
          · replace h := h.1 cc1
            refine zh_iconst (pn := 83) rfl dX5_runOf_82 (v := (zI 0)) rfl ?_
            refine zh_istore (pn := 85) rfl dX5_runOf_83 (i := 5) (lo' := [some (.ref 39), some (.int l1), some (.int l2), some (.int l3), some (.int l4), some (.int (zI 0)), some (.int l6)]) (by decide) rfl ?_
            refine zh_iinc (pn := 88) rfl dX5_runOf_85 (i := 6) (x := l6) (v := l6 + (zI 1)) (lo' := [some (.ref 39), some (.int l1), some (.int l2), some (.int l3), some (.int l4), some (.int (zI 0)), some (.int (l6 + (zI 1)))]) rfl rfl (by decide) rfl ?_
            refine zh_goto dX5_runOf_88 (tgt := 11) rfl ?_
            exact ih _ _ _ _ _ h
          · replace h := h.2 cc1
            refine zh_iload_n (pn := 48) rfl dX5_runOf_47 (i := 3) (x := l3) rfl rfl ?_
            refine zh_if_lt (pn := 51) rfl dX5_runOf_48 (tgt := 72) rfl (fun cc1 => ?_) (fun cc1 => ?_)
            · replace h := h.1 cc1
              refine zh_iload (pn := 74) rfl dX5_runOf_72 (i := 6) (x := l6) rfl ?_
              refine zh_iload (pn := 76) rfl dX5_runOf_74 (i := 5) (x := l5) rfl ?_
              refine zh_isub (pn := 77) rfl dX5_runOf_76 ?_
              refine zh_istore_n (pn := 78) rfl dX5_runOf_77 (i := 3) (lo' := [some (.ref 39), some (.int l1), some (.int l2), some (.int (l6 - l5)), some (.int l4), some (.int l5), some (.int l6)]) rfl (by decide) rfl ?_
              refine zh_iload (pn := 80) rfl dX5_runOf_78 (i := 5) (x := l5) rfl ?_
              refine zh_istore (pn := 82) rfl dX5_runOf_80 (i := 4) (lo' := [some (.ref 39), some (.int l1), some (.int l2), some (.int (l6 - l5)), some (.int l5), some (.int l5), some (.int l6)]) (by decide) rfl ?_
              refine zh_iconst (pn := 83) rfl dX5_runOf_82 (v := (zI 0)) rfl ?_
              refine zh_istore (pn := 85) rfl dX5_runOf_83 (i := 5) (lo' := [some (.ref 39), some (.int l1), some (.int l2), some (.int (l6 - l5)), some (.int l5), some (.int (zI 0)), some (.int l6)]) (by decide) rfl ?_
              refine zh_iinc (pn := 88) rfl dX5_runOf_85 (i := 6) (x := l6) (v := l6 + (zI 1)) (lo' := [some (.ref 39), some (.int l1), some (.int l2), some (.int (l6 - l5)), some (.int l5), some (.int (zI 0)), some (.int (l6 + (zI 1)))]) rfl rfl (by decide) rfl ?_
              refine zh_goto dX5_runOf_88 (tgt := 11) rfl ?_
              exact ih _ _ _ _ _ h
            · replace h := h.2 cc1
              refine zh_iload_n (pn := 52) rfl dX5_runOf_51 (i := 2) (x := l2) rfl rfl ?_
              refine zh_if_eq (pn := 55) rfl dX5_runOf_52 (tgt := 65) rfl (fun cc1 => ?_) (fun cc1 => ?_)
              · replace h := h.1 cc1
                refine zh_iload (pn := 67) rfl dX5_runOf_65 (i := 5) (x := l5) rfl ?_
                refine zh_iload (pn := 69) rfl dX5_runOf_67 (i := 4) (x := l4) rfl ?_
                refine zh_icmp_ge (pn := 72) rfl dX5_runOf_69 (tgt := 82) rfl (fun cc1 => ?_) (fun cc1 => ?_)
                · replace h := h.1 cc1
                  refine zh_iconst (pn := 83) rfl dX5_runOf_82 (v := (zI 0)) rfl ?_
                  refine zh_istore (pn := 85) rfl dX5_runOf_83 (i := 5) (lo' := [some (.ref 39), some (.int l1), some (.int l2), some (.int l3), some (.int l4), some (.int (zI 0)), some (.int l6)]) (by decide) rfl ?_
                  refine zh_iinc (pn := 88) rfl dX5_runOf_85 (i := 6) (x := l6) (v := l6 + (zI 1)) (lo' := [some (.ref 39), some (.int l1), some (.int l2), some (.int l3), some (.int l4), some (.int (zI 0)), some (.int (l6 + (zI 1)))]) rfl rfl (by decide) rfl ?_
                  refine zh_goto dX5_runOf_88 (tgt := 11) rfl ?_
                  exact ih _ _ _ _ _ h
                · replace h := h.2 cc1
                  refine zh_iload (pn := 74) rfl dX5_runOf_72 (i := 6) (x := l6) rfl ?_
                  refine zh_iload (pn := 76) rfl dX5_runOf_74 (i := 5) (x := l5) rfl ?_
                  refine zh_isub (pn := 77) rfl dX5_runOf_76 ?_
                  refine zh_istore_n (pn := 78) rfl dX5_runOf_77 (i := 3) (lo' := [some (.ref 39), some (.int l1), some (.int l2), some (.int (l6 - l5)), some (.int l4), some (.int l5), some (.int l6)]) rfl (by decide) rfl ?_
                  refine zh_iload (pn := 80) rfl dX5_runOf_78 (i := 5) (x := l5) rfl ?_
                  refine zh_istore (pn := 82) rfl dX5_runOf_80 (i := 4) (lo' := [some (.ref 39), some (.int l1), some (.int l2), some (.int (l6 - l5)), some (.int l5), some (.int l5), some (.int l6)]) (by decide) rfl ?_
                  refine zh_iconst (pn := 83) rfl dX5_runOf_82 (v := (zI 0)) rfl ?_
                  refine zh_istore (pn := 85) rfl dX5_runOf_83 (i := 5) (lo' := [some (.ref 39), some (.int l1), some (.int l2), some (.int (l6 - l5)), some (.int l5), some (.int (zI 0)), some (.int l6)]) (by decide) rfl ?_
                  refine zh_iinc (pn := 88) rfl dX5_runOf_85 (i := 6) (x := l6) (v := l6 + (zI 1)) (lo' := [some (.ref 39), some (.int l1), some (.int l2), some (.int (l6 - l5)), some (.int l5), some (.int (zI 0)), some (.int (l6 + (zI 1)))]) rfl rfl (by decide) rfl ?_
                  refine zh_goto dX5_runOf_88 (tgt := 11) rfl ?_
                  exact ih _ _ _ _ _ h
              · replace h := h.2 cc1
                refine zh_iload (pn := 57) rfl dX5_runOf_55 (i := 5) (x := l5) rfl ?_
                refine zh_iload (pn := 59) rfl dX5_runOf_57 (i := 4) (x := l4) rfl ?_
                refine zh_icmp_le (pn := 62) rfl dX5_runOf_59 (tgt := 82) rfl (fun cc1 => ?_) (fun cc1 => ?_)
                · replace h := h.1 cc1
                  refine zh_iconst (pn := 83) rfl dX5_runOf_82 (v := (zI 0)) rfl ?_
                  refine zh_istore (pn := 85) rfl dX5_runOf_83 (i := 5) (lo' := [some (.ref 39), some (.int l1), some (.int l2), some (.int l3), some (.int l4), some (.int (zI 0)), some (.int l6)]) (by decide) rfl ?_
                  refine zh_iinc (pn := 88) rfl dX5_runOf_85 (i := 6) (x := l6) (v := l6 + (zI 1)) (lo' := [some (.ref 39), some (.int l1), some (.int l2), some (.int l3), some (.int l4), some (.int (zI 0)), some (.int (l6 + (zI 1)))]) rfl rfl (by decide) rfl ?_
                  refine zh_goto dX5_runOf_88 (tgt := 11) rfl ?_
                  exact ih _ _ _ _ _ h
                · replace h := h.2 cc1
                  refine zh_goto dX5_runOf_62 (tgt := 72) rfl ?_
                  refine zh_iload (pn := 74) rfl dX5_runOf_72 (i := 6) (x := l6) rfl ?_
                  refine zh_iload (pn := 76) rfl dX5_runOf_74 (i := 5) (x := l5) rfl ?_
                  refine zh_isub (pn := 77) rfl dX5_runOf_76 ?_
                  refine zh_istore_n (pn := 78) rfl dX5_runOf_77 (i := 3) (lo' := [some (.ref 39), some (.int l1), some (.int l2), some (.int (l6 - l5)), some (.int l4), some (.int l5), some (.int l6)]) rfl (by decide) rfl ?_
                  refine zh_iload (pn := 80) rfl dX5_runOf_78 (i := 5) (x := l5) rfl ?_
                  refine zh_istore (pn := 82) rfl dX5_runOf_80 (i := 4) (lo' := [some (.ref 39), some (.int l1), some (.int l2), some (.int (l6 - l5)), some (.int l5), some (.int l5), some (.int l6)]) (by decide) rfl ?_
                  refine zh_iconst (pn := 83) rfl dX5_runOf_82 (v := (zI 0)) rfl ?_
                  refine zh_istore (pn := 85) rfl dX5_runOf_83 (i := 5) (lo' := [some (.ref 39), some (.int l1), some (.int l2), some (.int (l6 - l5)), some (.int l5), some (.int (zI 0)), some (.int l6)]) (by decide) rfl ?_
                  refine zh_iinc (pn := 88) rfl dX5_runOf_85 (i := 6) (x := l6) (v := l6 + (zI 1)) (lo' := [some (.ref 39), some (.int l1), some (.int l2), some (.int (l6 - l5)), some (.int l5), some (.int (zI 0)), some (.int (l6 + (zI 1)))]) rfl rfl (by decide) rfl ?_
                  refine zh_goto dX5_runOf_88 (tgt := 11) rfl ?_
                  exact ih _ _ _ _ _ h
        · replace h := h.2 cc1
          refine zh_iinc (pn := 38) rfl dX5_runOf_35 (i := 5) (x := l5) (v := l5 + (zI 1)) (lo' := [some (.ref 39), some (.int l1), some (.int l2), some (.int l3), some (.int l4), some (.int (l5 + (zI 1))), some (.int l6)]) rfl rfl (by decide) rfl ?_
          refine zh_goto dX5_runOf_38 (tgt := 85) rfl ?_
          refine zh_iinc (pn := 88) rfl dX5_runOf_85 (i := 6) (x := l6) (v := l6 + (zI 1)) (lo' := [some (.ref 39), some (.int l1), some (.int l2), some (.int l3), some (.int l4), some (.int (l5 + (zI 1))), some (.int (l6 + (zI 1)))]) rfl rfl (by decide) rfl ?_
          refine zh_goto dX5_runOf_88 (tgt := 11) rfl ?_
          exact ih _ _ _ _ _ h
set_option maxRecDepth 100000 in
set_option maxHeartbeats 4000000 in
theorem wk_X5_runOf {X : Nat × (Nat → Int32)} {d : Nat} {M : zh_M} {a1 : Int32} {a2 : Int32} {P : Int32 → zh_M → Prop} (h : wp_X5_runOf M a1 a2 P) : zh_W X (d + 0) yX5_runOf cX5_runOf 7 (some .int) 0 (zh_en [.ref 39, .int a1, .int a2] 7) [] zh_LL M 0 0 (zh_pi P) := by
  unfold wp_X5_runOf at h
  show zh_W X (d + 0) yX5_runOf cX5_runOf 7 (some .int) 0 [some (.ref 39), some (.int a1), some (.int a2), none, none, none, none] [] zh_LL M 0 0 (zh_pi P)
  refine zh_iconst (pn := 1) rfl dX5_runOf_0 (v := (zI (-1))) rfl ?_
  refine zh_istore_n (pn := 2) rfl dX5_runOf_1 (i := 3) (lo' := [some (.ref 39), some (.int a1), some (.int a2), some (.int (zI (-1))), none, none, none]) rfl (by decide) rfl ?_
  refine zh_iconst (pn := 3) rfl dX5_runOf_2 (v := (zI 0)) rfl ?_
  refine zh_istore (pn := 5) rfl dX5_runOf_3 (i := 4) (lo' := [some (.ref 39), some (.int a1), some (.int a2), some (.int (zI (-1))), some (.int (zI 0)), none, none]) (by decide) rfl ?_
  refine zh_iconst (pn := 6) rfl dX5_runOf_5 (v := (zI 0)) rfl ?_
  refine zh_istore (pn := 8) rfl dX5_runOf_6 (i := 5) (lo' := [some (.ref 39), some (.int a1), some (.int a2), some (.int (zI (-1))), some (.int (zI 0)), some (.int (zI 0)), none]) (by decide) rfl ?_
  refine zh_iconst (pn := 9) rfl dX5_runOf_8 (v := (zI 0)) rfl ?_
  refine zh_istore (pn := 11) rfl dX5_runOf_9 (i := 6) (lo' := [some (.ref 39), some (.int a1), some (.int a2), some (.int (zI (-1))), some (.int (zI 0)), some (.int (zI 0)), some (.int (zI 0))]) (by decide) rfl ?_
  obtain ⟨n8, h⟩ := h
  refine wkl_X5_runOf_11 (fun v3_1 v4_2 M3 w0_4 w1_5 w5_6 w6_7 h => ?_) n8 _ _ _ _ _ h
  refine zh_iload_n (pn := 92) rfl dX5_runOf_91 (i := 2) (x := a2) rfl rfl ?_
  refine zh_if_eq (pn := 95) rfl dX5_runOf_92 (tgt := 100) rfl (fun cc1 => ?_) (fun cc1 => ?_)
  · replace h := h.1 cc1
    refine zh_iload_n (pn := 101) rfl dX5_runOf_100 (i := 3) (x := v3_1) rfl rfl ?_
    exact zh_iret dX5_runOf_101 rfl rfl ⟨_, rfl, rfl, h⟩
  · replace h := h.2 cc1
    refine zh_iload (pn := 97) rfl dX5_runOf_95 (i := 4) (x := v4_2) rfl ?_
    refine zh_goto dX5_runOf_97 (tgt := 101) rfl ?_
    exact zh_iret dX5_runOf_101 rfl rfl ⟨_, rfl, rfl, h⟩
set_option maxRecDepth 100000 in
theorem ca_X5_runOf {X : Nat × (Nat → Int32)} {d : Nat} {y : MethodName} {cc : ByteArray} {nL : Nat} {rt : Option FieldType} {pc pn idx : Nat} {lo : List (Option Value)} {st : List Value} {M : zh_M} {P : Option Value → List zh_LC → zh_M → Prop} {a1 : Int32} {a2 : Int32} {K : Int32 → zh_M → Prop} (hp : pc + 3 = pn) (hd : decode cc pc = .ok (.invokevirtual idx, 3)) (m1 : Cond.methodLink y.cls idx yX5_runOf ∈ zh_WS) (hsc : ∀ base b, ((st.map (zh_tr base b)).map fun v => v.category).sum ≤ 8) (h : wp_X5_runOf M a1 a2 K) (kk : ∀ r M1, K r M1 → zh_W X (d + 1) y cc nL rt pn lo (.int r :: st) zh_LL M1 0 0 P) : zh_W X (d + 1) y cc nL rt pc lo (.int a2 :: .int a1 :: .ref 39 :: st) zh_LL M 0 0 P := by
  refine zh_callV (bc := 0) (bs := 0) (bc' := 0) (bs' := 0) (as := [.int a1, .int a2]) (st := st) hp hd rfl (by decide) rfl rfl m1 me_X5_runOf.1 me_X5_runOf.2.1 me_X5_runOf.2.2.1 me_X5_runOf.2.2.2 ⟨by decide, by decide, by decide⟩ (by show _ = some 2; decide +kernel) (by intro v hv; simp only [List.mem_cons, List.not_mem_nil, or_false] at hv; rcases hv with rfl | rfl <;> (intro _ _; rfl)) hsc (Nat.le_of_ble_eq_true rfl) (by decide) (wk_X5_runOf  h) (fun r L' M' q => ?_) (fun r L' M' q => ?_)
  · obtain ⟨v, -, rfl, q⟩ := q; rfl
  · obtain ⟨v, rfl, rfl, q⟩ := q; exact kk v M' q
set_option maxRecDepth 100000 in
set_option maxHeartbeats 4000000 in
theorem wkl_X5_seat_43 {X : Nat × (Nat → Int32)} {d : Nat} {P : Int32 → zh_M → Prop} {l1 : Int32} {l2 : Int32} {K82 : zh_M → Prop} (hK82 : ∀ (M : zh_M) (w3 : Option Value) (w4 : Option Value), K82 M → zh_W X (d + 1) yX5_seat cX5_seat 5 (some .int) 82 [some (.ref 39), some (.int l1), some (.int l2), w3, w4] [] zh_LL M 0 0 (zh_pi P)) : ∀ (n : Nat) (l3 : Int32) (M : zh_M) (w4 : Option Value), wl_X5_seat_43 l1 l2 K82 P n l3 M → zh_W X (d + 1) yX5_seat cX5_seat 5 (some .int) 43 [some (.ref 39), some (.int l1), some (.int l2), some (.int l3), w4] [] zh_LL M 0 0 (zh_pi P) := by
  intro n
  induction n with
  | zero => intro l3 M w4 h; exact h.elim
  | succ n ih =>
    intro l3 M w4 h
    unfold wl_X5_seat_43 at h
    refine zh_iload_n (pn := 44) rfl dX5_seat_43 (i := 3) (x := l3) rfl rfl ?_
    refine zh_bipush (pn := 46) rfl dX5_seat_44 (v := (zI 16)) rfl ?_
    refine zh_iload_n (pn := 47) rfl dX5_seat_46 (i := 2) (x := l2) rfl rfl ?_
    refine zh_imul (pn := 48) rfl dX5_seat_47 ?_
    refine zh_bipush (pn := 50) rfl dX5_seat_48 (v := (zI 16)) rfl ?_
    refine zh_iadd (pn := 51) rfl dX5_seat_50 ?_
    refine zh_icmp_ge (pn := 54) rfl dX5_seat_51 (tgt := 82) rfl (fun cc1 => ?_) (fun cc1 => ?_)
    · replace h := h.1 cc1
      exact hK82 _ _ _ h
    · replace h := h.2 cc1
      refine zh_aload_n (pn := 55) rfl dX5_seat_54 (i := 0) (v := .ref 39) rfl rfl (Or.inr ⟨_, rfl⟩) ?_
      refine zh_get (pn := 58) rfl dX5_seat_55 (v := .ref 47) (k := 7) rfl rfl (by decide) (by decide) in_X5 mf_X5_32 rfl ?_
      refine zh_iload_n (pn := 59) rfl dX5_seat_58 (i := 2) (x := l2) rfl rfl ?_
      refine zh_iald (pn := 60) rfl dX5_seat_59 rfl h.1 ?_
      replace h := h.2
      refine zh_iload_n (pn := 61) rfl dX5_seat_60 (i := 1) (x := l1) rfl rfl ?_
      refine zh_icmp_ne (pn := 64) rfl dX5_seat_61 (tgt := 82) rfl (fun cc1 => ?_) (fun cc1 => ?_)
      · replace h := h.1 cc1
        exact hK82 _ _ _ h
      · replace h := h.2 cc1
        refine zh_aload_n (pn := 65) rfl dX5_seat_64 (i := 0) (v := .ref 39) rfl rfl (Or.inr ⟨_, rfl⟩) ?_
        refine zh_get (pn := 68) rfl dX5_seat_65 (v := .ref 41) (k := 1) rfl rfl (by decide) (by decide) in_X5 mf_X5_13 rfl ?_
        refine zh_iload_n (pn := 69) rfl dX5_seat_68 (i := 3) (x := l3) rfl rfl ?_
        refine zh_iald (pn := 70) rfl dX5_seat_69 rfl h.1 ?_
        replace h := h.2
        refine zh_if_ne (pn := 73) rfl dX5_seat_70 (tgt := 75) rfl (fun cc1 => ?_) (fun cc1 => ?_)
        · replace h := h.1 cc1
          refine zh_iload_n (pn := 76) rfl dX5_seat_75 (i := 3) (x := l3) rfl rfl ?_
          refine zh_iload_n (pn := 77) rfl dX5_seat_76 (i := 1) (x := l1) rfl rfl ?_
          refine zh_iadd (pn := 78) rfl dX5_seat_77 ?_
          refine zh_istore_n (pn := 79) rfl dX5_seat_78 (i := 3) (lo' := [some (.ref 39), some (.int l1), some (.int l2), some (.int (l3 + l1)), w4]) rfl (by decide) rfl ?_
          refine zh_goto dX5_seat_79 (tgt := 43) rfl ?_
          exact ih _ _ _ h
        · replace h := h.2 cc1
          refine zh_iload_n (pn := 74) rfl dX5_seat_73 (i := 3) (x := l3) rfl rfl ?_
          exact zh_iret dX5_seat_74 rfl rfl ⟨_, rfl, rfl, h⟩
set_option maxRecDepth 100000 in
set_option maxHeartbeats 4000000 in
theorem wkl_X5_seat_2 {X : Nat × (Nat → Int32)} {d : Nat} {P : Int32 → zh_M → Prop} {l1 : Int32} {K88 : zh_M → Prop} (hK88 : ∀ (M : zh_M) (w2 : Option Value) (w3 : Option Value) (w4 : Option Value), K88 M → zh_W X (d + 1) yX5_seat cX5_seat 5 (some .int) 88 [some (.ref 39), some (.int l1), w2, w3, w4] [] zh_LL M 0 0 (zh_pi P)) : ∀ (n : Nat) (l2 : Int32) (M : zh_M) (w3 : Option Value) (w4 : Option Value), wl_X5_seat_2 l1 K88 P n l2 M → zh_W X (d + 1) yX5_seat cX5_seat 5 (some .int) 2 [some (.ref 39), some (.int l1), some (.int l2), w3, w4] [] zh_LL M 0 0 (zh_pi P) := by
  intro n
  induction n with
  | zero => intro l2 M w3 w4 h; exact h.elim
  | succ n ih =>
    intro l2 M w3 w4 h
    unfold wl_X5_seat_2 at h
    refine zh_iload_n (pn := 3) rfl dX5_seat_2 (i := 2) (x := l2) rfl rfl ?_
    refine zh_bipush (pn := 5) rfl dX5_seat_3 (v := (zI 16)) rfl ?_
    refine zh_icmp_ge (pn := 8) rfl dX5_seat_5 (tgt := 88) rfl (fun cc1 => ?_) (fun cc1 => ?_)
    · replace h := h.1 cc1
      exact hK88 _ _ _ _ h
    · replace h := h.2 cc1
      refine zh_iload_n (pn := 9) rfl dX5_seat_8 (i := 1) (x := l1) rfl rfl ?_
      refine zh_bipush (pn := 11) rfl dX5_seat_9 (v := (zI 16)) rfl ?_
      refine zh_icmp_ge (pn := 14) rfl dX5_seat_11 (tgt := 88) rfl (fun cc1 => ?_) (fun cc1 => ?_)
      · replace h := h.1 cc1
        exact hK88 _ _ _ _ h
      · replace h := h.2 cc1
        refine zh_aload_n (pn := 15) rfl dX5_seat_14 (i := 0) (v := .ref 39) rfl rfl (Or.inr ⟨_, rfl⟩) ?_
        refine zh_get (pn := 18) rfl dX5_seat_15 (v := .ref 47) (k := 7) rfl rfl (by decide) (by decide) in_X5 mf_X5_32 rfl ?_
        refine zh_iload_n (pn := 19) rfl dX5_seat_18 (i := 2) (x := l2) rfl rfl ?_
        refine zh_iald (pn := 20) rfl dX5_seat_19 rfl h.1 ?_
        replace h := h.2
        refine zh_iload_n (pn := 21) rfl dX5_seat_20 (i := 1) (x := l1) rfl rfl ?_
        refine zh_icmp_ne (pn := 24) rfl dX5_seat_21 (tgt := 38) rfl (fun cc1 => ?_) (fun cc1 => ?_)
        · replace h := h.1 cc1
          refine zh_bipush (pn := 40) rfl dX5_seat_38 (v := (zI 16)) rfl ?_
          refine zh_iload_n (pn := 41) rfl dX5_seat_40 (i := 2) (x := l2) rfl rfl ?_
          refine zh_imul (pn := 42) rfl dX5_seat_41 ?_
          refine zh_istore_n (pn := 43) rfl dX5_seat_42 (i := 3) (lo' := [some (.ref 39), some (.int l1), some (.int l2), some (.int ((zI 16) * l2)), w4]) rfl (by decide) rfl ?_
          obtain ⟨n4, h⟩ := h
          refine wkl_X5_seat_43 (fun M1 w3_2 w4_3 h => ?_) n4 _ _ _ h
          refine zh_iinc (pn := 85) rfl dX5_seat_82 (i := 2) (x := l2) (v := l2 + (zI 1)) (lo' := [some (.ref 39), some (.int l1), some (.int (l2 + (zI 1))), w3_2, w4_3]) rfl rfl (by decide) rfl ?_
          refine zh_goto dX5_seat_85 (tgt := 2) rfl ?_
          exact ih _ _ _ _ h
        · replace h := h.2 cc1
          refine zh_aload_n (pn := 25) rfl dX5_seat_24 (i := 0) (v := .ref 39) rfl rfl (Or.inr ⟨_, rfl⟩) ?_
          refine zh_get (pn := 28) rfl dX5_seat_25 (v := .ref 48) (k := 8) rfl rfl (by decide) (by decide) in_X5 mf_X5_35 rfl ?_
          refine zh_iload_n (pn := 29) rfl dX5_seat_28 (i := 2) (x := l2) rfl rfl ?_
          refine zh_zald (pn := 30) rfl dX5_seat_29 rfl h.1 ?_
          replace h := h.2
          refine zh_if_eq (pn := 33) rfl dX5_seat_30 (tgt := 38) rfl (fun cc1 => ?_) (fun cc1 => ?_)
          · replace h := h.1 cc1
            refine zh_bipush (pn := 40) rfl dX5_seat_38 (v := (zI 16)) rfl ?_
            refine zh_iload_n (pn := 41) rfl dX5_seat_40 (i := 2) (x := l2) rfl rfl ?_
            refine zh_imul (pn := 42) rfl dX5_seat_41 ?_
            refine zh_istore_n (pn := 43) rfl dX5_seat_42 (i := 3) (lo' := [some (.ref 39), some (.int l1), some (.int l2), some (.int ((zI 16) * l2)), w4]) rfl (by decide) rfl ?_
            obtain ⟨n8, h⟩ := h
            refine wkl_X5_seat_43 (fun M5 w3_6 w4_7 h => ?_) n8 _ _ _ h
            refine zh_iinc (pn := 85) rfl dX5_seat_82 (i := 2) (x := l2) (v := l2 + (zI 1)) (lo' := [some (.ref 39), some (.int l1), some (.int (l2 + (zI 1))), w3_6, w4_7]) rfl rfl (by decide) rfl ?_
            refine zh_goto dX5_seat_85 (tgt := 2) rfl ?_
            exact ih _ _ _ _ h
          · replace h := h.2 cc1
            refine zh_aload_n (pn := 34) rfl dX5_seat_33 (i := 0) (v := .ref 39) rfl rfl (Or.inr ⟨_, rfl⟩) ?_
            refine zh_iload_n (pn := 35) rfl dX5_seat_34 (i := 2) (x := l2) rfl rfl ?_
            refine ca_X5_sweepSpan (pn := 38) rfl dX5_seat_35 mc_X5_113 (fun _ _ => Nat.le_of_ble_eq_true rfl) h (fun M9 h => ?_)
            refine zh_bipush (pn := 40) rfl dX5_seat_38 (v := (zI 16)) rfl ?_
            refine zh_iload_n (pn := 41) rfl dX5_seat_40 (i := 2) (x := l2) rfl rfl ?_
            refine zh_imul (pn := 42) rfl dX5_seat_41 ?_
            refine zh_istore_n (pn := 43) rfl dX5_seat_42 (i := 3) (lo' := [some (.ref 39), some (.int l1), some (.int l2), some (.int ((zI 16) * l2)), w4]) rfl (by decide) rfl ?_
            obtain ⟨n13, h⟩ := h
            refine wkl_X5_seat_43 (fun M10 w3_11 w4_12 h => ?_) n13 _ _ _ h
            refine zh_iinc (pn := 85) rfl dX5_seat_82 (i := 2) (x := l2) (v := l2 + (zI 1)) (lo' := [some (.ref 39), some (.int l1), some (.int (l2 + (zI 1))), w3_11, w4_12]) rfl rfl (by decide) rfl ?_
            refine zh_goto dX5_seat_85 (tgt := 2) rfl ?_
            exact ih _ _ _ _ h
set_option maxRecDepth 100000 in
set_option maxHeartbeats 4000000 in
theorem wkl_X5_seat_113 {X : Nat × (Nat → Int32)} {d : Nat} {P : Int32 → zh_M → Prop} {l1 : Int32} {l2 : Int32} {l3 : Int32} {K148 : zh_M → Prop} (hK148 : ∀ (M : zh_M) (w0 : Option Value) (w1 : Option Value) (w2 : Option Value) (w4 : Option Value), K148 M → zh_W X (d + 1) yX5_seat cX5_seat 5 (some .int) 148 [w0, w1, w2, some (.int l3), w4] [] zh_LL M 0 0 (zh_pi P)) : ∀ (n : Nat) (l4 : Int32) (M : zh_M) , wl_X5_seat_113 l1 l2 l3 K148 P n l4 M → zh_W X (d + 1) yX5_seat cX5_seat 5 (some .int) 113 [some (.ref 39), some (.int l1), some (.int l2), some (.int l3), some (.int l4)] [] zh_LL M 0 0 (zh_pi P) := by
  intro n
  induction n with
  | zero => intro l4 M  h; exact h.elim
  | succ n ih =>
    intro l4 M  h
    unfold wl_X5_seat_113 at h
    refine zh_iload (pn := 115) rfl dX5_seat_113 (i := 4) (x := l4) rfl ?_
    refine zh_iload_n (pn := 116) rfl dX5_seat_115 (i := 2) (x := l2) rfl rfl ?_
    refine zh_icmp_ge (pn := 119) rfl dX5_seat_116 (tgt := 148) rfl (fun cc1 => ?_) (fun cc1 => ?_)
    · replace h := h.1 cc1
      exact hK148 _ _ _ _ _ h
    · replace h := h.2 cc1
      refine zh_iload_n (pn := 120) rfl dX5_seat_119 (i := 3) (x := l3) rfl rfl ?_
      refine zh_if_lt (pn := 123) rfl dX5_seat_120 (tgt := 148) rfl (fun cc1 => ?_) (fun cc1 => ?_)
      · replace h := h.1 cc1
        exact hK148 _ _ _ _ _ h
      · replace h := h.2 cc1
        refine zh_aload_n (pn := 124) rfl dX5_seat_123 (i := 0) (v := .ref 39) rfl rfl (Or.inr ⟨_, rfl⟩) ?_
        refine zh_get (pn := 127) rfl dX5_seat_124 (v := .ref 47) (k := 7) rfl rfl (by decide) (by decide) in_X5 mf_X5_32 rfl ?_
        refine zh_iload_n (pn := 128) rfl dX5_seat_127 (i := 3) (x := l3) rfl rfl ?_
        refine zh_iload (pn := 130) rfl dX5_seat_128 (i := 4) (x := l4) rfl ?_
        refine zh_iadd (pn := 131) rfl dX5_seat_130 ?_
        refine zh_iload (pn := 133) rfl dX5_seat_131 (i := 4) (x := l4) rfl ?_
        refine zh_if_ne (pn := 136) rfl dX5_seat_133 (tgt := 140) rfl (fun cc1 => ?_) (fun cc1 => ?_)
        · replace h := h.1 cc1
          refine zh_iconst (pn := 141) rfl dX5_seat_140 (v := (zI 1)) rfl ?_
          refine zh_iast (pn := 142) rfl dX5_seat_141 rfl h.1 ?_
          obtain ⟨M20, eM20⟩ : ∃ q : zh_M, q = zh_set M 47 (l3 + l4).toNatClampNeg (zI 1) := ⟨_, rfl⟩
          replace h := h.2 M20 eM20
          rw [← eM20]
          refine zh_iinc (pn := 145) rfl dX5_seat_142 (i := 4) (x := l4) (v := l4 + (zI 1)) (lo' := [some (.ref 39), some (.int l1), some (.int l2), some (.int l3), some (.int (l4 + (zI 1)))]) rfl rfl (by decide) rfl ?_
          refine zh_goto dX5_seat_145 (tgt := 113) rfl ?_
          exact ih _ _ h
        · replace h := h.2 cc1
          refine zh_iload_n (pn := 137) rfl dX5_seat_136 (i := 1) (x := l1) rfl rfl ?_
          refine zh_goto dX5_seat_137 (tgt := 141) rfl ?_
          refine zh_iast (pn := 142) rfl dX5_seat_141 rfl h.1 ?_
          obtain ⟨M21, eM21⟩ : ∃ q : zh_M, q = zh_set M 47 (l3 + l4).toNatClampNeg l1 := ⟨_, rfl⟩
          replace h := h.2 M21 eM21
          rw [← eM21]
          refine zh_iinc (pn := 145) rfl dX5_seat_142 (i := 4) (x := l4) (v := l4 + (zI 1)) (lo' := [some (.ref 39), some (.int l1), some (.int l2), some (.int l3), some (.int (l4 + (zI 1)))]) rfl rfl (by decide) rfl ?_
          refine zh_goto dX5_seat_145 (tgt := 113) rfl ?_
          exact ih _ _ h
set_option maxRecDepth 100000 in
set_option maxHeartbeats 4000000 in
theorem wk_X5_seat {X : Nat × (Nat → Int32)} {d : Nat} {M : zh_M} {a1 : Int32} {P : Int32 → zh_M → Prop} (h : wp_X5_seat M a1 P) : zh_W X (d + 1) yX5_seat cX5_seat 5 (some .int) 0 (zh_en [.ref 39, .int a1] 5) [] zh_LL M 0 0 (zh_pi P) := by
  unfold wp_X5_seat at h
  show zh_W X (d + 1) yX5_seat cX5_seat 5 (some .int) 0 [some (.ref 39), some (.int a1), none, none, none] [] zh_LL M 0 0 (zh_pi P)
  refine zh_iconst (pn := 1) rfl dX5_seat_0 (v := (zI 0)) rfl ?_
  refine zh_istore_n (pn := 2) rfl dX5_seat_1 (i := 2) (lo' := [some (.ref 39), some (.int a1), some (.int (zI 0)), none, none]) rfl (by decide) rfl ?_
  obtain ⟨n36, h⟩ := h
  refine wkl_X5_seat_2 (fun M14 w2_15 w3_16 w4_17 h => ?_) n36 _ _ _ _ h
  refine zh_iload_n (pn := 89) rfl dX5_seat_88 (i := 1) (x := a1) rfl rfl ?_
  refine zh_bipush (pn := 91) rfl dX5_seat_89 (v := (zI 16)) rfl ?_
  refine zh_icmp_ge (pn := 94) rfl dX5_seat_91 (tgt := 98) rfl (fun cc1 => ?_) (fun cc1 => ?_)
  · replace h := h.1 cc1
    refine zh_iload_n (pn := 99) rfl dX5_seat_98 (i := 1) (x := a1) rfl rfl ?_
    refine zh_bipush (pn := 101) rfl dX5_seat_99 (v := (zI 16)) rfl ?_
    refine zh_idiv (pn := 102) rfl dX5_seat_101 (by decide) ?_
    refine zh_istore_n (pn := 103) rfl dX5_seat_102 (i := 2) (lo' := [some (.ref 39), some (.int a1), some (.int (a1 / (zI 16))), w3_16, w4_17]) rfl (by decide) rfl ?_
    refine zh_aload_n (pn := 104) rfl dX5_seat_103 (i := 0) (v := .ref 39) rfl rfl (Or.inr ⟨_, rfl⟩) ?_
    refine zh_iload_n (pn := 105) rfl dX5_seat_104 (i := 2) (x := a1 / (zI 16)) rfl rfl ?_
    refine zh_iconst (pn := 106) rfl dX5_seat_105 (v := (zI 0)) rfl ?_
    refine ca_X5_runOf (pn := 109) rfl dX5_seat_106 mc_X5_117 (fun _ _ => Nat.le_of_ble_eq_true rfl) h (fun r19 M18 h => ?_)
    refine zh_istore_n (pn := 110) rfl dX5_seat_109 (i := 3) (lo' := [some (.ref 39), some (.int a1), some (.int (a1 / (zI 16))), some (.int r19), w4_17]) rfl (by decide) rfl ?_
    refine zh_iconst (pn := 111) rfl dX5_seat_110 (v := (zI 0)) rfl ?_
    refine zh_istore (pn := 113) rfl dX5_seat_111 (i := 4) (lo' := [some (.ref 39), some (.int a1), some (.int (a1 / (zI 16))), some (.int r19), some (.int (zI 0))]) (by decide) rfl ?_
    obtain ⟨n27, h⟩ := h
    refine wkl_X5_seat_113 (fun M22 w0_23 w1_24 w2_25 w4_26 h => ?_) n27 _ _ h
    refine zh_iload_n (pn := 149) rfl dX5_seat_148 (i := 3) (x := r19) rfl rfl ?_
    refine zh_if_ge (pn := 152) rfl dX5_seat_149 (tgt := 156) rfl (fun cc1 => ?_) (fun cc1 => ?_)
    · replace h := h.1 cc1
      refine zh_bipush (pn := 158) rfl dX5_seat_156 (v := (zI 16)) rfl ?_
      refine zh_iload_n (pn := 159) rfl dX5_seat_158 (i := 3) (x := r19) rfl rfl ?_
      refine zh_imul (pn := 160) rfl dX5_seat_159 ?_
      exact zh_iret dX5_seat_160 rfl rfl ⟨_, rfl, rfl, h⟩
    · replace h := h.2 cc1
      refine zh_iconst (pn := 153) rfl dX5_seat_152 (v := (zI (-1))) rfl ?_
      refine zh_goto dX5_seat_153 (tgt := 160) rfl ?_
      exact zh_iret dX5_seat_160 rfl rfl ⟨_, rfl, rfl, h⟩
  · replace h := h.2 cc1
    refine zh_iconst (pn := 95) rfl dX5_seat_94 (v := (zI 1)) rfl ?_
    refine zh_goto dX5_seat_95 (tgt := 102) rfl ?_
    refine zh_istore_n (pn := 103) rfl dX5_seat_102 (i := 2) (lo' := [some (.ref 39), some (.int a1), some (.int (zI 1)), w3_16, w4_17]) rfl (by decide) rfl ?_
    refine zh_aload_n (pn := 104) rfl dX5_seat_103 (i := 0) (v := .ref 39) rfl rfl (Or.inr ⟨_, rfl⟩) ?_
    refine zh_iload_n (pn := 105) rfl dX5_seat_104 (i := 2) (x := (zI 1)) rfl rfl ?_
    refine zh_iconst (pn := 106) rfl dX5_seat_105 (v := (zI 0)) rfl ?_
    refine ca_X5_runOf (pn := 109) rfl dX5_seat_106 mc_X5_117 (fun _ _ => Nat.le_of_ble_eq_true rfl) h (fun r29 M28 h => ?_)
    refine zh_istore_n (pn := 110) rfl dX5_seat_109 (i := 3) (lo' := [some (.ref 39), some (.int a1), some (.int (zI 1)), some (.int r29), w4_17]) rfl (by decide) rfl ?_
    refine zh_iconst (pn := 111) rfl dX5_seat_110 (v := (zI 0)) rfl ?_
    refine zh_istore (pn := 113) rfl dX5_seat_111 (i := 4) (lo' := [some (.ref 39), some (.int a1), some (.int (zI 1)), some (.int r29), some (.int (zI 0))]) (by decide) rfl ?_
    obtain ⟨n35, h⟩ := h
    refine wkl_X5_seat_113 (fun M30 w0_31 w1_32 w2_33 w4_34 h => ?_) n35 _ _ h
    refine zh_iload_n (pn := 149) rfl dX5_seat_148 (i := 3) (x := r29) rfl rfl ?_
    refine zh_if_ge (pn := 152) rfl dX5_seat_149 (tgt := 156) rfl (fun cc1 => ?_) (fun cc1 => ?_)
    · replace h := h.1 cc1
      refine zh_bipush (pn := 158) rfl dX5_seat_156 (v := (zI 16)) rfl ?_
      refine zh_iload_n (pn := 159) rfl dX5_seat_158 (i := 3) (x := r29) rfl rfl ?_
      refine zh_imul (pn := 160) rfl dX5_seat_159 ?_
      exact zh_iret dX5_seat_160 rfl rfl ⟨_, rfl, rfl, h⟩
    · replace h := h.2 cc1
      refine zh_iconst (pn := 153) rfl dX5_seat_152 (v := (zI (-1))) rfl ?_
      refine zh_goto dX5_seat_153 (tgt := 160) rfl ?_
      exact zh_iret dX5_seat_160 rfl rfl ⟨_, rfl, rfl, h⟩
set_option maxRecDepth 100000 in
theorem ca_X5_seat {X : Nat × (Nat → Int32)} {d : Nat} {y : MethodName} {cc : ByteArray} {nL : Nat} {rt : Option FieldType} {pc pn idx : Nat} {lo : List (Option Value)} {st : List Value} {M : zh_M} {P : Option Value → List zh_LC → zh_M → Prop} {a1 : Int32} {K : Int32 → zh_M → Prop} (hp : pc + 3 = pn) (hd : decode cc pc = .ok (.invokevirtual idx, 3)) (m1 : Cond.methodLink y.cls idx yX5_seat ∈ zh_WS) (hsc : ∀ base b, ((st.map (zh_tr base b)).map fun v => v.category).sum ≤ 8) (h : wp_X5_seat M a1 K) (kk : ∀ r M1, K r M1 → zh_W X (d + 2) y cc nL rt pn lo (.int r :: st) zh_LL M1 0 0 P) : zh_W X (d + 2) y cc nL rt pc lo (.int a1 :: .ref 39 :: st) zh_LL M 0 0 P := by
  refine zh_callV (bc := 0) (bs := 0) (bc' := 0) (bs' := 0) (as := [.int a1]) (st := st) hp hd rfl (by decide) rfl rfl m1 me_X5_seat.1 me_X5_seat.2.1 me_X5_seat.2.2.1 me_X5_seat.2.2.2 ⟨by decide, by decide, by decide⟩ (by show _ = some 1; decide +kernel) (by intro v hv; simp only [List.mem_cons, List.not_mem_nil, or_false] at hv; rcases hv with rfl <;> (intro _ _; rfl)) hsc (Nat.le_of_ble_eq_true rfl) (by decide) (wk_X5_seat  h) (fun r L' M' q => ?_) (fun r L' M' q => ?_)
  · obtain ⟨v, -, rfl, q⟩ := q; rfl
  · obtain ⟨v, rfl, rfl, q⟩ := q; exact kk v M' q
