set_option maxRecDepth 100000 in
set_option maxHeartbeats 4000000 in
theorem wk_X4_page {X : Nat × (Nat → Int32)} {d : Nat} {M : zh_M} {a1 : Int32} {P : Int32 → zh_M → Prop} (h : wp_X4_page M a1 P) : zh_W X (d + 0) yX4_page cX4_page 2 (some .int) 0 (zh_en [.ref 1, .int a1] 2) [] zh_LL M 0 0 (zh_pi P) := by
  unfold wp_X4_page at h
  show zh_W X (d + 0) yX4_page cX4_page 2 (some .int) 0 [some (.ref 1), some (.int a1)] [] zh_LL M 0 0 (zh_pi P)
  refine zh_iload_n (pn := 1) rfl dX4_page_0 (i := 1) (x := a1) rfl rfl ?_
  refine zh_if_lt (pn := 4) rfl dX4_page_1 (tgt := 10) rfl (fun cc1 => ?_) (fun cc1 => ?_)
  · replace h := h.1 cc1
    refine zh_iconst (pn := 11) rfl dX4_page_10 (v := (zI (-1))) rfl ?_
    refine zh_goto dX4_page_11 (tgt := 23) rfl ?_
    exact zh_iret dX4_page_23 rfl rfl ⟨_, rfl, rfl, h⟩
  · replace h := h.2 cc1
    refine zh_iload_n (pn := 5) rfl dX4_page_4 (i := 1) (x := a1) rfl rfl ?_
    refine zh_bipush (pn := 7) rfl dX4_page_5 (v := (zI 16)) rfl ?_
    refine zh_icmp_lt (pn := 10) rfl dX4_page_7 (tgt := 14) rfl (fun cc1 => ?_) (fun cc1 => ?_)
    · replace h := h.1 cc1
      refine zh_aload_n (pn := 15) rfl dX4_page_14 (i := 0) (v := .ref 1) rfl rfl (Or.inr ⟨_, rfl⟩) ?_
      refine zh_get (pn := 18) rfl dX4_page_15 (v := .ref 2) (k := 0) rfl rfl (by decide) (by decide) in_X4 mf_X4_12 rfl ?_
      refine zh_get (pn := 21) rfl dX4_page_18 (v := .ref 4) (k := 1) rfl rfl (by decide) (by decide) in_X3 mf_X4_205 rfl ?_
      refine zh_iload_n (pn := 22) rfl dX4_page_21 (i := 1) (x := a1) rfl rfl ?_
      refine zh_iald (pn := 23) rfl dX4_page_22 rfl h.1 ?_
      replace h := h.2
      exact zh_iret dX4_page_23 rfl rfl ⟨_, rfl, rfl, h⟩
    · replace h := h.2 cc1
      refine zh_iconst (pn := 11) rfl dX4_page_10 (v := (zI (-1))) rfl ?_
      refine zh_goto dX4_page_11 (tgt := 23) rfl ?_
      exact zh_iret dX4_page_23 rfl rfl ⟨_, rfl, rfl, h⟩
set_option maxRecDepth 100000 in
theorem ca_X4_page {X : Nat × (Nat → Int32)} {d : Nat} {y : MethodName} {cc : ByteArray} {nL : Nat} {rt : Option FieldType} {pc pn idx : Nat} {lo : List (Option Value)} {st : List Value} {M : zh_M} {P : Option Value → List zh_LC → zh_M → Prop} {a1 : Int32} {K : Int32 → zh_M → Prop} (hp : pc + 3 = pn) (hd : decode cc pc = .ok (.invokevirtual idx, 3)) (m1 : Cond.methodLink y.cls idx yX4_page ∈ zh_WS) (hsc : ∀ base b, ((st.map (zh_tr base b)).map fun v => v.category).sum ≤ 8) (h : wp_X4_page M a1 K) (kk : ∀ r M1, K r M1 → zh_W X (d + 1) y cc nL rt pn lo (.int r :: st) zh_LL M1 0 0 P) : zh_W X (d + 1) y cc nL rt pc lo (.int a1 :: .ref 1 :: st) zh_LL M 0 0 P := by
  refine zh_callV (bc := 0) (bs := 0) (bc' := 0) (bs' := 0) (as := [.int a1]) (st := st) hp hd rfl (by decide) rfl rfl m1 me_X4_page.1 me_X4_page.2.1 me_X4_page.2.2.1 me_X4_page.2.2.2 ⟨by decide, by decide, by decide⟩ (by show _ = some 1; decide +kernel) (by intro v hv; simp only [List.mem_cons, List.not_mem_nil, or_false] at hv; rcases hv with rfl <;> (intro _ _; rfl)) hsc (Nat.le_of_ble_eq_true rfl) (by decide) (wk_X4_page  h) (fun r L' M' q => ?_) (fun r L' M' q => ?_)
  · obtain ⟨v, -, rfl, q⟩ := q; rfl
  · obtain ⟨v, rfl, rfl, q⟩ := q; exact kk v M' q
set_option maxRecDepth 100000 in
set_option maxHeartbeats 4000000 in
theorem wkl_X5_begin_47 {X : Nat × (Nat → Int32)} {d : Nat} {P : zh_M → Prop} {l1 : Int32} {l2 : Int32} : ∀ (n : Nat) (l3 : Int32) (M : zh_M) , wl_X5_begin_47 l1 l2 P n l3 M → zh_W X (d + 0) yX5_begin cX5_begin 4 none 47 [some (.ref 39), some (.int l1), some (.int l2), some (.int l3)] [] zh_LL M 0 0 (zh_pv P) := by
  intro n
  induction n with
  | zero => intro l3 M  h; exact h.elim
  | succ n ih =>
    intro l3 M  h
    unfold wl_X5_begin_47 at h
    refine zh_iload_n (pn := 48) rfl dX5_begin_47 (i := 3) (x := l3) rfl rfl ?_
    refine zh_iconst (pn := 49) rfl dX5_begin_48 (v := (zI 4)) rfl ?_
    refine zh_icmp_ge (pn := 52) rfl dX5_begin_49 (tgt := 78) rfl (fun cc1 => ?_) (fun cc1 => ?_)
    · replace h := h.1 cc1
      exact zh_vret dX5_begin_78 rfl ⟨rfl, rfl, h⟩
    · replace h := h.2 cc1
      refine zh_aload_n (pn := 53) rfl dX5_begin_52 (i := 0) (v := .ref 39) rfl rfl (Or.inr ⟨_, rfl⟩) ?_
      refine zh_get (pn := 56) rfl dX5_begin_53 (v := .ref 52) (k := 12) rfl rfl (by decide) (by decide) in_X5 mf_X5_47 rfl ?_
      refine zh_bipush (pn := 58) rfl dX5_begin_56 (v := (zI 64)) rfl ?_
      refine zh_iload_n (pn := 59) rfl dX5_begin_58 (i := 1) (x := l1) rfl rfl ?_
      refine zh_imul (pn := 60) rfl dX5_begin_59 ?_
      refine zh_iload_n (pn := 61) rfl dX5_begin_60 (i := 3) (x := l3) rfl rfl ?_
      refine zh_iadd (pn := 62) rfl dX5_begin_61 ?_
      refine zh_iload_n (pn := 63) rfl dX5_begin_62 (i := 3) (x := l3) rfl rfl ?_
      refine zh_if_ne (pn := 66) rfl dX5_begin_63 (tgt := 70) rfl (fun cc1 => ?_) (fun cc1 => ?_)
      · replace h := h.1 cc1
        refine zh_iconst (pn := 71) rfl dX5_begin_70 (v := (zI (-1))) rfl ?_
        refine zh_iast (pn := 72) rfl dX5_begin_71 rfl h.1 ?_
        obtain ⟨M7, eM7⟩ : ∃ q : zh_M, q = zh_set M 52 (((zI 64) * l1) + l3).toNatClampNeg (zI (-1)) := ⟨_, rfl⟩
        replace h := h.2 M7 eM7
        rw [← eM7]
        refine zh_iinc (pn := 75) rfl dX5_begin_72 (i := 3) (x := l3) (v := l3 + (zI 1)) (lo' := [some (.ref 39), some (.int l1), some (.int l2), some (.int (l3 + (zI 1)))]) rfl rfl (by decide) rfl ?_
        refine zh_goto dX5_begin_75 (tgt := 47) rfl ?_
        exact ih _ _ h
      · replace h := h.2 cc1
        refine zh_iload_n (pn := 67) rfl dX5_begin_66 (i := 2) (x := l2) rfl rfl ?_
        refine zh_goto dX5_begin_67 (tgt := 71) rfl ?_
        refine zh_iast (pn := 72) rfl dX5_begin_71 rfl h.1 ?_
        obtain ⟨M8, eM8⟩ : ∃ q : zh_M, q = zh_set M 52 (((zI 64) * l1) + l3).toNatClampNeg l2 := ⟨_, rfl⟩
        replace h := h.2 M8 eM8
        rw [← eM8]
        refine zh_iinc (pn := 75) rfl dX5_begin_72 (i := 3) (x := l3) (v := l3 + (zI 1)) (lo' := [some (.ref 39), some (.int l1), some (.int l2), some (.int (l3 + (zI 1)))]) rfl rfl (by decide) rfl ?_
        refine zh_goto dX5_begin_75 (tgt := 47) rfl ?_
        exact ih _ _ h
set_option maxRecDepth 100000 in
set_option maxHeartbeats 4000000 in
theorem wk_X5_begin {X : Nat × (Nat → Int32)} {d : Nat} {M : zh_M} {a1 : Int32} {a2 : Int32} {P : zh_M → Prop} (h : wp_X5_begin M a1 a2 P) : zh_W X (d + 0) yX5_begin cX5_begin 4 none 0 (zh_en [.ref 39, .int a1, .int a2] 4) [] zh_LL M 0 0 (zh_pv P) := by
  unfold wp_X5_begin at h
  show zh_W X (d + 0) yX5_begin cX5_begin 4 none 0 [some (.ref 39), some (.int a1), some (.int a2), none] [] zh_LL M 0 0 (zh_pv P)
  refine zh_aload_n (pn := 1) rfl dX5_begin_0 (i := 0) (v := .ref 39) rfl rfl (Or.inr ⟨_, rfl⟩) ?_
  refine zh_get (pn := 4) rfl dX5_begin_1 (v := .ref 49) (k := 9) rfl rfl (by decide) (by decide) in_X5 mf_X5_38 rfl ?_
  refine zh_iload_n (pn := 5) rfl dX5_begin_4 (i := 1) (x := a1) rfl rfl ?_
  refine zh_iconst (pn := 6) rfl dX5_begin_5 (v := (zI 1)) rfl ?_
  refine zh_iast (pn := 7) rfl dX5_begin_6 rfl h.1 ?_
  obtain ⟨M1, eM1⟩ : ∃ q : zh_M, q = zh_set M 49 a1.toNatClampNeg (zI 1) := ⟨_, rfl⟩
  replace h := h.2 M1 eM1
  rw [← eM1]
  refine zh_aload_n (pn := 8) rfl dX5_begin_7 (i := 0) (v := .ref 39) rfl rfl (Or.inr ⟨_, rfl⟩) ?_
  refine zh_get (pn := 11) rfl dX5_begin_8 (v := .ref 50) (k := 10) rfl rfl (by decide) (by decide) in_X5 mf_X5_41 rfl ?_
  refine zh_iload_n (pn := 12) rfl dX5_begin_11 (i := 1) (x := a1) rfl rfl ?_
  refine zh_iconst (pn := 13) rfl dX5_begin_12 (v := (zI 1)) rfl ?_
  refine zh_iast (pn := 14) rfl dX5_begin_13 rfl h.1 ?_
  obtain ⟨M2, eM2⟩ : ∃ q : zh_M, q = zh_set M1 50 a1.toNatClampNeg (zI 1) := ⟨_, rfl⟩
  replace h := h.2 M2 eM2
  rw [← eM2]
  refine zh_aload_n (pn := 15) rfl dX5_begin_14 (i := 0) (v := .ref 39) rfl rfl (Or.inr ⟨_, rfl⟩) ?_
  refine zh_get (pn := 18) rfl dX5_begin_15 (v := .ref 51) (k := 11) rfl rfl (by decide) (by decide) in_X5 mf_X5_44 rfl ?_
  refine zh_iload_n (pn := 19) rfl dX5_begin_18 (i := 1) (x := a1) rfl rfl ?_
  refine zh_iconst (pn := 20) rfl dX5_begin_19 (v := (zI 2)) rfl ?_
  refine zh_iast (pn := 21) rfl dX5_begin_20 rfl h.1 ?_
  obtain ⟨M3, eM3⟩ : ∃ q : zh_M, q = zh_set M2 51 a1.toNatClampNeg (zI 2) := ⟨_, rfl⟩
  replace h := h.2 M3 eM3
  rw [← eM3]
  refine zh_aload_n (pn := 22) rfl dX5_begin_21 (i := 0) (v := .ref 39) rfl rfl (Or.inr ⟨_, rfl⟩) ?_
  refine zh_get (pn := 25) rfl dX5_begin_22 (v := .ref 54) (k := 14) rfl rfl (by decide) (by decide) in_X5 mf_X5_53 rfl ?_
  refine zh_iload_n (pn := 26) rfl dX5_begin_25 (i := 1) (x := a1) rfl rfl ?_
  refine zh_iconst (pn := 27) rfl dX5_begin_26 (v := (zI 0)) rfl ?_
  refine zh_zast (pn := 28) rfl dX5_begin_27 (x' := (zI 0)) rfl h.1 rfl ?_
  obtain ⟨M4, eM4⟩ : ∃ q : zh_M, q = zh_set M3 54 a1.toNatClampNeg (zI 0) := ⟨_, rfl⟩
  replace h := h.2 M4 eM4
  rw [← eM4]
  refine zh_aload_n (pn := 29) rfl dX5_begin_28 (i := 0) (v := .ref 39) rfl rfl (Or.inr ⟨_, rfl⟩) ?_
  refine zh_get (pn := 32) rfl dX5_begin_29 (v := .ref 59) (k := 19) rfl rfl (by decide) (by decide) in_X5 mf_X5_68 rfl ?_
  refine zh_iload_n (pn := 33) rfl dX5_begin_32 (i := 1) (x := a1) rfl rfl ?_
  refine zh_iconst (pn := 34) rfl dX5_begin_33 (v := (zI (-1))) rfl ?_
  refine zh_iast (pn := 35) rfl dX5_begin_34 rfl h.1 ?_
  obtain ⟨M5, eM5⟩ : ∃ q : zh_M, q = zh_set M4 59 a1.toNatClampNeg (zI (-1)) := ⟨_, rfl⟩
  replace h := h.2 M5 eM5
  rw [← eM5]
  refine zh_aload_n (pn := 36) rfl dX5_begin_35 (i := 0) (v := .ref 39) rfl rfl (Or.inr ⟨_, rfl⟩) ?_
  refine zh_get (pn := 39) rfl dX5_begin_36 (v := .ref 53) (k := 13) rfl rfl (by decide) (by decide) in_X5 mf_X5_50 rfl ?_
  refine zh_bipush (pn := 41) rfl dX5_begin_39 (v := (zI 16)) rfl ?_
  refine zh_iload_n (pn := 42) rfl dX5_begin_41 (i := 1) (x := a1) rfl rfl ?_
  refine zh_imul (pn := 43) rfl dX5_begin_42 ?_
  refine zh_iconst (pn := 44) rfl dX5_begin_43 (v := (zI (-1))) rfl ?_
  refine zh_iast (pn := 45) rfl dX5_begin_44 rfl h.1 ?_
  obtain ⟨M6, eM6⟩ : ∃ q : zh_M, q = zh_set M5 53 ((zI 16) * a1).toNatClampNeg (zI (-1)) := ⟨_, rfl⟩
  replace h := h.2 M6 eM6
  rw [← eM6]
  refine zh_iconst (pn := 46) rfl dX5_begin_45 (v := (zI 0)) rfl ?_
  refine zh_istore_n (pn := 47) rfl dX5_begin_46 (i := 3) (lo' := [some (.ref 39), some (.int a1), some (.int a2), some (.int (zI 0))]) rfl (by decide) rfl ?_
  obtain ⟨n9, h⟩ := h
  refine wkl_X5_begin_47 n9 _ _ h
set_option maxRecDepth 100000 in
theorem ca_X5_begin {X : Nat × (Nat → Int32)} {d : Nat} {y : MethodName} {cc : ByteArray} {nL : Nat} {rt : Option FieldType} {pc pn idx : Nat} {lo : List (Option Value)} {st : List Value} {M : zh_M} {P : Option Value → List zh_LC → zh_M → Prop} {a1 : Int32} {a2 : Int32} {K : zh_M → Prop} (hp : pc + 3 = pn) (hd : decode cc pc = .ok (.invokevirtual idx, 3)) (m1 : Cond.methodLink y.cls idx yX5_begin ∈ zh_WS) (hsc : ∀ base b, ((st.map (zh_tr base b)).map fun v => v.category).sum ≤ 8) (h : wp_X5_begin M a1 a2 K) (kk : ∀ M1, K M1 → zh_W X (d + 1) y cc nL rt pn lo st zh_LL M1 0 0 P) : zh_W X (d + 1) y cc nL rt pc lo (.int a2 :: .int a1 :: .ref 39 :: st) zh_LL M 0 0 P := by
  refine zh_callV (bc := 0) (bs := 0) (bc' := 0) (bs' := 0) (as := [.int a1, .int a2]) (st := st) hp hd rfl (by decide) rfl rfl m1 me_X5_begin.1 me_X5_begin.2.1 me_X5_begin.2.2.1 me_X5_begin.2.2.2 ⟨by decide, by decide, by decide⟩ (by show _ = some 2; decide +kernel) (by intro v hv; simp only [List.mem_cons, List.not_mem_nil, or_false] at hv; rcases hv with rfl | rfl <;> (intro _ _; rfl)) hsc (Nat.le_of_ble_eq_true rfl) (by decide) (wk_X5_begin  h) (fun r L' M' q => ?_) (fun r L' M' q => ?_)
  · obtain ⟨-, rfl, q⟩ := q; rfl
  · obtain ⟨rfl, rfl, q⟩ := q; exact kk M' q
set_option maxRecDepth 100000 in
set_option maxHeartbeats 4000000 in
theorem wk_X5_lives {X : Nat × (Nat → Int32)} {d : Nat} {M : zh_M} {a1 : Int32} {P : Int32 → zh_M → Prop} (h : wp_X5_lives M a1 P) : zh_W X (d + 0) yX5_lives cX5_lives 2 (some .boolean) 0 (zh_en [.ref 39, .int a1] 2) [] zh_LL M 0 0 (zh_pi P) := by
  unfold wp_X5_lives at h
  show zh_W X (d + 0) yX5_lives cX5_lives 2 (some .boolean) 0 [some (.ref 39), some (.int a1)] [] zh_LL M 0 0 (zh_pi P)
  refine zh_iload_n (pn := 1) rfl dX5_lives_0 (i := 1) (x := a1) rfl rfl ?_
  refine zh_if_lt (pn := 4) rfl dX5_lives_1 (tgt := 23) rfl (fun cc1 => ?_) (fun cc1 => ?_)
  · replace h := h.1 cc1
    refine zh_iconst (pn := 24) rfl dX5_lives_23 (v := (zI 0)) rfl ?_
    exact zh_iret dX5_lives_24 rfl rfl ⟨_, rfl, rfl, h⟩
  · replace h := h.2 cc1
    refine zh_iload_n (pn := 5) rfl dX5_lives_4 (i := 1) (x := a1) rfl rfl ?_
    refine zh_bipush (pn := 7) rfl dX5_lives_5 (v := (zI 6)) rfl ?_
    refine zh_icmp_ge (pn := 10) rfl dX5_lives_7 (tgt := 23) rfl (fun cc1 => ?_) (fun cc1 => ?_)
    · replace h := h.1 cc1
      refine zh_iconst (pn := 24) rfl dX5_lives_23 (v := (zI 0)) rfl ?_
      exact zh_iret dX5_lives_24 rfl rfl ⟨_, rfl, rfl, h⟩
    · replace h := h.2 cc1
      refine zh_aload_n (pn := 11) rfl dX5_lives_10 (i := 0) (v := .ref 39) rfl rfl (Or.inr ⟨_, rfl⟩) ?_
      refine zh_get (pn := 14) rfl dX5_lives_11 (v := .ref 49) (k := 9) rfl rfl (by decide) (by decide) in_X5 mf_X5_38 rfl ?_
      refine zh_iload_n (pn := 15) rfl dX5_lives_14 (i := 1) (x := a1) rfl rfl ?_
      refine zh_iald (pn := 16) rfl dX5_lives_15 rfl h.1 ?_
      replace h := h.2
      refine zh_if_le (pn := 19) rfl dX5_lives_16 (tgt := 23) rfl (fun cc1 => ?_) (fun cc1 => ?_)
      · replace h := h.1 cc1
        refine zh_iconst (pn := 24) rfl dX5_lives_23 (v := (zI 0)) rfl ?_
        exact zh_iret dX5_lives_24 rfl rfl ⟨_, rfl, rfl, h⟩
      · replace h := h.2 cc1
        refine zh_iconst (pn := 20) rfl dX5_lives_19 (v := (zI 1)) rfl ?_
        refine zh_goto dX5_lives_20 (tgt := 24) rfl ?_
        exact zh_iret dX5_lives_24 rfl rfl ⟨_, rfl, rfl, h⟩
set_option maxRecDepth 100000 in
theorem ca_X5_lives {X : Nat × (Nat → Int32)} {d : Nat} {y : MethodName} {cc : ByteArray} {nL : Nat} {rt : Option FieldType} {pc pn idx : Nat} {lo : List (Option Value)} {st : List Value} {M : zh_M} {P : Option Value → List zh_LC → zh_M → Prop} {a1 : Int32} {K : Int32 → zh_M → Prop} (hp : pc + 3 = pn) (hd : decode cc pc = .ok (.invokevirtual idx, 3)) (m1 : Cond.methodLink y.cls idx yX5_lives ∈ zh_WS) (hsc : ∀ base b, ((st.map (zh_tr base b)).map fun v => v.category).sum ≤ 8) (h : wp_X5_lives M a1 K) (kk : ∀ r M1, K r M1 → zh_W X (d + 1) y cc nL rt pn lo (.int r :: st) zh_LL M1 0 0 P) : zh_W X (d + 1) y cc nL rt pc lo (.int a1 :: .ref 39 :: st) zh_LL M 0 0 P := by
  refine zh_callV (bc := 0) (bs := 0) (bc' := 0) (bs' := 0) (as := [.int a1]) (st := st) hp hd rfl (by decide) rfl rfl m1 me_X5_lives.1 me_X5_lives.2.1 me_X5_lives.2.2.1 me_X5_lives.2.2.2 ⟨by decide, by decide, by decide⟩ (by show _ = some 1; decide +kernel) (by intro v hv; simp only [List.mem_cons, List.not_mem_nil, or_false] at hv; rcases hv with rfl <;> (intro _ _; rfl)) hsc (Nat.le_of_ble_eq_true rfl) (by decide) (wk_X5_lives  h) (fun r L' M' q => ?_) (fun r L' M' q => ?_)
  · obtain ⟨v, -, rfl, q⟩ := q; rfl
  · obtain ⟨v, rfl, rfl, q⟩ := q; exact kk v M' q
set_option maxRecDepth 100000 in
set_option maxHeartbeats 4000000 in
theorem wk_X5_ready {X : Nat × (Nat → Int32)} {d : Nat} {M : zh_M} {a1 : Int32} {P : Int32 → zh_M → Prop} (h : wp_X5_ready M a1 P) : zh_W X (d + 1) yX5_ready cX5_ready 2 (some .boolean) 0 (zh_en [.ref 39, .int a1] 2) [] zh_LL M 0 0 (zh_pi P) := by
  unfold wp_X5_ready at h
  show zh_W X (d + 1) yX5_ready cX5_ready 2 (some .boolean) 0 [some (.ref 39), some (.int a1)] [] zh_LL M 0 0 (zh_pi P)
  refine zh_aload_n (pn := 1) rfl dX5_ready_0 (i := 0) (v := .ref 39) rfl rfl (Or.inr ⟨_, rfl⟩) ?_
  refine zh_iload_n (pn := 2) rfl dX5_ready_1 (i := 1) (x := a1) rfl rfl ?_
  refine ca_X5_lives (pn := 5) rfl dX5_ready_2 mc_X5_85 (fun _ _ => Nat.le_of_ble_eq_true rfl) h (fun r2 M1 h => ?_)
  refine zh_if_eq (pn := 8) rfl dX5_ready_5 (tgt := 22) rfl (fun cc1 => ?_) (fun cc1 => ?_)
  · replace h := h.1 cc1
    refine zh_iconst (pn := 23) rfl dX5_ready_22 (v := (zI 0)) rfl ?_
    exact zh_iret dX5_ready_23 rfl rfl ⟨_, rfl, rfl, h⟩
  · replace h := h.2 cc1
    refine zh_aload_n (pn := 9) rfl dX5_ready_8 (i := 0) (v := .ref 39) rfl rfl (Or.inr ⟨_, rfl⟩) ?_
    refine zh_get (pn := 12) rfl dX5_ready_9 (v := .ref 49) (k := 9) rfl rfl (by decide) (by decide) in_X5 mf_X5_38 rfl ?_
    refine zh_iload_n (pn := 13) rfl dX5_ready_12 (i := 1) (x := a1) rfl rfl ?_
    refine zh_iald (pn := 14) rfl dX5_ready_13 rfl h.1 ?_
    replace h := h.2
    refine zh_iconst (pn := 15) rfl dX5_ready_14 (v := (zI 1)) rfl ?_
    refine zh_icmp_ne (pn := 18) rfl dX5_ready_15 (tgt := 22) rfl (fun cc1 => ?_) (fun cc1 => ?_)
    · replace h := h.1 cc1
      refine zh_iconst (pn := 23) rfl dX5_ready_22 (v := (zI 0)) rfl ?_
      exact zh_iret dX5_ready_23 rfl rfl ⟨_, rfl, rfl, h⟩
    · replace h := h.2 cc1
      refine zh_iconst (pn := 19) rfl dX5_ready_18 (v := (zI 1)) rfl ?_
      refine zh_goto dX5_ready_19 (tgt := 23) rfl ?_
      exact zh_iret dX5_ready_23 rfl rfl ⟨_, rfl, rfl, h⟩
set_option maxRecDepth 100000 in
theorem ca_X5_ready {X : Nat × (Nat → Int32)} {d : Nat} {y : MethodName} {cc : ByteArray} {nL : Nat} {rt : Option FieldType} {pc pn idx : Nat} {lo : List (Option Value)} {st : List Value} {M : zh_M} {P : Option Value → List zh_LC → zh_M → Prop} {a1 : Int32} {K : Int32 → zh_M → Prop} (hp : pc + 3 = pn) (hd : decode cc pc = .ok (.invokevirtual idx, 3)) (m1 : Cond.methodLink y.cls idx yX5_ready ∈ zh_WS) (hsc : ∀ base b, ((st.map (zh_tr base b)).map fun v => v.category).sum ≤ 8) (h : wp_X5_ready M a1 K) (kk : ∀ r M1, K r M1 → zh_W X (d + 2) y cc nL rt pn lo (.int r :: st) zh_LL M1 0 0 P) : zh_W X (d + 2) y cc nL rt pc lo (.int a1 :: .ref 39 :: st) zh_LL M 0 0 P := by
  refine zh_callV (bc := 0) (bs := 0) (bc' := 0) (bs' := 0) (as := [.int a1]) (st := st) hp hd rfl (by decide) rfl rfl m1 me_X5_ready.1 me_X5_ready.2.1 me_X5_ready.2.2.1 me_X5_ready.2.2.2 ⟨by decide, by decide, by decide⟩ (by show _ = some 1; decide +kernel) (by intro v hv; simp only [List.mem_cons, List.not_mem_nil, or_false] at hv; rcases hv with rfl <;> (intro _ _; rfl)) hsc (Nat.le_of_ble_eq_true rfl) (by decide) (wk_X5_ready  h) (fun r L' M' q => ?_) (fun r L' M' q => ?_)
  · obtain ⟨v, -, rfl, q⟩ := q; rfl
  · obtain ⟨v, rfl, rfl, q⟩ := q; exact kk v M' q
set_option maxRecDepth 100000 in
set_option maxHeartbeats 4000000 in
theorem wk_X5_place {X : Nat × (Nat → Int32)} {d : Nat} {M : zh_M} {a1 : Int32} {a2 : Int32} {P : Int32 → zh_M → Prop} (h : wp_X5_place M a1 a2 P) : zh_W X (d + 0) yX5_place cX5_place 5 (some .int) 0 (zh_en [.ref 39, .int a1, .int a2] 5) [] zh_LL M 0 0 (zh_pi P) := by
  unfold wp_X5_place at h
  show zh_W X (d + 0) yX5_place cX5_place 5 (some .int) 0 [some (.ref 39), some (.int a1), some (.int a2), none, none] [] zh_LL M 0 0 (zh_pi P)
  refine zh_aload_n (pn := 1) rfl dX5_place_0 (i := 0) (v := .ref 39) rfl rfl (Or.inr ⟨_, rfl⟩) ?_
  refine zh_get (pn := 4) rfl dX5_place_1 (v := .ref 50) (k := 10) rfl rfl (by decide) (by decide) in_X5 mf_X5_41 rfl ?_
  refine zh_iload_n (pn := 5) rfl dX5_place_4 (i := 1) (x := a1) rfl rfl ?_
  refine zh_iald (pn := 6) rfl dX5_place_5 rfl h.1 ?_
  replace h := h.2
  refine zh_iconst (pn := 7) rfl dX5_place_6 (v := (zI 1)) rfl ?_
  refine zh_isub (pn := 8) rfl dX5_place_7 ?_
  refine zh_istore_n (pn := 9) rfl dX5_place_8 (i := 3) (lo' := [some (.ref 39), some (.int a1), some (.int a2), some (.int ((M 50 a1.toNatClampNeg) - (zI 1))), none]) rfl (by decide) rfl ?_
  refine zh_iload_n (pn := 10) rfl dX5_place_9 (i := 2) (x := a2) rfl rfl ?_
  refine zh_if_lt (pn := 13) rfl dX5_place_10 (tgt := 29) rfl (fun cc1 => ?_) (fun cc1 => ?_)
  · replace h := h.1 cc1
    refine zh_iload_n (pn := 30) rfl dX5_place_29 (i := 2) (x := a2) rfl rfl ?_
    refine zh_iconst (pn := 31) rfl dX5_place_30 (v := (zI 4)) rfl ?_
    refine zh_icmp_ne (pn := 34) rfl dX5_place_31 (tgt := 48) rfl (fun cc1 => ?_) (fun cc1 => ?_)
    · replace h := h.1 cc1
      refine zh_iconst (pn := 49) rfl dX5_place_48 (v := (zI (-1))) rfl ?_
      refine zh_istore (pn := 51) rfl dX5_place_49 (i := 4) (lo' := [some (.ref 39), some (.int a1), some (.int a2), some (.int ((M 50 a1.toNatClampNeg) - (zI 1))), some (.int (zI (-1)))]) (by decide) rfl ?_
      refine zh_iload (pn := 53) rfl dX5_place_51 (i := 4) (x := (zI (-1))) rfl ?_
      refine zh_iconst (pn := 54) rfl dX5_place_53 (v := (zI (-1))) rfl ?_
      refine zh_icmp_ne (pn := 57) rfl dX5_place_54 (tgt := 61) rfl (fun cc1 => absurd cc1 (by decide)) (fun _ => ?_)
      refine zh_iconst (pn := 58) rfl dX5_place_57 (v := (zI (-1))) rfl ?_
      refine zh_goto dX5_place_58 (tgt := 68) rfl ?_
      exact zh_iret dX5_place_68 rfl rfl ⟨_, rfl, rfl, h⟩
    · replace h := h.2 cc1
      refine zh_aload_n (pn := 35) rfl dX5_place_34 (i := 0) (v := .ref 39) rfl rfl (Or.inr ⟨_, rfl⟩) ?_
      refine zh_get (pn := 38) rfl dX5_place_35 (v := .ref 53) (k := 13) rfl rfl (by decide) (by decide) in_X5 mf_X5_50 rfl ?_
      refine zh_bipush (pn := 40) rfl dX5_place_38 (v := (zI 16)) rfl ?_
      refine zh_iload_n (pn := 41) rfl dX5_place_40 (i := 1) (x := a1) rfl rfl ?_
      refine zh_imul (pn := 42) rfl dX5_place_41 ?_
      refine zh_iload_n (pn := 43) rfl dX5_place_42 (i := 3) (x := (M 50 a1.toNatClampNeg) - (zI 1)) rfl rfl ?_
      refine zh_iadd (pn := 44) rfl dX5_place_43 ?_
      refine zh_iald (pn := 45) rfl dX5_place_44 rfl h.1 ?_
      replace h := h.2
      refine zh_goto dX5_place_45 (tgt := 49) rfl ?_
      refine zh_istore (pn := 51) rfl dX5_place_49 (i := 4) (lo' := [some (.ref 39), some (.int a1), some (.int a2), some (.int ((M 50 a1.toNatClampNeg) - (zI 1))), some (.int (M 53 (((zI 16) * a1) + ((M 50 a1.toNatClampNeg) - (zI 1))).toNatClampNeg))]) (by decide) rfl ?_
      refine zh_iload (pn := 53) rfl dX5_place_51 (i := 4) (x := M 53 (((zI 16) * a1) + ((M 50 a1.toNatClampNeg) - (zI 1))).toNatClampNeg) rfl ?_
      refine zh_iconst (pn := 54) rfl dX5_place_53 (v := (zI (-1))) rfl ?_
      refine zh_icmp_ne (pn := 57) rfl dX5_place_54 (tgt := 61) rfl (fun cc1 => ?_) (fun cc1 => ?_)
      · replace h := h.1 cc1
        refine zh_bipush (pn := 63) rfl dX5_place_61 (v := (zI 64)) rfl ?_
        refine zh_iload_n (pn := 64) rfl dX5_place_63 (i := 1) (x := a1) rfl rfl ?_
        refine zh_imul (pn := 65) rfl dX5_place_64 ?_
        refine zh_iload (pn := 67) rfl dX5_place_65 (i := 4) (x := M 53 (((zI 16) * a1) + ((M 50 a1.toNatClampNeg) - (zI 1))).toNatClampNeg) rfl ?_
        refine zh_iadd (pn := 68) rfl dX5_place_67 ?_
        exact zh_iret dX5_place_68 rfl rfl ⟨_, rfl, rfl, h⟩
      · replace h := h.2 cc1
        refine zh_iconst (pn := 58) rfl dX5_place_57 (v := (zI (-1))) rfl ?_
        refine zh_goto dX5_place_58 (tgt := 68) rfl ?_
        exact zh_iret dX5_place_68 rfl rfl ⟨_, rfl, rfl, h⟩
  · replace h := h.2 cc1
    refine zh_iload_n (pn := 14) rfl dX5_place_13 (i := 2) (x := a2) rfl rfl ?_
    refine zh_iconst (pn := 15) rfl dX5_place_14 (v := (zI 4)) rfl ?_
    refine zh_icmp_ge (pn := 18) rfl dX5_place_15 (tgt := 29) rfl (fun cc1 => ?_) (fun cc1 => ?_)
    · replace h := h.1 cc1
      refine zh_iload_n (pn := 30) rfl dX5_place_29 (i := 2) (x := a2) rfl rfl ?_
      refine zh_iconst (pn := 31) rfl dX5_place_30 (v := (zI 4)) rfl ?_
      refine zh_icmp_ne (pn := 34) rfl dX5_place_31 (tgt := 48) rfl (fun cc1 => ?_) (fun cc1 => ?_)
      · replace h := h.1 cc1
        refine zh_iconst (pn := 49) rfl dX5_place_48 (v := (zI (-1))) rfl ?_
        refine zh_istore (pn := 51) rfl dX5_place_49 (i := 4) (lo' := [some (.ref 39), some (.int a1), some (.int a2), some (.int ((M 50 a1.toNatClampNeg) - (zI 1))), some (.int (zI (-1)))]) (by decide) rfl ?_
        refine zh_iload (pn := 53) rfl dX5_place_51 (i := 4) (x := (zI (-1))) rfl ?_
        refine zh_iconst (pn := 54) rfl dX5_place_53 (v := (zI (-1))) rfl ?_
        refine zh_icmp_ne (pn := 57) rfl dX5_place_54 (tgt := 61) rfl (fun cc1 => absurd cc1 (by decide)) (fun _ => ?_)
        refine zh_iconst (pn := 58) rfl dX5_place_57 (v := (zI (-1))) rfl ?_
        refine zh_goto dX5_place_58 (tgt := 68) rfl ?_
        exact zh_iret dX5_place_68 rfl rfl ⟨_, rfl, rfl, h⟩
      · replace h := h.2 cc1
        refine zh_aload_n (pn := 35) rfl dX5_place_34 (i := 0) (v := .ref 39) rfl rfl (Or.inr ⟨_, rfl⟩) ?_
        refine zh_get (pn := 38) rfl dX5_place_35 (v := .ref 53) (k := 13) rfl rfl (by decide) (by decide) in_X5 mf_X5_50 rfl ?_
        refine zh_bipush (pn := 40) rfl dX5_place_38 (v := (zI 16)) rfl ?_
        refine zh_iload_n (pn := 41) rfl dX5_place_40 (i := 1) (x := a1) rfl rfl ?_
        refine zh_imul (pn := 42) rfl dX5_place_41 ?_
        refine zh_iload_n (pn := 43) rfl dX5_place_42 (i := 3) (x := (M 50 a1.toNatClampNeg) - (zI 1)) rfl rfl ?_
        refine zh_iadd (pn := 44) rfl dX5_place_43 ?_
        refine zh_iald (pn := 45) rfl dX5_place_44 rfl h.1 ?_
        replace h := h.2
        refine zh_goto dX5_place_45 (tgt := 49) rfl ?_
        refine zh_istore (pn := 51) rfl dX5_place_49 (i := 4) (lo' := [some (.ref 39), some (.int a1), some (.int a2), some (.int ((M 50 a1.toNatClampNeg) - (zI 1))), some (.int (M 53 (((zI 16) * a1) + ((M 50 a1.toNatClampNeg) - (zI 1))).toNatClampNeg))]) (by decide) rfl ?_
        refine zh_iload (pn := 53) rfl dX5_place_51 (i := 4) (x := M 53 (((zI 16) * a1) + ((M 50 a1.toNatClampNeg) - (zI 1))).toNatClampNeg) rfl ?_
        refine zh_iconst (pn := 54) rfl dX5_place_53 (v := (zI (-1))) rfl ?_
        refine zh_icmp_ne (pn := 57) rfl dX5_place_54 (tgt := 61) rfl (fun cc1 => ?_) (fun cc1 => ?_)
        · replace h := h.1 cc1
          refine zh_bipush (pn := 63) rfl dX5_place_61 (v := (zI 64)) rfl ?_
          refine zh_iload_n (pn := 64) rfl dX5_place_63 (i := 1) (x := a1) rfl rfl ?_
          refine zh_imul (pn := 65) rfl dX5_place_64 ?_
          refine zh_iload (pn := 67) rfl dX5_place_65 (i := 4) (x := M 53 (((zI 16) * a1) + ((M 50 a1.toNatClampNeg) - (zI 1))).toNatClampNeg) rfl ?_
          refine zh_iadd (pn := 68) rfl dX5_place_67 ?_
          exact zh_iret dX5_place_68 rfl rfl ⟨_, rfl, rfl, h⟩
        · replace h := h.2 cc1
          refine zh_iconst (pn := 58) rfl dX5_place_57 (v := (zI (-1))) rfl ?_
          refine zh_goto dX5_place_58 (tgt := 68) rfl ?_
          exact zh_iret dX5_place_68 rfl rfl ⟨_, rfl, rfl, h⟩
    · replace h := h.2 cc1
      refine zh_bipush (pn := 20) rfl dX5_place_18 (v := (zI 64)) rfl ?_
      refine zh_iload_n (pn := 21) rfl dX5_place_20 (i := 1) (x := a1) rfl rfl ?_
      refine zh_imul (pn := 22) rfl dX5_place_21 ?_
      refine zh_iconst (pn := 23) rfl dX5_place_22 (v := (zI 4)) rfl ?_
      refine zh_iload_n (pn := 24) rfl dX5_place_23 (i := 3) (x := (M 50 a1.toNatClampNeg) - (zI 1)) rfl rfl ?_
      refine zh_imul (pn := 25) rfl dX5_place_24 ?_
      refine zh_iadd (pn := 26) rfl dX5_place_25 ?_
      refine zh_iload_n (pn := 27) rfl dX5_place_26 (i := 2) (x := a2) rfl rfl ?_
      refine zh_iadd (pn := 28) rfl dX5_place_27 ?_
      exact zh_iret dX5_place_28 rfl rfl ⟨_, rfl, rfl, h⟩
set_option maxRecDepth 100000 in
theorem ca_X5_place {X : Nat × (Nat → Int32)} {d : Nat} {y : MethodName} {cc : ByteArray} {nL : Nat} {rt : Option FieldType} {pc pn idx : Nat} {lo : List (Option Value)} {st : List Value} {M : zh_M} {P : Option Value → List zh_LC → zh_M → Prop} {a1 : Int32} {a2 : Int32} {K : Int32 → zh_M → Prop} (hp : pc + 3 = pn) (hd : decode cc pc = .ok (.invokevirtual idx, 3)) (m1 : Cond.methodLink y.cls idx yX5_place ∈ zh_WS) (hsc : ∀ base b, ((st.map (zh_tr base b)).map fun v => v.category).sum ≤ 8) (h : wp_X5_place M a1 a2 K) (kk : ∀ r M1, K r M1 → zh_W X (d + 1) y cc nL rt pn lo (.int r :: st) zh_LL M1 0 0 P) : zh_W X (d + 1) y cc nL rt pc lo (.int a2 :: .int a1 :: .ref 39 :: st) zh_LL M 0 0 P := by
  refine zh_callV (bc := 0) (bs := 0) (bc' := 0) (bs' := 0) (as := [.int a1, .int a2]) (st := st) hp hd rfl (by decide) rfl rfl m1 me_X5_place.1 me_X5_place.2.1 me_X5_place.2.2.1 me_X5_place.2.2.2 ⟨by decide, by decide, by decide⟩ (by show _ = some 2; decide +kernel) (by intro v hv; simp only [List.mem_cons, List.not_mem_nil, or_false] at hv; rcases hv with rfl | rfl <;> (intro _ _; rfl)) hsc (Nat.le_of_ble_eq_true rfl) (by decide) (wk_X5_place  h) (fun r L' M' q => ?_) (fun r L' M' q => ?_)
  · obtain ⟨v, -, rfl, q⟩ := q; rfl
  · obtain ⟨v, rfl, rfl, q⟩ := q; exact kk v M' q
set_option maxRecDepth 100000 in
set_option maxHeartbeats 4000000 in
theorem wk_X5_cell {X : Nat × (Nat → Int32)} {d : Nat} {M : zh_M} {a1 : Int32} {a2 : Int32} {a3 : Int32} {P : Int32 → zh_M → Prop} (h : wp_X5_cell M a1 a2 a3 P) : zh_W X (d + 2) yX5_cell cX5_cell 4 (some .boolean) 0 (zh_en [.ref 39, .int a1, .int a2, .int a3] 4) [] zh_LL M 0 0 (zh_pi P) := by
  unfold wp_X5_cell at h
  show zh_W X (d + 2) yX5_cell cX5_cell 4 (some .boolean) 0 [some (.ref 39), some (.int a1), some (.int a2), some (.int a3)] [] zh_LL M 0 0 (zh_pi P)
  refine zh_aload_n (pn := 1) rfl dX5_cell_0 (i := 0) (v := .ref 39) rfl rfl (Or.inr ⟨_, rfl⟩) ?_
  refine zh_iload_n (pn := 2) rfl dX5_cell_1 (i := 1) (x := a1) rfl rfl ?_
  refine ca_X5_ready (pn := 5) rfl dX5_cell_2 mc_X5_89 (fun _ _ => Nat.le_of_ble_eq_true rfl) h (fun r2 M1 h => ?_)
  refine zh_if_eq (pn := 8) rfl dX5_cell_5 (tgt := 30) rfl (fun cc1 => ?_) (fun cc1 => ?_)
  · replace h := h.1 cc1
    refine zh_iconst (pn := 31) rfl dX5_cell_30 (v := (zI 0)) rfl ?_
    exact zh_iret dX5_cell_31 rfl rfl ⟨_, rfl, rfl, h⟩
  · replace h := h.2 cc1
    refine zh_iload_n (pn := 9) rfl dX5_cell_8 (i := 3) (x := a3) rfl rfl ?_
    refine zh_if_eq (pn := 12) rfl dX5_cell_9 (tgt := 17) rfl (fun cc1 => ?_) (fun cc1 => ?_)
    · replace h := h.1 cc1
      refine zh_aload_n (pn := 18) rfl dX5_cell_17 (i := 0) (v := .ref 39) rfl rfl (Or.inr ⟨_, rfl⟩) ?_
      refine zh_iload_n (pn := 19) rfl dX5_cell_18 (i := 1) (x := a1) rfl rfl ?_
      refine zh_iload_n (pn := 20) rfl dX5_cell_19 (i := 2) (x := a2) rfl rfl ?_
      refine ca_X5_place (pn := 23) rfl dX5_cell_20 mc_X5_92 (fun _ _ => Nat.le_of_ble_eq_true rfl) h (fun r4 M3 h => ?_)
      refine zh_if_lt (pn := 26) rfl dX5_cell_23 (tgt := 30) rfl (fun cc1 => ?_) (fun cc1 => ?_)
      · replace h := h.1 cc1
        refine zh_iconst (pn := 31) rfl dX5_cell_30 (v := (zI 0)) rfl ?_
        exact zh_iret dX5_cell_31 rfl rfl ⟨_, rfl, rfl, h⟩
      · replace h := h.2 cc1
        refine zh_iconst (pn := 27) rfl dX5_cell_26 (v := (zI 1)) rfl ?_
        refine zh_goto dX5_cell_27 (tgt := 31) rfl ?_
        exact zh_iret dX5_cell_31 rfl rfl ⟨_, rfl, rfl, h⟩
    · replace h := h.2 cc1
      refine zh_iload_n (pn := 13) rfl dX5_cell_12 (i := 2) (x := a2) rfl rfl ?_
      refine zh_iconst (pn := 14) rfl dX5_cell_13 (v := (zI (-1))) rfl ?_
      refine zh_icmp_eq (pn := 17) rfl dX5_cell_14 (tgt := 26) rfl (fun cc1 => ?_) (fun cc1 => ?_)
      · replace h := h.1 cc1
        refine zh_iconst (pn := 27) rfl dX5_cell_26 (v := (zI 1)) rfl ?_
        refine zh_goto dX5_cell_27 (tgt := 31) rfl ?_
        exact zh_iret dX5_cell_31 rfl rfl ⟨_, rfl, rfl, h⟩
      · replace h := h.2 cc1
        refine zh_aload_n (pn := 18) rfl dX5_cell_17 (i := 0) (v := .ref 39) rfl rfl (Or.inr ⟨_, rfl⟩) ?_
        refine zh_iload_n (pn := 19) rfl dX5_cell_18 (i := 1) (x := a1) rfl rfl ?_
        refine zh_iload_n (pn := 20) rfl dX5_cell_19 (i := 2) (x := a2) rfl rfl ?_
        refine ca_X5_place (pn := 23) rfl dX5_cell_20 mc_X5_92 (fun _ _ => Nat.le_of_ble_eq_true rfl) h (fun r6 M5 h => ?_)
        refine zh_if_lt (pn := 26) rfl dX5_cell_23 (tgt := 30) rfl (fun cc1 => ?_) (fun cc1 => ?_)
        · replace h := h.1 cc1
          refine zh_iconst (pn := 31) rfl dX5_cell_30 (v := (zI 0)) rfl ?_
          exact zh_iret dX5_cell_31 rfl rfl ⟨_, rfl, rfl, h⟩
        · replace h := h.2 cc1
          refine zh_iconst (pn := 27) rfl dX5_cell_26 (v := (zI 1)) rfl ?_
          refine zh_goto dX5_cell_27 (tgt := 31) rfl ?_
          exact zh_iret dX5_cell_31 rfl rfl ⟨_, rfl, rfl, h⟩
set_option maxRecDepth 100000 in
theorem ca_X5_cell {X : Nat × (Nat → Int32)} {d : Nat} {y : MethodName} {cc : ByteArray} {nL : Nat} {rt : Option FieldType} {pc pn idx : Nat} {lo : List (Option Value)} {st : List Value} {M : zh_M} {P : Option Value → List zh_LC → zh_M → Prop} {a1 : Int32} {a2 : Int32} {a3 : Int32} {K : Int32 → zh_M → Prop} (hp : pc + 3 = pn) (hd : decode cc pc = .ok (.invokevirtual idx, 3)) (m1 : Cond.methodLink y.cls idx yX5_cell ∈ zh_WS) (hsc : ∀ base b, ((st.map (zh_tr base b)).map fun v => v.category).sum ≤ 8) (h : wp_X5_cell M a1 a2 a3 K) (kk : ∀ r M1, K r M1 → zh_W X (d + 3) y cc nL rt pn lo (.int r :: st) zh_LL M1 0 0 P) : zh_W X (d + 3) y cc nL rt pc lo (.int a3 :: .int a2 :: .int a1 :: .ref 39 :: st) zh_LL M 0 0 P := by
  refine zh_callV (bc := 0) (bs := 0) (bc' := 0) (bs' := 0) (as := [.int a1, .int a2, .int a3]) (st := st) hp hd rfl (by decide) rfl rfl m1 me_X5_cell.1 me_X5_cell.2.1 me_X5_cell.2.2.1 me_X5_cell.2.2.2 ⟨by decide, by decide, by decide⟩ (by show _ = some 3; decide +kernel) (by intro v hv; simp only [List.mem_cons, List.not_mem_nil, or_false] at hv; rcases hv with rfl | rfl | rfl <;> (intro _ _; rfl)) hsc (Nat.le_of_ble_eq_true rfl) (by decide) (wk_X5_cell  h) (fun r L' M' q => ?_) (fun r L' M' q => ?_)
  · obtain ⟨v, -, rfl, q⟩ := q; rfl
  · obtain ⟨v, rfl, rfl, q⟩ := q; exact kk v M' q
set_option maxRecDepth 100000 in
set_option maxHeartbeats 4000000 in
theorem wk_X5_value {X : Nat × (Nat → Int32)} {d : Nat} {M : zh_M} {a1 : Int32} {a2 : Int32} {P : Int32 → zh_M → Prop} (h : wp_X5_value M a1 a2 P) : zh_W X (d + 1) yX5_value cX5_value 4 (some .int) 0 (zh_en [.ref 39, .int a1, .int a2] 4) [] zh_LL M 0 0 (zh_pi P) := by
  unfold wp_X5_value at h
  show zh_W X (d + 1) yX5_value cX5_value 4 (some .int) 0 [some (.ref 39), some (.int a1), some (.int a2), none] [] zh_LL M 0 0 (zh_pi P)
  refine zh_iload_n (pn := 1) rfl dX5_value_0 (i := 2) (x := a2) rfl rfl ?_
  refine zh_iconst (pn := 2) rfl dX5_value_1 (v := (zI (-1))) rfl ?_
  refine zh_icmp_ne (pn := 5) rfl dX5_value_2 (tgt := 9) rfl (fun cc1 => ?_) (fun cc1 => ?_)
  · replace h := h.1 cc1
    refine zh_aload_n (pn := 10) rfl dX5_value_9 (i := 0) (v := .ref 39) rfl rfl (Or.inr ⟨_, rfl⟩) ?_
    refine zh_iload_n (pn := 11) rfl dX5_value_10 (i := 1) (x := a1) rfl rfl ?_
    refine zh_iload_n (pn := 12) rfl dX5_value_11 (i := 2) (x := a2) rfl rfl ?_
    refine ca_X5_place (pn := 15) rfl dX5_value_12 mc_X5_92 (fun _ _ => Nat.le_of_ble_eq_true rfl) h (fun r2 M1 h => ?_)
    refine zh_istore_n (pn := 16) rfl dX5_value_15 (i := 3) (lo' := [some (.ref 39), some (.int a1), some (.int a2), some (.int r2)]) rfl (by decide) rfl ?_
    refine zh_iload_n (pn := 17) rfl dX5_value_16 (i := 3) (x := r2) rfl rfl ?_
    refine zh_if_ge (pn := 20) rfl dX5_value_17 (tgt := 24) rfl (fun cc1 => ?_) (fun cc1 => ?_)
    · replace h := h.1 cc1
      refine zh_aload_n (pn := 25) rfl dX5_value_24 (i := 0) (v := .ref 39) rfl rfl (Or.inr ⟨_, rfl⟩) ?_
      refine zh_get (pn := 28) rfl dX5_value_25 (v := .ref 52) (k := 12) rfl rfl (by decide) (by decide) in_X5 mf_X5_47 rfl ?_
      refine zh_iload_n (pn := 29) rfl dX5_value_28 (i := 3) (x := r2) rfl rfl ?_
      refine zh_iald (pn := 30) rfl dX5_value_29 rfl h.1 ?_
      replace h := h.2
      exact zh_iret dX5_value_30 rfl rfl ⟨_, rfl, rfl, h⟩
    · replace h := h.2 cc1
      refine zh_iconst (pn := 21) rfl dX5_value_20 (v := (zI (-1))) rfl ?_
      refine zh_goto dX5_value_21 (tgt := 30) rfl ?_
      exact zh_iret dX5_value_30 rfl rfl ⟨_, rfl, rfl, h⟩
  · replace h := h.2 cc1
    refine zh_iconst (pn := 6) rfl dX5_value_5 (v := (zI (-1))) rfl ?_
    refine zh_goto dX5_value_6 (tgt := 15) rfl ?_
    refine zh_istore_n (pn := 16) rfl dX5_value_15 (i := 3) (lo' := [some (.ref 39), some (.int a1), some (.int a2), some (.int (zI (-1)))]) rfl (by decide) rfl ?_
    refine zh_iload_n (pn := 17) rfl dX5_value_16 (i := 3) (x := (zI (-1))) rfl rfl ?_
    refine zh_if_ge (pn := 20) rfl dX5_value_17 (tgt := 24) rfl (fun cc1 => absurd cc1 (by decide)) (fun _ => ?_)
    refine zh_iconst (pn := 21) rfl dX5_value_20 (v := (zI (-1))) rfl ?_
    refine zh_goto dX5_value_21 (tgt := 30) rfl ?_
    exact zh_iret dX5_value_30 rfl rfl ⟨_, rfl, rfl, h⟩
set_option maxRecDepth 100000 in
theorem ca_X5_value {X : Nat × (Nat → Int32)} {d : Nat} {y : MethodName} {cc : ByteArray} {nL : Nat} {rt : Option FieldType} {pc pn idx : Nat} {lo : List (Option Value)} {st : List Value} {M : zh_M} {P : Option Value → List zh_LC → zh_M → Prop} {a1 : Int32} {a2 : Int32} {K : Int32 → zh_M → Prop} (hp : pc + 3 = pn) (hd : decode cc pc = .ok (.invokevirtual idx, 3)) (m1 : Cond.methodLink y.cls idx yX5_value ∈ zh_WS) (hsc : ∀ base b, ((st.map (zh_tr base b)).map fun v => v.category).sum ≤ 8) (h : wp_X5_value M a1 a2 K) (kk : ∀ r M1, K r M1 → zh_W X (d + 2) y cc nL rt pn lo (.int r :: st) zh_LL M1 0 0 P) : zh_W X (d + 2) y cc nL rt pc lo (.int a2 :: .int a1 :: .ref 39 :: st) zh_LL M 0 0 P := by
  refine zh_callV (bc := 0) (bs := 0) (bc' := 0) (bs' := 0) (as := [.int a1, .int a2]) (st := st) hp hd rfl (by decide) rfl rfl m1 me_X5_value.1 me_X5_value.2.1 me_X5_value.2.2.1 me_X5_value.2.2.2 ⟨by decide, by decide, by decide⟩ (by show _ = some 2; decide +kernel) (by intro v hv; simp only [List.mem_cons, List.not_mem_nil, or_false] at hv; rcases hv with rfl | rfl <;> (intro _ _; rfl)) hsc (Nat.le_of_ble_eq_true rfl) (by decide) (wk_X5_value  h) (fun r L' M' q => ?_) (fun r L' M' q => ?_)
  · obtain ⟨v, -, rfl, q⟩ := q; rfl
  · obtain ⟨v, rfl, rfl, q⟩ := q; exact kk v M' q
set_option maxRecDepth 100000 in
set_option maxHeartbeats 4000000 in
theorem wk_X5_object {X : Nat × (Nat → Int32)} {d : Nat} {M : zh_M} {a1 : Int32} {a2 : Int32} {P : Int32 → zh_M → Prop} (h : wp_X5_object M a1 a2 P) : zh_W X (d + 3) yX5_object cX5_object 3 (some .int) 0 (zh_en [.ref 39, .int a1, .int a2] 3) [] zh_LL M 0 0 (zh_pi P) := by
  unfold wp_X5_object at h
  show zh_W X (d + 3) yX5_object cX5_object 3 (some .int) 0 [some (.ref 39), some (.int a1), some (.int a2)] [] zh_LL M 0 0 (zh_pi P)
  refine zh_aload_n (pn := 1) rfl dX5_object_0 (i := 0) (v := .ref 39) rfl rfl (Or.inr ⟨_, rfl⟩) ?_
  refine zh_iload_n (pn := 2) rfl dX5_object_1 (i := 1) (x := a1) rfl rfl ?_
  refine zh_iload_n (pn := 3) rfl dX5_object_2 (i := 2) (x := a2) rfl rfl ?_
  refine zh_iconst (pn := 4) rfl dX5_object_3 (v := (zI 0)) rfl ?_
  refine ca_X5_cell (pn := 7) rfl dX5_object_4 mc_X5_96 (fun _ _ => Nat.le_of_ble_eq_true rfl) h (fun r2 M1 h => ?_)
  refine zh_if_eq (pn := 10) rfl dX5_object_7 (tgt := 19) rfl (fun cc1 => ?_) (fun cc1 => ?_)
  · replace h := h.1 cc1
    refine zh_iconst (pn := 20) rfl dX5_object_19 (v := (zI (-1))) rfl ?_
    exact zh_iret dX5_object_20 rfl rfl ⟨_, rfl, rfl, h⟩
  · replace h := h.2 cc1
    refine zh_aload_n (pn := 11) rfl dX5_object_10 (i := 0) (v := .ref 39) rfl rfl (Or.inr ⟨_, rfl⟩) ?_
    refine zh_iload_n (pn := 12) rfl dX5_object_11 (i := 1) (x := a1) rfl rfl ?_
    refine zh_iload_n (pn := 13) rfl dX5_object_12 (i := 2) (x := a2) rfl rfl ?_
    refine ca_X5_value (pn := 16) rfl dX5_object_13 mc_X5_100 (fun _ _ => Nat.le_of_ble_eq_true rfl) h (fun r4 M3 h => ?_)
    refine zh_goto dX5_object_16 (tgt := 20) rfl ?_
    exact zh_iret dX5_object_20 rfl rfl ⟨_, rfl, rfl, h⟩
set_option maxRecDepth 100000 in
theorem ca_X5_object {X : Nat × (Nat → Int32)} {d : Nat} {y : MethodName} {cc : ByteArray} {nL : Nat} {rt : Option FieldType} {pc pn idx : Nat} {lo : List (Option Value)} {st : List Value} {M : zh_M} {P : Option Value → List zh_LC → zh_M → Prop} {a1 : Int32} {a2 : Int32} {K : Int32 → zh_M → Prop} (hp : pc + 3 = pn) (hd : decode cc pc = .ok (.invokevirtual idx, 3)) (m1 : Cond.methodLink y.cls idx yX5_object ∈ zh_WS) (hsc : ∀ base b, ((st.map (zh_tr base b)).map fun v => v.category).sum ≤ 8) (h : wp_X5_object M a1 a2 K) (kk : ∀ r M1, K r M1 → zh_W X (d + 4) y cc nL rt pn lo (.int r :: st) zh_LL M1 0 0 P) : zh_W X (d + 4) y cc nL rt pc lo (.int a2 :: .int a1 :: .ref 39 :: st) zh_LL M 0 0 P := by
  refine zh_callV (bc := 0) (bs := 0) (bc' := 0) (bs' := 0) (as := [.int a1, .int a2]) (st := st) hp hd rfl (by decide) rfl rfl m1 me_X5_object.1 me_X5_object.2.1 me_X5_object.2.2.1 me_X5_object.2.2.2 ⟨by decide, by decide, by decide⟩ (by show _ = some 2; decide +kernel) (by intro v hv; simp only [List.mem_cons, List.not_mem_nil, or_false] at hv; rcases hv with rfl | rfl <;> (intro _ _; rfl)) hsc (Nat.le_of_ble_eq_true rfl) (by decide) (wk_X5_object  h) (fun r L' M' q => ?_) (fun r L' M' q => ?_)
  · obtain ⟨v, -, rfl, q⟩ := q; rfl
  · obtain ⟨v, rfl, rfl, q⟩ := q; exact kk v M' q
set_option maxRecDepth 100000 in
set_option maxHeartbeats 4000000 in
theorem wk_X5_note {X : Nat × (Nat → Int32)} {d : Nat} {M : zh_M} {a1 : Int32} {P : zh_M → Prop} (h : wp_X5_note M a1 P) : zh_W X (d + 0) yX5_note cX5_note 2 none 0 (zh_en [.ref 39, .int a1] 2) [] zh_LL M 0 0 (zh_pv P) := by
  unfold wp_X5_note at h
  show zh_W X (d + 0) yX5_note cX5_note 2 none 0 [some (.ref 39), some (.int a1)] [] zh_LL M 0 0 (zh_pv P)
  refine zh_aload_n (pn := 1) rfl dX5_note_0 (i := 0) (v := .ref 39) rfl rfl (Or.inr ⟨_, rfl⟩) ?_
  refine zh_get (pn := 4) rfl dX5_note_1 (v := .int (M 39 23)) (k := 23) rfl rfl (by decide) (by decide) in_X5 mf_X5_103 rfl ?_
  refine zh_if_eq (pn := 7) rfl dX5_note_4 (tgt := 19) rfl (fun cc1 => ?_) (fun cc1 => ?_)
  · replace h := h.1 cc1
    exact zh_vret dX5_note_19 rfl ⟨rfl, rfl, h⟩
  · replace h := h.2 cc1
    refine zh_iload_n (pn := 8) rfl dX5_note_7 (i := 1) (x := a1) rfl rfl ?_
    refine zh_iconst (pn := 9) rfl dX5_note_8 (v := (zI (-1))) rfl ?_
    refine zh_icmp_eq (pn := 12) rfl dX5_note_9 (tgt := 19) rfl (fun cc1 => ?_) (fun cc1 => ?_)
    · replace h := h.1 cc1
      exact zh_vret dX5_note_19 rfl ⟨rfl, rfl, h⟩
    · replace h := h.2 cc1
      refine zh_aload_n (pn := 13) rfl dX5_note_12 (i := 0) (v := .ref 39) rfl rfl (Or.inr ⟨_, rfl⟩) ?_
      refine zh_get (pn := 16) rfl dX5_note_13 (v := .ref 44) (k := 4) rfl rfl (by decide) (by decide) in_X5 mf_X5_23 rfl ?_
      refine zh_iload_n (pn := 17) rfl dX5_note_16 (i := 1) (x := a1) rfl rfl ?_
      refine zh_iconst (pn := 18) rfl dX5_note_17 (v := (zI 1)) rfl ?_
      refine zh_zast (pn := 19) rfl dX5_note_18 (x' := (zI 1)) rfl h.1 rfl ?_
      obtain ⟨M1, eM1⟩ : ∃ q : zh_M, q = zh_set M 44 a1.toNatClampNeg (zI 1) := ⟨_, rfl⟩
      replace h := h.2 M1 eM1
      rw [← eM1]
      exact zh_vret dX5_note_19 rfl ⟨rfl, rfl, h⟩
set_option maxRecDepth 100000 in
theorem ca_X5_note {X : Nat × (Nat → Int32)} {d : Nat} {y : MethodName} {cc : ByteArray} {nL : Nat} {rt : Option FieldType} {pc pn idx : Nat} {lo : List (Option Value)} {st : List Value} {M : zh_M} {P : Option Value → List zh_LC → zh_M → Prop} {a1 : Int32} {K : zh_M → Prop} (hp : pc + 3 = pn) (hd : decode cc pc = .ok (.invokevirtual idx, 3)) (m1 : Cond.methodLink y.cls idx yX5_note ∈ zh_WS) (hsc : ∀ base b, ((st.map (zh_tr base b)).map fun v => v.category).sum ≤ 8) (h : wp_X5_note M a1 K) (kk : ∀ M1, K M1 → zh_W X (d + 1) y cc nL rt pn lo st zh_LL M1 0 0 P) : zh_W X (d + 1) y cc nL rt pc lo (.int a1 :: .ref 39 :: st) zh_LL M 0 0 P := by
  refine zh_callV (bc := 0) (bs := 0) (bc' := 0) (bs' := 0) (as := [.int a1]) (st := st) hp hd rfl (by decide) rfl rfl m1 me_X5_note.1 me_X5_note.2.1 me_X5_note.2.2.1 me_X5_note.2.2.2 ⟨by decide, by decide, by decide⟩ (by show _ = some 1; decide +kernel) (by intro v hv; simp only [List.mem_cons, List.not_mem_nil, or_false] at hv; rcases hv with rfl <;> (intro _ _; rfl)) hsc (Nat.le_of_ble_eq_true rfl) (by decide) (wk_X5_note  h) (fun r L' M' q => ?_) (fun r L' M' q => ?_)
  · obtain ⟨-, rfl, q⟩ := q; rfl
  · obtain ⟨rfl, rfl, q⟩ := q; exact kk M' q
set_option maxRecDepth 100000 in
set_option maxHeartbeats 4000000 in
theorem wkl_X5_spawn_2 {X : Nat × (Nat → Int32)} {d : Nat} {P : Int32 → zh_M → Prop} {l1 : Int32} {l2 : Int32} {K23 : Int32 → zh_M → Prop} (hK23 : ∀ (l3 : Int32) (M : zh_M) (w4 : Option Value), K23 l3 M → zh_W X (d + 3) yX5_spawn cX5_spawn 5 (some .int) 23 [some (.ref 39), some (.int l1), some (.int l2), some (.int l3), w4] [] zh_LL M 0 0 (zh_pi P)) : ∀ (n : Nat) (l3 : Int32) (M : zh_M) (w4 : Option Value), wl_X5_spawn_2 l1 l2 K23 P n l3 M → zh_W X (d + 3) yX5_spawn cX5_spawn 5 (some .int) 2 [some (.ref 39), some (.int l1), some (.int l2), some (.int l3), w4] [] zh_LL M 0 0 (zh_pi P) := by
  intro n
  induction n with
  | zero => intro l3 M w4 h; exact h.elim
  | succ n ih =>
    intro l3 M w4 h
    unfold wl_X5_spawn_2 at h
    refine zh_iload_n (pn := 3) rfl dX5_spawn_2 (i := 3) (x := l3) rfl rfl ?_
    refine zh_bipush (pn := 5) rfl dX5_spawn_3 (v := (zI 6)) rfl ?_
    refine zh_icmp_ge (pn := 8) rfl dX5_spawn_5 (tgt := 23) rfl (fun cc1 => ?_) (fun cc1 => ?_)
    · replace h := h.1 cc1
      exact hK23 _ _ _ h
    · replace h := h.2 cc1
      refine zh_aload_n (pn := 9) rfl dX5_spawn_8 (i := 0) (v := .ref 39) rfl rfl (Or.inr ⟨_, rfl⟩) ?_
      refine zh_get (pn := 12) rfl dX5_spawn_9 (v := .ref 49) (k := 9) rfl rfl (by decide) (by decide) in_X5 mf_X5_38 rfl ?_
      refine zh_iload_n (pn := 13) rfl dX5_spawn_12 (i := 3) (x := l3) rfl rfl ?_
      refine zh_iald (pn := 14) rfl dX5_spawn_13 rfl h.1 ?_
      replace h := h.2
      refine zh_if_le (pn := 17) rfl dX5_spawn_14 (tgt := 23) rfl (fun cc1 => ?_) (fun cc1 => ?_)
      · replace h := h.1 cc1
        exact hK23 _ _ _ h
      · replace h := h.2 cc1
        refine zh_iinc (pn := 20) rfl dX5_spawn_17 (i := 3) (x := l3) (v := l3 + (zI 1)) (lo' := [some (.ref 39), some (.int l1), some (.int l2), some (.int (l3 + (zI 1))), w4]) rfl rfl (by decide) rfl ?_
        refine zh_goto dX5_spawn_20 (tgt := 2) rfl ?_
        exact ih _ _ _ h
set_option maxRecDepth 100000 in
set_option maxHeartbeats 4000000 in
theorem wk_X5_spawn {X : Nat × (Nat → Int32)} {d : Nat} {M : zh_M} {a1 : Int32} {a2 : Int32} {P : Int32 → zh_M → Prop} (h : wp_X5_spawn M a1 a2 P) : zh_W X (d + 3) yX5_spawn cX5_spawn 5 (some .int) 0 (zh_en [.ref 39, .int a1, .int a2] 5) [] zh_LL M 0 0 (zh_pi P) := by
  unfold wp_X5_spawn at h
  show zh_W X (d + 3) yX5_spawn cX5_spawn 5 (some .int) 0 [some (.ref 39), some (.int a1), some (.int a2), none, none] [] zh_LL M 0 0 (zh_pi P)
  refine zh_iconst (pn := 1) rfl dX5_spawn_0 (v := (zI 0)) rfl ?_
  refine zh_istore_n (pn := 2) rfl dX5_spawn_1 (i := 3) (lo' := [some (.ref 39), some (.int a1), some (.int a2), some (.int (zI 0)), none]) rfl (by decide) rfl ?_
  obtain ⟨n9, h⟩ := h
  refine wkl_X5_spawn_2 (fun v3_1 M2 w4_3 h => ?_) n9 _ _ _ h
  refine zh_iload_n (pn := 24) rfl dX5_spawn_23 (i := 3) (x := v3_1) rfl rfl ?_
  refine zh_bipush (pn := 26) rfl dX5_spawn_24 (v := (zI 6)) rfl ?_
  refine zh_icmp_eq (pn := 29) rfl dX5_spawn_26 (tgt := 39) rfl (fun cc1 => ?_) (fun cc1 => ?_)
  · replace h := h.1 cc1
    refine zh_iconst (pn := 40) rfl dX5_spawn_39 (v := (zI (-1))) rfl ?_
    exact zh_iret dX5_spawn_40 rfl rfl ⟨_, rfl, rfl, h⟩
  · replace h := h.2 cc1
    refine zh_aload_n (pn := 30) rfl dX5_spawn_29 (i := 0) (v := .ref 39) rfl rfl (Or.inr ⟨_, rfl⟩) ?_
    refine zh_iload_n (pn := 31) rfl dX5_spawn_30 (i := 1) (x := a1) rfl rfl ?_
    refine zh_iload_n (pn := 32) rfl dX5_spawn_31 (i := 2) (x := a2) rfl rfl ?_
    refine zh_iconst (pn := 33) rfl dX5_spawn_32 (v := (zI 1)) rfl ?_
    refine ca_X5_cell (pn := 36) rfl dX5_spawn_33 mc_X5_96 (fun _ _ => Nat.le_of_ble_eq_true rfl) h (fun r5 M4 h => ?_)
    refine zh_if_ne (pn := 39) rfl dX5_spawn_36 (tgt := 41) rfl (fun cc1 => ?_) (fun cc1 => ?_)
    · replace h := h.1 cc1
      refine zh_aload_n (pn := 42) rfl dX5_spawn_41 (i := 0) (v := .ref 39) rfl rfl (Or.inr ⟨_, rfl⟩) ?_
      refine zh_iload_n (pn := 43) rfl dX5_spawn_42 (i := 1) (x := a1) rfl rfl ?_
      refine zh_iload_n (pn := 44) rfl dX5_spawn_43 (i := 2) (x := a2) rfl rfl ?_
      refine ca_X5_value (pn := 47) rfl dX5_spawn_44 mc_X5_100 (fun _ _ => Nat.le_of_ble_eq_true rfl) h (fun r7 M6 h => ?_)
      refine zh_istore (pn := 49) rfl dX5_spawn_47 (i := 4) (lo' := [some (.ref 39), some (.int a1), some (.int a2), some (.int v3_1), some (.int r7)]) (by decide) rfl ?_
      refine zh_aload_n (pn := 50) rfl dX5_spawn_49 (i := 0) (v := .ref 39) rfl rfl (Or.inr ⟨_, rfl⟩) ?_
      refine zh_iload_n (pn := 51) rfl dX5_spawn_50 (i := 3) (x := v3_1) rfl rfl ?_
      refine zh_iload (pn := 53) rfl dX5_spawn_51 (i := 4) (x := r7) rfl ?_
      refine ca_X5_begin (pn := 56) rfl dX5_spawn_53 mc_X5_81 (fun _ _ => Nat.le_of_ble_eq_true rfl) h (fun M8 h => ?_)
      refine zh_iload_n (pn := 57) rfl dX5_spawn_56 (i := 3) (x := v3_1) rfl rfl ?_
      exact zh_iret dX5_spawn_57 rfl rfl ⟨_, rfl, rfl, h⟩
    · replace h := h.2 cc1
      refine zh_iconst (pn := 40) rfl dX5_spawn_39 (v := (zI (-1))) rfl ?_
      exact zh_iret dX5_spawn_40 rfl rfl ⟨_, rfl, rfl, h⟩
set_option maxRecDepth 100000 in
theorem ca_X5_spawn {X : Nat × (Nat → Int32)} {d : Nat} {y : MethodName} {cc : ByteArray} {nL : Nat} {rt : Option FieldType} {pc pn idx : Nat} {lo : List (Option Value)} {st : List Value} {M : zh_M} {P : Option Value → List zh_LC → zh_M → Prop} {a1 : Int32} {a2 : Int32} {K : Int32 → zh_M → Prop} (hp : pc + 3 = pn) (hd : decode cc pc = .ok (.invokevirtual idx, 3)) (m1 : Cond.methodLink y.cls idx yX5_spawn ∈ zh_WS) (hsc : ∀ base b, ((st.map (zh_tr base b)).map fun v => v.category).sum ≤ 8) (h : wp_X5_spawn M a1 a2 K) (kk : ∀ r M1, K r M1 → zh_W X (d + 4) y cc nL rt pn lo (.int r :: st) zh_LL M1 0 0 P) : zh_W X (d + 4) y cc nL rt pc lo (.int a2 :: .int a1 :: .ref 39 :: st) zh_LL M 0 0 P := by
  refine zh_callV (bc := 0) (bs := 0) (bc' := 0) (bs' := 0) (as := [.int a1, .int a2]) (st := st) hp hd rfl (by decide) rfl rfl m1 me_X5_spawn.1 me_X5_spawn.2.1 me_X5_spawn.2.2.1 me_X5_spawn.2.2.2 ⟨by decide, by decide, by decide⟩ (by show _ = some 2; decide +kernel) (by intro v hv; simp only [List.mem_cons, List.not_mem_nil, or_false] at hv; rcases hv with rfl | rfl <;> (intro _ _; rfl)) hsc (Nat.le_of_ble_eq_true rfl) (by decide) (wk_X5_spawn  h) (fun r L' M' q => ?_) (fun r L' M' q => ?_)
  · obtain ⟨v, -, rfl, q⟩ := q; rfl
  · obtain ⟨v, rfl, rfl, q⟩ := q; exact kk v M' q
set_option maxRecDepth 100000 in
set_option maxHeartbeats 4000000 in
theorem wkl_X5_end_4 {X : Nat × (Nat → Int32)} {d : Nat} {P : Int32 → zh_M → Prop} {l1 : Int32} {K33 : Int32 → zh_M → Prop} (hK33 : ∀ (l2 : Int32) (M : zh_M) (w3 : Option Value), K33 l2 M → zh_W X (d + 1) yX5_end cX5_end 4 (some .boolean) 33 [some (.ref 39), some (.int l1), some (.int l2), w3] [] zh_LL M 0 0 (zh_pi P)) : ∀ (n : Nat) (l2 : Int32) (l3 : Int32) (M : zh_M) , wl_X5_end_4 l1 K33 P n l2 l3 M → zh_W X (d + 1) yX5_end cX5_end 4 (some .boolean) 4 [some (.ref 39), some (.int l1), some (.int l2), some (.int l3)] [] zh_LL M 0 0 (zh_pi P) := by
  intro n
  induction n with
  | zero => intro l2 l3 M  h; exact h.elim
  | succ n ih =>
    intro l2 l3 M  h
    unfold wl_X5_end_4 at h
    refine zh_iload_n (pn := 5) rfl dX5_end_4 (i := 3) (x := l3) rfl rfl ?_
    refine zh_bipush (pn := 7) rfl dX5_end_5 (v := (zI 6)) rfl ?_
    refine zh_icmp_ge (pn := 10) rfl dX5_end_7 (tgt := 33) rfl (fun cc1 => ?_) (fun cc1 => ?_)
    · replace h := h.1 cc1
      exact hK33 _ _ _ h
    · replace h := h.2 cc1
      refine zh_iload_n (pn := 11) rfl dX5_end_10 (i := 2) (x := l2) rfl rfl ?_
      refine zh_aload_n (pn := 12) rfl dX5_end_11 (i := 0) (v := .ref 39) rfl rfl (Or.inr ⟨_, rfl⟩) ?_
      refine zh_get (pn := 15) rfl dX5_end_12 (v := .ref 49) (k := 9) rfl rfl (by decide) (by decide) in_X5 mf_X5_38 rfl ?_
      refine zh_iload_n (pn := 16) rfl dX5_end_15 (i := 3) (x := l3) rfl rfl ?_
      refine zh_iald (pn := 17) rfl dX5_end_16 rfl h.1 ?_
      replace h := h.2
      refine zh_if_le (pn := 20) rfl dX5_end_17 (tgt := 24) rfl (fun cc1 => ?_) (fun cc1 => ?_)
      · replace h := h.1 cc1
        refine zh_iconst (pn := 25) rfl dX5_end_24 (v := (zI 0)) rfl ?_
        refine zh_iadd (pn := 26) rfl dX5_end_25 ?_
        refine zh_istore_n (pn := 27) rfl dX5_end_26 (i := 2) (lo' := [some (.ref 39), some (.int l1), some (.int (l2 + (zI 0))), some (.int l3)]) rfl (by decide) rfl ?_
        refine zh_iinc (pn := 30) rfl dX5_end_27 (i := 3) (x := l3) (v := l3 + (zI 1)) (lo' := [some (.ref 39), some (.int l1), some (.int (l2 + (zI 0))), some (.int (l3 + (zI 1)))]) rfl rfl (by decide) rfl ?_
        refine zh_goto dX5_end_30 (tgt := 4) rfl ?_
        exact ih _ _ _ h
      · replace h := h.2 cc1
        refine zh_iconst (pn := 21) rfl dX5_end_20 (v := (zI 1)) rfl ?_
        refine zh_goto dX5_end_21 (tgt := 25) rfl ?_
        refine zh_iadd (pn := 26) rfl dX5_end_25 ?_
        refine zh_istore_n (pn := 27) rfl dX5_end_26 (i := 2) (lo' := [some (.ref 39), some (.int l1), some (.int (l2 + (zI 1))), some (.int l3)]) rfl (by decide) rfl ?_
        refine zh_iinc (pn := 30) rfl dX5_end_27 (i := 3) (x := l3) (v := l3 + (zI 1)) (lo' := [some (.ref 39), some (.int l1), some (.int (l2 + (zI 1))), some (.int (l3 + (zI 1)))]) rfl rfl (by decide) rfl ?_
        refine zh_goto dX5_end_30 (tgt := 4) rfl ?_
        exact ih _ _ _ h
set_option maxRecDepth 100000 in
set_option maxHeartbeats 4000000 in
theorem wk_X5_end {X : Nat × (Nat → Int32)} {d : Nat} {M : zh_M} {a1 : Int32} {P : Int32 → zh_M → Prop} (h : wp_X5_end M a1 P) : zh_W X (d + 1) yX5_end cX5_end 4 (some .boolean) 0 (zh_en [.ref 39, .int a1] 4) [] zh_LL M 0 0 (zh_pi P) := by
  unfold wp_X5_end at h
  show zh_W X (d + 1) yX5_end cX5_end 4 (some .boolean) 0 [some (.ref 39), some (.int a1), none, none] [] zh_LL M 0 0 (zh_pi P)
  refine zh_iconst (pn := 1) rfl dX5_end_0 (v := (zI 0)) rfl ?_
  refine zh_istore_n (pn := 2) rfl dX5_end_1 (i := 2) (lo' := [some (.ref 39), some (.int a1), some (.int (zI 0)), none]) rfl (by decide) rfl ?_
  refine zh_iconst (pn := 3) rfl dX5_end_2 (v := (zI 0)) rfl ?_
  refine zh_istore_n (pn := 4) rfl dX5_end_3 (i := 3) (lo' := [some (.ref 39), some (.int a1), some (.int (zI 0)), some (.int (zI 0))]) rfl (by decide) rfl ?_
  obtain ⟨n7, h⟩ := h
  refine wkl_X5_end_4 (fun v2_1 M2 w3_3 h => ?_) n7 _ _ _ h
  refine zh_aload_n (pn := 34) rfl dX5_end_33 (i := 0) (v := .ref 39) rfl rfl (Or.inr ⟨_, rfl⟩) ?_
  refine zh_iload_n (pn := 35) rfl dX5_end_34 (i := 1) (x := a1) rfl rfl ?_
  refine ca_X5_lives (pn := 38) rfl dX5_end_35 mc_X5_85 (fun _ _ => Nat.le_of_ble_eq_true rfl) h (fun r5 M4 h => ?_)
  refine zh_if_eq (pn := 41) rfl dX5_end_38 (tgt := 46) rfl (fun cc1 => ?_) (fun cc1 => ?_)
  · replace h := h.1 cc1
    refine zh_iconst (pn := 47) rfl dX5_end_46 (v := (zI 0)) rfl ?_
    exact zh_iret dX5_end_47 rfl rfl ⟨_, rfl, rfl, h⟩
  · replace h := h.2 cc1
    refine zh_iload_n (pn := 42) rfl dX5_end_41 (i := 2) (x := v2_1) rfl rfl ?_
    refine zh_iconst (pn := 43) rfl dX5_end_42 (v := (zI 1)) rfl ?_
    refine zh_icmp_ne (pn := 46) rfl dX5_end_43 (tgt := 48) rfl (fun cc1 => ?_) (fun cc1 => ?_)
    · replace h := h.1 cc1
      refine zh_aload_n (pn := 49) rfl dX5_end_48 (i := 0) (v := .ref 39) rfl rfl (Or.inr ⟨_, rfl⟩) ?_
      refine zh_get (pn := 52) rfl dX5_end_49 (v := .ref 49) (k := 9) rfl rfl (by decide) (by decide) in_X5 mf_X5_38 rfl ?_
      refine zh_iload_n (pn := 53) rfl dX5_end_52 (i := 1) (x := a1) rfl rfl ?_
      refine zh_iconst (pn := 54) rfl dX5_end_53 (v := (zI 0)) rfl ?_
      refine zh_iast (pn := 55) rfl dX5_end_54 rfl h.1 ?_
      obtain ⟨M6, eM6⟩ : ∃ q : zh_M, q = zh_set M4 49 a1.toNatClampNeg (zI 0) := ⟨_, rfl⟩
      replace h := h.2 M6 eM6
      rw [← eM6]
      refine zh_iconst (pn := 56) rfl dX5_end_55 (v := (zI 1)) rfl ?_
      exact zh_iret dX5_end_56 rfl rfl ⟨_, rfl, rfl, h⟩
    · replace h := h.2 cc1
      refine zh_iconst (pn := 47) rfl dX5_end_46 (v := (zI 0)) rfl ?_
      exact zh_iret dX5_end_47 rfl rfl ⟨_, rfl, rfl, h⟩
set_option maxRecDepth 100000 in
theorem ca_X5_end {X : Nat × (Nat → Int32)} {d : Nat} {y : MethodName} {cc : ByteArray} {nL : Nat} {rt : Option FieldType} {pc pn idx : Nat} {lo : List (Option Value)} {st : List Value} {M : zh_M} {P : Option Value → List zh_LC → zh_M → Prop} {a1 : Int32} {K : Int32 → zh_M → Prop} (hp : pc + 3 = pn) (hd : decode cc pc = .ok (.invokevirtual idx, 3)) (m1 : Cond.methodLink y.cls idx yX5_end ∈ zh_WS) (hsc : ∀ base b, ((st.map (zh_tr base b)).map fun v => v.category).sum ≤ 8) (h : wp_X5_end M a1 K) (kk : ∀ r M1, K r M1 → zh_W X (d + 2) y cc nL rt pn lo (.int r :: st) zh_LL M1 0 0 P) : zh_W X (d + 2) y cc nL rt pc lo (.int a1 :: .ref 39 :: st) zh_LL M 0 0 P := by
  refine zh_callV (bc := 0) (bs := 0) (bc' := 0) (bs' := 0) (as := [.int a1]) (st := st) hp hd rfl (by decide) rfl rfl m1 me_X5_end.1 me_X5_end.2.1 me_X5_end.2.2.1 me_X5_end.2.2.2 ⟨by decide, by decide, by decide⟩ (by show _ = some 1; decide +kernel) (by intro v hv; simp only [List.mem_cons, List.not_mem_nil, or_false] at hv; rcases hv with rfl <;> (intro _ _; rfl)) hsc (Nat.le_of_ble_eq_true rfl) (by decide) (wk_X5_end  h) (fun r L' M' q => ?_) (fun r L' M' q => ?_)
  · obtain ⟨v, -, rfl, q⟩ := q; rfl
  · obtain ⟨v, rfl, rfl, q⟩ := q; exact kk v M' q
set_option maxRecDepth 100000 in
set_option maxHeartbeats 4000000 in
theorem wk_X5_wake {X : Nat × (Nat → Int32)} {d : Nat} {M : zh_M} {a1 : Int32} {P : Int32 → zh_M → Prop} (h : wp_X5_wake M a1 P) : zh_W X (d + 1) yX5_wake cX5_wake 2 (some .boolean) 0 (zh_en [.ref 39, .int a1] 2) [] zh_LL M 0 0 (zh_pi P) := by
  unfold wp_X5_wake at h
  show zh_W X (d + 1) yX5_wake cX5_wake 2 (some .boolean) 0 [some (.ref 39), some (.int a1)] [] zh_LL M 0 0 (zh_pi P)
  refine zh_aload_n (pn := 1) rfl dX5_wake_0 (i := 0) (v := .ref 39) rfl rfl (Or.inr ⟨_, rfl⟩) ?_
  refine zh_iload_n (pn := 2) rfl dX5_wake_1 (i := 1) (x := a1) rfl rfl ?_
  refine ca_X5_lives (pn := 5) rfl dX5_wake_2 mc_X5_85 (fun _ _ => Nat.le_of_ble_eq_true rfl) h (fun r2 M1 h => ?_)
  refine zh_if_eq (pn := 8) rfl dX5_wake_5 (tgt := 18) rfl (fun cc1 => ?_) (fun cc1 => ?_)
  · replace h := h.1 cc1
    refine zh_iconst (pn := 19) rfl dX5_wake_18 (v := (zI 0)) rfl ?_
    exact zh_iret dX5_wake_19 rfl rfl ⟨_, rfl, rfl, h⟩
  · replace h := h.2 cc1
    refine zh_aload_n (pn := 9) rfl dX5_wake_8 (i := 0) (v := .ref 39) rfl rfl (Or.inr ⟨_, rfl⟩) ?_
    refine zh_get (pn := 12) rfl dX5_wake_9 (v := .ref 49) (k := 9) rfl rfl (by decide) (by decide) in_X5 mf_X5_38 rfl ?_
    refine zh_iload_n (pn := 13) rfl dX5_wake_12 (i := 1) (x := a1) rfl rfl ?_
    refine zh_iald (pn := 14) rfl dX5_wake_13 rfl h.1 ?_
    replace h := h.2
    refine zh_iconst (pn := 15) rfl dX5_wake_14 (v := (zI 1)) rfl ?_
    refine zh_icmp_ne (pn := 18) rfl dX5_wake_15 (tgt := 20) rfl (fun cc1 => ?_) (fun cc1 => ?_)
    · replace h := h.1 cc1
      refine zh_aload_n (pn := 21) rfl dX5_wake_20 (i := 0) (v := .ref 39) rfl rfl (Or.inr ⟨_, rfl⟩) ?_
      refine zh_get (pn := 24) rfl dX5_wake_21 (v := .ref 49) (k := 9) rfl rfl (by decide) (by decide) in_X5 mf_X5_38 rfl ?_
      refine zh_iload_n (pn := 25) rfl dX5_wake_24 (i := 1) (x := a1) rfl rfl ?_
      refine zh_iconst (pn := 26) rfl dX5_wake_25 (v := (zI 1)) rfl ?_
      refine zh_iast (pn := 27) rfl dX5_wake_26 rfl h.1 ?_
      obtain ⟨M3, eM3⟩ : ∃ q : zh_M, q = zh_set M1 49 a1.toNatClampNeg (zI 1) := ⟨_, rfl⟩
      replace h := h.2 M3 eM3
      rw [← eM3]
      refine zh_iconst (pn := 28) rfl dX5_wake_27 (v := (zI 1)) rfl ?_
      exact zh_iret dX5_wake_28 rfl rfl ⟨_, rfl, rfl, h⟩
    · replace h := h.2 cc1
      refine zh_iconst (pn := 19) rfl dX5_wake_18 (v := (zI 0)) rfl ?_
      exact zh_iret dX5_wake_19 rfl rfl ⟨_, rfl, rfl, h⟩
set_option maxRecDepth 100000 in
theorem ca_X5_wake {X : Nat × (Nat → Int32)} {d : Nat} {y : MethodName} {cc : ByteArray} {nL : Nat} {rt : Option FieldType} {pc pn idx : Nat} {lo : List (Option Value)} {st : List Value} {M : zh_M} {P : Option Value → List zh_LC → zh_M → Prop} {a1 : Int32} {K : Int32 → zh_M → Prop} (hp : pc + 3 = pn) (hd : decode cc pc = .ok (.invokevirtual idx, 3)) (m1 : Cond.methodLink y.cls idx yX5_wake ∈ zh_WS) (hsc : ∀ base b, ((st.map (zh_tr base b)).map fun v => v.category).sum ≤ 8) (h : wp_X5_wake M a1 K) (kk : ∀ r M1, K r M1 → zh_W X (d + 2) y cc nL rt pn lo (.int r :: st) zh_LL M1 0 0 P) : zh_W X (d + 2) y cc nL rt pc lo (.int a1 :: .ref 39 :: st) zh_LL M 0 0 P := by
  refine zh_callV (bc := 0) (bs := 0) (bc' := 0) (bs' := 0) (as := [.int a1]) (st := st) hp hd rfl (by decide) rfl rfl m1 me_X5_wake.1 me_X5_wake.2.1 me_X5_wake.2.2.1 me_X5_wake.2.2.2 ⟨by decide, by decide, by decide⟩ (by show _ = some 1; decide +kernel) (by intro v hv; simp only [List.mem_cons, List.not_mem_nil, or_false] at hv; rcases hv with rfl <;> (intro _ _; rfl)) hsc (Nat.le_of_ble_eq_true rfl) (by decide) (wk_X5_wake  h) (fun r L' M' q => ?_) (fun r L' M' q => ?_)
  · obtain ⟨v, -, rfl, q⟩ := q; rfl
  · obtain ⟨v, rfl, rfl, q⟩ := q; exact kk v M' q
set_option maxRecDepth 100000 in
set_option maxHeartbeats 4000000 in
theorem wkl_X5_call_77 {X : Nat × (Nat → Int32)} {d : Nat} {P : Int32 → zh_M → Prop} {l1 : Int32} {l2 : Int32} {K110 : zh_M → Prop} (hK110 : ∀ (M : zh_M) (w3 : Option Value), K110 M → zh_W X (d + 2) yX5_call cX5_call 4 (some .boolean) 110 [some (.ref 39), some (.int l1), some (.int l2), w3] [] zh_LL M 0 0 (zh_pi P)) : ∀ (n : Nat) (l3 : Int32) (M : zh_M) , wl_X5_call_77 l1 l2 K110 P n l3 M → zh_W X (d + 2) yX5_call cX5_call 4 (some .boolean) 77 [some (.ref 39), some (.int l1), some (.int l2), some (.int l3)] [] zh_LL M 0 0 (zh_pi P) := by
  intro n
  induction n with
  | zero => intro l3 M  h; exact h.elim
  | succ n ih =>
    intro l3 M  h
    unfold wl_X5_call_77 at h
    refine zh_iload_n (pn := 78) rfl dX5_call_77 (i := 3) (x := l3) rfl rfl ?_
    refine zh_iconst (pn := 79) rfl dX5_call_78 (v := (zI 4)) rfl ?_
    refine zh_icmp_ge (pn := 82) rfl dX5_call_79 (tgt := 110) rfl (fun cc1 => ?_) (fun cc1 => ?_)
    · replace h := h.1 cc1
      exact hK110 _ _ h
    · replace h := h.2 cc1
      refine zh_aload_n (pn := 83) rfl dX5_call_82 (i := 0) (v := .ref 39) rfl rfl (Or.inr ⟨_, rfl⟩) ?_
      refine zh_get (pn := 86) rfl dX5_call_83 (v := .ref 52) (k := 12) rfl rfl (by decide) (by decide) in_X5 mf_X5_47 rfl ?_
      refine zh_iconst (pn := 87) rfl dX5_call_86 (v := (zI 4)) rfl ?_
      refine zh_iload_n (pn := 88) rfl dX5_call_87 (i := 2) (x := l2) rfl rfl ?_
      refine zh_imul (pn := 89) rfl dX5_call_88 ?_
      refine zh_iconst (pn := 90) rfl dX5_call_89 (v := (zI 4)) rfl ?_
      refine zh_iadd (pn := 91) rfl dX5_call_90 ?_
      refine zh_iload_n (pn := 92) rfl dX5_call_91 (i := 3) (x := l3) rfl rfl ?_
      refine zh_iadd (pn := 93) rfl dX5_call_92 ?_
      refine zh_aload_n (pn := 94) rfl dX5_call_93 (i := 0) (v := .ref 39) rfl rfl (Or.inr ⟨_, rfl⟩) ?_
      refine zh_get (pn := 97) rfl dX5_call_94 (v := .ref 52) (k := 12) rfl rfl (by decide) (by decide) in_X5 mf_X5_47 rfl ?_
      refine zh_iconst (pn := 98) rfl dX5_call_97 (v := (zI 4)) rfl ?_
      refine zh_iload_n (pn := 99) rfl dX5_call_98 (i := 2) (x := l2) rfl rfl ?_
      refine zh_imul (pn := 100) rfl dX5_call_99 ?_
      refine zh_iload_n (pn := 101) rfl dX5_call_100 (i := 3) (x := l3) rfl rfl ?_
      refine zh_iadd (pn := 102) rfl dX5_call_101 ?_
      refine zh_iald (pn := 103) rfl dX5_call_102 rfl h.1 ?_
      replace h := h.2
      refine zh_iast (pn := 104) rfl dX5_call_103 rfl h.1 ?_
      obtain ⟨M3, eM3⟩ : ∃ q : zh_M, q = zh_set M 52 ((((zI 4) * l2) + (zI 4)) + l3).toNatClampNeg (M 52 (((zI 4) * l2) + l3).toNatClampNeg) := ⟨_, rfl⟩
      replace h := h.2 M3 eM3
      rw [← eM3]
      refine zh_iinc (pn := 107) rfl dX5_call_104 (i := 3) (x := l3) (v := l3 + (zI 1)) (lo' := [some (.ref 39), some (.int l1), some (.int l2), some (.int (l3 + (zI 1)))]) rfl rfl (by decide) rfl ?_
      refine zh_goto dX5_call_107 (tgt := 77) rfl ?_
      exact ih _ _ h
set_option maxRecDepth 100000 in
set_option maxHeartbeats 4000000 in
theorem wk_X5_call {X : Nat × (Nat → Int32)} {d : Nat} {M : zh_M} {a1 : Int32} {P : Int32 → zh_M → Prop} (h : wp_X5_call M a1 P) : zh_W X (d + 2) yX5_call cX5_call 4 (some .boolean) 0 (zh_en [.ref 39, .int a1] 4) [] zh_LL M 0 0 (zh_pi P) := by
  unfold wp_X5_call at h
  show zh_W X (d + 2) yX5_call cX5_call 4 (some .boolean) 0 [some (.ref 39), some (.int a1), none, none] [] zh_LL M 0 0 (zh_pi P)
  refine zh_aload_n (pn := 1) rfl dX5_call_0 (i := 0) (v := .ref 39) rfl rfl (Or.inr ⟨_, rfl⟩) ?_
  refine zh_iload_n (pn := 2) rfl dX5_call_1 (i := 1) (x := a1) rfl rfl ?_
  refine ca_X5_ready (pn := 5) rfl dX5_call_2 mc_X5_89 (fun _ _ => Nat.le_of_ble_eq_true rfl) h (fun r2 M1 h => ?_)
  refine zh_if_eq (pn := 8) rfl dX5_call_5 (tgt := 19) rfl (fun cc1 => ?_) (fun cc1 => ?_)
  · replace h := h.1 cc1
    refine zh_iconst (pn := 20) rfl dX5_call_19 (v := (zI 0)) rfl ?_
    exact zh_iret dX5_call_20 rfl rfl ⟨_, rfl, rfl, h⟩
  · replace h := h.2 cc1
    refine zh_aload_n (pn := 9) rfl dX5_call_8 (i := 0) (v := .ref 39) rfl rfl (Or.inr ⟨_, rfl⟩) ?_
    refine zh_get (pn := 12) rfl dX5_call_9 (v := .ref 50) (k := 10) rfl rfl (by decide) (by decide) in_X5 mf_X5_41 rfl ?_
    refine zh_iload_n (pn := 13) rfl dX5_call_12 (i := 1) (x := a1) rfl rfl ?_
    refine zh_iald (pn := 14) rfl dX5_call_13 rfl h.1 ?_
    replace h := h.2
    refine zh_bipush (pn := 16) rfl dX5_call_14 (v := (zI 16)) rfl ?_
    refine zh_icmp_ne (pn := 19) rfl dX5_call_16 (tgt := 21) rfl (fun cc1 => ?_) (fun cc1 => ?_)
    · replace h := h.1 cc1
      refine zh_aload_n (pn := 22) rfl dX5_call_21 (i := 0) (v := .ref 39) rfl rfl (Or.inr ⟨_, rfl⟩) ?_
      refine zh_get (pn := 25) rfl dX5_call_22 (v := .ref 50) (k := 10) rfl rfl (by decide) (by decide) in_X5 mf_X5_41 rfl ?_
      refine zh_iload_n (pn := 26) rfl dX5_call_25 (i := 1) (x := a1) rfl rfl ?_
      refine zh_iald (pn := 27) rfl dX5_call_26 rfl h.1 ?_
      replace h := h.2
      refine zh_aload_n (pn := 28) rfl dX5_call_27 (i := 0) (v := .ref 39) rfl rfl (Or.inr ⟨_, rfl⟩) ?_
      refine zh_get (pn := 31) rfl dX5_call_28 (v := .ref 51) (k := 11) rfl rfl (by decide) (by decide) in_X5 mf_X5_44 rfl ?_
      refine zh_iload_n (pn := 32) rfl dX5_call_31 (i := 1) (x := a1) rfl rfl ?_
      refine zh_iald (pn := 33) rfl dX5_call_32 rfl h.1 ?_
      replace h := h.2
      refine zh_icmp_ne (pn := 36) rfl dX5_call_33 (tgt := 61) rfl (fun cc1 => ?_) (fun cc1 => ?_)
      · replace h := h.1 cc1
        refine zh_bipush (pn := 63) rfl dX5_call_61 (v := (zI 16)) rfl ?_
        refine zh_iload_n (pn := 64) rfl dX5_call_63 (i := 1) (x := a1) rfl rfl ?_
        refine zh_imul (pn := 65) rfl dX5_call_64 ?_
        refine zh_aload_n (pn := 66) rfl dX5_call_65 (i := 0) (v := .ref 39) rfl rfl (Or.inr ⟨_, rfl⟩) ?_
        refine zh_get (pn := 69) rfl dX5_call_66 (v := .ref 50) (k := 10) rfl rfl (by decide) (by decide) in_X5 mf_X5_41 rfl ?_
        refine zh_iload_n (pn := 70) rfl dX5_call_69 (i := 1) (x := a1) rfl rfl ?_
        refine zh_iald (pn := 71) rfl dX5_call_70 rfl h.1 ?_
        replace h := h.2
        refine zh_iadd (pn := 72) rfl dX5_call_71 ?_
        refine zh_iconst (pn := 73) rfl dX5_call_72 (v := (zI 1)) rfl ?_
        refine zh_isub (pn := 74) rfl dX5_call_73 ?_
        refine zh_istore_n (pn := 75) rfl dX5_call_74 (i := 2) (lo' := [some (.ref 39), some (.int a1), some (.int ((((zI 16) * a1) + (M1 50 a1.toNatClampNeg)) - (zI 1))), none]) rfl (by decide) rfl ?_
        refine zh_iconst (pn := 76) rfl dX5_call_75 (v := (zI 0)) rfl ?_
        refine zh_istore_n (pn := 77) rfl dX5_call_76 (i := 3) (lo' := [some (.ref 39), some (.int a1), some (.int ((((zI 16) * a1) + (M1 50 a1.toNatClampNeg)) - (zI 1))), some (.int (zI 0))]) rfl (by decide) rfl ?_
        obtain ⟨n8, h⟩ := h
        refine wkl_X5_call_77 (fun M4 w3_5 h => ?_) n8 _ _ h
        refine zh_aload_n (pn := 111) rfl dX5_call_110 (i := 0) (v := .ref 39) rfl rfl (Or.inr ⟨_, rfl⟩) ?_
        refine zh_get (pn := 114) rfl dX5_call_111 (v := .ref 53) (k := 13) rfl rfl (by decide) (by decide) in_X5 mf_X5_50 rfl ?_
        refine zh_iload_n (pn := 115) rfl dX5_call_114 (i := 2) (x := (((zI 16) * a1) + (M1 50 a1.toNatClampNeg)) - (zI 1)) rfl rfl ?_
        refine zh_iconst (pn := 116) rfl dX5_call_115 (v := (zI 1)) rfl ?_
        refine zh_iadd (pn := 117) rfl dX5_call_116 ?_
        refine zh_aload_n (pn := 118) rfl dX5_call_117 (i := 0) (v := .ref 39) rfl rfl (Or.inr ⟨_, rfl⟩) ?_
        refine zh_get (pn := 121) rfl dX5_call_118 (v := .ref 53) (k := 13) rfl rfl (by decide) (by decide) in_X5 mf_X5_50 rfl ?_
        refine zh_iload_n (pn := 122) rfl dX5_call_121 (i := 2) (x := (((zI 16) * a1) + (M1 50 a1.toNatClampNeg)) - (zI 1)) rfl rfl ?_
        refine zh_iald (pn := 123) rfl dX5_call_122 rfl h.1 ?_
        replace h := h.2
        refine zh_iast (pn := 124) rfl dX5_call_123 rfl h.1 ?_
        obtain ⟨M6, eM6⟩ : ∃ q : zh_M, q = zh_set M4 53 (((((zI 16) * a1) + (M1 50 a1.toNatClampNeg)) - (zI 1)) + (zI 1)).toNatClampNeg (M4 53 ((((zI 16) * a1) + (M1 50 a1.toNatClampNeg)) - (zI 1)).toNatClampNeg) := ⟨_, rfl⟩
        replace h := h.2 M6 eM6
        rw [← eM6]
        refine zh_aload_n (pn := 125) rfl dX5_call_124 (i := 0) (v := .ref 39) rfl rfl (Or.inr ⟨_, rfl⟩) ?_
        refine zh_get (pn := 128) rfl dX5_call_125 (v := .ref 50) (k := 10) rfl rfl (by decide) (by decide) in_X5 mf_X5_41 rfl ?_
        refine zh_iload_n (pn := 129) rfl dX5_call_128 (i := 1) (x := a1) rfl rfl ?_
        refine zh_dup2 (pn := 130) rfl dX5_call_129 (fun _ _ => rfl) (fun _ _ => rfl) ?_
        refine zh_iald (pn := 131) rfl dX5_call_130 rfl h.1 ?_
        replace h := h.2
        refine zh_iconst (pn := 132) rfl dX5_call_131 (v := (zI 1)) rfl ?_
        refine zh_iadd (pn := 133) rfl dX5_call_132 ?_
        refine zh_iast (pn := 134) rfl dX5_call_133 rfl h.1 ?_
        obtain ⟨M7, eM7⟩ : ∃ q : zh_M, q = zh_set M6 50 a1.toNatClampNeg ((M6 50 a1.toNatClampNeg) + (zI 1)) := ⟨_, rfl⟩
        replace h := h.2 M7 eM7
        rw [← eM7]
        refine zh_iconst (pn := 135) rfl dX5_call_134 (v := (zI 1)) rfl ?_
        exact zh_iret dX5_call_135 rfl rfl ⟨_, rfl, rfl, h⟩
      · replace h := h.2 cc1
        refine zh_aload_n (pn := 37) rfl dX5_call_36 (i := 0) (v := .ref 39) rfl rfl (Or.inr ⟨_, rfl⟩) ?_
        refine zh_get (pn := 40) rfl dX5_call_37 (v := .ref 51) (k := 11) rfl rfl (by decide) (by decide) in_X5 mf_X5_44 rfl ?_
        refine zh_iload_n (pn := 41) rfl dX5_call_40 (i := 1) (x := a1) rfl rfl ?_
        refine zh_dup2 (pn := 42) rfl dX5_call_41 (fun _ _ => rfl) (fun _ _ => rfl) ?_
        refine zh_iald (pn := 43) rfl dX5_call_42 rfl h.1 ?_
        replace h := h.2
        refine zh_iconst (pn := 44) rfl dX5_call_43 (v := (zI 2)) rfl ?_
        refine zh_imul (pn := 45) rfl dX5_call_44 ?_
        refine zh_iast (pn := 46) rfl dX5_call_45 rfl h.1 ?_
        obtain ⟨M9, eM9⟩ : ∃ q : zh_M, q = zh_set M1 51 a1.toNatClampNeg ((M1 51 a1.toNatClampNeg) * (zI 2)) := ⟨_, rfl⟩
        replace h := h.2 M9 eM9
        rw [← eM9]
        refine zh_aload_n (pn := 47) rfl dX5_call_46 (i := 0) (v := .ref 39) rfl rfl (Or.inr ⟨_, rfl⟩) ?_
        refine zh_dup (pn := 48) rfl dX5_call_47 (fun _ _ => rfl) ?_
        refine zh_get (pn := 51) rfl dX5_call_48 (v := .int (M9 39 27)) (k := 27) rfl rfl (by decide) (by decide) in_X5 mf_X5_107 rfl ?_
        refine zh_aload_n (pn := 52) rfl dX5_call_51 (i := 0) (v := .ref 39) rfl rfl (Or.inr ⟨_, rfl⟩) ?_
        refine zh_get (pn := 55) rfl dX5_call_52 (v := .ref 50) (k := 10) rfl rfl (by decide) (by decide) in_X5 mf_X5_41 rfl ?_
        refine zh_iload_n (pn := 56) rfl dX5_call_55 (i := 1) (x := a1) rfl rfl ?_
        refine zh_iald (pn := 57) rfl dX5_call_56 rfl h.1 ?_
        replace h := h.2
        refine zh_iadd (pn := 58) rfl dX5_call_57 ?_
        refine zh_put (pn := 61) rfl dX5_call_58 (k := 27) rfl rfl (by decide) (by decide) in_X5 tyX5_ok nmX5 mf_X5_107 rfl rfl rfl rfl ?_
        obtain ⟨M10, eM10⟩ : ∃ q : zh_M, q = zh_set M9 39 27 ((M9 39 27) + (M9 50 a1.toNatClampNeg)) := ⟨_, rfl⟩
        replace h := h M10 eM10
        rw [← eM10]
        refine zh_bipush (pn := 63) rfl dX5_call_61 (v := (zI 16)) rfl ?_
        refine zh_iload_n (pn := 64) rfl dX5_call_63 (i := 1) (x := a1) rfl rfl ?_
        refine zh_imul (pn := 65) rfl dX5_call_64 ?_
        refine zh_aload_n (pn := 66) rfl dX5_call_65 (i := 0) (v := .ref 39) rfl rfl (Or.inr ⟨_, rfl⟩) ?_
        refine zh_get (pn := 69) rfl dX5_call_66 (v := .ref 50) (k := 10) rfl rfl (by decide) (by decide) in_X5 mf_X5_41 rfl ?_
        refine zh_iload_n (pn := 70) rfl dX5_call_69 (i := 1) (x := a1) rfl rfl ?_
        refine zh_iald (pn := 71) rfl dX5_call_70 rfl h.1 ?_
        replace h := h.2
        refine zh_iadd (pn := 72) rfl dX5_call_71 ?_
        refine zh_iconst (pn := 73) rfl dX5_call_72 (v := (zI 1)) rfl ?_
        refine zh_isub (pn := 74) rfl dX5_call_73 ?_
        refine zh_istore_n (pn := 75) rfl dX5_call_74 (i := 2) (lo' := [some (.ref 39), some (.int a1), some (.int ((((zI 16) * a1) + (M10 50 a1.toNatClampNeg)) - (zI 1))), none]) rfl (by decide) rfl ?_
        refine zh_iconst (pn := 76) rfl dX5_call_75 (v := (zI 0)) rfl ?_
        refine zh_istore_n (pn := 77) rfl dX5_call_76 (i := 3) (lo' := [some (.ref 39), some (.int a1), some (.int ((((zI 16) * a1) + (M10 50 a1.toNatClampNeg)) - (zI 1))), some (.int (zI 0))]) rfl (by decide) rfl ?_
        obtain ⟨n15, h⟩ := h
        refine wkl_X5_call_77 (fun M11 w3_12 h => ?_) n15 _ _ h
        refine zh_aload_n (pn := 111) rfl dX5_call_110 (i := 0) (v := .ref 39) rfl rfl (Or.inr ⟨_, rfl⟩) ?_
        refine zh_get (pn := 114) rfl dX5_call_111 (v := .ref 53) (k := 13) rfl rfl (by decide) (by decide) in_X5 mf_X5_50 rfl ?_
        refine zh_iload_n (pn := 115) rfl dX5_call_114 (i := 2) (x := (((zI 16) * a1) + (M10 50 a1.toNatClampNeg)) - (zI 1)) rfl rfl ?_
        refine zh_iconst (pn := 116) rfl dX5_call_115 (v := (zI 1)) rfl ?_
        refine zh_iadd (pn := 117) rfl dX5_call_116 ?_
        refine zh_aload_n (pn := 118) rfl dX5_call_117 (i := 0) (v := .ref 39) rfl rfl (Or.inr ⟨_, rfl⟩) ?_
        refine zh_get (pn := 121) rfl dX5_call_118 (v := .ref 53) (k := 13) rfl rfl (by decide) (by decide) in_X5 mf_X5_50 rfl ?_
        refine zh_iload_n (pn := 122) rfl dX5_call_121 (i := 2) (x := (((zI 16) * a1) + (M10 50 a1.toNatClampNeg)) - (zI 1)) rfl rfl ?_
        refine zh_iald (pn := 123) rfl dX5_call_122 rfl h.1 ?_
        replace h := h.2
        refine zh_iast (pn := 124) rfl dX5_call_123 rfl h.1 ?_
        obtain ⟨M13, eM13⟩ : ∃ q : zh_M, q = zh_set M11 53 (((((zI 16) * a1) + (M10 50 a1.toNatClampNeg)) - (zI 1)) + (zI 1)).toNatClampNeg (M11 53 ((((zI 16) * a1) + (M10 50 a1.toNatClampNeg)) - (zI 1)).toNatClampNeg) := ⟨_, rfl⟩
        replace h := h.2 M13 eM13
        rw [← eM13]
        refine zh_aload_n (pn := 125) rfl dX5_call_124 (i := 0) (v := .ref 39) rfl rfl (Or.inr ⟨_, rfl⟩) ?_
        refine zh_get (pn := 128) rfl dX5_call_125 (v := .ref 50) (k := 10) rfl rfl (by decide) (by decide) in_X5 mf_X5_41 rfl ?_
        refine zh_iload_n (pn := 129) rfl dX5_call_128 (i := 1) (x := a1) rfl rfl ?_
        refine zh_dup2 (pn := 130) rfl dX5_call_129 (fun _ _ => rfl) (fun _ _ => rfl) ?_
        refine zh_iald (pn := 131) rfl dX5_call_130 rfl h.1 ?_
        replace h := h.2
        refine zh_iconst (pn := 132) rfl dX5_call_131 (v := (zI 1)) rfl ?_
        refine zh_iadd (pn := 133) rfl dX5_call_132 ?_
        refine zh_iast (pn := 134) rfl dX5_call_133 rfl h.1 ?_
        obtain ⟨M14, eM14⟩ : ∃ q : zh_M, q = zh_set M13 50 a1.toNatClampNeg ((M13 50 a1.toNatClampNeg) + (zI 1)) := ⟨_, rfl⟩
        replace h := h.2 M14 eM14
        rw [← eM14]
        refine zh_iconst (pn := 135) rfl dX5_call_134 (v := (zI 1)) rfl ?_
        exact zh_iret dX5_call_135 rfl rfl ⟨_, rfl, rfl, h⟩
    · replace h := h.2 cc1
      refine zh_iconst (pn := 20) rfl dX5_call_19 (v := (zI 0)) rfl ?_
      exact zh_iret dX5_call_20 rfl rfl ⟨_, rfl, rfl, h⟩
set_option maxRecDepth 100000 in
theorem ca_X5_call {X : Nat × (Nat → Int32)} {d : Nat} {y : MethodName} {cc : ByteArray} {nL : Nat} {rt : Option FieldType} {pc pn idx : Nat} {lo : List (Option Value)} {st : List Value} {M : zh_M} {P : Option Value → List zh_LC → zh_M → Prop} {a1 : Int32} {K : Int32 → zh_M → Prop} (hp : pc + 3 = pn) (hd : decode cc pc = .ok (.invokevirtual idx, 3)) (m1 : Cond.methodLink y.cls idx yX5_call ∈ zh_WS) (hsc : ∀ base b, ((st.map (zh_tr base b)).map fun v => v.category).sum ≤ 8) (h : wp_X5_call M a1 K) (kk : ∀ r M1, K r M1 → zh_W X (d + 3) y cc nL rt pn lo (.int r :: st) zh_LL M1 0 0 P) : zh_W X (d + 3) y cc nL rt pc lo (.int a1 :: .ref 39 :: st) zh_LL M 0 0 P := by
  refine zh_callV (bc := 0) (bs := 0) (bc' := 0) (bs' := 0) (as := [.int a1]) (st := st) hp hd rfl (by decide) rfl rfl m1 me_X5_call.1 me_X5_call.2.1 me_X5_call.2.2.1 me_X5_call.2.2.2 ⟨by decide, by decide, by decide⟩ (by show _ = some 1; decide +kernel) (by intro v hv; simp only [List.mem_cons, List.not_mem_nil, or_false] at hv; rcases hv with rfl <;> (intro _ _; rfl)) hsc (Nat.le_of_ble_eq_true rfl) (by decide) (wk_X5_call  h) (fun r L' M' q => ?_) (fun r L' M' q => ?_)
  · obtain ⟨v, -, rfl, q⟩ := q; rfl
  · obtain ⟨v, rfl, rfl, q⟩ := q; exact kk v M' q
