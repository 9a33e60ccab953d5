set_option maxRecDepth 100000 in
set_option maxHeartbeats 4000000 in
theorem wk_X3_isIntWord {X : Nat × (Nat → Int32)} {d : Nat} {M : zh_M} {a1 : Int32} {a2 : Int32} {P : Int32 → zh_M → Prop} (h : wp_X3_isIntWord M a1 a2 P) : zh_W X (d + 0) yX3_isIntWord cX3_isIntWord 3 (some .boolean) 0 (zh_en [.ref 2, .int a1, .int a2] 3) [] zh_LL M 0 0 (zh_pi P) := by
  unfold wp_X3_isIntWord at h
  show zh_W X (d + 0) yX3_isIntWord cX3_isIntWord 3 (some .boolean) 0 [some (.ref 2), some (.int a1), some (.int a2)] [] zh_LL M 0 0 (zh_pi P)
  refine zh_iload_n (pn := 1) rfl dX3_isIntWord_0 (i := 1) (x := a1) rfl rfl ?_
  refine zh_if_lt (pn := 4) rfl dX3_isIntWord_1 (tgt := 39) rfl (fun cc1 => ?_) (fun cc1 => ?_)
  · replace h := h.1 cc1
    refine zh_iconst (pn := 40) rfl dX3_isIntWord_39 (v := (zI 0)) rfl ?_
    exact zh_iret dX3_isIntWord_40 rfl rfl ⟨_, rfl, rfl, h⟩
  · replace h := h.2 cc1
    refine zh_iload_n (pn := 5) rfl dX3_isIntWord_4 (i := 1) (x := a1) rfl rfl ?_
    refine zh_sipush (pn := 8) rfl dX3_isIntWord_5 (v := (zI 256)) rfl ?_
    refine zh_icmp_ge (pn := 11) rfl dX3_isIntWord_8 (tgt := 39) rfl (fun cc1 => ?_) (fun cc1 => ?_)
    · replace h := h.1 cc1
      refine zh_iconst (pn := 40) rfl dX3_isIntWord_39 (v := (zI 0)) rfl ?_
      exact zh_iret dX3_isIntWord_40 rfl rfl ⟨_, rfl, rfl, h⟩
    · replace h := h.2 cc1
      refine zh_iload_n (pn := 12) rfl dX3_isIntWord_11 (i := 2) (x := a2) rfl rfl ?_
      refine zh_aload_n (pn := 13) rfl dX3_isIntWord_12 (i := 0) (v := .ref 2) rfl rfl (Or.inr ⟨_, rfl⟩) ?_
      refine zh_get (pn := 16) rfl dX3_isIntWord_13 (v := .ref 7) (k := 4) rfl rfl (by decide) (by decide) in_X3 mf_X3_25 rfl ?_
      refine zh_iload_n (pn := 17) rfl dX3_isIntWord_16 (i := 1) (x := a1) rfl rfl ?_
      refine zh_iconst (pn := 18) rfl dX3_isIntWord_17 (v := (zI 2)) rfl ?_
      refine zh_idiv (pn := 19) rfl dX3_isIntWord_18 (by decide) ?_
      refine zh_iald (pn := 20) rfl dX3_isIntWord_19 rfl h.1 ?_
      replace h := h.2
      refine zh_icmp_lt (pn := 23) rfl dX3_isIntWord_20 (tgt := 39) rfl (fun cc1 => ?_) (fun cc1 => ?_)
      · replace h := h.1 cc1
        refine zh_iconst (pn := 40) rfl dX3_isIntWord_39 (v := (zI 0)) rfl ?_
        exact zh_iret dX3_isIntWord_40 rfl rfl ⟨_, rfl, rfl, h⟩
      · replace h := h.2 cc1
        refine zh_iload_n (pn := 24) rfl dX3_isIntWord_23 (i := 2) (x := a2) rfl rfl ?_
        refine zh_aload_n (pn := 25) rfl dX3_isIntWord_24 (i := 0) (v := .ref 2) rfl rfl (Or.inr ⟨_, rfl⟩) ?_
        refine zh_get (pn := 28) rfl dX3_isIntWord_25 (v := .ref 6) (k := 3) rfl rfl (by decide) (by decide) in_X3 mf_X3_22 rfl ?_
        refine zh_iload_n (pn := 29) rfl dX3_isIntWord_28 (i := 1) (x := a1) rfl rfl ?_
        refine zh_iconst (pn := 30) rfl dX3_isIntWord_29 (v := (zI 2)) rfl ?_
        refine zh_idiv (pn := 31) rfl dX3_isIntWord_30 (by decide) ?_
        refine zh_iald (pn := 32) rfl dX3_isIntWord_31 rfl h.1 ?_
        replace h := h.2
        refine zh_icmp_ge (pn := 35) rfl dX3_isIntWord_32 (tgt := 39) rfl (fun cc1 => ?_) (fun cc1 => ?_)
        · replace h := h.1 cc1
          refine zh_iconst (pn := 40) rfl dX3_isIntWord_39 (v := (zI 0)) rfl ?_
          exact zh_iret dX3_isIntWord_40 rfl rfl ⟨_, rfl, rfl, h⟩
        · replace h := h.2 cc1
          refine zh_iconst (pn := 36) rfl dX3_isIntWord_35 (v := (zI 1)) rfl ?_
          refine zh_goto dX3_isIntWord_36 (tgt := 40) rfl ?_
          exact zh_iret dX3_isIntWord_40 rfl rfl ⟨_, rfl, rfl, h⟩
set_option maxRecDepth 100000 in
theorem ca_X3_isIntWord {X : Nat × (Nat → Int32)} {d : Nat} {y : MethodName} {cc : ByteArray} {nL : Nat} {rt : Option FieldType} {pc pn idx : Nat} {lo : List (Option Value)} {st : List Value} {M : zh_M} {P : Option Value → List zh_LC → zh_M → Prop} {a1 : Int32} {a2 : Int32} {K : Int32 → zh_M → Prop} (hp : pc + 3 = pn) (hd : decode cc pc = .ok (.invokevirtual idx, 3)) (m1 : Cond.methodLink y.cls idx yX3_isIntWord ∈ zh_WS) (hsc : ∀ base b, ((st.map (zh_tr base b)).map fun v => v.category).sum ≤ 8) (h : wp_X3_isIntWord M a1 a2 K) (kk : ∀ r M1, K r M1 → zh_W X (d + 1) y cc nL rt pn lo (.int r :: st) zh_LL M1 0 0 P) : zh_W X (d + 1) y cc nL rt pc lo (.int a2 :: .int a1 :: .ref 2 :: st) zh_LL M 0 0 P := by
  refine zh_callV (bc := 0) (bs := 0) (bc' := 0) (bs' := 0) (as := [.int a1, .int a2]) (st := st) hp hd rfl (by decide) rfl rfl m1 me_X3_isIntWord.1 me_X3_isIntWord.2.1 me_X3_isIntWord.2.2.1 me_X3_isIntWord.2.2.2 ⟨by decide, by decide, by decide⟩ (by show _ = some 2; decide +kernel) (by intro v hv; simp only [List.mem_cons, List.not_mem_nil, or_false] at hv; rcases hv with rfl | rfl <;> (intro _ _; rfl)) hsc (Nat.le_of_ble_eq_true rfl) (by decide) (wk_X3_isIntWord  h) (fun r L' M' q => ?_) (fun r L' M' q => ?_)
  · obtain ⟨v, -, rfl, q⟩ := q; rfl
  · obtain ⟨v, rfl, rfl, q⟩ := q; exact kk v M' q
set_option maxRecDepth 100000 in
set_option maxHeartbeats 4000000 in
theorem wk_X4_intWordIndex {X : Nat × (Nat → Int32)} {d : Nat} {M : zh_M} {a1 : Int32} {a2 : Int32} {a3 : Int32} {P : Int32 → zh_M → Prop} (h : wp_X4_intWordIndex M a1 a2 a3 P) : zh_W X (d + 2) yX4_intWordIndex cX4_intWordIndex 6 (some .int) 0 (zh_en [.ref 1, .int a1, .int a2, .int a3] 6) [] zh_LL M 0 0 (zh_pi P) := by
  unfold wp_X4_intWordIndex at h
  show zh_W X (d + 2) yX4_intWordIndex cX4_intWordIndex 6 (some .int) 0 [some (.ref 1), some (.int a1), some (.int a2), some (.int a3), none, none] [] zh_LL M 0 0 (zh_pi P)
  refine zh_aload_n (pn := 1) rfl dX4_intWordIndex_0 (i := 0) (v := .ref 1) rfl rfl (Or.inr ⟨_, rfl⟩) ?_
  refine zh_iload_n (pn := 2) rfl dX4_intWordIndex_1 (i := 1) (x := a1) rfl rfl ?_
  refine ca_X4_readyFiber (pn := 5) rfl dX4_intWordIndex_2 mc_X4_48 (fun _ _ => Nat.le_of_ble_eq_true rfl) h (fun r2 M1 h => ?_)
  refine zh_astore (pn := 7) rfl dX4_intWordIndex_5 (i := 4) (lo' := [some (.ref 1), some (.int a1), some (.int a2), some (.int a3), some (va_rf r2), none]) (by decide) (zh_rfor r2) rfl ?_
  refine zh_aload (pn := 9) rfl dX4_intWordIndex_7 (i := 4) (v := va_rf r2) rfl (zh_rfor r2) ?_
  refine zh_ifnull (pn := 12) rfl dX4_intWordIndex_9 (tgt := 21) rfl (fun cc1 => ?_) (fun o3 cc1 => ?_)
  · subst cc1
    replace h := h.1 rfl
    refine zh_iconst (pn := 22) rfl dX4_intWordIndex_21 (v := (zI (-1))) rfl ?_
    exact zh_iret dX4_intWordIndex_22 rfl rfl ⟨_, rfl, rfl, h⟩
  · subst cc1
    obtain ⟨zo3, h⟩ := h.2 o3 rfl
    refine zh_aload (pn := 14) rfl dX4_intWordIndex_12 (i := 4) (v := .ref o3) rfl (Or.inr ⟨_, rfl⟩) ?_
    refine zh_iload_n (pn := 15) rfl dX4_intWordIndex_14 (i := 2) (x := a2) rfl rfl ?_
    refine ca_X2_isCell (pn := 18) rfl dX4_intWordIndex_15 mc_X4_89 zo3 (fun _ _ => Nat.le_of_ble_eq_true rfl) h (fun r5 M4 h => ?_)
    refine zh_if_ne (pn := 21) rfl dX4_intWordIndex_18 (tgt := 23) rfl (fun cc1 => ?_) (fun cc1 => ?_)
    · replace h := h.1 cc1
      refine zh_aload (pn := 25) rfl dX4_intWordIndex_23 (i := 4) (v := .ref o3) rfl (Or.inr ⟨_, rfl⟩) ?_
      refine zh_iload_n (pn := 26) rfl dX4_intWordIndex_25 (i := 2) (x := a2) rfl rfl ?_
      refine ca_X2_pointerFrom (pn := 29) rfl dX4_intWordIndex_26 mc_X4_60 zo3 (fun _ _ => Nat.le_of_ble_eq_true rfl) h (fun r7 M6 h => ?_)
      refine zh_istore (pn := 31) rfl dX4_intWordIndex_29 (i := 5) (lo' := [some (.ref 1), some (.int a1), some (.int a2), some (.int a3), some (.ref o3), some (.int r7)]) (by decide) rfl ?_
      refine zh_aload_n (pn := 32) rfl dX4_intWordIndex_31 (i := 0) (v := .ref 1) rfl rfl (Or.inr ⟨_, rfl⟩) ?_
      refine zh_get (pn := 35) rfl dX4_intWordIndex_32 (v := .ref 2) (k := 0) rfl rfl (by decide) (by decide) in_X4 mf_X4_12 rfl ?_
      refine zh_iload (pn := 37) rfl dX4_intWordIndex_35 (i := 5) (x := r7) rfl ?_
      refine zh_iload_n (pn := 38) rfl dX4_intWordIndex_37 (i := 3) (x := a3) rfl rfl ?_
      refine ca_X3_isIntWord (pn := 41) rfl dX4_intWordIndex_38 mc_X4_220 (fun _ _ => Nat.le_of_ble_eq_true rfl) h (fun r9 M8 h => ?_)
      refine zh_if_eq (pn := 44) rfl dX4_intWordIndex_41 (tgt := 51) rfl (fun cc1 => ?_) (fun cc1 => ?_)
      · replace h := h.1 cc1
        refine zh_iconst (pn := 52) rfl dX4_intWordIndex_51 (v := (zI (-1))) rfl ?_
        exact zh_iret dX4_intWordIndex_52 rfl rfl ⟨_, rfl, rfl, h⟩
      · replace h := h.2 cc1
        refine zh_iload (pn := 46) rfl dX4_intWordIndex_44 (i := 5) (x := r7) rfl ?_
        refine zh_iload_n (pn := 47) rfl dX4_intWordIndex_46 (i := 3) (x := a3) rfl rfl ?_
        refine zh_iadd (pn := 48) rfl dX4_intWordIndex_47 ?_
        refine zh_goto dX4_intWordIndex_48 (tgt := 52) rfl ?_
        exact zh_iret dX4_intWordIndex_52 rfl rfl ⟨_, rfl, rfl, h⟩
    · replace h := h.2 cc1
      refine zh_iconst (pn := 22) rfl dX4_intWordIndex_21 (v := (zI (-1))) rfl ?_
      exact zh_iret dX4_intWordIndex_22 rfl rfl ⟨_, rfl, rfl, h⟩
set_option maxRecDepth 100000 in
theorem ca_X4_intWordIndex {X : Nat × (Nat → Int32)} {d : Nat} {y : MethodName} {cc : ByteArray} {nL : Nat} {rt : Option FieldType} {pc pn idx : Nat} {lo : List (Option Value)} {st : List Value} {M : zh_M} {P : Option Value → List zh_LC → zh_M → Prop} {a1 : Int32} {a2 : Int32} {a3 : Int32} {K : Int32 → zh_M → Prop} (hp : pc + 3 = pn) (hd : decode cc pc = .ok (.invokevirtual idx, 3)) (m1 : Cond.methodLink y.cls idx yX4_intWordIndex ∈ zh_WS) (hsc : ∀ base b, ((st.map (zh_tr base b)).map fun v => v.category).sum ≤ 8) (h : wp_X4_intWordIndex M a1 a2 a3 K) (kk : ∀ r M1, K r M1 → zh_W X (d + 3) y cc nL rt pn lo (.int r :: st) zh_LL M1 0 0 P) : zh_W X (d + 3) y cc nL rt pc lo (.int a3 :: .int a2 :: .int a1 :: .ref 1 :: st) zh_LL M 0 0 P := by
  refine zh_callV (bc := 0) (bs := 0) (bc' := 0) (bs' := 0) (as := [.int a1, .int a2, .int a3]) (st := st) hp hd rfl (by decide) rfl rfl m1 me_X4_intWordIndex.1 me_X4_intWordIndex.2.1 me_X4_intWordIndex.2.2.1 me_X4_intWordIndex.2.2.2 ⟨by decide, by decide, by decide⟩ (by show _ = some 3; decide +kernel) (by intro v hv; simp only [List.mem_cons, List.not_mem_nil, or_false] at hv; rcases hv with rfl | rfl | rfl <;> (intro _ _; rfl)) hsc (Nat.le_of_ble_eq_true rfl) (by decide) (wk_X4_intWordIndex  h) (fun r L' M' q => ?_) (fun r L' M' q => ?_)
  · obtain ⟨v, -, rfl, q⟩ := q; rfl
  · obtain ⟨v, rfl, rfl, q⟩ := q; exact kk v M' q
set_option maxRecDepth 100000 in
set_option maxHeartbeats 4000000 in
theorem wk_X4_store {X : Nat × (Nat → Int32)} {d : Nat} {M : zh_M} {a1 : Int32} {a2 : Int32} {a3 : Int32} {a4 : Int32} {P : Int32 → zh_M → Prop} (h : wp_X4_store M a1 a2 a3 a4 P) : zh_W X (d + 3) yX4_store cX4_store 6 (some .boolean) 0 (zh_en [.ref 1, .int a1, .int a2, .int a3, .int a4] 6) [] zh_LL M 0 0 (zh_pi P) := by
  unfold wp_X4_store at h
  show zh_W X (d + 3) yX4_store cX4_store 6 (some .boolean) 0 [some (.ref 1), some (.int a1), some (.int a2), some (.int a3), some (.int a4), none] [] zh_LL M 0 0 (zh_pi P)
  refine zh_aload_n (pn := 1) rfl dX4_store_0 (i := 0) (v := .ref 1) rfl rfl (Or.inr ⟨_, rfl⟩) ?_
  refine zh_iload_n (pn := 2) rfl dX4_store_1 (i := 1) (x := a1) rfl rfl ?_
  refine zh_iload_n (pn := 3) rfl dX4_store_2 (i := 2) (x := a2) rfl rfl ?_
  refine zh_iload_n (pn := 4) rfl dX4_store_3 (i := 3) (x := a3) rfl rfl ?_
  refine ca_X4_intWordIndex (pn := 7) rfl dX4_store_4 mc_X4_119 (fun _ _ => Nat.le_of_ble_eq_true rfl) h (fun r2 M1 h => ?_)
  refine zh_istore (pn := 9) rfl dX4_store_7 (i := 5) (lo' := [some (.ref 1), some (.int a1), some (.int a2), some (.int a3), some (.int a4), some (.int r2)]) (by decide) rfl ?_
  refine zh_iload (pn := 11) rfl dX4_store_9 (i := 5) (x := r2) rfl ?_
  refine zh_iconst (pn := 12) rfl dX4_store_11 (v := (zI (-1))) rfl ?_
  refine zh_icmp_ne (pn := 15) rfl dX4_store_12 (tgt := 17) rfl (fun cc1 => ?_) (fun cc1 => ?_)
  · replace h := h.1 cc1
    refine zh_aload_n (pn := 18) rfl dX4_store_17 (i := 0) (v := .ref 1) rfl rfl (Or.inr ⟨_, rfl⟩) ?_
    refine zh_get (pn := 21) rfl dX4_store_18 (v := .ref 2) (k := 0) rfl rfl (by decide) (by decide) in_X4 mf_X4_12 rfl ?_
    refine zh_get (pn := 24) rfl dX4_store_21 (v := .ref 3) (k := 0) rfl rfl (by decide) (by decide) in_X3 mf_X4_113 rfl ?_
    refine zh_iload (pn := 26) rfl dX4_store_24 (i := 5) (x := r2) rfl ?_
    refine zh_iload (pn := 28) rfl dX4_store_26 (i := 4) (x := a4) rfl ?_
    refine zh_iast (pn := 29) rfl dX4_store_28 rfl h.1 ?_
    obtain ⟨M3, eM3⟩ : ∃ q : zh_M, q = zh_set M1 3 r2.toNatClampNeg a4 := ⟨_, rfl⟩
    replace h := h.2 M3 eM3
    rw [← eM3]
    refine zh_iconst (pn := 30) rfl dX4_store_29 (v := (zI 1)) rfl ?_
    exact zh_iret dX4_store_30 rfl rfl ⟨_, rfl, rfl, h⟩
  · replace h := h.2 cc1
    refine zh_iconst (pn := 16) rfl dX4_store_15 (v := (zI 0)) rfl ?_
    exact zh_iret dX4_store_16 rfl rfl ⟨_, rfl, rfl, h⟩
set_option maxRecDepth 100000 in
theorem ca_X4_store {X : Nat × (Nat → Int32)} {d : Nat} {y : MethodName} {cc : ByteArray} {nL : Nat} {rt : Option FieldType} {pc pn idx : Nat} {lo : List (Option Value)} {st : List Value} {M : zh_M} {P : Option Value → List zh_LC → zh_M → Prop} {a1 : Int32} {a2 : Int32} {a3 : Int32} {a4 : Int32} {K : Int32 → zh_M → Prop} (hp : pc + 3 = pn) (hd : decode cc pc = .ok (.invokevirtual idx, 3)) (m1 : Cond.methodLink y.cls idx yX4_store ∈ zh_WS) (hsc : ∀ base b, ((st.map (zh_tr base b)).map fun v => v.category).sum ≤ 8) (h : wp_X4_store M a1 a2 a3 a4 K) (kk : ∀ r M1, K r M1 → zh_W X (d + 4) y cc nL rt pn lo (.int r :: st) zh_LL M1 0 0 P) : zh_W X (d + 4) y cc nL rt pc lo (.int a4 :: .int a3 :: .int a2 :: .int a1 :: .ref 1 :: st) zh_LL M 0 0 P := by
  refine zh_callV (bc := 0) (bs := 0) (bc' := 0) (bs' := 0) (as := [.int a1, .int a2, .int a3, .int a4]) (st := st) hp hd rfl (by decide) rfl rfl m1 me_X4_store.1 me_X4_store.2.1 me_X4_store.2.2.1 me_X4_store.2.2.2 ⟨by decide, by decide, by decide⟩ (by show _ = some 4; decide +kernel) (by intro v hv; simp only [List.mem_cons, List.not_mem_nil, or_false] at hv; rcases hv with rfl | rfl | rfl | rfl <;> (intro _ _; rfl)) hsc (Nat.le_of_ble_eq_true rfl) (by decide) (wk_X4_store  h) (fun r L' M' q => ?_) (fun r L' M' q => ?_)
  · obtain ⟨v, -, rfl, q⟩ := q; rfl
  · obtain ⟨v, rfl, rfl, q⟩ := q; exact kk v M' q
set_option maxRecDepth 100000 in
set_option maxHeartbeats 4000000 in
theorem wk_X4_load {X : Nat × (Nat → Int32)} {d : Nat} {M : zh_M} {a1 : Int32} {a2 : Int32} {a3 : Int32} {P : Int32 → zh_M → Prop} (h : wp_X4_load M a1 a2 a3 P) : zh_W X (d + 3) yX4_load cX4_load 5 (some .int) 0 (zh_en [.ref 1, .int a1, .int a2, .int a3] 5) [] zh_LL M 0 0 (zh_pi P) := by
  unfold wp_X4_load at h
  show zh_W X (d + 3) yX4_load cX4_load 5 (some .int) 0 [some (.ref 1), some (.int a1), some (.int a2), some (.int a3), none] [] zh_LL M 0 0 (zh_pi P)
  refine zh_aload_n (pn := 1) rfl dX4_load_0 (i := 0) (v := .ref 1) rfl rfl (Or.inr ⟨_, rfl⟩) ?_
  refine zh_iload_n (pn := 2) rfl dX4_load_1 (i := 1) (x := a1) rfl rfl ?_
  refine zh_iload_n (pn := 3) rfl dX4_load_2 (i := 2) (x := a2) rfl rfl ?_
  refine zh_iload_n (pn := 4) rfl dX4_load_3 (i := 3) (x := a3) rfl rfl ?_
  refine ca_X4_intWordIndex (pn := 7) rfl dX4_load_4 mc_X4_119 (fun _ _ => Nat.le_of_ble_eq_true rfl) h (fun r2 M1 h => ?_)
  refine zh_istore (pn := 9) rfl dX4_load_7 (i := 4) (lo' := [some (.ref 1), some (.int a1), some (.int a2), some (.int a3), some (.int r2)]) (by decide) rfl ?_
  refine zh_iload (pn := 11) rfl dX4_load_9 (i := 4) (x := r2) rfl ?_
  refine zh_iconst (pn := 12) rfl dX4_load_11 (v := (zI (-1))) rfl ?_
  refine zh_icmp_ne (pn := 15) rfl dX4_load_12 (tgt := 19) rfl (fun cc1 => ?_) (fun cc1 => ?_)
  · replace h := h.1 cc1
    refine zh_aload_n (pn := 20) rfl dX4_load_19 (i := 0) (v := .ref 1) rfl rfl (Or.inr ⟨_, rfl⟩) ?_
    refine zh_get (pn := 23) rfl dX4_load_20 (v := .ref 2) (k := 0) rfl rfl (by decide) (by decide) in_X4 mf_X4_12 rfl ?_
    refine zh_get (pn := 26) rfl dX4_load_23 (v := .ref 3) (k := 0) rfl rfl (by decide) (by decide) in_X3 mf_X4_113 rfl ?_
    refine zh_iload (pn := 28) rfl dX4_load_26 (i := 4) (x := r2) rfl ?_
    refine zh_iald (pn := 29) rfl dX4_load_28 rfl h.1 ?_
    replace h := h.2
    exact zh_iret dX4_load_29 rfl rfl ⟨_, rfl, rfl, h⟩
  · replace h := h.2 cc1
    refine zh_iconst (pn := 16) rfl dX4_load_15 (v := (zI 0)) rfl ?_
    refine zh_goto dX4_load_16 (tgt := 29) rfl ?_
    exact zh_iret dX4_load_29 rfl rfl ⟨_, rfl, rfl, h⟩
set_option maxRecDepth 100000 in
theorem ca_X4_load {X : Nat × (Nat → Int32)} {d : Nat} {y : MethodName} {cc : ByteArray} {nL : Nat} {rt : Option FieldType} {pc pn idx : Nat} {lo : List (Option Value)} {st : List Value} {M : zh_M} {P : Option Value → List zh_LC → zh_M → Prop} {a1 : Int32} {a2 : Int32} {a3 : Int32} {K : Int32 → zh_M → Prop} (hp : pc + 3 = pn) (hd : decode cc pc = .ok (.invokevirtual idx, 3)) (m1 : Cond.methodLink y.cls idx yX4_load ∈ zh_WS) (hsc : ∀ base b, ((st.map (zh_tr base b)).map fun v => v.category).sum ≤ 8) (h : wp_X4_load M a1 a2 a3 K) (kk : ∀ r M1, K r M1 → zh_W X (d + 4) y cc nL rt pn lo (.int r :: st) zh_LL M1 0 0 P) : zh_W X (d + 4) y cc nL rt pc lo (.int a3 :: .int a2 :: .int a1 :: .ref 1 :: st) zh_LL M 0 0 P := by
  refine zh_callV (bc := 0) (bs := 0) (bc' := 0) (bs' := 0) (as := [.int a1, .int a2, .int a3]) (st := st) hp hd rfl (by decide) rfl rfl m1 me_X4_load.1 me_X4_load.2.1 me_X4_load.2.2.1 me_X4_load.2.2.2 ⟨by decide, by decide, by decide⟩ (by show _ = some 3; decide +kernel) (by intro v hv; simp only [List.mem_cons, List.not_mem_nil, or_false] at hv; rcases hv with rfl | rfl | rfl <;> (intro _ _; rfl)) hsc (Nat.le_of_ble_eq_true rfl) (by decide) (wk_X4_load  h) (fun r L' M' q => ?_) (fun r L' M' q => ?_)
  · obtain ⟨v, -, rfl, q⟩ := q; rfl
  · obtain ⟨v, rfl, rfl, q⟩ := q; exact kk v M' q
set_option maxRecDepth 100000 in
set_option maxHeartbeats 4000000 in
theorem wk_X4_isChannel {X : Nat × (Nat → Int32)} {d : Nat} {M : zh_M} {a1 : Int32} {P : Int32 → zh_M → Prop} (h : wp_X4_isChannel M a1 P) : zh_W X (d + 0) yX4_isChannel cX4_isChannel 1 (some .boolean) 0 (zh_en [.int a1] 1) [] zh_LL M 0 0 (zh_pi P) := by
  unfold wp_X4_isChannel at h
  show zh_W X (d + 0) yX4_isChannel cX4_isChannel 1 (some .boolean) 0 [some (.int a1)] [] zh_LL M 0 0 (zh_pi P)
  refine zh_iload_n (pn := 1) rfl dX4_isChannel_0 (i := 0) (x := a1) rfl rfl ?_
  refine zh_if_lt (pn := 4) rfl dX4_isChannel_1 (tgt := 13) rfl (fun cc1 => ?_) (fun cc1 => ?_)
  · replace h := h.1 cc1
    refine zh_iconst (pn := 14) rfl dX4_isChannel_13 (v := (zI 0)) rfl ?_
    exact zh_iret dX4_isChannel_14 rfl rfl ⟨_, rfl, rfl, h⟩
  · replace h := h.2 cc1
    refine zh_iload_n (pn := 5) rfl dX4_isChannel_4 (i := 0) (x := a1) rfl rfl ?_
    refine zh_iconst (pn := 6) rfl dX4_isChannel_5 (v := (zI 4)) rfl ?_
    refine zh_icmp_ge (pn := 9) rfl dX4_isChannel_6 (tgt := 13) rfl (fun cc1 => ?_) (fun cc1 => ?_)
    · replace h := h.1 cc1
      refine zh_iconst (pn := 14) rfl dX4_isChannel_13 (v := (zI 0)) rfl ?_
      exact zh_iret dX4_isChannel_14 rfl rfl ⟨_, rfl, rfl, h⟩
    · replace h := h.2 cc1
      refine zh_iconst (pn := 10) rfl dX4_isChannel_9 (v := (zI 1)) rfl ?_
      refine zh_goto dX4_isChannel_10 (tgt := 14) rfl ?_
      exact zh_iret dX4_isChannel_14 rfl rfl ⟨_, rfl, rfl, h⟩
set_option maxRecDepth 100000 in
theorem ca_X4_isChannel {X : Nat × (Nat → Int32)} {d : Nat} {y : MethodName} {cc : ByteArray} {nL : Nat} {rt : Option FieldType} {pc pn idx : Nat} {lo : List (Option Value)} {st : List Value} {M : zh_M} {P : Option Value → List zh_LC → zh_M → Prop} {a1 : Int32} {K : Int32 → zh_M → Prop} (hp : pc + 3 = pn) (hd : decode cc pc = .ok (.invokestatic idx, 3)) (m1 : Cond.methodLink y.cls idx yX4_isChannel ∈ zh_WS) (hsc : ∀ base b, ((st.map (zh_tr base b)).map fun v => v.category).sum ≤ 8) (h : wp_X4_isChannel M a1 K) (kk : ∀ r M1, K r M1 → zh_W X (d + 1) y cc nL rt pn lo (.int r :: st) zh_LL M1 0 0 P) : zh_W X (d + 1) y cc nL rt pc lo (.int a1 :: st) zh_LL M 0 0 P := by
  refine zh_callS (bc := 0) (bs := 0) (bc' := 0) (bs' := 0) (as := [.int a1]) (st := st) hp hd m1 me_X4_isChannel.1 me_X4_isChannel.2.1 me_X4_isChannel.2.2 ⟨by decide, by decide, by decide⟩ (by show _ = some 1; decide +kernel) (by intro v hv; simp only [List.mem_cons, List.not_mem_nil, or_false] at hv; rcases hv with rfl <;> (intro _ _; rfl)) hsc (Nat.le_of_ble_eq_true rfl) (by decide) (wk_X4_isChannel  h) (fun r L' M' q => ?_) (fun r L' M' q => ?_)
  · obtain ⟨v, -, rfl, q⟩ := q; rfl
  · obtain ⟨v, rfl, rfl, q⟩ := q; exact kk v M' q
set_option maxRecDepth 100000 in
set_option maxHeartbeats 4000000 in
theorem wk_X2_waitsAt {X : Nat × (Nat → Int32)} {d : Nat} {M : zh_M} {o : Nat} {a1 : Int32} {a2 : Int32} {P : Int32 → zh_M → Prop} (zo : zf_Fiber o) (h : wp_X2_waitsAt M o a1 a2 P) : zh_W X (d + 0) yX2_waitsAt cX2_waitsAt 3 (some .boolean) 0 (zh_en [.ref o, .int a1, .int a2] 3) [] zh_LL M 0 0 (zh_pi P) := by
  unfold wp_X2_waitsAt at h
  show zh_W X (d + 0) yX2_waitsAt cX2_waitsAt 3 (some .boolean) 0 [some (.ref o), some (.int a1), some (.int a2)] [] zh_LL M 0 0 (zh_pi P)
  refine zh_aload_n (pn := 1) rfl dX2_waitsAt_0 (i := 0) (v := .ref o) rfl rfl (Or.inr ⟨_, rfl⟩) ?_
  refine zh_get (pn := 4) rfl dX2_waitsAt_1 (v := .int (M o 2)) (k := 2) (at_Fiber zo) rfl (by decide) (by decide) in_X2 mf_X2_18 rfl ?_
  refine zh_iload_n (pn := 5) rfl dX2_waitsAt_4 (i := 1) (x := a1) rfl rfl ?_
  refine zh_icmp_ne (pn := 8) rfl dX2_waitsAt_5 (tgt := 28) rfl (fun cc1 => ?_) (fun cc1 => ?_)
  · replace h := h.1 cc1
    refine zh_iconst (pn := 29) rfl dX2_waitsAt_28 (v := (zI 0)) rfl ?_
    exact zh_iret dX2_waitsAt_29 rfl rfl ⟨_, rfl, rfl, h⟩
  · replace h := h.2 cc1
    refine zh_aload_n (pn := 9) rfl dX2_waitsAt_8 (i := 0) (v := .ref o) rfl rfl (Or.inr ⟨_, rfl⟩) ?_
    refine zh_get (pn := 12) rfl dX2_waitsAt_9 (v := .int (M o 9)) (k := 9) (at_Fiber zo) rfl (by decide) (by decide) in_X2 mf_X2_59 rfl ?_
    refine zh_iload_n (pn := 13) rfl dX2_waitsAt_12 (i := 2) (x := a2) rfl rfl ?_
    refine zh_icmp_eq (pn := 16) rfl dX2_waitsAt_13 (tgt := 24) rfl (fun cc1 => ?_) (fun cc1 => ?_)
    · replace h := h.1 cc1
      refine zh_iconst (pn := 25) rfl dX2_waitsAt_24 (v := (zI 1)) rfl ?_
      refine zh_goto dX2_waitsAt_25 (tgt := 29) rfl ?_
      exact zh_iret dX2_waitsAt_29 rfl rfl ⟨_, rfl, rfl, h⟩
    · replace h := h.2 cc1
      refine zh_aload_n (pn := 17) rfl dX2_waitsAt_16 (i := 0) (v := .ref o) rfl rfl (Or.inr ⟨_, rfl⟩) ?_
      refine zh_get (pn := 20) rfl dX2_waitsAt_17 (v := .int (M o 10)) (k := 10) (at_Fiber zo) rfl (by decide) (by decide) in_X2 mf_X2_62 rfl ?_
      refine zh_iload_n (pn := 21) rfl dX2_waitsAt_20 (i := 2) (x := a2) rfl rfl ?_
      refine zh_icmp_ne (pn := 24) rfl dX2_waitsAt_21 (tgt := 28) rfl (fun cc1 => ?_) (fun cc1 => ?_)
      · replace h := h.1 cc1
        refine zh_iconst (pn := 29) rfl dX2_waitsAt_28 (v := (zI 0)) rfl ?_
        exact zh_iret dX2_waitsAt_29 rfl rfl ⟨_, rfl, rfl, h⟩
      · replace h := h.2 cc1
        refine zh_iconst (pn := 25) rfl dX2_waitsAt_24 (v := (zI 1)) rfl ?_
        refine zh_goto dX2_waitsAt_25 (tgt := 29) rfl ?_
        exact zh_iret dX2_waitsAt_29 rfl rfl ⟨_, rfl, rfl, h⟩
set_option maxRecDepth 100000 in
theorem ca_X2_waitsAt {X : Nat × (Nat → Int32)} {d : Nat} {y : MethodName} {cc : ByteArray} {nL : Nat} {rt : Option FieldType} {pc pn idx : Nat} {lo : List (Option Value)} {st : List Value} {M : zh_M} {P : Option Value → List zh_LC → zh_M → Prop} {o : Nat} {a1 : Int32} {a2 : Int32} {K : Int32 → zh_M → Prop} (hp : pc + 3 = pn) (hd : decode cc pc = .ok (.invokevirtual idx, 3)) (m1 : Cond.methodLink y.cls idx yX2_waitsAt ∈ zh_WS) (zo : zf_Fiber o) (hsc : ∀ base b, ((st.map (zh_tr base b)).map fun v => v.category).sum ≤ 8) (h : wp_X2_waitsAt M o a1 a2 K) (kk : ∀ r M1, K r M1 → zh_W X (d + 1) y cc nL rt pn lo (.int r :: st) zh_LL M1 0 0 P) : zh_W X (d + 1) y cc nL rt pc lo (.int a2 :: .int a1 :: .ref o :: st) zh_LL M 0 0 P := by
  refine zh_callV (bc := 0) (bs := 0) (bc' := 0) (bs' := 0) (as := [.int a1, .int a2]) (st := st) hp hd (at_Fiber zo) (by decide) rfl rfl m1 me_X2_waitsAt.1 me_X2_waitsAt.2.1 me_X2_waitsAt.2.2.1 me_X2_waitsAt.2.2.2 ⟨by decide, by decide, by decide⟩ (by show _ = some 2; decide +kernel) (by intro v hv; simp only [List.mem_cons, List.not_mem_nil, or_false] at hv; rcases hv with rfl | rfl <;> (intro _ _; rfl)) hsc (Nat.le_of_ble_eq_true rfl) (by decide) (wk_X2_waitsAt zo h) (fun r L' M' q => ?_) (fun r L' M' q => ?_)
  · obtain ⟨v, -, rfl, q⟩ := q; rfl
  · obtain ⟨v, rfl, rfl, q⟩ := q; exact kk v M' q
set_option maxRecDepth 100000 in
set_option maxHeartbeats 4000000 in
theorem wkl_X4_firstWaiting_5 {X : Nat × (Nat → Int32)} {d : Nat} {P : Option Nat → zh_M → Prop} {l1 : Int32} {l2 : Int32} : ∀ (n : Nat) (l3 : Option Nat) (l4 : Int32) (M : zh_M) (w5 : Option Value), wl_X4_firstWaiting_5 l1 l2 P n l3 l4 M → zh_W X (d + 1) yX4_firstWaiting cX4_firstWaiting 6 (some (.object "FiberHeap$Fiber")) 5 [some (.ref 1), some (.int l1), some (.int l2), some (va_rf l3), some (.int l4), w5] [] zh_LL M 0 0 (zh_pq P) := by
  intro n
  induction n with
  | zero => intro l3 l4 M w5 h; exact h.elim
  | succ n ih =>
    intro l3 l4 M w5 h
    unfold wl_X4_firstWaiting_5 at h
    refine zh_iload (pn := 7) rfl dX4_firstWaiting_5 (i := 4) (x := l4) rfl ?_
    refine zh_bipush (pn := 9) rfl dX4_firstWaiting_7 (v := (zI 6)) rfl ?_
    refine zh_icmp_ge (pn := 12) rfl dX4_firstWaiting_9 (tgt := 56) rfl (fun cc1 => ?_) (fun cc1 => ?_)
    · replace h := h.1 cc1
      refine zh_aload_n (pn := 57) rfl dX4_firstWaiting_56 (i := 3) (v := va_rf l3) rfl rfl (zh_rfor l3) ?_
      exact zh_aret (r := l3) dX4_firstWaiting_57 rfl (Or.inl ⟨_, rfl⟩) ⟨_, rfl, rfl, h⟩
    · replace h := h.2 cc1
      refine zh_aload_n (pn := 13) rfl dX4_firstWaiting_12 (i := 0) (v := .ref 1) rfl rfl (Or.inr ⟨_, rfl⟩) ?_
      refine zh_get (pn := 16) rfl dX4_firstWaiting_13 (v := .ref 9) (k := 1) rfl rfl (by decide) (by decide) in_X4 mf_X4_18 rfl ?_
      refine zh_iload (pn := 18) rfl dX4_firstWaiting_16 (i := 4) (x := l4) rfl ?_
      refine zh_aald_Fiber (pn := 19) rfl dX4_firstWaiting_18 h.1 ?_
      have zf1 := zf_of_Fiber h.1
      replace h := h.2
      refine zh_astore (pn := 21) rfl dX4_firstWaiting_19 (i := 5) (lo' := [some (.ref 1), some (.int l1), some (.int l2), some (va_rf l3), some (.int l4), some (.ref (zi_Fiber l4))]) (by decide) (Or.inr ⟨_, rfl⟩) rfl ?_
      refine zh_aload (pn := 23) rfl dX4_firstWaiting_21 (i := 5) (v := .ref (zi_Fiber l4)) rfl (Or.inr ⟨_, rfl⟩) ?_
      refine zh_iload_n (pn := 24) rfl dX4_firstWaiting_23 (i := 1) (x := l1) rfl rfl ?_
      refine zh_iload_n (pn := 25) rfl dX4_firstWaiting_24 (i := 2) (x := l2) rfl rfl ?_
      refine ca_X2_waitsAt (pn := 28) rfl dX4_firstWaiting_25 mc_X4_223 zf1 (fun _ _ => Nat.le_of_ble_eq_true rfl) h (fun r3 M2 h => ?_)
      refine zh_if_eq (pn := 31) rfl dX4_firstWaiting_28 (tgt := 50) rfl (fun cc1 => ?_) (fun cc1 => ?_)
      · replace h := h.1 cc1
        refine zh_iinc (pn := 53) rfl dX4_firstWaiting_50 (i := 4) (x := l4) (v := l4 + (zI 1)) (lo' := [some (.ref 1), some (.int l1), some (.int l2), some (va_rf l3), some (.int (l4 + (zI 1))), some (.ref (zi_Fiber l4))]) rfl rfl (by decide) rfl ?_
        refine zh_goto dX4_firstWaiting_53 (tgt := 5) rfl ?_
        exact ih _ _ _ _ h
      · replace h := h.2 cc1
        refine zh_aload_n (pn := 32) rfl dX4_firstWaiting_31 (i := 3) (v := va_rf l3) rfl rfl (zh_rfor l3) ?_
        refine zh_ifnull (pn := 35) rfl dX4_firstWaiting_32 (tgt := 47) rfl (fun cc1 => ?_) (fun o4 cc1 => ?_)
        · subst cc1
          replace h := h.1 rfl
          refine zh_aload (pn := 49) rfl dX4_firstWaiting_47 (i := 5) (v := .ref (zi_Fiber l4)) rfl (Or.inr ⟨_, rfl⟩) ?_
          refine zh_astore_n (pn := 50) rfl dX4_firstWaiting_49 (i := 3) (lo' := [some (.ref 1), some (.int l1), some (.int l2), some (.ref (zi_Fiber l4)), some (.int l4), some (.ref (zi_Fiber l4))]) rfl (by decide) (Or.inr ⟨_, rfl⟩) rfl ?_
          refine zh_iinc (pn := 53) rfl dX4_firstWaiting_50 (i := 4) (x := l4) (v := l4 + (zI 1)) (lo' := [some (.ref 1), some (.int l1), some (.int l2), some (.ref (zi_Fiber l4)), some (.int (l4 + (zI 1))), some (.ref (zi_Fiber l4))]) rfl rfl (by decide) rfl ?_
          refine zh_goto dX4_firstWaiting_53 (tgt := 5) rfl ?_
          exact ih _ _ _ _ h
        · subst cc1
          obtain ⟨zo4, h⟩ := h.2 o4 rfl
          refine zh_aload (pn := 37) rfl dX4_firstWaiting_35 (i := 5) (v := .ref (zi_Fiber l4)) rfl (Or.inr ⟨_, rfl⟩) ?_
          refine zh_get (pn := 40) rfl dX4_firstWaiting_37 (v := .int (M2 (zi_Fiber l4) 11)) (k := 11) (at_Fiber zf1) rfl (by decide) (by decide) in_X2 mf_X4_226 rfl ?_
          refine zh_aload_n (pn := 41) rfl dX4_firstWaiting_40 (i := 3) (v := .ref o4) rfl rfl (Or.inr ⟨_, rfl⟩) ?_
          refine zh_get (pn := 44) rfl dX4_firstWaiting_41 (v := .int (M2 o4 11)) (k := 11) (at_Fiber zo4) rfl (by decide) (by decide) in_X2 mf_X4_226 rfl ?_
          refine zh_icmp_ge (pn := 47) rfl dX4_firstWaiting_44 (tgt := 50) rfl (fun cc1 => ?_) (fun cc1 => ?_)
          · replace h := h.1 cc1
            refine zh_iinc (pn := 53) rfl dX4_firstWaiting_50 (i := 4) (x := l4) (v := l4 + (zI 1)) (lo' := [some (.ref 1), some (.int l1), some (.int l2), some (.ref o4), some (.int (l4 + (zI 1))), some (.ref (zi_Fiber l4))]) rfl rfl (by decide) rfl ?_
            refine zh_goto dX4_firstWaiting_53 (tgt := 5) rfl ?_
            exact ih _ _ _ _ h
          · replace h := h.2 cc1
            refine zh_aload (pn := 49) rfl dX4_firstWaiting_47 (i := 5) (v := .ref (zi_Fiber l4)) rfl (Or.inr ⟨_, rfl⟩) ?_
            refine zh_astore_n (pn := 50) rfl dX4_firstWaiting_49 (i := 3) (lo' := [some (.ref 1), some (.int l1), some (.int l2), some (.ref (zi_Fiber l4)), some (.int l4), some (.ref (zi_Fiber l4))]) rfl (by decide) (Or.inr ⟨_, rfl⟩) rfl ?_
            refine zh_iinc (pn := 53) rfl dX4_firstWaiting_50 (i := 4) (x := l4) (v := l4 + (zI 1)) (lo' := [some (.ref 1), some (.int l1), some (.int l2), some (.ref (zi_Fiber l4)), some (.int (l4 + (zI 1))), some (.ref (zi_Fiber l4))]) rfl rfl (by decide) rfl ?_
            refine zh_goto dX4_firstWaiting_53 (tgt := 5) rfl ?_
            exact ih _ _ _ _ h
set_option maxRecDepth 100000 in
set_option maxHeartbeats 4000000 in
theorem wk_X4_firstWaiting {X : Nat × (Nat → Int32)} {d : Nat} {M : zh_M} {a1 : Int32} {a2 : Int32} {P : Option Nat → zh_M → Prop} (h : wp_X4_firstWaiting M a1 a2 P) : zh_W X (d + 1) yX4_firstWaiting cX4_firstWaiting 6 (some (.object "FiberHeap$Fiber")) 0 (zh_en [.ref 1, .int a1, .int a2] 6) [] zh_LL M 0 0 (zh_pq P) := by
  unfold wp_X4_firstWaiting at h
  show zh_W X (d + 1) yX4_firstWaiting cX4_firstWaiting 6 (some (.object "FiberHeap$Fiber")) 0 [some (.ref 1), some (.int a1), some (.int a2), none, none, none] [] zh_LL M 0 0 (zh_pq P)
  refine zh_null (pn := 1) rfl dX4_firstWaiting_0 ?_
  refine zh_astore_n (pn := 2) rfl dX4_firstWaiting_1 (i := 3) (lo' := [some (.ref 1), some (.int a1), some (.int a2), some (.null), none, none]) rfl (by decide) (Or.inl rfl) rfl ?_
  refine zh_iconst (pn := 3) rfl dX4_firstWaiting_2 (v := (zI 0)) rfl ?_
  refine zh_istore (pn := 5) rfl dX4_firstWaiting_3 (i := 4) (lo' := [some (.ref 1), some (.int a1), some (.int a2), some (.null), some (.int (zI 0)), none]) (by decide) rfl ?_
  obtain ⟨n5, h⟩ := h
  refine wkl_X4_firstWaiting_5 n5 _ _ _ _ h
set_option maxRecDepth 100000 in
theorem ca_X4_firstWaiting {X : Nat × (Nat → Int32)} {d : Nat} {y : MethodName} {cc : ByteArray} {nL : Nat} {rt : Option FieldType} {pc pn idx : Nat} {lo : List (Option Value)} {st : List Value} {M : zh_M} {P : Option Value → List zh_LC → zh_M → Prop} {a1 : Int32} {a2 : Int32} {K : Option Nat → zh_M → Prop} (hp : pc + 3 = pn) (hd : decode cc pc = .ok (.invokevirtual idx, 3)) (m1 : Cond.methodLink y.cls idx yX4_firstWaiting ∈ zh_WS) (hsc : ∀ base b, ((st.map (zh_tr base b)).map fun v => v.category).sum ≤ 8) (h : wp_X4_firstWaiting M a1 a2 K) (kk : ∀ r M1, K r M1 → zh_W X (d + 2) y cc nL rt pn lo (va_rf r :: st) zh_LL M1 0 0 P) : zh_W X (d + 2) y cc nL rt pc lo (.int a2 :: .int a1 :: .ref 1 :: st) zh_LL M 0 0 P := by
  refine zh_callV (bc := 0) (bs := 0) (bc' := 0) (bs' := 0) (as := [.int a1, .int a2]) (st := st) hp hd rfl (by decide) rfl rfl m1 me_X4_firstWaiting.1 me_X4_firstWaiting.2.1 me_X4_firstWaiting.2.2.1 me_X4_firstWaiting.2.2.2 ⟨by decide, by decide, by decide⟩ (by show _ = some 2; decide +kernel) (by intro v hv; simp only [List.mem_cons, List.not_mem_nil, or_false] at hv; rcases hv with rfl | rfl <;> (intro _ _; rfl)) hsc (Nat.le_of_ble_eq_true rfl) (by decide) (wk_X4_firstWaiting  h) (fun r L' M' q => ?_) (fun r L' M' q => ?_)
  · obtain ⟨v, -, rfl, q⟩ := q; rfl
  · obtain ⟨v, rfl, rfl, q⟩ := q; exact kk v M' q
set_option maxRecDepth 100000 in
set_option maxHeartbeats 4000000 in
theorem wk_X2_endTaking {X : Nat × (Nat → Int32)} {d : Nat} {M : zh_M} {o : Nat} {a1 : Int32} {a2 : Int32} {P : zh_M → Prop} (zo : zf_Fiber o) (h : wp_X2_endTaking M o a1 a2 P) : zh_W X (d + 0) yX2_endTaking cX2_endTaking 3 none 0 (zh_en [.ref o, .int a1, .int a2] 3) [] zh_LL M 0 0 (zh_pv P) := by
  unfold wp_X2_endTaking at h
  show zh_W X (d + 0) yX2_endTaking cX2_endTaking 3 none 0 [some (.ref o), some (.int a1), some (.int a2)] [] zh_LL M 0 0 (zh_pv P)
  refine zh_aload_n (pn := 1) rfl dX2_endTaking_0 (i := 0) (v := .ref o) rfl rfl (Or.inr ⟨_, rfl⟩) ?_
  refine zh_iconst (pn := 2) rfl dX2_endTaking_1 (v := (zI 1)) rfl ?_
  refine zh_put (pn := 5) rfl dX2_endTaking_2 (k := 2) (at_Fiber zo) rfl (by decide) (by decide) in_X2 tyX2_ok nmX2 mf_X2_18 rfl rfl rfl rfl ?_
  obtain ⟨M1, eM1⟩ : ∃ q : zh_M, q = zh_set M o 2 (zI 1) := ⟨_, rfl⟩
  replace h := h M1 eM1
  rw [← eM1]
  refine zh_aload_n (pn := 6) rfl dX2_endTaking_5 (i := 0) (v := .ref o) rfl rfl (Or.inr ⟨_, rfl⟩) ?_
  refine zh_get (pn := 9) rfl dX2_endTaking_6 (v := .ref (o + 1)) (k := 0) (at_Fiber zo) rfl (by decide) (by decide) in_X2 mf_X2_9 rfl ?_
  refine zh_aload_n (pn := 10) rfl dX2_endTaking_9 (i := 0) (v := .ref o) rfl rfl (Or.inr ⟨_, rfl⟩) ?_
  refine zh_get (pn := 13) rfl dX2_endTaking_10 (v := .int (M1 o 8)) (k := 8) (at_Fiber zo) rfl (by decide) (by decide) in_X2 mf_X2_56 rfl ?_
  refine zh_iload_n (pn := 14) rfl dX2_endTaking_13 (i := 1) (x := a1) rfl rfl ?_
  refine zh_iast (pn := 15) rfl dX2_endTaking_14 (at_Fiber_1 zo) h.1 ?_
  obtain ⟨M2, eM2⟩ : ∃ q : zh_M, q = zh_set M1 (o + 1) (M1 o 8).toNatClampNeg a1 := ⟨_, rfl⟩
  replace h := h.2 M2 eM2
  rw [← eM2]
  refine zh_aload_n (pn := 16) rfl dX2_endTaking_15 (i := 0) (v := .ref o) rfl rfl (Or.inr ⟨_, rfl⟩) ?_
  refine zh_iload_n (pn := 17) rfl dX2_endTaking_16 (i := 2) (x := a2) rfl rfl ?_
  refine zh_put (pn := 20) rfl dX2_endTaking_17 (k := 7) (at_Fiber zo) rfl (by decide) (by decide) in_X2 tyX2_ok nmX2 mf_X2_28 rfl rfl rfl rfl ?_
  obtain ⟨M3, eM3⟩ : ∃ q : zh_M, q = zh_set M2 o 7 a2 := ⟨_, rfl⟩
  replace h := h M3 eM3
  rw [← eM3]
  exact zh_vret dX2_endTaking_20 rfl ⟨rfl, rfl, h⟩
set_option maxRecDepth 100000 in
theorem ca_X2_endTaking {X : Nat × (Nat → Int32)} {d : Nat} {y : MethodName} {cc : ByteArray} {nL : Nat} {rt : Option FieldType} {pc pn idx : Nat} {lo : List (Option Value)} {st : List Value} {M : zh_M} {P : Option Value → List zh_LC → zh_M → Prop} {o : Nat} {a1 : Int32} {a2 : Int32} {K : zh_M → Prop} (hp : pc + 3 = pn) (hd : decode cc pc = .ok (.invokevirtual idx, 3)) (m1 : Cond.methodLink y.cls idx yX2_endTaking ∈ zh_WS) (zo : zf_Fiber o) (hsc : ∀ base b, ((st.map (zh_tr base b)).map fun v => v.category).sum ≤ 8) (h : wp_X2_endTaking M o a1 a2 K) (kk : ∀ M1, K M1 → zh_W X (d + 1) y cc nL rt pn lo st zh_LL M1 0 0 P) : zh_W X (d + 1) y cc nL rt pc lo (.int a2 :: .int a1 :: .ref o :: st) zh_LL M 0 0 P := by
  refine zh_callV (bc := 0) (bs := 0) (bc' := 0) (bs' := 0) (as := [.int a1, .int a2]) (st := st) hp hd (at_Fiber zo) (by decide) rfl rfl m1 me_X2_endTaking.1 me_X2_endTaking.2.1 me_X2_endTaking.2.2.1 me_X2_endTaking.2.2.2 ⟨by decide, by decide, by decide⟩ (by show _ = some 2; decide +kernel) (by intro v hv; simp only [List.mem_cons, List.not_mem_nil, or_false] at hv; rcases hv with rfl | rfl <;> (intro _ _; rfl)) hsc (Nat.le_of_ble_eq_true rfl) (by decide) (wk_X2_endTaking zo h) (fun r L' M' q => ?_) (fun r L' M' q => ?_)
  · obtain ⟨-, rfl, q⟩ := q; rfl
  · obtain ⟨rfl, rfl, q⟩ := q; exact kk M' q
set_option maxRecDepth 100000 in
set_option maxHeartbeats 4000000 in
theorem wk_X0_hasSpace {X : Nat × (Nat → Int32)} {d : Nat} {M : zh_M} {o : Nat} {P : Int32 → zh_M → Prop} (zo : zf_Channel o) (h : wp_X0_hasSpace M o P) : zh_W X (d + 0) yX0_hasSpace cX0_hasSpace 1 (some .boolean) 0 (zh_en [.ref o] 1) [] zh_LL M 0 0 (zh_pi P) := by
  unfold wp_X0_hasSpace at h
  show zh_W X (d + 0) yX0_hasSpace cX0_hasSpace 1 (some .boolean) 0 [some (.ref o)] [] zh_LL M 0 0 (zh_pi P)
  refine zh_aload_n (pn := 1) rfl dX0_hasSpace_0 (i := 0) (v := .ref o) rfl rfl (Or.inr ⟨_, rfl⟩) ?_
  refine zh_get (pn := 4) rfl dX0_hasSpace_1 (v := .int (M o 1)) (k := 1) (at_Channel zo) rfl (by decide) (by decide) in_X0 mf_X0_15 rfl ?_
  refine zh_aload_n (pn := 5) rfl dX0_hasSpace_4 (i := 0) (v := .ref o) rfl rfl (Or.inr ⟨_, rfl⟩) ?_
  refine zh_get (pn := 8) rfl dX0_hasSpace_5 (v := .ref (o + 1)) (k := 0) (at_Channel zo) rfl (by decide) (by decide) in_X0 mf_X0_9 rfl ?_
  refine zh_alen (pn := 9) rfl dX0_hasSpace_8 (t := 0) (at_Channel_1 zo) (fun _ => rfl) ?_
  refine zh_icmp_ge (pn := 12) rfl dX0_hasSpace_9 (tgt := 16) rfl (fun cc1 => ?_) (fun cc1 => ?_)
  · replace h := h.1 cc1
    refine zh_iconst (pn := 17) rfl dX0_hasSpace_16 (v := (zI 0)) rfl ?_
    exact zh_iret dX0_hasSpace_17 rfl rfl ⟨_, rfl, rfl, h⟩
  · replace h := h.2 cc1
    refine zh_iconst (pn := 13) rfl dX0_hasSpace_12 (v := (zI 1)) rfl ?_
    refine zh_goto dX0_hasSpace_13 (tgt := 17) rfl ?_
    exact zh_iret dX0_hasSpace_17 rfl rfl ⟨_, rfl, rfl, h⟩
set_option maxRecDepth 100000 in
theorem ca_X0_hasSpace {X : Nat × (Nat → Int32)} {d : Nat} {y : MethodName} {cc : ByteArray} {nL : Nat} {rt : Option FieldType} {pc pn idx : Nat} {lo : List (Option Value)} {st : List Value} {M : zh_M} {P : Option Value → List zh_LC → zh_M → Prop} {o : Nat} {K : Int32 → zh_M → Prop} (hp : pc + 3 = pn) (hd : decode cc pc = .ok (.invokevirtual idx, 3)) (m1 : Cond.methodLink y.cls idx yX0_hasSpace ∈ zh_WS) (zo : zf_Channel o) (hsc : ∀ base b, ((st.map (zh_tr base b)).map fun v => v.category).sum ≤ 8) (h : wp_X0_hasSpace M o K) (kk : ∀ r M1, K r M1 → zh_W X (d + 1) y cc nL rt pn lo (.int r :: st) zh_LL M1 0 0 P) : zh_W X (d + 1) y cc nL rt pc lo (.ref o :: st) zh_LL M 0 0 P := by
  refine zh_callV (bc := 0) (bs := 0) (bc' := 0) (bs' := 0) (as := []) (st := st) hp hd (at_Channel zo) (by decide) rfl rfl m1 me_X0_hasSpace.1 me_X0_hasSpace.2.1 me_X0_hasSpace.2.2.1 me_X0_hasSpace.2.2.2 ⟨by decide, by decide, by decide⟩ (by show _ = some 0; decide +kernel) (fun v hv => by cases hv) hsc (Nat.le_of_ble_eq_true rfl) (by decide) (wk_X0_hasSpace zo h) (fun r L' M' q => ?_) (fun r L' M' q => ?_)
  · obtain ⟨v, -, rfl, q⟩ := q; rfl
  · obtain ⟨v, rfl, rfl, q⟩ := q; exact kk v M' q
set_option maxRecDepth 100000 in
set_option maxHeartbeats 4000000 in
theorem wk_X0_addLast {X : Nat × (Nat → Int32)} {d : Nat} {M : zh_M} {o : Nat} {a1 : Int32} {P : zh_M → Prop} (zo : zf_Channel o) (h : wp_X0_addLast M o a1 P) : zh_W X (d + 1) yX0_addLast cX0_addLast 2 none 0 (zh_en [.ref o, .int a1] 2) [] zh_LL M 0 0 (zh_pv P) := by
  unfold wp_X0_addLast at h
  show zh_W X (d + 1) yX0_addLast cX0_addLast 2 none 0 [some (.ref o), some (.int a1)] [] zh_LL M 0 0 (zh_pv P)
  refine zh_aload_n (pn := 1) rfl dX0_addLast_0 (i := 0) (v := .ref o) rfl rfl (Or.inr ⟨_, rfl⟩) ?_
  refine ca_X0_hasSpace (pn := 4) rfl dX0_addLast_1 mc_X0_19 zo (fun _ _ => Nat.le_of_ble_eq_true rfl) h (fun r2 M1 h => ?_)
  refine zh_if_eq (pn := 7) rfl dX0_addLast_4 (tgt := 27) rfl (fun cc1 => ?_) (fun cc1 => ?_)
  · replace h := h.1 cc1
    exact zh_vret dX0_addLast_27 rfl ⟨rfl, rfl, h⟩
  · replace h := h.2 cc1
    refine zh_aload_n (pn := 8) rfl dX0_addLast_7 (i := 0) (v := .ref o) rfl rfl (Or.inr ⟨_, rfl⟩) ?_
    refine zh_get (pn := 11) rfl dX0_addLast_8 (v := .ref (o + 1)) (k := 0) (at_Channel zo) rfl (by decide) (by decide) in_X0 mf_X0_9 rfl ?_
    refine zh_aload_n (pn := 12) rfl dX0_addLast_11 (i := 0) (v := .ref o) rfl rfl (Or.inr ⟨_, rfl⟩) ?_
    refine zh_get (pn := 15) rfl dX0_addLast_12 (v := .int (M1 o 1)) (k := 1) (at_Channel zo) rfl (by decide) (by decide) in_X0 mf_X0_15 rfl ?_
    refine zh_iload_n (pn := 16) rfl dX0_addLast_15 (i := 1) (x := a1) rfl rfl ?_
    refine zh_iast (pn := 17) rfl dX0_addLast_16 (at_Channel_1 zo) h.1 ?_
    obtain ⟨M3, eM3⟩ : ∃ q : zh_M, q = zh_set M1 (o + 1) (M1 o 1).toNatClampNeg a1 := ⟨_, rfl⟩
    replace h := h.2 M3 eM3
    rw [← eM3]
    refine zh_aload_n (pn := 18) rfl dX0_addLast_17 (i := 0) (v := .ref o) rfl rfl (Or.inr ⟨_, rfl⟩) ?_
    refine zh_dup (pn := 19) rfl dX0_addLast_18 (fun _ _ => rfl) ?_
    refine zh_get (pn := 22) rfl dX0_addLast_19 (v := .int (M3 o 1)) (k := 1) (at_Channel zo) rfl (by decide) (by decide) in_X0 mf_X0_15 rfl ?_
    refine zh_iconst (pn := 23) rfl dX0_addLast_22 (v := (zI 1)) rfl ?_
    refine zh_iadd (pn := 24) rfl dX0_addLast_23 ?_
    refine zh_put (pn := 27) rfl dX0_addLast_24 (k := 1) (at_Channel zo) rfl (by decide) (by decide) in_X0 tyX0_ok nmX0 mf_X0_15 rfl rfl rfl rfl ?_
    obtain ⟨M4, eM4⟩ : ∃ q : zh_M, q = zh_set M3 o 1 ((M3 o 1) + (zI 1)) := ⟨_, rfl⟩
    replace h := h M4 eM4
    rw [← eM4]
    exact zh_vret dX0_addLast_27 rfl ⟨rfl, rfl, h⟩
set_option maxRecDepth 100000 in
theorem ca_X0_addLast {X : Nat × (Nat → Int32)} {d : Nat} {y : MethodName} {cc : ByteArray} {nL : Nat} {rt : Option FieldType} {pc pn idx : Nat} {lo : List (Option Value)} {st : List Value} {M : zh_M} {P : Option Value → List zh_LC → zh_M → Prop} {o : Nat} {a1 : Int32} {K : zh_M → Prop} (hp : pc + 3 = pn) (hd : decode cc pc = .ok (.invokevirtual idx, 3)) (m1 : Cond.methodLink y.cls idx yX0_addLast ∈ zh_WS) (zo : zf_Channel o) (hsc : ∀ base b, ((st.map (zh_tr base b)).map fun v => v.category).sum ≤ 8) (h : wp_X0_addLast M o a1 K) (kk : ∀ M1, K M1 → zh_W X (d + 2) y cc nL rt pn lo st zh_LL M1 0 0 P) : zh_W X (d + 2) y cc nL rt pc lo (.int a1 :: .ref o :: st) zh_LL M 0 0 P := by
  refine zh_callV (bc := 0) (bs := 0) (bc' := 0) (bs' := 0) (as := [.int a1]) (st := st) hp hd (at_Channel zo) (by decide) rfl rfl m1 me_X0_addLast.1 me_X0_addLast.2.1 me_X0_addLast.2.2.1 me_X0_addLast.2.2.2 ⟨by decide, by decide, by decide⟩ (by show _ = some 1; decide +kernel) (by intro v hv; simp only [List.mem_cons, List.not_mem_nil, or_false] at hv; rcases hv with rfl <;> (intro _ _; rfl)) hsc (Nat.le_of_ble_eq_true rfl) (by decide) (wk_X0_addLast zo h) (fun r L' M' q => ?_) (fun r L' M' q => ?_)
  · obtain ⟨-, rfl, q⟩ := q; rfl
  · obtain ⟨rfl, rfl, q⟩ := q; exact kk M' q
set_option maxRecDepth 100000 in
set_option maxHeartbeats 4000000 in
theorem wk_X4_newTicket {X : Nat × (Nat → Int32)} {d : Nat} {M : zh_M} {P : Int32 → zh_M → Prop} (h : wp_X4_newTicket M P) : zh_W X (d + 0) yX4_newTicket cX4_newTicket 1 (some .int) 0 (zh_en [.ref 1] 1) [] zh_LL M 0 0 (zh_pi P) := by
  unfold wp_X4_newTicket at h
  show zh_W X (d + 0) yX4_newTicket cX4_newTicket 1 (some .int) 0 [some (.ref 1)] [] zh_LL M 0 0 (zh_pi P)
  refine zh_aload_n (pn := 1) rfl dX4_newTicket_0 (i := 0) (v := .ref 1) rfl rfl (Or.inr ⟨_, rfl⟩) ?_
  refine zh_dup (pn := 2) rfl dX4_newTicket_1 (fun _ _ => rfl) ?_
  refine zh_get (pn := 5) rfl dX4_newTicket_2 (v := .int (M 1 4)) (k := 4) rfl rfl (by decide) (by decide) in_X4 mf_X4_41 rfl ?_
  refine zh_dup_x1 (pn := 6) rfl dX4_newTicket_5 (fun _ _ => rfl) (fun _ _ => rfl) ?_
  refine zh_iconst (pn := 7) rfl dX4_newTicket_6 (v := (zI 1)) rfl ?_
  refine zh_iadd (pn := 8) rfl dX4_newTicket_7 ?_
  refine zh_put (pn := 11) rfl dX4_newTicket_8 (k := 4) rfl rfl (by decide) (by decide) in_X4 tyX4_ok nmX4 mf_X4_41 rfl rfl rfl rfl ?_
  obtain ⟨M1, eM1⟩ : ∃ q : zh_M, q = zh_set M 1 4 ((M 1 4) + (zI 1)) := ⟨_, rfl⟩
  replace h := h M1 eM1
  rw [← eM1]
  exact zh_iret dX4_newTicket_11 rfl rfl ⟨_, rfl, rfl, h⟩
set_option maxRecDepth 100000 in
theorem ca_X4_newTicket {X : Nat × (Nat → Int32)} {d : Nat} {y : MethodName} {cc : ByteArray} {nL : Nat} {rt : Option FieldType} {pc pn idx : Nat} {lo : List (Option Value)} {st : List Value} {M : zh_M} {P : Option Value → List zh_LC → zh_M → Prop} {K : Int32 → zh_M → Prop} (hp : pc + 3 = pn) (hd : decode cc pc = .ok (.invokevirtual idx, 3)) (m1 : Cond.methodLink y.cls idx yX4_newTicket ∈ zh_WS) (hsc : ∀ base b, ((st.map (zh_tr base b)).map fun v => v.category).sum ≤ 8) (h : wp_X4_newTicket M K) (kk : ∀ r M1, K r M1 → zh_W X (d + 1) y cc nL rt pn lo (.int r :: st) zh_LL M1 0 0 P) : zh_W X (d + 1) y cc nL rt pc lo (.ref 1 :: st) zh_LL M 0 0 P := by
  refine zh_callV (bc := 0) (bs := 0) (bc' := 0) (bs' := 0) (as := []) (st := st) hp hd rfl (by decide) rfl rfl m1 me_X4_newTicket.1 me_X4_newTicket.2.1 me_X4_newTicket.2.2.1 me_X4_newTicket.2.2.2 ⟨by decide, by decide, by decide⟩ (by show _ = some 0; decide +kernel) (fun v hv => by cases hv) hsc (Nat.le_of_ble_eq_true rfl) (by decide) (wk_X4_newTicket  h) (fun r L' M' q => ?_) (fun r L' M' q => ?_)
  · obtain ⟨v, -, rfl, q⟩ := q; rfl
  · obtain ⟨v, rfl, rfl, q⟩ := q; exact kk v M' q
set_option maxRecDepth 100000 in
set_option maxHeartbeats 4000000 in
theorem wk_X2_beginToWait {X : Nat × (Nat → Int32)} {d : Nat} {M : zh_M} {o : Nat} {a1 : Int32} {a2 : Int32} {a3 : Int32} {a4 : Int32} {a5 : Int32} {P : zh_M → Prop} (zo : zf_Fiber o) (h : wp_X2_beginToWait M o a1 a2 a3 a4 a5 P) : zh_W X (d + 1) yX2_beginToWait cX2_beginToWait 6 none 0 (zh_en [.ref o, .int a1, .int a2, .int a3, .int a4, .int a5] 6) [] zh_LL M 0 0 (zh_pv P) := by
  unfold wp_X2_beginToWait at h
  show zh_W X (d + 1) yX2_beginToWait cX2_beginToWait 6 none 0 [some (.ref o), some (.int a1), some (.int a2), some (.int a3), some (.int a4), some (.int a5)] [] zh_LL M 0 0 (zh_pv P)
  refine zh_aload_n (pn := 1) rfl dX2_beginToWait_0 (i := 0) (v := .ref o) rfl rfl (Or.inr ⟨_, rfl⟩) ?_
  refine zh_iload_n (pn := 2) rfl dX2_beginToWait_1 (i := 1) (x := a1) rfl rfl ?_
  refine zh_put (pn := 5) rfl dX2_beginToWait_2 (k := 2) (at_Fiber zo) rfl (by decide) (by decide) in_X2 tyX2_ok nmX2 mf_X2_18 rfl rfl rfl rfl ?_
  obtain ⟨M1, eM1⟩ : ∃ q : zh_M, q = zh_set M o 2 a1 := ⟨_, rfl⟩
  replace h := h M1 eM1
  rw [← eM1]
  refine zh_aload_n (pn := 6) rfl dX2_beginToWait_5 (i := 0) (v := .ref o) rfl rfl (Or.inr ⟨_, rfl⟩) ?_
  refine zh_aload_n (pn := 7) rfl dX2_beginToWait_6 (i := 0) (v := .ref o) rfl rfl (Or.inr ⟨_, rfl⟩) ?_
  refine zh_iload_n (pn := 8) rfl dX2_beginToWait_7 (i := 2) (x := a2) rfl rfl ?_
  refine ca_X2_cellIndex (pn := 11) rfl dX2_beginToWait_8 mc_X2_35 zo (fun _ _ => Nat.le_of_ble_eq_true rfl) h (fun r3 M2 h => ?_)
  refine zh_put (pn := 14) rfl dX2_beginToWait_11 (k := 8) (at_Fiber zo) rfl (by decide) (by decide) in_X2 tyX2_ok nmX2 mf_X2_56 rfl rfl rfl rfl ?_
  obtain ⟨M4, eM4⟩ : ∃ q : zh_M, q = zh_set M2 o 8 r3 := ⟨_, rfl⟩
  replace h := h M4 eM4
  rw [← eM4]
  refine zh_aload_n (pn := 15) rfl dX2_beginToWait_14 (i := 0) (v := .ref o) rfl rfl (Or.inr ⟨_, rfl⟩) ?_
  refine zh_iload_n (pn := 16) rfl dX2_beginToWait_15 (i := 3) (x := a3) rfl rfl ?_
  refine zh_put (pn := 19) rfl dX2_beginToWait_16 (k := 9) (at_Fiber zo) rfl (by decide) (by decide) in_X2 tyX2_ok nmX2 mf_X2_59 rfl rfl rfl rfl ?_
  obtain ⟨M5, eM5⟩ : ∃ q : zh_M, q = zh_set M4 o 9 a3 := ⟨_, rfl⟩
  replace h := h M5 eM5
  rw [← eM5]
  refine zh_aload_n (pn := 20) rfl dX2_beginToWait_19 (i := 0) (v := .ref o) rfl rfl (Or.inr ⟨_, rfl⟩) ?_
  refine zh_iload (pn := 22) rfl dX2_beginToWait_20 (i := 4) (x := a4) rfl ?_
  refine zh_put (pn := 25) rfl dX2_beginToWait_22 (k := 10) (at_Fiber zo) rfl (by decide) (by decide) in_X2 tyX2_ok nmX2 mf_X2_62 rfl rfl rfl rfl ?_
  obtain ⟨M6, eM6⟩ : ∃ q : zh_M, q = zh_set M5 o 10 a4 := ⟨_, rfl⟩
  replace h := h M6 eM6
  rw [← eM6]
  refine zh_aload_n (pn := 26) rfl dX2_beginToWait_25 (i := 0) (v := .ref o) rfl rfl (Or.inr ⟨_, rfl⟩) ?_
  refine zh_iload (pn := 28) rfl dX2_beginToWait_26 (i := 5) (x := a5) rfl ?_
  refine zh_put (pn := 31) rfl dX2_beginToWait_28 (k := 11) (at_Fiber zo) rfl (by decide) (by decide) in_X2 tyX2_ok nmX2 mf_X2_65 rfl rfl rfl rfl ?_
  obtain ⟨M7, eM7⟩ : ∃ q : zh_M, q = zh_set M6 o 11 a5 := ⟨_, rfl⟩
  replace h := h M7 eM7
  rw [← eM7]
  exact zh_vret dX2_beginToWait_31 rfl ⟨rfl, rfl, h⟩
set_option maxRecDepth 100000 in
theorem ca_X2_beginToWait {X : Nat × (Nat → Int32)} {d : Nat} {y : MethodName} {cc : ByteArray} {nL : Nat} {rt : Option FieldType} {pc pn idx : Nat} {lo : List (Option Value)} {st : List Value} {M : zh_M} {P : Option Value → List zh_LC → zh_M → Prop} {o : Nat} {a1 : Int32} {a2 : Int32} {a3 : Int32} {a4 : Int32} {a5 : Int32} {K : zh_M → Prop} (hp : pc + 3 = pn) (hd : decode cc pc = .ok (.invokevirtual idx, 3)) (m1 : Cond.methodLink y.cls idx yX2_beginToWait ∈ zh_WS) (zo : zf_Fiber o) (hsc : ∀ base b, ((st.map (zh_tr base b)).map fun v => v.category).sum ≤ 8) (h : wp_X2_beginToWait M o a1 a2 a3 a4 a5 K) (kk : ∀ M1, K M1 → zh_W X (d + 2) y cc nL rt pn lo st zh_LL M1 0 0 P) : zh_W X (d + 2) y cc nL rt pc lo (.int a5 :: .int a4 :: .int a3 :: .int a2 :: .int a1 :: .ref o :: st) zh_LL M 0 0 P := by
  refine zh_callV (bc := 0) (bs := 0) (bc' := 0) (bs' := 0) (as := [.int a1, .int a2, .int a3, .int a4, .int a5]) (st := st) hp hd (at_Fiber zo) (by decide) rfl rfl m1 me_X2_beginToWait.1 me_X2_beginToWait.2.1 me_X2_beginToWait.2.2.1 me_X2_beginToWait.2.2.2 ⟨by decide, by decide, by decide⟩ (by show _ = some 5; decide +kernel) (by intro v hv; simp only [List.mem_cons, List.not_mem_nil, or_false] at hv; rcases hv with rfl | rfl | rfl | rfl | rfl <;> (intro _ _; rfl)) hsc (Nat.le_of_ble_eq_true rfl) (by decide) (wk_X2_beginToWait zo h) (fun r L' M' q => ?_) (fun r L' M' q => ?_)
  · obtain ⟨-, rfl, q⟩ := q; rfl
  · obtain ⟨rfl, rfl, q⟩ := q; exact kk M' q
set_option maxRecDepth 100000 in
set_option maxHeartbeats 4000000 in
theorem wk_X4_send {X : Nat × (Nat → Int32)} {d : Nat} {M : zh_M} {a1 : Int32} {a2 : Int32} {a3 : Int32} {P : Int32 → zh_M → Prop} (h : wp_X4_send M a1 a2 a3 P) : zh_W X (d + 2) yX4_send cX4_send 7 (some .int) 0 (zh_en [.ref 1, .int a1, .int a2, .int a3] 7) [] zh_LL M 0 0 (zh_pi P) := by
  unfold wp_X4_send at h
  show zh_W X (d + 2) yX4_send cX4_send 7 (some .int) 0 [some (.ref 1), some (.int a1), some (.int a2), some (.int a3), none, none, none] [] zh_LL M 0 0 (zh_pi P)
  refine zh_aload_n (pn := 1) rfl dX4_send_0 (i := 0) (v := .ref 1) rfl rfl (Or.inr ⟨_, rfl⟩) ?_
  refine zh_iload_n (pn := 2) rfl dX4_send_1 (i := 1) (x := a1) rfl rfl ?_
  refine ca_X4_readyFiber (pn := 5) rfl dX4_send_2 mc_X4_48 (fun _ _ => Nat.le_of_ble_eq_true rfl) h (fun r2 M1 h => ?_)
  refine zh_astore (pn := 7) rfl dX4_send_5 (i := 4) (lo' := [some (.ref 1), some (.int a1), some (.int a2), some (.int a3), some (va_rf r2), none, none]) (by decide) (zh_rfor r2) rfl ?_
  refine zh_aload (pn := 9) rfl dX4_send_7 (i := 4) (v := va_rf r2) rfl (zh_rfor r2) ?_
  refine zh_ifnull (pn := 12) rfl dX4_send_9 (tgt := 28) rfl (fun cc1 => ?_) (fun o3 cc1 => ?_)
  · subst cc1
    replace h := h.1 rfl
    refine zh_iconst (pn := 29) rfl dX4_send_28 (v := (zI (-1))) rfl ?_
    exact zh_iret dX4_send_29 rfl rfl ⟨_, rfl, rfl, h⟩
  · subst cc1
    obtain ⟨zo3, h⟩ := h.2 o3 rfl
    refine zh_aload (pn := 14) rfl dX4_send_12 (i := 4) (v := .ref o3) rfl (Or.inr ⟨_, rfl⟩) ?_
    refine zh_iload_n (pn := 15) rfl dX4_send_14 (i := 2) (x := a2) rfl rfl ?_
    refine ca_X2_isCell (pn := 18) rfl dX4_send_15 mc_X4_89 zo3 (fun _ _ => Nat.le_of_ble_eq_true rfl) h (fun r5 M4 h => ?_)
    refine zh_if_eq (pn := 21) rfl dX4_send_18 (tgt := 28) rfl (fun cc1 => ?_) (fun cc1 => ?_)
    · replace h := h.1 cc1
      refine zh_iconst (pn := 29) rfl dX4_send_28 (v := (zI (-1))) rfl ?_
      exact zh_iret dX4_send_29 rfl rfl ⟨_, rfl, rfl, h⟩
    · replace h := h.2 cc1
      refine zh_iload_n (pn := 22) rfl dX4_send_21 (i := 3) (x := a3) rfl rfl ?_
      refine ca_X4_isChannel (pn := 25) rfl dX4_send_22 mc_X4_123 (fun _ _ => Nat.le_of_ble_eq_true rfl) h (fun r7 M6 h => ?_)
      refine zh_if_ne (pn := 28) rfl dX4_send_25 (tgt := 30) rfl (fun cc1 => ?_) (fun cc1 => ?_)
      · replace h := h.1 cc1
        refine zh_aload (pn := 32) rfl dX4_send_30 (i := 4) (v := .ref o3) rfl (Or.inr ⟨_, rfl⟩) ?_
        refine zh_iload_n (pn := 33) rfl dX4_send_32 (i := 2) (x := a2) rfl rfl ?_
        refine ca_X2_pointerFrom (pn := 36) rfl dX4_send_33 mc_X4_60 zo3 (fun _ _ => Nat.le_of_ble_eq_true rfl) h (fun r9 M8 h => ?_)
        refine zh_istore (pn := 38) rfl dX4_send_36 (i := 5) (lo' := [some (.ref 1), some (.int a1), some (.int a2), some (.int a3), some (.ref o3), some (.int r9), none]) (by decide) rfl ?_
        refine zh_aload_n (pn := 39) rfl dX4_send_38 (i := 0) (v := .ref 1) rfl rfl (Or.inr ⟨_, rfl⟩) ?_
        refine zh_iconst (pn := 40) rfl dX4_send_39 (v := (zI 3)) rfl ?_
        refine zh_iload_n (pn := 41) rfl dX4_send_40 (i := 3) (x := a3) rfl rfl ?_
        refine ca_X4_firstWaiting (pn := 44) rfl dX4_send_41 mc_X4_126 (fun _ _ => Nat.le_of_ble_eq_true rfl) h (fun r11 M10 h => ?_)
        refine zh_astore (pn := 46) rfl dX4_send_44 (i := 6) (lo' := [some (.ref 1), some (.int a1), some (.int a2), some (.int a3), some (.ref o3), some (.int r9), some (va_rf r11)]) (by decide) (zh_rfor r11) rfl ?_
        refine zh_aload (pn := 48) rfl dX4_send_46 (i := 6) (v := va_rf r11) rfl (zh_rfor r11) ?_
        refine zh_ifnull (pn := 51) rfl dX4_send_48 (tgt := 70) rfl (fun cc1 => ?_) (fun o12 cc1 => ?_)
        · subst cc1
          replace h := h.1 rfl
          refine zh_aload_n (pn := 71) rfl dX4_send_70 (i := 0) (v := .ref 1) rfl rfl (Or.inr ⟨_, rfl⟩) ?_
          refine zh_get (pn := 74) rfl dX4_send_71 (v := .ref 28) (k := 2) rfl rfl (by decide) (by decide) in_X4 mf_X4_25 rfl ?_
          refine zh_iload_n (pn := 75) rfl dX4_send_74 (i := 3) (x := a3) rfl rfl ?_
          refine zh_aald_Channel (pn := 76) rfl dX4_send_75 h.1 ?_
          have zf13 := zf_of_Channel h.1
          replace h := h.2
          refine ca_X0_hasSpace (pn := 79) rfl dX4_send_76 mc_X4_133 zf13 (fun _ _ => Nat.le_of_ble_eq_true rfl) h (fun r15 M14 h => ?_)
          refine zh_if_eq (pn := 82) rfl dX4_send_79 (tgt := 104) rfl (fun cc1 => ?_) (fun cc1 => ?_)
          · replace h := h.1 cc1
            refine zh_aload (pn := 106) rfl dX4_send_104 (i := 4) (v := .ref o3) rfl (Or.inr ⟨_, rfl⟩) ?_
            refine zh_iconst (pn := 107) rfl dX4_send_106 (v := (zI 2)) rfl ?_
            refine zh_iload_n (pn := 108) rfl dX4_send_107 (i := 2) (x := a2) rfl rfl ?_
            refine zh_iload_n (pn := 109) rfl dX4_send_108 (i := 3) (x := a3) rfl rfl ?_
            refine zh_iload_n (pn := 110) rfl dX4_send_109 (i := 3) (x := a3) rfl rfl ?_
            refine zh_aload_n (pn := 111) rfl dX4_send_110 (i := 0) (v := .ref 1) rfl rfl (Or.inr ⟨_, rfl⟩) ?_
            refine ca_X4_newTicket (pn := 114) rfl dX4_send_111 mc_X4_140 (fun _ _ => Nat.le_of_ble_eq_true rfl) h (fun r17 M16 h => ?_)
            refine ca_X2_beginToWait (pn := 117) rfl dX4_send_114 mc_X4_143 zo3 (fun _ _ => Nat.le_of_ble_eq_true rfl) h (fun M18 h => ?_)
            refine zh_iconst (pn := 118) rfl dX4_send_117 (v := (zI 4)) rfl ?_
            exact zh_iret dX4_send_118 rfl rfl ⟨_, rfl, rfl, h⟩
          · replace h := h.2 cc1
            refine zh_aload_n (pn := 83) rfl dX4_send_82 (i := 0) (v := .ref 1) rfl rfl (Or.inr ⟨_, rfl⟩) ?_
            refine zh_get (pn := 86) rfl dX4_send_83 (v := .ref 37) (k := 3) rfl rfl (by decide) (by decide) in_X4 mf_X4_37 rfl ?_
            refine zh_iload (pn := 88) rfl dX4_send_86 (i := 5) (x := r9) rfl ?_
            refine ca_X1_note (pn := 91) rfl dX4_send_88 mc_X4_116 (fun _ _ => Nat.le_of_ble_eq_true rfl) h (fun M19 h => ?_)
            refine zh_aload_n (pn := 92) rfl dX4_send_91 (i := 0) (v := .ref 1) rfl rfl (Or.inr ⟨_, rfl⟩) ?_
            refine zh_get (pn := 95) rfl dX4_send_92 (v := .ref 28) (k := 2) rfl rfl (by decide) (by decide) in_X4 mf_X4_25 rfl ?_
            refine zh_iload_n (pn := 96) rfl dX4_send_95 (i := 3) (x := a3) rfl rfl ?_
            refine zh_aald_Channel (pn := 97) rfl dX4_send_96 h.1 ?_
            have zf20 := zf_of_Channel h.1
            replace h := h.2
            refine zh_iload (pn := 99) rfl dX4_send_97 (i := 5) (x := r9) rfl ?_
            refine ca_X0_addLast (pn := 102) rfl dX4_send_99 mc_X4_137 zf20 (fun _ _ => Nat.le_of_ble_eq_true rfl) h (fun M21 h => ?_)
            refine zh_iload_n (pn := 103) rfl dX4_send_102 (i := 3) (x := a3) rfl rfl ?_
            exact zh_iret dX4_send_103 rfl rfl ⟨_, rfl, rfl, h⟩
        · subst cc1
          obtain ⟨zo12, h⟩ := h.2 o12 rfl
          refine zh_aload_n (pn := 52) rfl dX4_send_51 (i := 0) (v := .ref 1) rfl rfl (Or.inr ⟨_, rfl⟩) ?_
          refine zh_get (pn := 55) rfl dX4_send_52 (v := .ref 37) (k := 3) rfl rfl (by decide) (by decide) in_X4 mf_X4_37 rfl ?_
          refine zh_iload (pn := 57) rfl dX4_send_55 (i := 5) (x := r9) rfl ?_
          refine ca_X1_note (pn := 60) rfl dX4_send_57 mc_X4_116 (fun _ _ => Nat.le_of_ble_eq_true rfl) h (fun M22 h => ?_)
          refine zh_aload (pn := 62) rfl dX4_send_60 (i := 6) (v := .ref o12) rfl (Or.inr ⟨_, rfl⟩) ?_
          refine zh_iload (pn := 64) rfl dX4_send_62 (i := 5) (x := r9) rfl ?_
          refine zh_iload_n (pn := 65) rfl dX4_send_64 (i := 3) (x := a3) rfl rfl ?_
          refine ca_X2_endTaking (pn := 68) rfl dX4_send_65 mc_X4_130 zo12 (fun _ _ => Nat.le_of_ble_eq_true rfl) h (fun M23 h => ?_)
          refine zh_iload_n (pn := 69) rfl dX4_send_68 (i := 3) (x := a3) rfl rfl ?_
          exact zh_iret dX4_send_69 rfl rfl ⟨_, rfl, rfl, h⟩
      · replace h := h.2 cc1
        refine zh_iconst (pn := 29) rfl dX4_send_28 (v := (zI (-1))) rfl ?_
        exact zh_iret dX4_send_29 rfl rfl ⟨_, rfl, rfl, h⟩
set_option maxRecDepth 100000 in
theorem ca_X4_send {X : Nat × (Nat → Int32)} {d : Nat} {y : MethodName} {cc : ByteArray} {nL : Nat} {rt : Option FieldType} {pc pn idx : Nat} {lo : List (Option Value)} {st : List Value} {M : zh_M} {P : Option Value → List zh_LC → zh_M → Prop} {a1 : Int32} {a2 : Int32} {a3 : Int32} {K : Int32 → zh_M → Prop} (hp : pc + 3 = pn) (hd : decode cc pc = .ok (.invokevirtual idx, 3)) (m1 : Cond.methodLink y.cls idx yX4_send ∈ zh_WS) (hsc : ∀ base b, ((st.map (zh_tr base b)).map fun v => v.category).sum ≤ 8) (h : wp_X4_send M a1 a2 a3 K) (kk : ∀ r M1, K r M1 → zh_W X (d + 3) y cc nL rt pn lo (.int r :: st) zh_LL M1 0 0 P) : zh_W X (d + 3) y cc nL rt pc lo (.int a3 :: .int a2 :: .int a1 :: .ref 1 :: st) zh_LL M 0 0 P := by
  refine zh_callV (bc := 0) (bs := 0) (bc' := 0) (bs' := 0) (as := [.int a1, .int a2, .int a3]) (st := st) hp hd rfl (by decide) rfl rfl m1 me_X4_send.1 me_X4_send.2.1 me_X4_send.2.2.1 me_X4_send.2.2.2 ⟨by decide, by decide, by decide⟩ (by show _ = some 3; decide +kernel) (by intro v hv; simp only [List.mem_cons, List.not_mem_nil, or_false] at hv; rcases hv with rfl | rfl | rfl <;> (intro _ _; rfl)) hsc (Nat.le_of_ble_eq_true rfl) (by decide) (wk_X4_send  h) (fun r L' M' q => ?_) (fun r L' M' q => ?_)
  · obtain ⟨v, -, rfl, q⟩ := q; rfl
  · obtain ⟨v, rfl, rfl, q⟩ := q; exact kk v M' q
set_option maxRecDepth 100000 in
set_option maxHeartbeats 4000000 in
theorem wk_X4_canGive {X : Nat × (Nat → Int32)} {d : Nat} {M : zh_M} {a1 : Int32} {P : Int32 → zh_M → Prop} (h : wp_X4_canGive M a1 P) : zh_W X (d + 2) yX4_canGive cX4_canGive 2 (some .boolean) 0 (zh_en [.ref 1, .int a1] 2) [] zh_LL M 0 0 (zh_pi P) := by
  unfold wp_X4_canGive at h
  show zh_W X (d + 2) yX4_canGive cX4_canGive 2 (some .boolean) 0 [some (.ref 1), some (.int a1)] [] zh_LL M 0 0 (zh_pi P)
  refine zh_aload_n (pn := 1) rfl dX4_canGive_0 (i := 0) (v := .ref 1) rfl rfl (Or.inr ⟨_, rfl⟩) ?_
  refine zh_get (pn := 4) rfl dX4_canGive_1 (v := .ref 28) (k := 2) rfl rfl (by decide) (by decide) in_X4 mf_X4_25 rfl ?_
  refine zh_iload_n (pn := 5) rfl dX4_canGive_4 (i := 1) (x := a1) rfl rfl ?_
  refine zh_aald_Channel (pn := 6) rfl dX4_canGive_5 h.1 ?_
  have zf1 := zf_of_Channel h.1
  replace h := h.2
  refine zh_get (pn := 9) rfl dX4_canGive_6 (v := .int (M (zi_Channel a1) 1)) (k := 1) (at_Channel zf1) rfl (by decide) (by decide) in_X0 mf_X4_229 rfl ?_
  refine zh_if_gt (pn := 12) rfl dX4_canGive_9 (tgt := 21) rfl (fun cc1 => ?_) (fun cc1 => ?_)
  · replace h := h.1 cc1
    refine zh_iconst (pn := 22) rfl dX4_canGive_21 (v := (zI 1)) rfl ?_
    refine zh_goto dX4_canGive_22 (tgt := 26) rfl ?_
    exact zh_iret dX4_canGive_26 rfl rfl ⟨_, rfl, rfl, h⟩
  · replace h := h.2 cc1
    refine zh_aload_n (pn := 13) rfl dX4_canGive_12 (i := 0) (v := .ref 1) rfl rfl (Or.inr ⟨_, rfl⟩) ?_
    refine zh_iconst (pn := 14) rfl dX4_canGive_13 (v := (zI 2)) rfl ?_
    refine zh_iload_n (pn := 15) rfl dX4_canGive_14 (i := 1) (x := a1) rfl rfl ?_
    refine ca_X4_firstWaiting (pn := 18) rfl dX4_canGive_15 mc_X4_126 (fun _ _ => Nat.le_of_ble_eq_true rfl) h (fun r3 M2 h => ?_)
    refine zh_ifnull (pn := 21) rfl dX4_canGive_18 (tgt := 25) rfl (fun cc1 => ?_) (fun o4 cc1 => ?_)
    · subst cc1
      replace h := h.1 rfl
      refine zh_iconst (pn := 26) rfl dX4_canGive_25 (v := (zI 0)) rfl ?_
      exact zh_iret dX4_canGive_26 rfl rfl ⟨_, rfl, rfl, h⟩
    · subst cc1
      obtain ⟨zo4, h⟩ := h.2 o4 rfl
      refine zh_iconst (pn := 22) rfl dX4_canGive_21 (v := (zI 1)) rfl ?_
      refine zh_goto dX4_canGive_22 (tgt := 26) rfl ?_
      exact zh_iret dX4_canGive_26 rfl rfl ⟨_, rfl, rfl, h⟩
set_option maxRecDepth 100000 in
theorem ca_X4_canGive {X : Nat × (Nat → Int32)} {d : Nat} {y : MethodName} {cc : ByteArray} {nL : Nat} {rt : Option FieldType} {pc pn idx : Nat} {lo : List (Option Value)} {st : List Value} {M : zh_M} {P : Option Value → List zh_LC → zh_M → Prop} {a1 : Int32} {K : Int32 → zh_M → Prop} (hp : pc + 3 = pn) (hd : decode cc pc = .ok (.invokevirtual idx, 3)) (m1 : Cond.methodLink y.cls idx yX4_canGive ∈ zh_WS) (hsc : ∀ base b, ((st.map (zh_tr base b)).map fun v => v.category).sum ≤ 8) (h : wp_X4_canGive M a1 K) (kk : ∀ r M1, K r M1 → zh_W X (d + 3) y cc nL rt pn lo (.int r :: st) zh_LL M1 0 0 P) : zh_W X (d + 3) y cc nL rt pc lo (.int a1 :: .ref 1 :: st) zh_LL M 0 0 P := by
  refine zh_callV (bc := 0) (bs := 0) (bc' := 0) (bs' := 0) (as := [.int a1]) (st := st) hp hd rfl (by decide) rfl rfl m1 me_X4_canGive.1 me_X4_canGive.2.1 me_X4_canGive.2.2.1 me_X4_canGive.2.2.2 ⟨by decide, by decide, by decide⟩ (by show _ = some 1; decide +kernel) (by intro v hv; simp only [List.mem_cons, List.not_mem_nil, or_false] at hv; rcases hv with rfl <;> (intro _ _; rfl)) hsc (Nat.le_of_ble_eq_true rfl) (by decide) (wk_X4_canGive  h) (fun r L' M' q => ?_) (fun r L' M' q => ?_)
  · obtain ⟨v, -, rfl, q⟩ := q; rfl
  · obtain ⟨v, rfl, rfl, q⟩ := q; exact kk v M' q
set_option maxRecDepth 100000 in
set_option maxHeartbeats 4000000 in
theorem wk_X2_endSending {X : Nat × (Nat → Int32)} {d : Nat} {M : zh_M} {o : Nat} {P : Int32 → zh_M → Prop} (zo : zf_Fiber o) (h : wp_X2_endSending M o P) : zh_W X (d + 0) yX2_endSending cX2_endSending 1 (some .int) 0 (zh_en [.ref o] 1) [] zh_LL M 0 0 (zh_pi P) := by
  unfold wp_X2_endSending at h
  show zh_W X (d + 0) yX2_endSending cX2_endSending 1 (some .int) 0 [some (.ref o)] [] zh_LL M 0 0 (zh_pi P)
  refine zh_aload_n (pn := 1) rfl dX2_endSending_0 (i := 0) (v := .ref o) rfl rfl (Or.inr ⟨_, rfl⟩) ?_
  refine zh_iconst (pn := 2) rfl dX2_endSending_1 (v := (zI 1)) rfl ?_
  refine zh_put (pn := 5) rfl dX2_endSending_2 (k := 2) (at_Fiber zo) rfl (by decide) (by decide) in_X2 tyX2_ok nmX2 mf_X2_18 rfl rfl rfl rfl ?_
  obtain ⟨M1, eM1⟩ : ∃ q : zh_M, q = zh_set M o 2 (zI 1) := ⟨_, rfl⟩
  replace h := h M1 eM1
  rw [← eM1]
  refine zh_aload_n (pn := 6) rfl dX2_endSending_5 (i := 0) (v := .ref o) rfl rfl (Or.inr ⟨_, rfl⟩) ?_
  refine zh_get (pn := 9) rfl dX2_endSending_6 (v := .ref (o + 1)) (k := 0) (at_Fiber zo) rfl (by decide) (by decide) in_X2 mf_X2_9 rfl ?_
  refine zh_aload_n (pn := 10) rfl dX2_endSending_9 (i := 0) (v := .ref o) rfl rfl (Or.inr ⟨_, rfl⟩) ?_
  refine zh_get (pn := 13) rfl dX2_endSending_10 (v := .int (M1 o 8)) (k := 8) (at_Fiber zo) rfl (by decide) (by decide) in_X2 mf_X2_56 rfl ?_
  refine zh_iald (pn := 14) rfl dX2_endSending_13 (at_Fiber_1 zo) h.1 ?_
  replace h := h.2
  exact zh_iret dX2_endSending_14 rfl rfl ⟨_, rfl, rfl, h⟩
set_option maxRecDepth 100000 in
theorem ca_X2_endSending {X : Nat × (Nat → Int32)} {d : Nat} {y : MethodName} {cc : ByteArray} {nL : Nat} {rt : Option FieldType} {pc pn idx : Nat} {lo : List (Option Value)} {st : List Value} {M : zh_M} {P : Option Value → List zh_LC → zh_M → Prop} {o : Nat} {K : Int32 → zh_M → Prop} (hp : pc + 3 = pn) (hd : decode cc pc = .ok (.invokevirtual idx, 3)) (m1 : Cond.methodLink y.cls idx yX2_endSending ∈ zh_WS) (zo : zf_Fiber o) (hsc : ∀ base b, ((st.map (zh_tr base b)).map fun v => v.category).sum ≤ 8) (h : wp_X2_endSending M o K) (kk : ∀ r M1, K r M1 → zh_W X (d + 1) y cc nL rt pn lo (.int r :: st) zh_LL M1 0 0 P) : zh_W X (d + 1) y cc nL rt pc lo (.ref o :: st) zh_LL M 0 0 P := by
  refine zh_callV (bc := 0) (bs := 0) (bc' := 0) (bs' := 0) (as := []) (st := st) hp hd (at_Fiber zo) (by decide) rfl rfl m1 me_X2_endSending.1 me_X2_endSending.2.1 me_X2_endSending.2.2.1 me_X2_endSending.2.2.2 ⟨by decide, by decide, by decide⟩ (by show _ = some 0; decide +kernel) (fun v hv => by cases hv) hsc (Nat.le_of_ble_eq_true rfl) (by decide) (wk_X2_endSending zo h) (fun r L' M' q => ?_) (fun r L' M' q => ?_)
  · obtain ⟨v, -, rfl, q⟩ := q; rfl
  · obtain ⟨v, rfl, rfl, q⟩ := q; exact kk v M' q
set_option maxRecDepth 100000 in
set_option maxHeartbeats 4000000 in
theorem wkl_X0_removeFirst_28 {X : Nat × (Nat → Int32)} {d : Nat} {P : Int32 → zh_M → Prop} {l0 : Nat} {l1 : Int32} (z0 : zf_Channel l0) : ∀ (n : Nat) (l2 : Int32) (M : zh_M) , wl_X0_removeFirst_28 l0 l1 P n l2 M → zh_W X (d + 0) yX0_removeFirst cX0_removeFirst 3 (some .int) 28 [some (.ref l0), some (.int l1), some (.int l2)] [] zh_LL M 0 0 (zh_pi P) := by
  intro n
  induction n with
  | zero => intro l2 M  h; exact h.elim
  | succ n ih =>
    intro l2 M  h
    unfold wl_X0_removeFirst_28 at h
    refine zh_iload_n (pn := 29) rfl dX0_removeFirst_28 (i := 2) (x := l2) rfl rfl ?_
    refine zh_aload_n (pn := 30) rfl dX0_removeFirst_29 (i := 0) (v := .ref l0) rfl rfl (Or.inr ⟨_, rfl⟩) ?_
    refine zh_get (pn := 33) rfl dX0_removeFirst_30 (v := .int (M l0 1)) (k := 1) (at_Channel z0) rfl (by decide) (by decide) in_X0 mf_X0_15 rfl ?_
    refine zh_icmp_ge (pn := 36) rfl dX0_removeFirst_33 (tgt := 56) rfl (fun cc1 => ?_) (fun cc1 => ?_)
    · replace h := h.1 cc1
      refine zh_iload_n (pn := 57) rfl dX0_removeFirst_56 (i := 1) (x := l1) rfl rfl ?_
      exact zh_iret dX0_removeFirst_57 rfl rfl ⟨_, rfl, rfl, h⟩
    · replace h := h.2 cc1
      refine zh_aload_n (pn := 37) rfl dX0_removeFirst_36 (i := 0) (v := .ref l0) rfl rfl (Or.inr ⟨_, rfl⟩) ?_
      refine zh_get (pn := 40) rfl dX0_removeFirst_37 (v := .ref (l0 + 1)) (k := 0) (at_Channel z0) rfl (by decide) (by decide) in_X0 mf_X0_9 rfl ?_
      refine zh_iload_n (pn := 41) rfl dX0_removeFirst_40 (i := 2) (x := l2) rfl rfl ?_
      refine zh_aload_n (pn := 42) rfl dX0_removeFirst_41 (i := 0) (v := .ref l0) rfl rfl (Or.inr ⟨_, rfl⟩) ?_
      refine zh_get (pn := 45) rfl dX0_removeFirst_42 (v := .ref (l0 + 1)) (k := 0) (at_Channel z0) rfl (by decide) (by decide) in_X0 mf_X0_9 rfl ?_
      refine zh_iload_n (pn := 46) rfl dX0_removeFirst_45 (i := 2) (x := l2) rfl rfl ?_
      refine zh_iconst (pn := 47) rfl dX0_removeFirst_46 (v := (zI 1)) rfl ?_
      refine zh_iadd (pn := 48) rfl dX0_removeFirst_47 ?_
      refine zh_iald (pn := 49) rfl dX0_removeFirst_48 (at_Channel_1 z0) h.1 ?_
      replace h := h.2
      refine zh_iast (pn := 50) rfl dX0_removeFirst_49 (at_Channel_1 z0) h.1 ?_
      obtain ⟨M2, eM2⟩ : ∃ q : zh_M, q = zh_set M (l0 + 1) l2.toNatClampNeg (M (l0 + 1) (l2 + (zI 1)).toNatClampNeg) := ⟨_, rfl⟩
      replace h := h.2 M2 eM2
      rw [← eM2]
      refine zh_iinc (pn := 53) rfl dX0_removeFirst_50 (i := 2) (x := l2) (v := l2 + (zI 1)) (lo' := [some (.ref l0), some (.int l1), some (.int (l2 + (zI 1)))]) rfl rfl (by decide) rfl ?_
      refine zh_goto dX0_removeFirst_53 (tgt := 28) rfl ?_
      exact ih _ _ h
set_option maxRecDepth 100000 in
set_option maxHeartbeats 4000000 in
theorem wk_X0_removeFirst {X : Nat × (Nat → Int32)} {d : Nat} {M : zh_M} {o : Nat} {P : Int32 → zh_M → Prop} (zo : zf_Channel o) (h : wp_X0_removeFirst M o P) : zh_W X (d + 0) yX0_removeFirst cX0_removeFirst 3 (some .int) 0 (zh_en [.ref o] 3) [] zh_LL M 0 0 (zh_pi P) := by
  unfold wp_X0_removeFirst at h
  show zh_W X (d + 0) yX0_removeFirst cX0_removeFirst 3 (some .int) 0 [some (.ref o), none, none] [] zh_LL M 0 0 (zh_pi P)
  refine zh_aload_n (pn := 1) rfl dX0_removeFirst_0 (i := 0) (v := .ref o) rfl rfl (Or.inr ⟨_, rfl⟩) ?_
  refine zh_get (pn := 4) rfl dX0_removeFirst_1 (v := .int (M o 1)) (k := 1) (at_Channel zo) rfl (by decide) (by decide) in_X0 mf_X0_15 rfl ?_
  refine zh_if_ne (pn := 7) rfl dX0_removeFirst_4 (tgt := 9) rfl (fun cc1 => ?_) (fun cc1 => ?_)
  · replace h := h.1 cc1
    refine zh_aload_n (pn := 10) rfl dX0_removeFirst_9 (i := 0) (v := .ref o) rfl rfl (Or.inr ⟨_, rfl⟩) ?_
    refine zh_get (pn := 13) rfl dX0_removeFirst_10 (v := .ref (o + 1)) (k := 0) (at_Channel zo) rfl (by decide) (by decide) in_X0 mf_X0_9 rfl ?_
    refine zh_iconst (pn := 14) rfl dX0_removeFirst_13 (v := (zI 0)) rfl ?_
    refine zh_iald (pn := 15) rfl dX0_removeFirst_14 (at_Channel_1 zo) h.1 ?_
    replace h := h.2
    refine zh_istore_n (pn := 16) rfl dX0_removeFirst_15 (i := 1) (lo' := [some (.ref o), some (.int (M (o + 1) ((zI 0) : Int32).toNatClampNeg)), none]) rfl (by decide) rfl ?_
    refine zh_aload_n (pn := 17) rfl dX0_removeFirst_16 (i := 0) (v := .ref o) rfl rfl (Or.inr ⟨_, rfl⟩) ?_
    refine zh_dup (pn := 18) rfl dX0_removeFirst_17 (fun _ _ => rfl) ?_
    refine zh_get (pn := 21) rfl dX0_removeFirst_18 (v := .int (M o 1)) (k := 1) (at_Channel zo) rfl (by decide) (by decide) in_X0 mf_X0_15 rfl ?_
    refine zh_iconst (pn := 22) rfl dX0_removeFirst_21 (v := (zI 1)) rfl ?_
    refine zh_isub (pn := 23) rfl dX0_removeFirst_22 ?_
    refine zh_put (pn := 26) rfl dX0_removeFirst_23 (k := 1) (at_Channel zo) rfl (by decide) (by decide) in_X0 tyX0_ok nmX0 mf_X0_15 rfl rfl rfl rfl ?_
    obtain ⟨M1, eM1⟩ : ∃ q : zh_M, q = zh_set M o 1 ((M o 1) - (zI 1)) := ⟨_, rfl⟩
    replace h := h M1 eM1
    rw [← eM1]
    refine zh_iconst (pn := 27) rfl dX0_removeFirst_26 (v := (zI 0)) rfl ?_
    refine zh_istore_n (pn := 28) rfl dX0_removeFirst_27 (i := 2) (lo' := [some (.ref o), some (.int (M (o + 1) ((zI 0) : Int32).toNatClampNeg)), some (.int (zI 0))]) rfl (by decide) rfl ?_
    obtain ⟨n3, h⟩ := h
    refine wkl_X0_removeFirst_28 zo n3 _ _ h
  · replace h := h.2 cc1
    refine zh_iconst (pn := 8) rfl dX0_removeFirst_7 (v := (zI (-1))) rfl ?_
    exact zh_iret dX0_removeFirst_8 rfl rfl ⟨_, rfl, rfl, h⟩
set_option maxRecDepth 100000 in
theorem ca_X0_removeFirst {X : Nat × (Nat → Int32)} {d : Nat} {y : MethodName} {cc : ByteArray} {nL : Nat} {rt : Option FieldType} {pc pn idx : Nat} {lo : List (Option Value)} {st : List Value} {M : zh_M} {P : Option Value → List zh_LC → zh_M → Prop} {o : Nat} {K : Int32 → zh_M → Prop} (hp : pc + 3 = pn) (hd : decode cc pc = .ok (.invokevirtual idx, 3)) (m1 : Cond.methodLink y.cls idx yX0_removeFirst ∈ zh_WS) (zo : zf_Channel o) (hsc : ∀ base b, ((st.map (zh_tr base b)).map fun v => v.category).sum ≤ 8) (h : wp_X0_removeFirst M o K) (kk : ∀ r M1, K r M1 → zh_W X (d + 1) y cc nL rt pn lo (.int r :: st) zh_LL M1 0 0 P) : zh_W X (d + 1) y cc nL rt pc lo (.ref o :: st) zh_LL M 0 0 P := by
  refine zh_callV (bc := 0) (bs := 0) (bc' := 0) (bs' := 0) (as := []) (st := st) hp hd (at_Channel zo) (by decide) rfl rfl m1 me_X0_removeFirst.1 me_X0_removeFirst.2.1 me_X0_removeFirst.2.2.1 me_X0_removeFirst.2.2.2 ⟨by decide, by decide, by decide⟩ (by show _ = some 0; decide +kernel) (fun v hv => by cases hv) hsc (Nat.le_of_ble_eq_true rfl) (by decide) (wk_X0_removeFirst zo h) (fun r L' M' q => ?_) (fun r L' M' q => ?_)
  · obtain ⟨v, -, rfl, q⟩ := q; rfl
  · obtain ⟨v, rfl, rfl, q⟩ := q; exact kk v M' q
set_option maxRecDepth 100000 in
set_option maxHeartbeats 4000000 in
theorem wk_X4_pointerOutOf {X : Nat × (Nat → Int32)} {d : Nat} {M : zh_M} {a1 : Int32} {P : Int32 → zh_M → Prop} (h : wp_X4_pointerOutOf M a1 P) : zh_W X (d + 2) yX4_pointerOutOf cX4_pointerOutOf 6 (some .int) 0 (zh_en [.ref 1, .int a1] 6) [] zh_LL M 0 0 (zh_pi P) := by
  unfold wp_X4_pointerOutOf at h
  show zh_W X (d + 2) yX4_pointerOutOf cX4_pointerOutOf 6 (some .int) 0 [some (.ref 1), some (.int a1), none, none, none, none] [] zh_LL M 0 0 (zh_pi P)
  refine zh_aload_n (pn := 1) rfl dX4_pointerOutOf_0 (i := 0) (v := .ref 1) rfl rfl (Or.inr ⟨_, rfl⟩) ?_
  refine zh_iconst (pn := 2) rfl dX4_pointerOutOf_1 (v := (zI 2)) rfl ?_
  refine zh_iload_n (pn := 3) rfl dX4_pointerOutOf_2 (i := 1) (x := a1) rfl rfl ?_
  refine ca_X4_firstWaiting (pn := 6) rfl dX4_pointerOutOf_3 mc_X4_126 (fun _ _ => Nat.le_of_ble_eq_true rfl) h (fun r2 M1 h => ?_)
  refine zh_astore_n (pn := 7) rfl dX4_pointerOutOf_6 (i := 2) (lo' := [some (.ref 1), some (.int a1), some (va_rf r2), none, none, none]) rfl (by decide) (zh_rfor r2) rfl ?_
  refine zh_aload_n (pn := 8) rfl dX4_pointerOutOf_7 (i := 2) (v := va_rf r2) rfl rfl (zh_rfor r2) ?_
  refine zh_ifnonnull (pn := 11) rfl dX4_pointerOutOf_8 (tgt := 15) rfl (fun o3 cc1 => ?_) (fun cc1 => ?_)
  · subst cc1
    obtain ⟨zo3, h⟩ := h.2 o3 rfl
    refine zh_aload_n (pn := 16) rfl dX4_pointerOutOf_15 (i := 2) (v := .ref o3) rfl rfl (Or.inr ⟨_, rfl⟩) ?_
    refine ca_X2_endSending (pn := 19) rfl dX4_pointerOutOf_16 mc_X4_232 zo3 (fun _ _ => Nat.le_of_ble_eq_true rfl) h (fun r9 M8 h => ?_)
    refine zh_istore_n (pn := 20) rfl dX4_pointerOutOf_19 (i := 3) (lo' := [some (.ref 1), some (.int a1), some (.ref o3), some (.int r9), none, none]) rfl (by decide) rfl ?_
    refine zh_aload_n (pn := 21) rfl dX4_pointerOutOf_20 (i := 0) (v := .ref 1) rfl rfl (Or.inr ⟨_, rfl⟩) ?_
    refine zh_get (pn := 24) rfl dX4_pointerOutOf_21 (v := .ref 37) (k := 3) rfl rfl (by decide) (by decide) in_X4 mf_X4_37 rfl ?_
    refine zh_iload_n (pn := 25) rfl dX4_pointerOutOf_24 (i := 3) (x := r9) rfl rfl ?_
    refine ca_X1_note (pn := 28) rfl dX4_pointerOutOf_25 mc_X4_116 (fun _ _ => Nat.le_of_ble_eq_true rfl) h (fun M10 h => ?_)
    refine zh_aload_n (pn := 29) rfl dX4_pointerOutOf_28 (i := 0) (v := .ref 1) rfl rfl (Or.inr ⟨_, rfl⟩) ?_
    refine zh_get (pn := 32) rfl dX4_pointerOutOf_29 (v := .ref 28) (k := 2) rfl rfl (by decide) (by decide) in_X4 mf_X4_25 rfl ?_
    refine zh_iload_n (pn := 33) rfl dX4_pointerOutOf_32 (i := 1) (x := a1) rfl rfl ?_
    refine zh_aald_Channel (pn := 34) rfl dX4_pointerOutOf_33 h.1 ?_
    have zf11 := zf_of_Channel h.1
    replace h := h.2
    refine zh_astore (pn := 36) rfl dX4_pointerOutOf_34 (i := 4) (lo' := [some (.ref 1), some (.int a1), some (.ref o3), some (.int r9), some (.ref (zi_Channel a1)), none]) (by decide) (Or.inr ⟨_, rfl⟩) rfl ?_
    refine zh_aload (pn := 38) rfl dX4_pointerOutOf_36 (i := 4) (v := .ref (zi_Channel a1)) rfl (Or.inr ⟨_, rfl⟩) ?_
    refine zh_get (pn := 41) rfl dX4_pointerOutOf_38 (v := .int (M10 (zi_Channel a1) 1)) (k := 1) (at_Channel zf11) rfl (by decide) (by decide) in_X0 mf_X4_229 rfl ?_
    refine zh_if_ne (pn := 44) rfl dX4_pointerOutOf_41 (tgt := 46) rfl (fun cc1 => ?_) (fun cc1 => ?_)
    · replace h := h.1 cc1
      refine zh_aload (pn := 48) rfl dX4_pointerOutOf_46 (i := 4) (v := .ref (zi_Channel a1)) rfl (Or.inr ⟨_, rfl⟩) ?_
      refine ca_X0_removeFirst (pn := 51) rfl dX4_pointerOutOf_48 mc_X4_235 zf11 (fun _ _ => Nat.le_of_ble_eq_true rfl) h (fun r13 M12 h => ?_)
      refine zh_istore (pn := 53) rfl dX4_pointerOutOf_51 (i := 5) (lo' := [some (.ref 1), some (.int a1), some (.ref o3), some (.int r9), some (.ref (zi_Channel a1)), some (.int r13)]) (by decide) rfl ?_
      refine zh_aload_n (pn := 54) rfl dX4_pointerOutOf_53 (i := 2) (v := .ref o3) rfl rfl (Or.inr ⟨_, rfl⟩) ?_
      refine zh_ifnull (r := some o3) (pn := 57) rfl dX4_pointerOutOf_54 (tgt := 63) rfl (fun cc1 => by cases cc1) (fun _ _ => ?_)
      refine zh_aload (pn := 59) rfl dX4_pointerOutOf_57 (i := 4) (v := .ref (zi_Channel a1)) rfl (Or.inr ⟨_, rfl⟩) ?_
      refine zh_iload_n (pn := 60) rfl dX4_pointerOutOf_59 (i := 3) (x := r9) rfl rfl ?_
      refine ca_X0_addLast (pn := 63) rfl dX4_pointerOutOf_60 mc_X4_137 zf11 (fun _ _ => Nat.le_of_ble_eq_true rfl) h (fun M14 h => ?_)
      refine zh_iload (pn := 65) rfl dX4_pointerOutOf_63 (i := 5) (x := r13) rfl ?_
      exact zh_iret dX4_pointerOutOf_65 rfl rfl ⟨_, rfl, rfl, h⟩
    · replace h := h.2 cc1
      refine zh_iload_n (pn := 45) rfl dX4_pointerOutOf_44 (i := 3) (x := r9) rfl rfl ?_
      exact zh_iret dX4_pointerOutOf_45 rfl rfl ⟨_, rfl, rfl, h⟩
  · subst cc1
    replace h := h.1 rfl
    refine zh_iconst (pn := 12) rfl dX4_pointerOutOf_11 (v := (zI (-1))) rfl ?_
    refine zh_goto dX4_pointerOutOf_12 (tgt := 19) rfl ?_
    refine zh_istore_n (pn := 20) rfl dX4_pointerOutOf_19 (i := 3) (lo' := [some (.ref 1), some (.int a1), some (.null), some (.int (zI (-1))), none, none]) rfl (by decide) rfl ?_
    refine zh_aload_n (pn := 21) rfl dX4_pointerOutOf_20 (i := 0) (v := .ref 1) rfl rfl (Or.inr ⟨_, rfl⟩) ?_
    refine zh_get (pn := 24) rfl dX4_pointerOutOf_21 (v := .ref 37) (k := 3) rfl rfl (by decide) (by decide) in_X4 mf_X4_37 rfl ?_
    refine zh_iload_n (pn := 25) rfl dX4_pointerOutOf_24 (i := 3) (x := (zI (-1))) rfl rfl ?_
    refine ca_X1_note (pn := 28) rfl dX4_pointerOutOf_25 mc_X4_116 (fun _ _ => Nat.le_of_ble_eq_true rfl) h (fun M4 h => ?_)
    refine zh_aload_n (pn := 29) rfl dX4_pointerOutOf_28 (i := 0) (v := .ref 1) rfl rfl (Or.inr ⟨_, rfl⟩) ?_
    refine zh_get (pn := 32) rfl dX4_pointerOutOf_29 (v := .ref 28) (k := 2) rfl rfl (by decide) (by decide) in_X4 mf_X4_25 rfl ?_
    refine zh_iload_n (pn := 33) rfl dX4_pointerOutOf_32 (i := 1) (x := a1) rfl rfl ?_
    refine zh_aald_Channel (pn := 34) rfl dX4_pointerOutOf_33 h.1 ?_
    have zf5 := zf_of_Channel h.1
    replace h := h.2
    refine zh_astore (pn := 36) rfl dX4_pointerOutOf_34 (i := 4) (lo' := [some (.ref 1), some (.int a1), some (.null), some (.int (zI (-1))), some (.ref (zi_Channel a1)), none]) (by decide) (Or.inr ⟨_, rfl⟩) rfl ?_
    refine zh_aload (pn := 38) rfl dX4_pointerOutOf_36 (i := 4) (v := .ref (zi_Channel a1)) rfl (Or.inr ⟨_, rfl⟩) ?_
    refine zh_get (pn := 41) rfl dX4_pointerOutOf_38 (v := .int (M4 (zi_Channel a1) 1)) (k := 1) (at_Channel zf5) rfl (by decide) (by decide) in_X0 mf_X4_229 rfl ?_
    refine zh_if_ne (pn := 44) rfl dX4_pointerOutOf_41 (tgt := 46) rfl (fun cc1 => ?_) (fun cc1 => ?_)
    · replace h := h.1 cc1
      refine zh_aload (pn := 48) rfl dX4_pointerOutOf_46 (i := 4) (v := .ref (zi_Channel a1)) rfl (Or.inr ⟨_, rfl⟩) ?_
      refine ca_X0_removeFirst (pn := 51) rfl dX4_pointerOutOf_48 mc_X4_235 zf5 (fun _ _ => Nat.le_of_ble_eq_true rfl) h (fun r7 M6 h => ?_)
      refine zh_istore (pn := 53) rfl dX4_pointerOutOf_51 (i := 5) (lo' := [some (.ref 1), some (.int a1), some (.null), some (.int (zI (-1))), some (.ref (zi_Channel a1)), some (.int r7)]) (by decide) rfl ?_
      refine zh_aload_n (pn := 54) rfl dX4_pointerOutOf_53 (i := 2) (v := .null) rfl rfl (Or.inl rfl) ?_
      refine zh_ifnull (r := none) (pn := 57) rfl dX4_pointerOutOf_54 (tgt := 63) rfl (fun _ => ?_) (fun _ cc1 => by cases cc1)
      refine zh_iload (pn := 65) rfl dX4_pointerOutOf_63 (i := 5) (x := r7) rfl ?_
      exact zh_iret dX4_pointerOutOf_65 rfl rfl ⟨_, rfl, rfl, h⟩
    · replace h := h.2 cc1
      refine zh_iload_n (pn := 45) rfl dX4_pointerOutOf_44 (i := 3) (x := (zI (-1))) rfl rfl ?_
      exact zh_iret dX4_pointerOutOf_45 rfl rfl ⟨_, rfl, rfl, h⟩
set_option maxRecDepth 100000 in
theorem ca_X4_pointerOutOf {X : Nat × (Nat → Int32)} {d : Nat} {y : MethodName} {cc : ByteArray} {nL : Nat} {rt : Option FieldType} {pc pn idx : Nat} {lo : List (Option Value)} {st : List Value} {M : zh_M} {P : Option Value → List zh_LC → zh_M → Prop} {a1 : Int32} {K : Int32 → zh_M → Prop} (hp : pc + 3 = pn) (hd : decode cc pc = .ok (.invokevirtual idx, 3)) (m1 : Cond.methodLink y.cls idx yX4_pointerOutOf ∈ zh_WS) (hsc : ∀ base b, ((st.map (zh_tr base b)).map fun v => v.category).sum ≤ 8) (h : wp_X4_pointerOutOf M a1 K) (kk : ∀ r M1, K r M1 → zh_W X (d + 3) y cc nL rt pn lo (.int r :: st) zh_LL M1 0 0 P) : zh_W X (d + 3) y cc nL rt pc lo (.int a1 :: .ref 1 :: st) zh_LL M 0 0 P := by
  refine zh_callV (bc := 0) (bs := 0) (bc' := 0) (bs' := 0) (as := [.int a1]) (st := st) hp hd rfl (by decide) rfl rfl m1 me_X4_pointerOutOf.1 me_X4_pointerOutOf.2.1 me_X4_pointerOutOf.2.2.1 me_X4_pointerOutOf.2.2.2 ⟨by decide, by decide, by decide⟩ (by show _ = some 1; decide +kernel) (by intro v hv; simp only [List.mem_cons, List.not_mem_nil, or_false] at hv; rcases hv with rfl <;> (intro _ _; rfl)) hsc (Nat.le_of_ble_eq_true rfl) (by decide) (wk_X4_pointerOutOf  h) (fun r L' M' q => ?_) (fun r L' M' q => ?_)
  · obtain ⟨v, -, rfl, q⟩ := q; rfl
  · obtain ⟨v, rfl, rfl, q⟩ := q; exact kk v M' q
