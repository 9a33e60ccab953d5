set_option maxRecDepth 100000 in
set_option maxHeartbeats 4000000 in
theorem wk_X5_set {X : Nat × (Nat → Int32)} {d : Nat} {M : zh_M} {a1 : Int32} {a2 : Int32} {a3 : Int32} {a4 : Int32} {P : Int32 → zh_M → Prop} (h : wp_X5_set M a1 a2 a3 a4 P) : zh_W X (d + 4) yX5_set cX5_set 7 (some .boolean) 0 (zh_en [.ref 39, .int a1, .int a2, .int a3, .int a4] 7) [] zh_LL M 0 0 (zh_pi P) := by
  unfold wp_X5_set at h
  show zh_W X (d + 4) yX5_set cX5_set 7 (some .boolean) 0 [some (.ref 39), some (.int a1), some (.int a2), some (.int a3), some (.int a4), none, none] [] zh_LL M 0 0 (zh_pi P)
  refine zh_aload_n (pn := 1) rfl dX5_set_0 (i := 0) (v := .ref 39) rfl rfl (Or.inr ⟨_, rfl⟩) ?_
  refine zh_iload_n (pn := 2) rfl dX5_set_1 (i := 1) (x := a1) rfl rfl ?_
  refine zh_iload_n (pn := 3) rfl dX5_set_2 (i := 2) (x := a2) rfl rfl ?_
  refine ca_X5_object (pn := 6) rfl dX5_set_3 mc_X5_141 (fun _ _ => Nat.le_of_ble_eq_true rfl) h (fun r2 M1 h => ?_)
  refine zh_istore (pn := 8) rfl dX5_set_6 (i := 5) (lo' := [some (.ref 39), some (.int a1), some (.int a2), some (.int a3), some (.int a4), some (.int r2), none]) (by decide) rfl ?_
  refine zh_iload (pn := 10) rfl dX5_set_8 (i := 5) (x := r2) rfl ?_
  refine zh_if_lt (pn := 13) rfl dX5_set_10 (tgt := 39) rfl (fun cc1 => ?_) (fun cc1 => ?_)
  · replace h := h.1 cc1
    refine zh_iconst (pn := 40) rfl dX5_set_39 (v := (zI 0)) rfl ?_
    exact zh_iret dX5_set_40 rfl rfl ⟨_, rfl, rfl, h⟩
  · replace h := h.2 cc1
    refine zh_iload_n (pn := 14) rfl dX5_set_13 (i := 3) (x := a3) rfl rfl ?_
    refine zh_if_lt (pn := 17) rfl dX5_set_14 (tgt := 39) rfl (fun cc1 => ?_) (fun cc1 => ?_)
    · replace h := h.1 cc1
      refine zh_iconst (pn := 40) rfl dX5_set_39 (v := (zI 0)) rfl ?_
      exact zh_iret dX5_set_40 rfl rfl ⟨_, rfl, rfl, h⟩
    · replace h := h.2 cc1
      refine zh_iload_n (pn := 18) rfl dX5_set_17 (i := 3) (x := a3) rfl rfl ?_
      refine zh_aload_n (pn := 19) rfl dX5_set_18 (i := 0) (v := .ref 39) rfl rfl (Or.inr ⟨_, rfl⟩) ?_
      refine zh_get (pn := 22) rfl dX5_set_19 (v := .ref 42) (k := 2) rfl rfl (by decide) (by decide) in_X5 mf_X5_16 rfl ?_
      refine zh_iload (pn := 24) rfl dX5_set_22 (i := 5) (x := r2) rfl ?_
      refine zh_iald (pn := 25) rfl dX5_set_24 rfl h.1 ?_
      replace h := h.2
      refine zh_icmp_ge (pn := 28) rfl dX5_set_25 (tgt := 39) rfl (fun cc1 => ?_) (fun cc1 => ?_)
      · replace h := h.1 cc1
        refine zh_iconst (pn := 40) rfl dX5_set_39 (v := (zI 0)) rfl ?_
        exact zh_iret dX5_set_40 rfl rfl ⟨_, rfl, rfl, h⟩
      · replace h := h.2 cc1
        refine zh_aload_n (pn := 29) rfl dX5_set_28 (i := 0) (v := .ref 39) rfl rfl (Or.inr ⟨_, rfl⟩) ?_
        refine zh_iload_n (pn := 30) rfl dX5_set_29 (i := 1) (x := a1) rfl rfl ?_
        refine zh_iload (pn := 32) rfl dX5_set_30 (i := 4) (x := a4) rfl ?_
        refine zh_iconst (pn := 33) rfl dX5_set_32 (v := (zI 1)) rfl ?_
        refine ca_X5_cell (pn := 36) rfl dX5_set_33 mc_X5_96 (fun _ _ => Nat.le_of_ble_eq_true rfl) h (fun r4 M3 h => ?_)
        refine zh_if_ne (pn := 39) rfl dX5_set_36 (tgt := 41) rfl (fun cc1 => ?_) (fun cc1 => ?_)
        · replace h := h.1 cc1
          refine zh_aload_n (pn := 42) rfl dX5_set_41 (i := 0) (v := .ref 39) rfl rfl (Or.inr ⟨_, rfl⟩) ?_
          refine zh_iload_n (pn := 43) rfl dX5_set_42 (i := 1) (x := a1) rfl rfl ?_
          refine zh_iload (pn := 45) rfl dX5_set_43 (i := 4) (x := a4) rfl ?_
          refine ca_X5_value (pn := 48) rfl dX5_set_45 mc_X5_100 (fun _ _ => Nat.le_of_ble_eq_true rfl) h (fun r6 M5 h => ?_)
          refine zh_istore (pn := 50) rfl dX5_set_48 (i := 6) (lo' := [some (.ref 39), some (.int a1), some (.int a2), some (.int a3), some (.int a4), some (.int r2), some (.int r6)]) (by decide) rfl ?_
          refine zh_aload_n (pn := 51) rfl dX5_set_50 (i := 0) (v := .ref 39) rfl rfl (Or.inr ⟨_, rfl⟩) ?_
          refine zh_aload_n (pn := 52) rfl dX5_set_51 (i := 0) (v := .ref 39) rfl rfl (Or.inr ⟨_, rfl⟩) ?_
          refine zh_get (pn := 55) rfl dX5_set_52 (v := .ref 40) (k := 0) rfl rfl (by decide) (by decide) in_X5 mf_X5_7 rfl ?_
          refine zh_iload (pn := 57) rfl dX5_set_55 (i := 5) (x := r2) rfl ?_
          refine zh_iload_n (pn := 58) rfl dX5_set_57 (i := 3) (x := a3) rfl rfl ?_
          refine zh_iadd (pn := 59) rfl dX5_set_58 ?_
          refine zh_iald (pn := 60) rfl dX5_set_59 rfl h.1 ?_
          replace h := h.2
          refine ca_X5_note (pn := 63) rfl dX5_set_60 mc_X5_144 (fun _ _ => Nat.le_of_ble_eq_true rfl) h (fun M7 h => ?_)
          refine zh_aload_n (pn := 64) rfl dX5_set_63 (i := 0) (v := .ref 39) rfl rfl (Or.inr ⟨_, rfl⟩) ?_
          refine zh_iload (pn := 66) rfl dX5_set_64 (i := 6) (x := r6) rfl ?_
          refine ca_X5_note (pn := 69) rfl dX5_set_66 mc_X5_144 (fun _ _ => Nat.le_of_ble_eq_true rfl) h (fun M8 h => ?_)
          refine zh_aload_n (pn := 70) rfl dX5_set_69 (i := 0) (v := .ref 39) rfl rfl (Or.inr ⟨_, rfl⟩) ?_
          refine zh_get (pn := 73) rfl dX5_set_70 (v := .ref 40) (k := 0) rfl rfl (by decide) (by decide) in_X5 mf_X5_7 rfl ?_
          refine zh_iload (pn := 75) rfl dX5_set_73 (i := 5) (x := r2) rfl ?_
          refine zh_iload_n (pn := 76) rfl dX5_set_75 (i := 3) (x := a3) rfl rfl ?_
          refine zh_iadd (pn := 77) rfl dX5_set_76 ?_
          refine zh_iload (pn := 79) rfl dX5_set_77 (i := 6) (x := r6) rfl ?_
          refine zh_iast (pn := 80) rfl dX5_set_79 rfl h.1 ?_
          obtain ⟨M9, eM9⟩ : ∃ q : zh_M, q = zh_set M8 40 (r2 + a3).toNatClampNeg r6 := ⟨_, rfl⟩
          replace h := h.2 M9 eM9
          rw [← eM9]
          refine zh_iconst (pn := 81) rfl dX5_set_80 (v := (zI 1)) rfl ?_
          exact zh_iret dX5_set_81 rfl rfl ⟨_, rfl, rfl, h⟩
        · replace h := h.2 cc1
          refine zh_iconst (pn := 40) rfl dX5_set_39 (v := (zI 0)) rfl ?_
          exact zh_iret dX5_set_40 rfl rfl ⟨_, rfl, rfl, h⟩
set_option maxRecDepth 100000 in
theorem ca_X5_set {X : Nat × (Nat → Int32)} {d : Nat} {y : MethodName} {cc : ByteArray} {nL : Nat} {rt : Option FieldType} {pc pn idx : Nat} {lo : List (Option Value)} {st : List Value} {M : zh_M} {P : Option Value → List zh_LC → zh_M → Prop} {a1 : Int32} {a2 : Int32} {a3 : Int32} {a4 : Int32} {K : Int32 → zh_M → Prop} (hp : pc + 3 = pn) (hd : decode cc pc = .ok (.invokevirtual idx, 3)) (m1 : Cond.methodLink y.cls idx yX5_set ∈ zh_WS) (hsc : ∀ base b, ((st.map (zh_tr base b)).map fun v => v.category).sum ≤ 8) (h : wp_X5_set M a1 a2 a3 a4 K) (kk : ∀ r M1, K r M1 → zh_W X (d + 5) y cc nL rt pn lo (.int r :: st) zh_LL M1 0 0 P) : zh_W X (d + 5) y cc nL rt pc lo (.int a4 :: .int a3 :: .int a2 :: .int a1 :: .ref 39 :: st) zh_LL M 0 0 P := by
  refine zh_callV (bc := 0) (bs := 0) (bc' := 0) (bs' := 0) (as := [.int a1, .int a2, .int a3, .int a4]) (st := st) hp hd rfl (by decide) rfl rfl m1 me_X5_set.1 me_X5_set.2.1 me_X5_set.2.2.1 me_X5_set.2.2.2 ⟨by decide, by decide, by decide⟩ (by show _ = some 4; decide +kernel) (by intro v hv; simp only [List.mem_cons, List.not_mem_nil, or_false] at hv; rcases hv with rfl | rfl | rfl | rfl <;> (intro _ _; rfl)) hsc (Nat.le_of_ble_eq_true rfl) (by decide) (wk_X5_set  h) (fun r L' M' q => ?_) (fun r L' M' q => ?_)
  · obtain ⟨v, -, rfl, q⟩ := q; rfl
  · obtain ⟨v, rfl, rfl, q⟩ := q; exact kk v M' q
set_option maxRecDepth 100000 in
set_option maxHeartbeats 4000000 in
theorem wk_X5_get {X : Nat × (Nat → Int32)} {d : Nat} {M : zh_M} {a1 : Int32} {a2 : Int32} {a3 : Int32} {a4 : Int32} {P : Int32 → zh_M → Prop} (h : wp_X5_get M a1 a2 a3 a4 P) : zh_W X (d + 4) yX5_get cX5_get 6 (some .boolean) 0 (zh_en [.ref 39, .int a1, .int a2, .int a3, .int a4] 6) [] zh_LL M 0 0 (zh_pi P) := by
  unfold wp_X5_get at h
  show zh_W X (d + 4) yX5_get cX5_get 6 (some .boolean) 0 [some (.ref 39), some (.int a1), some (.int a2), some (.int a3), some (.int a4), none] [] zh_LL M 0 0 (zh_pi P)
  refine zh_aload_n (pn := 1) rfl dX5_get_0 (i := 0) (v := .ref 39) rfl rfl (Or.inr ⟨_, rfl⟩) ?_
  refine zh_iload_n (pn := 2) rfl dX5_get_1 (i := 1) (x := a1) rfl rfl ?_
  refine zh_iload_n (pn := 3) rfl dX5_get_2 (i := 3) (x := a3) rfl rfl ?_
  refine ca_X5_object (pn := 6) rfl dX5_get_3 mc_X5_141 (fun _ _ => Nat.le_of_ble_eq_true rfl) h (fun r2 M1 h => ?_)
  refine zh_istore (pn := 8) rfl dX5_get_6 (i := 5) (lo' := [some (.ref 39), some (.int a1), some (.int a2), some (.int a3), some (.int a4), some (.int r2)]) (by decide) rfl ?_
  refine zh_iload (pn := 10) rfl dX5_get_8 (i := 5) (x := r2) rfl ?_
  refine zh_if_lt (pn := 13) rfl dX5_get_10 (tgt := 40) rfl (fun cc1 => ?_) (fun cc1 => ?_)
  · replace h := h.1 cc1
    refine zh_iconst (pn := 41) rfl dX5_get_40 (v := (zI 0)) rfl ?_
    exact zh_iret dX5_get_41 rfl rfl ⟨_, rfl, rfl, h⟩
  · replace h := h.2 cc1
    refine zh_iload (pn := 15) rfl dX5_get_13 (i := 4) (x := a4) rfl ?_
    refine zh_if_lt (pn := 18) rfl dX5_get_15 (tgt := 40) rfl (fun cc1 => ?_) (fun cc1 => ?_)
    · replace h := h.1 cc1
      refine zh_iconst (pn := 41) rfl dX5_get_40 (v := (zI 0)) rfl ?_
      exact zh_iret dX5_get_41 rfl rfl ⟨_, rfl, rfl, h⟩
    · replace h := h.2 cc1
      refine zh_iload (pn := 20) rfl dX5_get_18 (i := 4) (x := a4) rfl ?_
      refine zh_aload_n (pn := 21) rfl dX5_get_20 (i := 0) (v := .ref 39) rfl rfl (Or.inr ⟨_, rfl⟩) ?_
      refine zh_get (pn := 24) rfl dX5_get_21 (v := .ref 42) (k := 2) rfl rfl (by decide) (by decide) in_X5 mf_X5_16 rfl ?_
      refine zh_iload (pn := 26) rfl dX5_get_24 (i := 5) (x := r2) rfl ?_
      refine zh_iald (pn := 27) rfl dX5_get_26 rfl h.1 ?_
      replace h := h.2
      refine zh_icmp_ge (pn := 30) rfl dX5_get_27 (tgt := 40) rfl (fun cc1 => ?_) (fun cc1 => ?_)
      · replace h := h.1 cc1
        refine zh_iconst (pn := 41) rfl dX5_get_40 (v := (zI 0)) rfl ?_
        exact zh_iret dX5_get_41 rfl rfl ⟨_, rfl, rfl, h⟩
      · replace h := h.2 cc1
        refine zh_aload_n (pn := 31) rfl dX5_get_30 (i := 0) (v := .ref 39) rfl rfl (Or.inr ⟨_, rfl⟩) ?_
        refine zh_iload_n (pn := 32) rfl dX5_get_31 (i := 1) (x := a1) rfl rfl ?_
        refine zh_iload_n (pn := 33) rfl dX5_get_32 (i := 2) (x := a2) rfl rfl ?_
        refine zh_iconst (pn := 34) rfl dX5_get_33 (v := (zI 0)) rfl ?_
        refine ca_X5_cell (pn := 37) rfl dX5_get_34 mc_X5_96 (fun _ _ => Nat.le_of_ble_eq_true rfl) h (fun r4 M3 h => ?_)
        refine zh_if_ne (pn := 40) rfl dX5_get_37 (tgt := 42) rfl (fun cc1 => ?_) (fun cc1 => ?_)
        · replace h := h.1 cc1
          refine zh_aload_n (pn := 43) rfl dX5_get_42 (i := 0) (v := .ref 39) rfl rfl (Or.inr ⟨_, rfl⟩) ?_
          refine zh_get (pn := 46) rfl dX5_get_43 (v := .ref 52) (k := 12) rfl rfl (by decide) (by decide) in_X5 mf_X5_47 rfl ?_
          refine zh_aload_n (pn := 47) rfl dX5_get_46 (i := 0) (v := .ref 39) rfl rfl (Or.inr ⟨_, rfl⟩) ?_
          refine zh_iload_n (pn := 48) rfl dX5_get_47 (i := 1) (x := a1) rfl rfl ?_
          refine zh_iload_n (pn := 49) rfl dX5_get_48 (i := 2) (x := a2) rfl rfl ?_
          refine ca_X5_place (pn := 52) rfl dX5_get_49 mc_X5_92 (fun _ _ => Nat.le_of_ble_eq_true rfl) h (fun r6 M5 h => ?_)
          refine zh_aload_n (pn := 53) rfl dX5_get_52 (i := 0) (v := .ref 39) rfl rfl (Or.inr ⟨_, rfl⟩) ?_
          refine zh_get (pn := 56) rfl dX5_get_53 (v := .ref 40) (k := 0) rfl rfl (by decide) (by decide) in_X5 mf_X5_7 rfl ?_
          refine zh_iload (pn := 58) rfl dX5_get_56 (i := 5) (x := r2) rfl ?_
          refine zh_iload (pn := 60) rfl dX5_get_58 (i := 4) (x := a4) rfl ?_
          refine zh_iadd (pn := 61) rfl dX5_get_60 ?_
          refine zh_iald (pn := 62) rfl dX5_get_61 rfl h.1 ?_
          replace h := h.2
          refine zh_iast (pn := 63) rfl dX5_get_62 rfl h.1 ?_
          obtain ⟨M7, eM7⟩ : ∃ q : zh_M, q = zh_set M5 52 r6.toNatClampNeg (M5 40 (r2 + a4).toNatClampNeg) := ⟨_, rfl⟩
          replace h := h.2 M7 eM7
          rw [← eM7]
          refine zh_iconst (pn := 64) rfl dX5_get_63 (v := (zI 1)) rfl ?_
          exact zh_iret dX5_get_64 rfl rfl ⟨_, rfl, rfl, h⟩
        · replace h := h.2 cc1
          refine zh_iconst (pn := 41) rfl dX5_get_40 (v := (zI 0)) rfl ?_
          exact zh_iret dX5_get_41 rfl rfl ⟨_, rfl, rfl, h⟩
set_option maxRecDepth 100000 in
theorem ca_X5_get {X : Nat × (Nat → Int32)} {d : Nat} {y : MethodName} {cc : ByteArray} {nL : Nat} {rt : Option FieldType} {pc pn idx : Nat} {lo : List (Option Value)} {st : List Value} {M : zh_M} {P : Option Value → List zh_LC → zh_M → Prop} {a1 : Int32} {a2 : Int32} {a3 : Int32} {a4 : Int32} {K : Int32 → zh_M → Prop} (hp : pc + 3 = pn) (hd : decode cc pc = .ok (.invokevirtual idx, 3)) (m1 : Cond.methodLink y.cls idx yX5_get ∈ zh_WS) (hsc : ∀ base b, ((st.map (zh_tr base b)).map fun v => v.category).sum ≤ 8) (h : wp_X5_get M a1 a2 a3 a4 K) (kk : ∀ r M1, K r M1 → zh_W X (d + 5) y cc nL rt pn lo (.int r :: st) zh_LL M1 0 0 P) : zh_W X (d + 5) y cc nL rt pc lo (.int a4 :: .int a3 :: .int a2 :: .int a1 :: .ref 39 :: st) zh_LL M 0 0 P := by
  refine zh_callV (bc := 0) (bs := 0) (bc' := 0) (bs' := 0) (as := [.int a1, .int a2, .int a3, .int a4]) (st := st) hp hd rfl (by decide) rfl rfl m1 me_X5_get.1 me_X5_get.2.1 me_X5_get.2.2.1 me_X5_get.2.2.2 ⟨by decide, by decide, by decide⟩ (by show _ = some 4; decide +kernel) (by intro v hv; simp only [List.mem_cons, List.not_mem_nil, or_false] at hv; rcases hv with rfl | rfl | rfl | rfl <;> (intro _ _; rfl)) hsc (Nat.le_of_ble_eq_true rfl) (by decide) (wk_X5_get  h) (fun r L' M' q => ?_) (fun r L' M' q => ?_)
  · obtain ⟨v, -, rfl, q⟩ := q; rfl
  · obtain ⟨v, rfl, rfl, q⟩ := q; exact kk v M' q
set_option maxRecDepth 100000 in
set_option maxHeartbeats 4000000 in
theorem wk_X5_store {X : Nat × (Nat → Int32)} {d : Nat} {M : zh_M} {a1 : Int32} {a2 : Int32} {a3 : Int32} {a4 : Int32} {P : Int32 → zh_M → Prop} (h : wp_X5_store M a1 a2 a3 a4 P) : zh_W X (d + 4) yX5_store cX5_store 6 (some .boolean) 0 (zh_en [.ref 39, .int a1, .int a2, .int a3, .int a4] 6) [] zh_LL M 0 0 (zh_pi P) := by
  unfold wp_X5_store at h
  show zh_W X (d + 4) yX5_store cX5_store 6 (some .boolean) 0 [some (.ref 39), some (.int a1), some (.int a2), some (.int a3), some (.int a4), none] [] zh_LL M 0 0 (zh_pi P)
  refine zh_aload_n (pn := 1) rfl dX5_store_0 (i := 0) (v := .ref 39) rfl rfl (Or.inr ⟨_, rfl⟩) ?_
  refine zh_iload_n (pn := 2) rfl dX5_store_1 (i := 1) (x := a1) rfl rfl ?_
  refine zh_iload_n (pn := 3) rfl dX5_store_2 (i := 2) (x := a2) rfl rfl ?_
  refine ca_X5_object (pn := 6) rfl dX5_store_3 mc_X5_141 (fun _ _ => Nat.le_of_ble_eq_true rfl) h (fun r2 M1 h => ?_)
  refine zh_istore (pn := 8) rfl dX5_store_6 (i := 5) (lo' := [some (.ref 39), some (.int a1), some (.int a2), some (.int a3), some (.int a4), some (.int r2)]) (by decide) rfl ?_
  refine zh_iload (pn := 10) rfl dX5_store_8 (i := 5) (x := r2) rfl ?_
  refine zh_if_lt (pn := 13) rfl dX5_store_10 (tgt := 35) rfl (fun cc1 => ?_) (fun cc1 => ?_)
  · replace h := h.1 cc1
    refine zh_iconst (pn := 36) rfl dX5_store_35 (v := (zI 0)) rfl ?_
    exact zh_iret dX5_store_36 rfl rfl ⟨_, rfl, rfl, h⟩
  · replace h := h.2 cc1
    refine zh_iload_n (pn := 14) rfl dX5_store_13 (i := 3) (x := a3) rfl rfl ?_
    refine zh_aload_n (pn := 15) rfl dX5_store_14 (i := 0) (v := .ref 39) rfl rfl (Or.inr ⟨_, rfl⟩) ?_
    refine zh_get (pn := 18) rfl dX5_store_15 (v := .ref 42) (k := 2) rfl rfl (by decide) (by decide) in_X5 mf_X5_16 rfl ?_
    refine zh_iload (pn := 20) rfl dX5_store_18 (i := 5) (x := r2) rfl ?_
    refine zh_iald (pn := 21) rfl dX5_store_20 rfl h.1 ?_
    replace h := h.2
    refine zh_icmp_lt (pn := 24) rfl dX5_store_21 (tgt := 35) rfl (fun cc1 => ?_) (fun cc1 => ?_)
    · replace h := h.1 cc1
      refine zh_iconst (pn := 36) rfl dX5_store_35 (v := (zI 0)) rfl ?_
      exact zh_iret dX5_store_36 rfl rfl ⟨_, rfl, rfl, h⟩
    · replace h := h.2 cc1
      refine zh_iload_n (pn := 25) rfl dX5_store_24 (i := 3) (x := a3) rfl rfl ?_
      refine zh_aload_n (pn := 26) rfl dX5_store_25 (i := 0) (v := .ref 39) rfl rfl (Or.inr ⟨_, rfl⟩) ?_
      refine zh_get (pn := 29) rfl dX5_store_26 (v := .ref 41) (k := 1) rfl rfl (by decide) (by decide) in_X5 mf_X5_13 rfl ?_
      refine zh_iload (pn := 31) rfl dX5_store_29 (i := 5) (x := r2) rfl ?_
      refine zh_iald (pn := 32) rfl dX5_store_31 rfl h.1 ?_
      replace h := h.2
      refine zh_icmp_lt (pn := 35) rfl dX5_store_32 (tgt := 37) rfl (fun cc1 => ?_) (fun cc1 => ?_)
      · replace h := h.1 cc1
        refine zh_aload_n (pn := 38) rfl dX5_store_37 (i := 0) (v := .ref 39) rfl rfl (Or.inr ⟨_, rfl⟩) ?_
        refine zh_get (pn := 41) rfl dX5_store_38 (v := .ref 40) (k := 0) rfl rfl (by decide) (by decide) in_X5 mf_X5_7 rfl ?_
        refine zh_iload (pn := 43) rfl dX5_store_41 (i := 5) (x := r2) rfl ?_
        refine zh_iload_n (pn := 44) rfl dX5_store_43 (i := 3) (x := a3) rfl rfl ?_
        refine zh_iadd (pn := 45) rfl dX5_store_44 ?_
        refine zh_iload (pn := 47) rfl dX5_store_45 (i := 4) (x := a4) rfl ?_
        refine zh_iast (pn := 48) rfl dX5_store_47 rfl h.1 ?_
        obtain ⟨M3, eM3⟩ : ∃ q : zh_M, q = zh_set M1 40 (r2 + a3).toNatClampNeg a4 := ⟨_, rfl⟩
        replace h := h.2 M3 eM3
        rw [← eM3]
        refine zh_iconst (pn := 49) rfl dX5_store_48 (v := (zI 1)) rfl ?_
        exact zh_iret dX5_store_49 rfl rfl ⟨_, rfl, rfl, h⟩
      · replace h := h.2 cc1
        refine zh_iconst (pn := 36) rfl dX5_store_35 (v := (zI 0)) rfl ?_
        exact zh_iret dX5_store_36 rfl rfl ⟨_, rfl, rfl, h⟩
set_option maxRecDepth 100000 in
theorem ca_X5_store {X : Nat × (Nat → Int32)} {d : Nat} {y : MethodName} {cc : ByteArray} {nL : Nat} {rt : Option FieldType} {pc pn idx : Nat} {lo : List (Option Value)} {st : List Value} {M : zh_M} {P : Option Value → List zh_LC → zh_M → Prop} {a1 : Int32} {a2 : Int32} {a3 : Int32} {a4 : Int32} {K : Int32 → zh_M → Prop} (hp : pc + 3 = pn) (hd : decode cc pc = .ok (.invokevirtual idx, 3)) (m1 : Cond.methodLink y.cls idx yX5_store ∈ zh_WS) (hsc : ∀ base b, ((st.map (zh_tr base b)).map fun v => v.category).sum ≤ 8) (h : wp_X5_store M a1 a2 a3 a4 K) (kk : ∀ r M1, K r M1 → zh_W X (d + 5) y cc nL rt pn lo (.int r :: st) zh_LL M1 0 0 P) : zh_W X (d + 5) y cc nL rt pc lo (.int a4 :: .int a3 :: .int a2 :: .int a1 :: .ref 39 :: st) zh_LL M 0 0 P := by
  refine zh_callV (bc := 0) (bs := 0) (bc' := 0) (bs' := 0) (as := [.int a1, .int a2, .int a3, .int a4]) (st := st) hp hd rfl (by decide) rfl rfl m1 me_X5_store.1 me_X5_store.2.1 me_X5_store.2.2.1 me_X5_store.2.2.2 ⟨by decide, by decide, by decide⟩ (by show _ = some 4; decide +kernel) (by intro v hv; simp only [List.mem_cons, List.not_mem_nil, or_false] at hv; rcases hv with rfl | rfl | rfl | rfl <;> (intro _ _; rfl)) hsc (Nat.le_of_ble_eq_true rfl) (by decide) (wk_X5_store  h) (fun r L' M' q => ?_) (fun r L' M' q => ?_)
  · obtain ⟨v, -, rfl, q⟩ := q; rfl
  · obtain ⟨v, rfl, rfl, q⟩ := q; exact kk v M' q
set_option maxRecDepth 100000 in
set_option maxHeartbeats 4000000 in
theorem wk_X5_load {X : Nat × (Nat → Int32)} {d : Nat} {M : zh_M} {a1 : Int32} {a2 : Int32} {a3 : Int32} {P : Int32 → zh_M → Prop} (h : wp_X5_load M a1 a2 a3 P) : zh_W X (d + 4) yX5_load cX5_load 5 (some .int) 0 (zh_en [.ref 39, .int a1, .int a2, .int a3] 5) [] zh_LL M 0 0 (zh_pi P) := by
  unfold wp_X5_load at h
  show zh_W X (d + 4) yX5_load cX5_load 5 (some .int) 0 [some (.ref 39), some (.int a1), some (.int a2), some (.int a3), none] [] zh_LL M 0 0 (zh_pi P)
  refine zh_aload_n (pn := 1) rfl dX5_load_0 (i := 0) (v := .ref 39) rfl rfl (Or.inr ⟨_, rfl⟩) ?_
  refine zh_iload_n (pn := 2) rfl dX5_load_1 (i := 1) (x := a1) rfl rfl ?_
  refine zh_iload_n (pn := 3) rfl dX5_load_2 (i := 2) (x := a2) rfl rfl ?_
  refine ca_X5_object (pn := 6) rfl dX5_load_3 mc_X5_141 (fun _ _ => Nat.le_of_ble_eq_true rfl) h (fun r2 M1 h => ?_)
  refine zh_istore (pn := 8) rfl dX5_load_6 (i := 4) (lo' := [some (.ref 39), some (.int a1), some (.int a2), some (.int a3), some (.int r2)]) (by decide) rfl ?_
  refine zh_iload (pn := 10) rfl dX5_load_8 (i := 4) (x := r2) rfl ?_
  refine zh_if_lt (pn := 13) rfl dX5_load_10 (tgt := 35) rfl (fun cc1 => ?_) (fun cc1 => ?_)
  · replace h := h.1 cc1
    refine zh_iconst (pn := 36) rfl dX5_load_35 (v := (zI 0)) rfl ?_
    refine zh_goto dX5_load_36 (tgt := 48) rfl ?_
    exact zh_iret dX5_load_48 rfl rfl ⟨_, rfl, rfl, h⟩
  · replace h := h.2 cc1
    refine zh_iload_n (pn := 14) rfl dX5_load_13 (i := 3) (x := a3) rfl rfl ?_
    refine zh_aload_n (pn := 15) rfl dX5_load_14 (i := 0) (v := .ref 39) rfl rfl (Or.inr ⟨_, rfl⟩) ?_
    refine zh_get (pn := 18) rfl dX5_load_15 (v := .ref 42) (k := 2) rfl rfl (by decide) (by decide) in_X5 mf_X5_16 rfl ?_
    refine zh_iload (pn := 20) rfl dX5_load_18 (i := 4) (x := r2) rfl ?_
    refine zh_iald (pn := 21) rfl dX5_load_20 rfl h.1 ?_
    replace h := h.2
    refine zh_icmp_lt (pn := 24) rfl dX5_load_21 (tgt := 35) rfl (fun cc1 => ?_) (fun cc1 => ?_)
    · replace h := h.1 cc1
      refine zh_iconst (pn := 36) rfl dX5_load_35 (v := (zI 0)) rfl ?_
      refine zh_goto dX5_load_36 (tgt := 48) rfl ?_
      exact zh_iret dX5_load_48 rfl rfl ⟨_, rfl, rfl, h⟩
    · replace h := h.2 cc1
      refine zh_iload_n (pn := 25) rfl dX5_load_24 (i := 3) (x := a3) rfl rfl ?_
      refine zh_aload_n (pn := 26) rfl dX5_load_25 (i := 0) (v := .ref 39) rfl rfl (Or.inr ⟨_, rfl⟩) ?_
      refine zh_get (pn := 29) rfl dX5_load_26 (v := .ref 41) (k := 1) rfl rfl (by decide) (by decide) in_X5 mf_X5_13 rfl ?_
      refine zh_iload (pn := 31) rfl dX5_load_29 (i := 4) (x := r2) rfl ?_
      refine zh_iald (pn := 32) rfl dX5_load_31 rfl h.1 ?_
      replace h := h.2
      refine zh_icmp_lt (pn := 35) rfl dX5_load_32 (tgt := 39) rfl (fun cc1 => ?_) (fun cc1 => ?_)
      · replace h := h.1 cc1
        refine zh_aload_n (pn := 40) rfl dX5_load_39 (i := 0) (v := .ref 39) rfl rfl (Or.inr ⟨_, rfl⟩) ?_
        refine zh_get (pn := 43) rfl dX5_load_40 (v := .ref 40) (k := 0) rfl rfl (by decide) (by decide) in_X5 mf_X5_7 rfl ?_
        refine zh_iload (pn := 45) rfl dX5_load_43 (i := 4) (x := r2) rfl ?_
        refine zh_iload_n (pn := 46) rfl dX5_load_45 (i := 3) (x := a3) rfl rfl ?_
        refine zh_iadd (pn := 47) rfl dX5_load_46 ?_
        refine zh_iald (pn := 48) rfl dX5_load_47 rfl h.1 ?_
        replace h := h.2
        exact zh_iret dX5_load_48 rfl rfl ⟨_, rfl, rfl, h⟩
      · replace h := h.2 cc1
        refine zh_iconst (pn := 36) rfl dX5_load_35 (v := (zI 0)) rfl ?_
        refine zh_goto dX5_load_36 (tgt := 48) rfl ?_
        exact zh_iret dX5_load_48 rfl rfl ⟨_, rfl, rfl, h⟩
set_option maxRecDepth 100000 in
theorem ca_X5_load {X : Nat × (Nat → Int32)} {d : Nat} {y : MethodName} {cc : ByteArray} {nL : Nat} {rt : Option FieldType} {pc pn idx : Nat} {lo : List (Option Value)} {st : List Value} {M : zh_M} {P : Option Value → List zh_LC → zh_M → Prop} {a1 : Int32} {a2 : Int32} {a3 : Int32} {K : Int32 → zh_M → Prop} (hp : pc + 3 = pn) (hd : decode cc pc = .ok (.invokevirtual idx, 3)) (m1 : Cond.methodLink y.cls idx yX5_load ∈ zh_WS) (hsc : ∀ base b, ((st.map (zh_tr base b)).map fun v => v.category).sum ≤ 8) (h : wp_X5_load M a1 a2 a3 K) (kk : ∀ r M1, K r M1 → zh_W X (d + 5) y cc nL rt pn lo (.int r :: st) zh_LL M1 0 0 P) : zh_W X (d + 5) y cc nL rt pc lo (.int a3 :: .int a2 :: .int a1 :: .ref 39 :: st) zh_LL M 0 0 P := by
  refine zh_callV (bc := 0) (bs := 0) (bc' := 0) (bs' := 0) (as := [.int a1, .int a2, .int a3]) (st := st) hp hd rfl (by decide) rfl rfl m1 me_X5_load.1 me_X5_load.2.1 me_X5_load.2.2.1 me_X5_load.2.2.2 ⟨by decide, by decide, by decide⟩ (by show _ = some 3; decide +kernel) (by intro v hv; simp only [List.mem_cons, List.not_mem_nil, or_false] at hv; rcases hv with rfl | rfl | rfl <;> (intro _ _; rfl)) hsc (Nat.le_of_ble_eq_true rfl) (by decide) (wk_X5_load  h) (fun r L' M' q => ?_) (fun r L' M' q => ?_)
  · obtain ⟨v, -, rfl, q⟩ := q; rfl
  · obtain ⟨v, rfl, rfl, q⟩ := q; exact kk v M' q
set_option maxRecDepth 100000 in
set_option maxHeartbeats 4000000 in
theorem wkl_X5_firstAt_5 {X : Nat × (Nat → Int32)} {d : Nat} {P : Int32 → zh_M → Prop} {l1 : Int32} {l2 : Int32} : ∀ (n : Nat) (l3 : Int32) (l4 : Int32) (M : zh_M) (w5 : Option Value), wl_X5_firstAt_5 l1 l2 P n l3 l4 M → zh_W X (d + 0) yX5_firstAt cX5_firstAt 6 (some .int) 5 [some (.ref 39), some (.int l1), some (.int l2), some (.int l3), some (.int l4), w5] [] zh_LL M 0 0 (zh_pi P) := by
  intro n
  induction n with
  | zero => intro l3 l4 M w5 h; exact h.elim
  | succ n ih =>
    intro l3 l4 M w5 h
    unfold wl_X5_firstAt_5 at h
    refine zh_iload (pn := 7) rfl dX5_firstAt_5 (i := 4) (x := l4) rfl ?_
    refine zh_bipush (pn := 9) rfl dX5_firstAt_7 (v := (zI 6)) rfl ?_
    refine zh_icmp_ge (pn := 12) rfl dX5_firstAt_9 (tgt := 86) rfl (fun cc1 => ?_) (fun cc1 => ?_)
    · replace h := h.1 cc1
      refine zh_iload_n (pn := 87) rfl dX5_firstAt_86 (i := 3) (x := l3) rfl rfl ?_
      exact zh_iret dX5_firstAt_87 rfl rfl ⟨_, rfl, rfl, h⟩
    · replace h := h.2 cc1
      refine zh_aload_n (pn := 13) rfl dX5_firstAt_12 (i := 0) (v := .ref 39) rfl rfl (Or.inr ⟨_, rfl⟩) ?_
      refine zh_get (pn := 16) rfl dX5_firstAt_13 (v := .ref 49) (k := 9) rfl rfl (by decide) (by decide) in_X5 mf_X5_38 rfl ?_
      refine zh_iload (pn := 18) rfl dX5_firstAt_16 (i := 4) (x := l4) rfl ?_
      refine zh_iald (pn := 19) rfl dX5_firstAt_18 rfl h.1 ?_
      replace h := h.2
      refine zh_iload_n (pn := 20) rfl dX5_firstAt_19 (i := 2) (x := l2) rfl rfl ?_
      refine zh_icmp_ne (pn := 23) rfl dX5_firstAt_20 (tgt := 49) rfl (fun cc1 => ?_) (fun cc1 => ?_)
      · replace h := h.1 cc1
        refine zh_iconst (pn := 50) rfl dX5_firstAt_49 (v := (zI 0)) rfl ?_
        refine zh_istore (pn := 52) rfl dX5_firstAt_50 (i := 5) (lo' := [some (.ref 39), some (.int l1), some (.int l2), some (.int l3), some (.int l4), some (.int (zI 0))]) (by decide) rfl ?_
        refine zh_iload (pn := 54) rfl dX5_firstAt_52 (i := 5) (x := (zI 0)) rfl ?_
        refine zh_if_eq (pn := 57) rfl dX5_firstAt_54 (tgt := 80) rfl (fun _ => ?_) (fun cc1 => absurd cc1 (by decide))
        refine zh_iinc (pn := 83) rfl dX5_firstAt_80 (i := 4) (x := l4) (v := l4 + (zI 1)) (lo' := [some (.ref 39), some (.int l1), some (.int l2), some (.int l3), some (.int (l4 + (zI 1))), some (.int (zI 0))]) rfl rfl (by decide) rfl ?_
        refine zh_goto dX5_firstAt_83 (tgt := 5) rfl ?_
        exact ih _ _ _ _ h
      · replace h := h.2 cc1
        refine zh_aload_n (pn := 24) rfl dX5_firstAt_23 (i := 0) (v := .ref 39) rfl rfl (Or.inr ⟨_, rfl⟩) ?_
        refine zh_get (pn := 27) rfl dX5_firstAt_24 (v := .ref 56) (k := 16) rfl rfl (by decide) (by decide) in_X5 mf_X5_59 rfl ?_
        refine zh_iload (pn := 29) rfl dX5_firstAt_27 (i := 4) (x := l4) rfl ?_
        refine zh_iald (pn := 30) rfl dX5_firstAt_29 rfl h.1 ?_
        replace h := h.2
        refine zh_iload_n (pn := 31) rfl dX5_firstAt_30 (i := 1) (x := l1) rfl rfl ?_
        refine zh_icmp_eq (pn := 34) rfl dX5_firstAt_31 (tgt := 45) rfl (fun cc1 => ?_) (fun cc1 => ?_)
        · replace h := h.1 cc1
          refine zh_iconst (pn := 46) rfl dX5_firstAt_45 (v := (zI 1)) rfl ?_
          refine zh_goto dX5_firstAt_46 (tgt := 50) rfl ?_
          refine zh_istore (pn := 52) rfl dX5_firstAt_50 (i := 5) (lo' := [some (.ref 39), some (.int l1), some (.int l2), some (.int l3), some (.int l4), some (.int (zI 1))]) (by decide) rfl ?_
          refine zh_iload (pn := 54) rfl dX5_firstAt_52 (i := 5) (x := (zI 1)) rfl ?_
          refine zh_if_eq (pn := 57) rfl dX5_firstAt_54 (tgt := 80) rfl (fun cc1 => absurd cc1 (by decide)) (fun _ => ?_)
          refine zh_iload_n (pn := 58) rfl dX5_firstAt_57 (i := 3) (x := l3) rfl rfl ?_
          refine zh_if_lt (pn := 61) rfl dX5_firstAt_58 (tgt := 77) rfl (fun cc1 => ?_) (fun cc1 => ?_)
          · replace h := h.1 cc1
            refine zh_iload (pn := 79) rfl dX5_firstAt_77 (i := 4) (x := l4) rfl ?_
            refine zh_istore_n (pn := 80) rfl dX5_firstAt_79 (i := 3) (lo' := [some (.ref 39), some (.int l1), some (.int l2), some (.int l4), some (.int l4), some (.int (zI 1))]) rfl (by decide) rfl ?_
            refine zh_iinc (pn := 83) rfl dX5_firstAt_80 (i := 4) (x := l4) (v := l4 + (zI 1)) (lo' := [some (.ref 39), some (.int l1), some (.int l2), some (.int l4), some (.int (l4 + (zI 1))), some (.int (zI 1))]) rfl rfl (by decide) rfl ?_
            refine zh_goto dX5_firstAt_83 (tgt := 5) rfl ?_
            exact ih _ _ _ _ h
          · replace h := h.2 cc1
            refine zh_aload_n (pn := 62) rfl dX5_firstAt_61 (i := 0) (v := .ref 39) rfl rfl (Or.inr ⟨_, rfl⟩) ?_
            refine zh_get (pn := 65) rfl dX5_firstAt_62 (v := .ref 55) (k := 15) rfl rfl (by decide) (by decide) in_X5 mf_X5_56 rfl ?_
            refine zh_iload (pn := 67) rfl dX5_firstAt_65 (i := 4) (x := l4) rfl ?_
            refine zh_iald (pn := 68) rfl dX5_firstAt_67 rfl h.1 ?_
            replace h := h.2
            refine zh_aload_n (pn := 69) rfl dX5_firstAt_68 (i := 0) (v := .ref 39) rfl rfl (Or.inr ⟨_, rfl⟩) ?_
            refine zh_get (pn := 72) rfl dX5_firstAt_69 (v := .ref 55) (k := 15) rfl rfl (by decide) (by decide) in_X5 mf_X5_56 rfl ?_
            refine zh_iload_n (pn := 73) rfl dX5_firstAt_72 (i := 3) (x := l3) rfl rfl ?_
            refine zh_iald (pn := 74) rfl dX5_firstAt_73 rfl h.1 ?_
            replace h := h.2
            refine zh_icmp_ge (pn := 77) rfl dX5_firstAt_74 (tgt := 80) rfl (fun cc1 => ?_) (fun cc1 => ?_)
            · replace h := h.1 cc1
              refine zh_iinc (pn := 83) rfl dX5_firstAt_80 (i := 4) (x := l4) (v := l4 + (zI 1)) (lo' := [some (.ref 39), some (.int l1), some (.int l2), some (.int l3), some (.int (l4 + (zI 1))), some (.int (zI 1))]) rfl rfl (by decide) rfl ?_
              refine zh_goto dX5_firstAt_83 (tgt := 5) rfl ?_
              exact ih _ _ _ _ h
            · replace h := h.2 cc1
              refine zh_iload (pn := 79) rfl dX5_firstAt_77 (i := 4) (x := l4) rfl ?_
              refine zh_istore_n (pn := 80) rfl dX5_firstAt_79 (i := 3) (lo' := [some (.ref 39), some (.int l1), some (.int l2), some (.int l4), some (.int l4), some (.int (zI 1))]) rfl (by decide) rfl ?_
              refine zh_iinc (pn := 83) rfl dX5_firstAt_80 (i := 4) (x := l4) (v := l4 + (zI 1)) (lo' := [some (.ref 39), some (.int l1), some (.int l2), some (.int l4), some (.int (l4 + (zI 1))), some (.int (zI 1))]) rfl rfl (by decide) rfl ?_
              refine zh_goto dX5_firstAt_83 (tgt := 5) rfl ?_
              exact ih _ _ _ _ h
        · replace h := h.2 cc1
          refine zh_aload_n (pn := 35) rfl dX5_firstAt_34 (i := 0) (v := .ref 39) rfl rfl (Or.inr ⟨_, rfl⟩) ?_
          refine zh_get (pn := 38) rfl dX5_firstAt_35 (v := .ref 57) (k := 17) rfl rfl (by decide) (by decide) in_X5 mf_X5_62 rfl ?_
          refine zh_iload (pn := 40) rfl dX5_firstAt_38 (i := 4) (x := l4) rfl ?_
          refine zh_iald (pn := 41) rfl dX5_firstAt_40 rfl h.1 ?_
          replace h := h.2
          refine zh_iload_n (pn := 42) rfl dX5_firstAt_41 (i := 1) (x := l1) rfl rfl ?_
          refine zh_icmp_ne (pn := 45) rfl dX5_firstAt_42 (tgt := 49) rfl (fun cc1 => ?_) (fun cc1 => ?_)
          · replace h := h.1 cc1
            refine zh_iconst (pn := 50) rfl dX5_firstAt_49 (v := (zI 0)) rfl ?_
            refine zh_istore (pn := 52) rfl dX5_firstAt_50 (i := 5) (lo' := [some (.ref 39), some (.int l1), some (.int l2), some (.int l3), some (.int l4), some (.int (zI 0))]) (by decide) rfl ?_
            refine zh_iload (pn := 54) rfl dX5_firstAt_52 (i := 5) (x := (zI 0)) rfl ?_
            refine zh_if_eq (pn := 57) rfl dX5_firstAt_54 (tgt := 80) rfl (fun _ => ?_) (fun cc1 => absurd cc1 (by decide))
            refine zh_iinc (pn := 83) rfl dX5_firstAt_80 (i := 4) (x := l4) (v := l4 + (zI 1)) (lo' := [some (.ref 39), some (.int l1), some (.int l2), some (.int l3), some (.int (l4 + (zI 1))), some (.int (zI 0))]) rfl rfl (by decide) rfl ?_
            refine zh_goto dX5_firstAt_83 (tgt := 5) rfl ?_
            exact ih _ _ _ _ h
          · replace h := h.2 cc1
            refine zh_iconst (pn := 46) rfl dX5_firstAt_45 (v := (zI 1)) rfl ?_
            refine zh_goto dX5_firstAt_46 (tgt := 50) rfl ?_
            refine zh_istore (pn := 52) rfl dX5_firstAt_50 (i := 5) (lo' := [some (.ref 39), some (.int l1), some (.int l2), some (.int l3), some (.int l4), some (.int (zI 1))]) (by decide) rfl ?_
            refine zh_iload (pn := 54) rfl dX5_firstAt_52 (i := 5) (x := (zI 1)) rfl ?_
            refine zh_if_eq (pn := 57) rfl dX5_firstAt_54 (tgt := 80) rfl (fun cc1 => absurd cc1 (by decide)) (fun _ => ?_)
            refine zh_iload_n (pn := 58) rfl dX5_firstAt_57 (i := 3) (x := l3) rfl rfl ?_
            refine zh_if_lt (pn := 61) rfl dX5_firstAt_58 (tgt := 77) rfl (fun cc1 => ?_) (fun cc1 => ?_)
            · replace h := h.1 cc1
              refine zh_iload (pn := 79) rfl dX5_firstAt_77 (i := 4) (x := l4) rfl ?_
              refine zh_istore_n (pn := 80) rfl dX5_firstAt_79 (i := 3) (lo' := [some (.ref 39), some (.int l1), some (.int l2), some (.int l4), some (.int l4), some (.int (zI 1))]) rfl (by decide) rfl ?_
              refine zh_iinc (pn := 83) rfl dX5_firstAt_80 (i := 4) (x := l4) (v := l4 + (zI 1)) (lo' := [some (.ref 39), some (.int l1), some (.int l2), some (.int l4), some (.int (l4 + (zI 1))), some (.int (zI 1))]) rfl rfl (by decide) rfl ?_
              refine zh_goto dX5_firstAt_83 (tgt := 5) rfl ?_
              exact ih _ _ _ _ h
            · replace h := h.2 cc1
              refine zh_aload_n (pn := 62) rfl dX5_firstAt_61 (i := 0) (v := .ref 39) rfl rfl (Or.inr ⟨_, rfl⟩) ?_
              refine zh_get (pn := 65) rfl dX5_firstAt_62 (v := .ref 55) (k := 15) rfl rfl (by decide) (by decide) in_X5 mf_X5_56 rfl ?_
              refine zh_iload (pn := 67) rfl dX5_firstAt_65 (i := 4) (x := l4) rfl ?_
              refine zh_iald (pn := 68) rfl dX5_firstAt_67 rfl h.1 ?_
              replace h := h.2
              refine zh_aload_n (pn := 69) rfl dX5_firstAt_68 (i := 0) (v := .ref 39) rfl rfl (Or.inr ⟨_, rfl⟩) ?_
              refine zh_get (pn := 72) rfl dX5_firstAt_69 (v := .ref 55) (k := 15) rfl rfl (by decide) (by decide) in_X5 mf_X5_56 rfl ?_
              refine zh_iload_n (pn := 73) rfl dX5_firstAt_72 (i := 3) (x := l3) rfl rfl ?_
              refine zh_iald (pn := 74) rfl dX5_firstAt_73 rfl h.1 ?_
              replace h := h.2
              refine zh_icmp_ge (pn := 77) rfl dX5_firstAt_74 (tgt := 80) rfl (fun cc1 => ?_) (fun cc1 => ?_)
              · replace h := h.1 cc1
                refine zh_iinc (pn := 83) rfl dX5_firstAt_80 (i := 4) (x := l4) (v := l4 + (zI 1)) (lo' := [some (.ref 39), some (.int l1), some (.int l2), some (.int l3), some (.int (l4 + (zI 1))), some (.int (zI 1))]) rfl rfl (by decide) rfl ?_
                refine zh_goto dX5_firstAt_83 (tgt := 5) rfl ?_
                exact ih _ _ _ _ h
              · replace h := h.2 cc1
                refine zh_iload (pn := 79) rfl dX5_firstAt_77 (i := 4) (x := l4) rfl ?_
                refine zh_istore_n (pn := 80) rfl dX5_firstAt_79 (i := 3) (lo' := [some (.ref 39), some (.int l1), some (.int l2), some (.int l4), some (.int l4), some (.int (zI 1))]) rfl (by decide) rfl ?_
                refine zh_iinc (pn := 83) rfl dX5_firstAt_80 (i := 4) (x := l4) (v := l4 + (zI 1)) (lo' := [some (.ref 39), some (.int l1), some (.int l2), some (.int l4), some (.int (l4 + (zI 1))), some (.int (zI 1))]) rfl rfl (by decide) rfl ?_
                refine zh_goto dX5_firstAt_83 (tgt := 5) rfl ?_
                exact ih _ _ _ _ h
set_option maxRecDepth 100000 in
set_option maxHeartbeats 4000000 in
theorem wk_X5_firstAt {X : Nat × (Nat → Int32)} {d : Nat} {M : zh_M} {a1 : Int32} {a2 : Int32} {P : Int32 → zh_M → Prop} (h : wp_X5_firstAt M a1 a2 P) : zh_W X (d + 0) yX5_firstAt cX5_firstAt 6 (some .int) 0 (zh_en [.ref 39, .int a1, .int a2] 6) [] zh_LL M 0 0 (zh_pi P) := by
  unfold wp_X5_firstAt at h
  show zh_W X (d + 0) yX5_firstAt cX5_firstAt 6 (some .int) 0 [some (.ref 39), some (.int a1), some (.int a2), none, none, none] [] zh_LL M 0 0 (zh_pi P)
  refine zh_iconst (pn := 1) rfl dX5_firstAt_0 (v := (zI (-1))) rfl ?_
  refine zh_istore_n (pn := 2) rfl dX5_firstAt_1 (i := 3) (lo' := [some (.ref 39), some (.int a1), some (.int a2), some (.int (zI (-1))), none, none]) rfl (by decide) rfl ?_
  refine zh_iconst (pn := 3) rfl dX5_firstAt_2 (v := (zI 0)) rfl ?_
  refine zh_istore (pn := 5) rfl dX5_firstAt_3 (i := 4) (lo' := [some (.ref 39), some (.int a1), some (.int a2), some (.int (zI (-1))), some (.int (zI 0)), none]) (by decide) rfl ?_
  obtain ⟨n1, h⟩ := h
  refine wkl_X5_firstAt_5 n1 _ _ _ _ h
set_option maxRecDepth 100000 in
theorem ca_X5_firstAt {X : Nat × (Nat → Int32)} {d : Nat} {y : MethodName} {cc : ByteArray} {nL : Nat} {rt : Option FieldType} {pc pn idx : Nat} {lo : List (Option Value)} {st : List Value} {M : zh_M} {P : Option Value → List zh_LC → zh_M → Prop} {a1 : Int32} {a2 : Int32} {K : Int32 → zh_M → Prop} (hp : pc + 3 = pn) (hd : decode cc pc = .ok (.invokevirtual idx, 3)) (m1 : Cond.methodLink y.cls idx yX5_firstAt ∈ zh_WS) (hsc : ∀ base b, ((st.map (zh_tr base b)).map fun v => v.category).sum ≤ 8) (h : wp_X5_firstAt M a1 a2 K) (kk : ∀ r M1, K r M1 → zh_W X (d + 1) y cc nL rt pn lo (.int r :: st) zh_LL M1 0 0 P) : zh_W X (d + 1) y cc nL rt pc lo (.int a2 :: .int a1 :: .ref 39 :: st) zh_LL M 0 0 P := by
  refine zh_callV (bc := 0) (bs := 0) (bc' := 0) (bs' := 0) (as := [.int a1, .int a2]) (st := st) hp hd rfl (by decide) rfl rfl m1 me_X5_firstAt.1 me_X5_firstAt.2.1 me_X5_firstAt.2.2.1 me_X5_firstAt.2.2.2 ⟨by decide, by decide, by decide⟩ (by show _ = some 2; decide +kernel) (by intro v hv; simp only [List.mem_cons, List.not_mem_nil, or_false] at hv; rcases hv with rfl | rfl <;> (intro _ _; rfl)) hsc (Nat.le_of_ble_eq_true rfl) (by decide) (wk_X5_firstAt  h) (fun r L' M' q => ?_) (fun r L' M' q => ?_)
  · obtain ⟨v, -, rfl, q⟩ := q; rfl
  · obtain ⟨v, rfl, rfl, q⟩ := q; exact kk v M' q
set_option maxRecDepth 100000 in
set_option maxHeartbeats 4000000 in
theorem wk_X5_waitFor {X : Nat × (Nat → Int32)} {d : Nat} {M : zh_M} {a1 : Int32} {a2 : Int32} {a3 : Int32} {a4 : Int32} {a5 : Int32} {P : zh_M → Prop} (h : wp_X5_waitFor M a1 a2 a3 a4 a5 P) : zh_W X (d + 0) yX5_waitFor cX5_waitFor 6 none 0 (zh_en [.ref 39, .int a1, .int a2, .int a3, .int a4, .int a5] 6) [] zh_LL M 0 0 (zh_pv P) := by
  unfold wp_X5_waitFor at h
  show zh_W X (d + 0) yX5_waitFor cX5_waitFor 6 none 0 [some (.ref 39), some (.int a1), some (.int a2), some (.int a3), some (.int a4), some (.int a5)] [] zh_LL M 0 0 (zh_pv P)
  refine zh_aload_n (pn := 1) rfl dX5_waitFor_0 (i := 0) (v := .ref 39) rfl rfl (Or.inr ⟨_, rfl⟩) ?_
  refine zh_dup (pn := 2) rfl dX5_waitFor_1 (fun _ _ => rfl) ?_
  refine zh_get (pn := 5) rfl dX5_waitFor_2 (v := .int (M 39 22)) (k := 22) rfl rfl (by decide) (by decide) in_X5 mf_X5_147 rfl ?_
  refine zh_iconst (pn := 6) rfl dX5_waitFor_5 (v := (zI 1)) rfl ?_
  refine zh_iadd (pn := 7) rfl dX5_waitFor_6 ?_
  refine zh_put (pn := 10) rfl dX5_waitFor_7 (k := 22) rfl rfl (by decide) (by decide) in_X5 tyX5_ok nmX5 mf_X5_147 rfl rfl rfl rfl ?_
  obtain ⟨M1, eM1⟩ : ∃ q : zh_M, q = zh_set M 39 22 ((M 39 22) + (zI 1)) := ⟨_, rfl⟩
  replace h := h M1 eM1
  rw [← eM1]
  refine zh_aload_n (pn := 11) rfl dX5_waitFor_10 (i := 0) (v := .ref 39) rfl rfl (Or.inr ⟨_, rfl⟩) ?_
  refine zh_get (pn := 14) rfl dX5_waitFor_11 (v := .ref 49) (k := 9) rfl rfl (by decide) (by decide) in_X5 mf_X5_38 rfl ?_
  refine zh_iload_n (pn := 15) rfl dX5_waitFor_14 (i := 1) (x := a1) rfl rfl ?_
  refine zh_iload_n (pn := 16) rfl dX5_waitFor_15 (i := 2) (x := a2) rfl rfl ?_
  refine zh_iast (pn := 17) rfl dX5_waitFor_16 rfl h.1 ?_
  obtain ⟨M2, eM2⟩ : ∃ q : zh_M, q = zh_set M1 49 a1.toNatClampNeg a2 := ⟨_, rfl⟩
  replace h := h.2 M2 eM2
  rw [← eM2]
  refine zh_aload_n (pn := 18) rfl dX5_waitFor_17 (i := 0) (v := .ref 39) rfl rfl (Or.inr ⟨_, rfl⟩) ?_
  refine zh_get (pn := 21) rfl dX5_waitFor_18 (v := .ref 55) (k := 15) rfl rfl (by decide) (by decide) in_X5 mf_X5_56 rfl ?_
  refine zh_iload_n (pn := 22) rfl dX5_waitFor_21 (i := 1) (x := a1) rfl rfl ?_
  refine zh_aload_n (pn := 23) rfl dX5_waitFor_22 (i := 0) (v := .ref 39) rfl rfl (Or.inr ⟨_, rfl⟩) ?_
  refine zh_get (pn := 26) rfl dX5_waitFor_23 (v := .int (M2 39 22)) (k := 22) rfl rfl (by decide) (by decide) in_X5 mf_X5_147 rfl ?_
  refine zh_iast (pn := 27) rfl dX5_waitFor_26 rfl h.1 ?_
  obtain ⟨M3, eM3⟩ : ∃ q : zh_M, q = zh_set M2 55 a1.toNatClampNeg (M2 39 22) := ⟨_, rfl⟩
  replace h := h.2 M3 eM3
  rw [← eM3]
  refine zh_aload_n (pn := 28) rfl dX5_waitFor_27 (i := 0) (v := .ref 39) rfl rfl (Or.inr ⟨_, rfl⟩) ?_
  refine zh_get (pn := 31) rfl dX5_waitFor_28 (v := .ref 58) (k := 18) rfl rfl (by decide) (by decide) in_X5 mf_X5_65 rfl ?_
  refine zh_iload_n (pn := 32) rfl dX5_waitFor_31 (i := 1) (x := a1) rfl rfl ?_
  refine zh_iload_n (pn := 33) rfl dX5_waitFor_32 (i := 3) (x := a3) rfl rfl ?_
  refine zh_iast (pn := 34) rfl dX5_waitFor_33 rfl h.1 ?_
  obtain ⟨M4, eM4⟩ : ∃ q : zh_M, q = zh_set M3 58 a1.toNatClampNeg a3 := ⟨_, rfl⟩
  replace h := h.2 M4 eM4
  rw [← eM4]
  refine zh_aload_n (pn := 35) rfl dX5_waitFor_34 (i := 0) (v := .ref 39) rfl rfl (Or.inr ⟨_, rfl⟩) ?_
  refine zh_get (pn := 38) rfl dX5_waitFor_35 (v := .ref 56) (k := 16) rfl rfl (by decide) (by decide) in_X5 mf_X5_59 rfl ?_
  refine zh_iload_n (pn := 39) rfl dX5_waitFor_38 (i := 1) (x := a1) rfl rfl ?_
  refine zh_iload (pn := 41) rfl dX5_waitFor_39 (i := 4) (x := a4) rfl ?_
  refine zh_iast (pn := 42) rfl dX5_waitFor_41 rfl h.1 ?_
  obtain ⟨M5, eM5⟩ : ∃ q : zh_M, q = zh_set M4 56 a1.toNatClampNeg a4 := ⟨_, rfl⟩
  replace h := h.2 M5 eM5
  rw [← eM5]
  refine zh_aload_n (pn := 43) rfl dX5_waitFor_42 (i := 0) (v := .ref 39) rfl rfl (Or.inr ⟨_, rfl⟩) ?_
  refine zh_get (pn := 46) rfl dX5_waitFor_43 (v := .ref 57) (k := 17) rfl rfl (by decide) (by decide) in_X5 mf_X5_62 rfl ?_
  refine zh_iload_n (pn := 47) rfl dX5_waitFor_46 (i := 1) (x := a1) rfl rfl ?_
  refine zh_iload (pn := 49) rfl dX5_waitFor_47 (i := 5) (x := a5) rfl ?_
  refine zh_iast (pn := 50) rfl dX5_waitFor_49 rfl h.1 ?_
  obtain ⟨M6, eM6⟩ : ∃ q : zh_M, q = zh_set M5 57 a1.toNatClampNeg a5 := ⟨_, rfl⟩
  replace h := h.2 M6 eM6
  rw [← eM6]
  exact zh_vret dX5_waitFor_50 rfl ⟨rfl, rfl, h⟩
set_option maxRecDepth 100000 in
theorem ca_X5_waitFor {X : Nat × (Nat → Int32)} {d : Nat} {y : MethodName} {cc : ByteArray} {nL : Nat} {rt : Option FieldType} {pc pn idx : Nat} {lo : List (Option Value)} {st : List Value} {M : zh_M} {P : Option Value → List zh_LC → zh_M → Prop} {a1 : Int32} {a2 : Int32} {a3 : Int32} {a4 : Int32} {a5 : Int32} {K : zh_M → Prop} (hp : pc + 3 = pn) (hd : decode cc pc = .ok (.invokevirtual idx, 3)) (m1 : Cond.methodLink y.cls idx yX5_waitFor ∈ zh_WS) (hsc : ∀ base b, ((st.map (zh_tr base b)).map fun v => v.category).sum ≤ 8) (h : wp_X5_waitFor M a1 a2 a3 a4 a5 K) (kk : ∀ M1, K M1 → zh_W X (d + 1) y cc nL rt pn lo st zh_LL M1 0 0 P) : zh_W X (d + 1) y cc nL rt pc lo (.int a5 :: .int a4 :: .int a3 :: .int a2 :: .int a1 :: .ref 39 :: st) zh_LL M 0 0 P := by
  refine zh_callV (bc := 0) (bs := 0) (bc' := 0) (bs' := 0) (as := [.int a1, .int a2, .int a3, .int a4, .int a5]) (st := st) hp hd rfl (by decide) rfl rfl m1 me_X5_waitFor.1 me_X5_waitFor.2.1 me_X5_waitFor.2.2.1 me_X5_waitFor.2.2.2 ⟨by decide, by decide, by decide⟩ (by show _ = some 5; decide +kernel) (by intro v hv; simp only [List.mem_cons, List.not_mem_nil, or_false] at hv; rcases hv with rfl | rfl | rfl | rfl | rfl <;> (intro _ _; rfl)) hsc (Nat.le_of_ble_eq_true rfl) (by decide) (wk_X5_waitFor  h) (fun r L' M' q => ?_) (fun r L' M' q => ?_)
  · obtain ⟨-, rfl, q⟩ := q; rfl
  · obtain ⟨rfl, rfl, q⟩ := q; exact kk M' q
set_option maxRecDepth 100000 in
set_option maxHeartbeats 4000000 in
theorem wk_X5_hand {X : Nat × (Nat → Int32)} {d : Nat} {M : zh_M} {a1 : Int32} {a2 : Int32} {a3 : Int32} {a4 : Int32} {P : zh_M → Prop} (h : wp_X5_hand M a1 a2 a3 a4 P) : zh_W X (d + 1) yX5_hand cX5_hand 5 none 0 (zh_en [.ref 39, .int a1, .int a2, .int a3, .int a4] 5) [] zh_LL M 0 0 (zh_pv P) := by
  unfold wp_X5_hand at h
  show zh_W X (d + 1) yX5_hand cX5_hand 5 none 0 [some (.ref 39), some (.int a1), some (.int a2), some (.int a3), some (.int a4)] [] zh_LL M 0 0 (zh_pv P)
  refine zh_aload_n (pn := 1) rfl dX5_hand_0 (i := 0) (v := .ref 39) rfl rfl (Or.inr ⟨_, rfl⟩) ?_
  refine zh_get (pn := 4) rfl dX5_hand_1 (v := .ref 52) (k := 12) rfl rfl (by decide) (by decide) in_X5 mf_X5_47 rfl ?_
  refine zh_aload_n (pn := 5) rfl dX5_hand_4 (i := 0) (v := .ref 39) rfl rfl (Or.inr ⟨_, rfl⟩) ?_
  refine zh_iload_n (pn := 6) rfl dX5_hand_5 (i := 1) (x := a1) rfl rfl ?_
  refine zh_iload_n (pn := 7) rfl dX5_hand_6 (i := 2) (x := a2) rfl rfl ?_
  refine ca_X5_place (pn := 10) rfl dX5_hand_7 mc_X5_92 (fun _ _ => Nat.le_of_ble_eq_true rfl) h (fun r2 M1 h => ?_)
  refine zh_iload_n (pn := 11) rfl dX5_hand_10 (i := 3) (x := a3) rfl rfl ?_
  refine zh_iast (pn := 12) rfl dX5_hand_11 rfl h.1 ?_
  obtain ⟨M3, eM3⟩ : ∃ q : zh_M, q = zh_set M1 52 r2.toNatClampNeg a3 := ⟨_, rfl⟩
  replace h := h.2 M3 eM3
  rw [← eM3]
  refine zh_aload_n (pn := 13) rfl dX5_hand_12 (i := 0) (v := .ref 39) rfl rfl (Or.inr ⟨_, rfl⟩) ?_
  refine zh_get (pn := 16) rfl dX5_hand_13 (v := .ref 59) (k := 19) rfl rfl (by decide) (by decide) in_X5 mf_X5_68 rfl ?_
  refine zh_iload_n (pn := 17) rfl dX5_hand_16 (i := 1) (x := a1) rfl rfl ?_
  refine zh_iload (pn := 19) rfl dX5_hand_17 (i := 4) (x := a4) rfl ?_
  refine zh_iast (pn := 20) rfl dX5_hand_19 rfl h.1 ?_
  obtain ⟨M4, eM4⟩ : ∃ q : zh_M, q = zh_set M3 59 a1.toNatClampNeg a4 := ⟨_, rfl⟩
  replace h := h.2 M4 eM4
  rw [← eM4]
  refine zh_aload_n (pn := 21) rfl dX5_hand_20 (i := 0) (v := .ref 39) rfl rfl (Or.inr ⟨_, rfl⟩) ?_
  refine zh_get (pn := 24) rfl dX5_hand_21 (v := .ref 49) (k := 9) rfl rfl (by decide) (by decide) in_X5 mf_X5_38 rfl ?_
  refine zh_iload_n (pn := 25) rfl dX5_hand_24 (i := 1) (x := a1) rfl rfl ?_
  refine zh_iconst (pn := 26) rfl dX5_hand_25 (v := (zI 1)) rfl ?_
  refine zh_iast (pn := 27) rfl dX5_hand_26 rfl h.1 ?_
  obtain ⟨M5, eM5⟩ : ∃ q : zh_M, q = zh_set M4 49 a1.toNatClampNeg (zI 1) := ⟨_, rfl⟩
  replace h := h.2 M5 eM5
  rw [← eM5]
  exact zh_vret dX5_hand_27 rfl ⟨rfl, rfl, h⟩
set_option maxRecDepth 100000 in
theorem ca_X5_hand {X : Nat × (Nat → Int32)} {d : Nat} {y : MethodName} {cc : ByteArray} {nL : Nat} {rt : Option FieldType} {pc pn idx : Nat} {lo : List (Option Value)} {st : List Value} {M : zh_M} {P : Option Value → List zh_LC → zh_M → Prop} {a1 : Int32} {a2 : Int32} {a3 : Int32} {a4 : Int32} {K : zh_M → Prop} (hp : pc + 3 = pn) (hd : decode cc pc = .ok (.invokevirtual idx, 3)) (m1 : Cond.methodLink y.cls idx yX5_hand ∈ zh_WS) (hsc : ∀ base b, ((st.map (zh_tr base b)).map fun v => v.category).sum ≤ 8) (h : wp_X5_hand M a1 a2 a3 a4 K) (kk : ∀ M1, K M1 → zh_W X (d + 2) y cc nL rt pn lo st zh_LL M1 0 0 P) : zh_W X (d + 2) y cc nL rt pc lo (.int a4 :: .int a3 :: .int a2 :: .int a1 :: .ref 39 :: st) zh_LL M 0 0 P := by
  refine zh_callV (bc := 0) (bs := 0) (bc' := 0) (bs' := 0) (as := [.int a1, .int a2, .int a3, .int a4]) (st := st) hp hd rfl (by decide) rfl rfl m1 me_X5_hand.1 me_X5_hand.2.1 me_X5_hand.2.2.1 me_X5_hand.2.2.2 ⟨by decide, by decide, by decide⟩ (by show _ = some 4; decide +kernel) (by intro v hv; simp only [List.mem_cons, List.not_mem_nil, or_false] at hv; rcases hv with rfl | rfl | rfl | rfl <;> (intro _ _; rfl)) hsc (Nat.le_of_ble_eq_true rfl) (by decide) (wk_X5_hand  h) (fun r L' M' q => ?_) (fun r L' M' q => ?_)
  · obtain ⟨-, rfl, q⟩ := q; rfl
  · obtain ⟨rfl, rfl, q⟩ := q; exact kk M' q
set_option maxRecDepth 100000 in
set_option maxHeartbeats 4000000 in
theorem wk_X5_enter {X : Nat × (Nat → Int32)} {d : Nat} {M : zh_M} {a1 : Int32} {a2 : Int32} {P : zh_M → Prop} (h : wp_X5_enter M a1 a2 P) : zh_W X (d + 1) yX5_enter cX5_enter 3 none 0 (zh_en [.ref 39, .int a1, .int a2] 3) [] zh_LL M 0 0 (zh_pv P) := by
  unfold wp_X5_enter at h
  show zh_W X (d + 1) yX5_enter cX5_enter 3 none 0 [some (.ref 39), some (.int a1), some (.int a2)] [] zh_LL M 0 0 (zh_pv P)
  refine zh_aload_n (pn := 1) rfl dX5_enter_0 (i := 0) (v := .ref 39) rfl rfl (Or.inr ⟨_, rfl⟩) ?_
  refine zh_iload_n (pn := 2) rfl dX5_enter_1 (i := 2) (x := a2) rfl rfl ?_
  refine ca_X5_note (pn := 5) rfl dX5_enter_2 mc_X5_144 (fun _ _ => Nat.le_of_ble_eq_true rfl) h (fun M1 h => ?_)
  refine zh_aload_n (pn := 6) rfl dX5_enter_5 (i := 0) (v := .ref 39) rfl rfl (Or.inr ⟨_, rfl⟩) ?_
  refine zh_get (pn := 9) rfl dX5_enter_6 (v := .ref 60) (k := 20) rfl rfl (by decide) (by decide) in_X5 mf_X5_71 rfl ?_
  refine zh_iconst (pn := 10) rfl dX5_enter_9 (v := (zI 4)) rfl ?_
  refine zh_iload_n (pn := 11) rfl dX5_enter_10 (i := 1) (x := a1) rfl rfl ?_
  refine zh_imul (pn := 12) rfl dX5_enter_11 ?_
  refine zh_aload_n (pn := 13) rfl dX5_enter_12 (i := 0) (v := .ref 39) rfl rfl (Or.inr ⟨_, rfl⟩) ?_
  refine zh_get (pn := 16) rfl dX5_enter_13 (v := .ref 61) (k := 21) rfl rfl (by decide) (by decide) in_X5 mf_X5_74 rfl ?_
  refine zh_iload_n (pn := 17) rfl dX5_enter_16 (i := 1) (x := a1) rfl rfl ?_
  refine zh_iald (pn := 18) rfl dX5_enter_17 rfl h.1 ?_
  replace h := h.2
  refine zh_iadd (pn := 19) rfl dX5_enter_18 ?_
  refine zh_iload_n (pn := 20) rfl dX5_enter_19 (i := 2) (x := a2) rfl rfl ?_
  refine zh_iast (pn := 21) rfl dX5_enter_20 rfl h.1 ?_
  obtain ⟨M2, eM2⟩ : ∃ q : zh_M, q = zh_set M1 60 (((zI 4) * a1) + (M1 61 a1.toNatClampNeg)).toNatClampNeg a2 := ⟨_, rfl⟩
  replace h := h.2 M2 eM2
  rw [← eM2]
  refine zh_aload_n (pn := 22) rfl dX5_enter_21 (i := 0) (v := .ref 39) rfl rfl (Or.inr ⟨_, rfl⟩) ?_
  refine zh_get (pn := 25) rfl dX5_enter_22 (v := .ref 61) (k := 21) rfl rfl (by decide) (by decide) in_X5 mf_X5_74 rfl ?_
  refine zh_iload_n (pn := 26) rfl dX5_enter_25 (i := 1) (x := a1) rfl rfl ?_
  refine zh_dup2 (pn := 27) rfl dX5_enter_26 (fun _ _ => rfl) (fun _ _ => rfl) ?_
  refine zh_iald (pn := 28) rfl dX5_enter_27 rfl h.1 ?_
  replace h := h.2
  refine zh_iconst (pn := 29) rfl dX5_enter_28 (v := (zI 1)) rfl ?_
  refine zh_iadd (pn := 30) rfl dX5_enter_29 ?_
  refine zh_iast (pn := 31) rfl dX5_enter_30 rfl h.1 ?_
  obtain ⟨M3, eM3⟩ : ∃ q : zh_M, q = zh_set M2 61 a1.toNatClampNeg ((M2 61 a1.toNatClampNeg) + (zI 1)) := ⟨_, rfl⟩
  replace h := h.2 M3 eM3
  rw [← eM3]
  exact zh_vret dX5_enter_31 rfl ⟨rfl, rfl, h⟩
set_option maxRecDepth 100000 in
theorem ca_X5_enter {X : Nat × (Nat → Int32)} {d : Nat} {y : MethodName} {cc : ByteArray} {nL : Nat} {rt : Option FieldType} {pc pn idx : Nat} {lo : List (Option Value)} {st : List Value} {M : zh_M} {P : Option Value → List zh_LC → zh_M → Prop} {a1 : Int32} {a2 : Int32} {K : zh_M → Prop} (hp : pc + 3 = pn) (hd : decode cc pc = .ok (.invokevirtual idx, 3)) (m1 : Cond.methodLink y.cls idx yX5_enter ∈ zh_WS) (hsc : ∀ base b, ((st.map (zh_tr base b)).map fun v => v.category).sum ≤ 8) (h : wp_X5_enter M a1 a2 K) (kk : ∀ M1, K M1 → zh_W X (d + 2) y cc nL rt pn lo st zh_LL M1 0 0 P) : zh_W X (d + 2) y cc nL rt pc lo (.int a2 :: .int a1 :: .ref 39 :: st) zh_LL M 0 0 P := by
  refine zh_callV (bc := 0) (bs := 0) (bc' := 0) (bs' := 0) (as := [.int a1, .int a2]) (st := st) hp hd rfl (by decide) rfl rfl m1 me_X5_enter.1 me_X5_enter.2.1 me_X5_enter.2.2.1 me_X5_enter.2.2.2 ⟨by decide, by decide, by decide⟩ (by show _ = some 2; decide +kernel) (by intro v hv; simp only [List.mem_cons, List.not_mem_nil, or_false] at hv; rcases hv with rfl | rfl <;> (intro _ _; rfl)) hsc (Nat.le_of_ble_eq_true rfl) (by decide) (wk_X5_enter  h) (fun r L' M' q => ?_) (fun r L' M' q => ?_)
  · obtain ⟨-, rfl, q⟩ := q; rfl
  · obtain ⟨rfl, rfl, q⟩ := q; exact kk M' q
set_option maxRecDepth 100000 in
set_option maxHeartbeats 4000000 in
theorem wk_X5_send {X : Nat × (Nat → Int32)} {d : Nat} {M : zh_M} {a1 : Int32} {a2 : Int32} {a3 : Int32} {P : Int32 → zh_M → Prop} (h : wp_X5_send M a1 a2 a3 P) : zh_W X (d + 3) yX5_send cX5_send 6 (some .int) 0 (zh_en [.ref 39, .int a1, .int a2, .int a3] 6) [] zh_LL M 0 0 (zh_pi P) := by
  unfold wp_X5_send at h
  show zh_W X (d + 3) yX5_send cX5_send 6 (some .int) 0 [some (.ref 39), some (.int a1), some (.int a2), some (.int a3), none, none] [] zh_LL M 0 0 (zh_pi P)
  refine zh_aload_n (pn := 1) rfl dX5_send_0 (i := 0) (v := .ref 39) rfl rfl (Or.inr ⟨_, rfl⟩) ?_
  refine zh_iload_n (pn := 2) rfl dX5_send_1 (i := 1) (x := a1) rfl rfl ?_
  refine zh_iload_n (pn := 3) rfl dX5_send_2 (i := 2) (x := a2) rfl rfl ?_
  refine zh_iconst (pn := 4) rfl dX5_send_3 (v := (zI 0)) rfl ?_
  refine ca_X5_cell (pn := 7) rfl dX5_send_4 mc_X5_96 (fun _ _ => Nat.le_of_ble_eq_true rfl) h (fun r2 M1 h => ?_)
  refine zh_if_eq (pn := 10) rfl dX5_send_7 (tgt := 19) rfl (fun cc1 => ?_) (fun cc1 => ?_)
  · replace h := h.1 cc1
    refine zh_iconst (pn := 20) rfl dX5_send_19 (v := (zI (-1))) rfl ?_
    exact zh_iret dX5_send_20 rfl rfl ⟨_, rfl, rfl, h⟩
  · replace h := h.2 cc1
    refine zh_iload_n (pn := 11) rfl dX5_send_10 (i := 3) (x := a3) rfl rfl ?_
    refine zh_if_lt (pn := 14) rfl dX5_send_11 (tgt := 19) rfl (fun cc1 => ?_) (fun cc1 => ?_)
    · replace h := h.1 cc1
      refine zh_iconst (pn := 20) rfl dX5_send_19 (v := (zI (-1))) rfl ?_
      exact zh_iret dX5_send_20 rfl rfl ⟨_, rfl, rfl, h⟩
    · replace h := h.2 cc1
      refine zh_iload_n (pn := 15) rfl dX5_send_14 (i := 3) (x := a3) rfl rfl ?_
      refine zh_iconst (pn := 16) rfl dX5_send_15 (v := (zI 3)) rfl ?_
      refine zh_icmp_le (pn := 19) rfl dX5_send_16 (tgt := 21) rfl (fun cc1 => ?_) (fun cc1 => ?_)
      · replace h := h.1 cc1
        refine zh_aload_n (pn := 22) rfl dX5_send_21 (i := 0) (v := .ref 39) rfl rfl (Or.inr ⟨_, rfl⟩) ?_
        refine zh_iload_n (pn := 23) rfl dX5_send_22 (i := 1) (x := a1) rfl rfl ?_
        refine zh_iload_n (pn := 24) rfl dX5_send_23 (i := 2) (x := a2) rfl rfl ?_
        refine ca_X5_value (pn := 27) rfl dX5_send_24 mc_X5_100 (fun _ _ => Nat.le_of_ble_eq_true rfl) h (fun r4 M3 h => ?_)
        refine zh_istore (pn := 29) rfl dX5_send_27 (i := 4) (lo' := [some (.ref 39), some (.int a1), some (.int a2), some (.int a3), some (.int r4), none]) (by decide) rfl ?_
        refine zh_aload_n (pn := 30) rfl dX5_send_29 (i := 0) (v := .ref 39) rfl rfl (Or.inr ⟨_, rfl⟩) ?_
        refine zh_iload_n (pn := 31) rfl dX5_send_30 (i := 3) (x := a3) rfl rfl ?_
        refine zh_iconst (pn := 32) rfl dX5_send_31 (v := (zI 3)) rfl ?_
        refine ca_X5_firstAt (pn := 35) rfl dX5_send_32 mc_X5_150 (fun _ _ => Nat.le_of_ble_eq_true rfl) h (fun r6 M5 h => ?_)
        refine zh_istore (pn := 37) rfl dX5_send_35 (i := 5) (lo' := [some (.ref 39), some (.int a1), some (.int a2), some (.int a3), some (.int r4), some (.int r6)]) (by decide) rfl ?_
        refine zh_iload (pn := 39) rfl dX5_send_37 (i := 5) (x := r6) rfl ?_
        refine zh_if_lt (pn := 42) rfl dX5_send_39 (tgt := 66) rfl (fun cc1 => ?_) (fun cc1 => ?_)
        · replace h := h.1 cc1
          refine zh_aload_n (pn := 67) rfl dX5_send_66 (i := 0) (v := .ref 39) rfl rfl (Or.inr ⟨_, rfl⟩) ?_
          refine zh_get (pn := 70) rfl dX5_send_67 (v := .ref 61) (k := 21) rfl rfl (by decide) (by decide) in_X5 mf_X5_74 rfl ?_
          refine zh_iload_n (pn := 71) rfl dX5_send_70 (i := 3) (x := a3) rfl rfl ?_
          refine zh_iald (pn := 72) rfl dX5_send_71 rfl h.1 ?_
          replace h := h.2
          refine zh_iload_n (pn := 73) rfl dX5_send_72 (i := 3) (x := a3) rfl rfl ?_
          refine zh_icmp_ge (pn := 76) rfl dX5_send_73 (tgt := 85) rfl (fun cc1 => ?_) (fun cc1 => ?_)
          · replace h := h.1 cc1
            refine zh_aload_n (pn := 86) rfl dX5_send_85 (i := 0) (v := .ref 39) rfl rfl (Or.inr ⟨_, rfl⟩) ?_
            refine zh_iload_n (pn := 87) rfl dX5_send_86 (i := 1) (x := a1) rfl rfl ?_
            refine zh_iconst (pn := 88) rfl dX5_send_87 (v := (zI 2)) rfl ?_
            refine zh_iload_n (pn := 89) rfl dX5_send_88 (i := 2) (x := a2) rfl rfl ?_
            refine zh_iload_n (pn := 90) rfl dX5_send_89 (i := 3) (x := a3) rfl rfl ?_
            refine zh_iload_n (pn := 91) rfl dX5_send_90 (i := 3) (x := a3) rfl rfl ?_
            refine ca_X5_waitFor (pn := 94) rfl dX5_send_91 mc_X5_160 (fun _ _ => Nat.le_of_ble_eq_true rfl) h (fun M7 h => ?_)
            refine zh_iconst (pn := 95) rfl dX5_send_94 (v := (zI 4)) rfl ?_
            exact zh_iret dX5_send_95 rfl rfl ⟨_, rfl, rfl, h⟩
          · replace h := h.2 cc1
            refine zh_aload_n (pn := 77) rfl dX5_send_76 (i := 0) (v := .ref 39) rfl rfl (Or.inr ⟨_, rfl⟩) ?_
            refine zh_iload_n (pn := 78) rfl dX5_send_77 (i := 3) (x := a3) rfl rfl ?_
            refine zh_iload (pn := 80) rfl dX5_send_78 (i := 4) (x := r4) rfl ?_
            refine ca_X5_enter (pn := 83) rfl dX5_send_80 mc_X5_157 (fun _ _ => Nat.le_of_ble_eq_true rfl) h (fun M8 h => ?_)
            refine zh_iload_n (pn := 84) rfl dX5_send_83 (i := 3) (x := a3) rfl rfl ?_
            exact zh_iret dX5_send_84 rfl rfl ⟨_, rfl, rfl, h⟩
        · replace h := h.2 cc1
          refine zh_aload_n (pn := 43) rfl dX5_send_42 (i := 0) (v := .ref 39) rfl rfl (Or.inr ⟨_, rfl⟩) ?_
          refine zh_iload (pn := 45) rfl dX5_send_43 (i := 4) (x := r4) rfl ?_
          refine ca_X5_note (pn := 48) rfl dX5_send_45 mc_X5_144 (fun _ _ => Nat.le_of_ble_eq_true rfl) h (fun M9 h => ?_)
          refine zh_aload_n (pn := 49) rfl dX5_send_48 (i := 0) (v := .ref 39) rfl rfl (Or.inr ⟨_, rfl⟩) ?_
          refine zh_iload (pn := 51) rfl dX5_send_49 (i := 5) (x := r6) rfl ?_
          refine zh_aload_n (pn := 52) rfl dX5_send_51 (i := 0) (v := .ref 39) rfl rfl (Or.inr ⟨_, rfl⟩) ?_
          refine zh_get (pn := 55) rfl dX5_send_52 (v := .ref 58) (k := 18) rfl rfl (by decide) (by decide) in_X5 mf_X5_65 rfl ?_
          refine zh_iload (pn := 57) rfl dX5_send_55 (i := 5) (x := r6) rfl ?_
          refine zh_iald (pn := 58) rfl dX5_send_57 rfl h.1 ?_
          replace h := h.2
          refine zh_iload (pn := 60) rfl dX5_send_58 (i := 4) (x := r4) rfl ?_
          refine zh_iload_n (pn := 61) rfl dX5_send_60 (i := 3) (x := a3) rfl rfl ?_
          refine ca_X5_hand (pn := 64) rfl dX5_send_61 mc_X5_153 (fun _ _ => Nat.le_of_ble_eq_true rfl) h (fun M10 h => ?_)
          refine zh_iload_n (pn := 65) rfl dX5_send_64 (i := 3) (x := a3) rfl rfl ?_
          exact zh_iret dX5_send_65 rfl rfl ⟨_, rfl, rfl, h⟩
      · replace h := h.2 cc1
        refine zh_iconst (pn := 20) rfl dX5_send_19 (v := (zI (-1))) rfl ?_
        exact zh_iret dX5_send_20 rfl rfl ⟨_, rfl, rfl, h⟩
set_option maxRecDepth 100000 in
theorem ca_X5_send {X : Nat × (Nat → Int32)} {d : Nat} {y : MethodName} {cc : ByteArray} {nL : Nat} {rt : Option FieldType} {pc pn idx : Nat} {lo : List (Option Value)} {st : List Value} {M : zh_M} {P : Option Value → List zh_LC → zh_M → Prop} {a1 : Int32} {a2 : Int32} {a3 : Int32} {K : Int32 → zh_M → Prop} (hp : pc + 3 = pn) (hd : decode cc pc = .ok (.invokevirtual idx, 3)) (m1 : Cond.methodLink y.cls idx yX5_send ∈ zh_WS) (hsc : ∀ base b, ((st.map (zh_tr base b)).map fun v => v.category).sum ≤ 8) (h : wp_X5_send M a1 a2 a3 K) (kk : ∀ r M1, K r M1 → zh_W X (d + 4) y cc nL rt pn lo (.int r :: st) zh_LL M1 0 0 P) : zh_W X (d + 4) y cc nL rt pc lo (.int a3 :: .int a2 :: .int a1 :: .ref 39 :: st) zh_LL M 0 0 P := by
  refine zh_callV (bc := 0) (bs := 0) (bc' := 0) (bs' := 0) (as := [.int a1, .int a2, .int a3]) (st := st) hp hd rfl (by decide) rfl rfl m1 me_X5_send.1 me_X5_send.2.1 me_X5_send.2.2.1 me_X5_send.2.2.2 ⟨by decide, by decide, by decide⟩ (by show _ = some 3; decide +kernel) (by intro v hv; simp only [List.mem_cons, List.not_mem_nil, or_false] at hv; rcases hv with rfl | rfl | rfl <;> (intro _ _; rfl)) hsc (Nat.le_of_ble_eq_true rfl) (by decide) (wk_X5_send  h) (fun r L' M' q => ?_) (fun r L' M' q => ?_)
  · obtain ⟨v, -, rfl, q⟩ := q; rfl
  · obtain ⟨v, rfl, rfl, q⟩ := q; exact kk v M' q
set_option maxRecDepth 100000 in
set_option maxHeartbeats 4000000 in
theorem wkl_X5_gives_70 {X : Nat × (Nat → Int32)} {d : Nat} {P : Int32 → zh_M → Prop} {l1 : Int32} {l2 : Int32} {l3 : Int32} {l4 : Int32} {l5 : Int32} {l6 : Int32} {K111 : zh_M → Prop} (hK111 : ∀ (M : zh_M) (w7 : Option Value), K111 M → zh_W X (d + 2) yX5_gives cX5_gives 8 (some .boolean) 111 [some (.ref 39), some (.int l1), some (.int l2), some (.int l3), some (.int l4), some (.int l5), some (.int l6), w7] [] zh_LL M 0 0 (zh_pi P)) : ∀ (n : Nat) (l7 : Int32) (M : zh_M) , wl_X5_gives_70 l1 l2 l3 l4 l5 l6 K111 P n l7 M → zh_W X (d + 2) yX5_gives cX5_gives 8 (some .boolean) 70 [some (.ref 39), some (.int l1), some (.int l2), some (.int l3), some (.int l4), some (.int l5), some (.int l6), some (.int l7)] [] zh_LL M 0 0 (zh_pi P) := by
  intro n
  induction n with
  | zero => intro l7 M  h; exact h.elim
  | succ n ih =>
    intro l7 M  h
    unfold wl_X5_gives_70 at h
    refine zh_iload (pn := 72) rfl dX5_gives_70 (i := 7) (x := l7) rfl ?_
    refine zh_aload_n (pn := 73) rfl dX5_gives_72 (i := 0) (v := .ref 39) rfl rfl (Or.inr ⟨_, rfl⟩) ?_
    refine zh_get (pn := 76) rfl dX5_gives_73 (v := .ref 61) (k := 21) rfl rfl (by decide) (by decide) in_X5 mf_X5_74 rfl ?_
    refine zh_iload_n (pn := 77) rfl dX5_gives_76 (i := 1) (x := l1) rfl rfl ?_
    refine zh_iald (pn := 78) rfl dX5_gives_77 rfl h.1 ?_
    replace h := h.2
    refine zh_icmp_ge (pn := 81) rfl dX5_gives_78 (tgt := 111) rfl (fun cc1 => ?_) (fun cc1 => ?_)
    · replace h := h.1 cc1
      exact hK111 _ _ h
    · replace h := h.2 cc1
      refine zh_aload_n (pn := 82) rfl dX5_gives_81 (i := 0) (v := .ref 39) rfl rfl (Or.inr ⟨_, rfl⟩) ?_
      refine zh_get (pn := 85) rfl dX5_gives_82 (v := .ref 60) (k := 20) rfl rfl (by decide) (by decide) in_X5 mf_X5_71 rfl ?_
      refine zh_iconst (pn := 86) rfl dX5_gives_85 (v := (zI 4)) rfl ?_
      refine zh_iload_n (pn := 87) rfl dX5_gives_86 (i := 1) (x := l1) rfl rfl ?_
      refine zh_imul (pn := 88) rfl dX5_gives_87 ?_
      refine zh_iload (pn := 90) rfl dX5_gives_88 (i := 7) (x := l7) rfl ?_
      refine zh_iadd (pn := 91) rfl dX5_gives_90 ?_
      refine zh_iconst (pn := 92) rfl dX5_gives_91 (v := (zI 1)) rfl ?_
      refine zh_isub (pn := 93) rfl dX5_gives_92 ?_
      refine zh_aload_n (pn := 94) rfl dX5_gives_93 (i := 0) (v := .ref 39) rfl rfl (Or.inr ⟨_, rfl⟩) ?_
      refine zh_get (pn := 97) rfl dX5_gives_94 (v := .ref 60) (k := 20) rfl rfl (by decide) (by decide) in_X5 mf_X5_71 rfl ?_
      refine zh_iconst (pn := 98) rfl dX5_gives_97 (v := (zI 4)) rfl ?_
      refine zh_iload_n (pn := 99) rfl dX5_gives_98 (i := 1) (x := l1) rfl rfl ?_
      refine zh_imul (pn := 100) rfl dX5_gives_99 ?_
      refine zh_iload (pn := 102) rfl dX5_gives_100 (i := 7) (x := l7) rfl ?_
      refine zh_iadd (pn := 103) rfl dX5_gives_102 ?_
      refine zh_iald (pn := 104) rfl dX5_gives_103 rfl h.1 ?_
      replace h := h.2
      refine zh_iast (pn := 105) rfl dX5_gives_104 rfl h.1 ?_
      obtain ⟨M9, eM9⟩ : ∃ q : zh_M, q = zh_set M 60 ((((zI 4) * l1) + l7) - (zI 1)).toNatClampNeg (M 60 (((zI 4) * l1) + l7).toNatClampNeg) := ⟨_, rfl⟩
      replace h := h.2 M9 eM9
      rw [← eM9]
      refine zh_iinc (pn := 108) rfl dX5_gives_105 (i := 7) (x := l7) (v := l7 + (zI 1)) (lo' := [some (.ref 39), some (.int l1), some (.int l2), some (.int l3), some (.int l4), some (.int l5), some (.int l6), some (.int (l7 + (zI 1)))]) rfl rfl (by decide) rfl ?_
      refine zh_goto dX5_gives_108 (tgt := 70) rfl ?_
      exact ih _ _ h
set_option maxRecDepth 100000 in
set_option maxHeartbeats 4000000 in
theorem wk_X5_gives {X : Nat × (Nat → Int32)} {d : Nat} {M : zh_M} {a1 : Int32} {a2 : Int32} {a3 : Int32} {P : Int32 → zh_M → Prop} (h : wp_X5_gives M a1 a2 a3 P) : zh_W X (d + 2) yX5_gives cX5_gives 8 (some .boolean) 0 (zh_en [.ref 39, .int a1, .int a2, .int a3] 8) [] zh_LL M 0 0 (zh_pi P) := by
  unfold wp_X5_gives at h
  show zh_W X (d + 2) yX5_gives cX5_gives 8 (some .boolean) 0 [some (.ref 39), some (.int a1), some (.int a2), some (.int a3), none, none, none, none] [] zh_LL M 0 0 (zh_pi P)
  refine zh_aload_n (pn := 1) rfl dX5_gives_0 (i := 0) (v := .ref 39) rfl rfl (Or.inr ⟨_, rfl⟩) ?_
  refine zh_iload_n (pn := 2) rfl dX5_gives_1 (i := 1) (x := a1) rfl rfl ?_
  refine zh_iconst (pn := 3) rfl dX5_gives_2 (v := (zI 2)) rfl ?_
  refine ca_X5_firstAt (pn := 6) rfl dX5_gives_3 mc_X5_150 (fun _ _ => Nat.le_of_ble_eq_true rfl) h (fun r2 M1 h => ?_)
  refine zh_istore (pn := 8) rfl dX5_gives_6 (i := 4) (lo' := [some (.ref 39), some (.int a1), some (.int a2), some (.int a3), some (.int r2), none, none, none]) (by decide) rfl ?_
  refine zh_aload_n (pn := 9) rfl dX5_gives_8 (i := 0) (v := .ref 39) rfl rfl (Or.inr ⟨_, rfl⟩) ?_
  refine zh_get (pn := 12) rfl dX5_gives_9 (v := .ref 61) (k := 21) rfl rfl (by decide) (by decide) in_X5 mf_X5_74 rfl ?_
  refine zh_iload_n (pn := 13) rfl dX5_gives_12 (i := 1) (x := a1) rfl rfl ?_
  refine zh_iald (pn := 14) rfl dX5_gives_13 rfl h.1 ?_
  replace h := h.2
  refine zh_if_ne (pn := 17) rfl dX5_gives_14 (tgt := 24) rfl (fun cc1 => ?_) (fun cc1 => ?_)
  · replace h := h.1 cc1
    refine zh_iload (pn := 26) rfl dX5_gives_24 (i := 4) (x := r2) rfl ?_
    refine zh_if_ge (pn := 29) rfl dX5_gives_26 (tgt := 33) rfl (fun cc1 => ?_) (fun cc1 => ?_)
    · replace h := h.1 cc1
      refine zh_aload_n (pn := 34) rfl dX5_gives_33 (i := 0) (v := .ref 39) rfl rfl (Or.inr ⟨_, rfl⟩) ?_
      refine zh_iload (pn := 36) rfl dX5_gives_34 (i := 4) (x := r2) rfl ?_
      refine zh_aload_n (pn := 37) rfl dX5_gives_36 (i := 0) (v := .ref 39) rfl rfl (Or.inr ⟨_, rfl⟩) ?_
      refine zh_get (pn := 40) rfl dX5_gives_37 (v := .ref 58) (k := 18) rfl rfl (by decide) (by decide) in_X5 mf_X5_65 rfl ?_
      refine zh_iload (pn := 42) rfl dX5_gives_40 (i := 4) (x := r2) rfl ?_
      refine zh_iald (pn := 43) rfl dX5_gives_42 rfl h.1 ?_
      replace h := h.2
      refine ca_X5_value (pn := 46) rfl dX5_gives_43 mc_X5_100 (fun _ _ => Nat.le_of_ble_eq_true rfl) h (fun r4 M3 h => ?_)
      refine zh_istore (pn := 48) rfl dX5_gives_46 (i := 5) (lo' := [some (.ref 39), some (.int a1), some (.int a2), some (.int a3), some (.int r2), some (.int r4), none, none]) (by decide) rfl ?_
      refine zh_aload_n (pn := 49) rfl dX5_gives_48 (i := 0) (v := .ref 39) rfl rfl (Or.inr ⟨_, rfl⟩) ?_
      refine zh_get (pn := 52) rfl dX5_gives_49 (v := .ref 61) (k := 21) rfl rfl (by decide) (by decide) in_X5 mf_X5_74 rfl ?_
      refine zh_iload_n (pn := 53) rfl dX5_gives_52 (i := 1) (x := a1) rfl rfl ?_
      refine zh_iald (pn := 54) rfl dX5_gives_53 rfl h.1 ?_
      replace h := h.2
      refine zh_if_le (pn := 57) rfl dX5_gives_54 (tgt := 140) rfl (fun cc1 => ?_) (fun cc1 => ?_)
      · replace h := h.1 cc1
        refine zh_aload_n (pn := 141) rfl dX5_gives_140 (i := 0) (v := .ref 39) rfl rfl (Or.inr ⟨_, rfl⟩) ?_
        refine zh_iload (pn := 143) rfl dX5_gives_141 (i := 5) (x := r4) rfl ?_
        refine ca_X5_note (pn := 146) rfl dX5_gives_143 mc_X5_144 (fun _ _ => Nat.le_of_ble_eq_true rfl) h (fun M5 h => ?_)
        refine zh_iload (pn := 148) rfl dX5_gives_146 (i := 4) (x := r2) rfl ?_
        refine zh_if_lt (pn := 151) rfl dX5_gives_148 (tgt := 159) rfl (fun cc1 => ?_) (fun cc1 => ?_)
        · replace h := h.1 cc1
          refine zh_aload_n (pn := 160) rfl dX5_gives_159 (i := 0) (v := .ref 39) rfl rfl (Or.inr ⟨_, rfl⟩) ?_
          refine zh_iload_n (pn := 161) rfl dX5_gives_160 (i := 2) (x := a2) rfl rfl ?_
          refine zh_iload_n (pn := 162) rfl dX5_gives_161 (i := 3) (x := a3) rfl rfl ?_
          refine zh_iload (pn := 164) rfl dX5_gives_162 (i := 5) (x := r4) rfl ?_
          refine zh_iload_n (pn := 165) rfl dX5_gives_164 (i := 1) (x := a1) rfl rfl ?_
          refine ca_X5_hand (pn := 168) rfl dX5_gives_165 mc_X5_153 (fun _ _ => Nat.le_of_ble_eq_true rfl) h (fun M6 h => ?_)
          refine zh_iconst (pn := 169) rfl dX5_gives_168 (v := (zI 1)) rfl ?_
          exact zh_iret dX5_gives_169 rfl rfl ⟨_, rfl, rfl, h⟩
        · replace h := h.2 cc1
          refine zh_aload_n (pn := 152) rfl dX5_gives_151 (i := 0) (v := .ref 39) rfl rfl (Or.inr ⟨_, rfl⟩) ?_
          refine zh_get (pn := 155) rfl dX5_gives_152 (v := .ref 49) (k := 9) rfl rfl (by decide) (by decide) in_X5 mf_X5_38 rfl ?_
          refine zh_iload (pn := 157) rfl dX5_gives_155 (i := 4) (x := r2) rfl ?_
          refine zh_iconst (pn := 158) rfl dX5_gives_157 (v := (zI 1)) rfl ?_
          refine zh_iast (pn := 159) rfl dX5_gives_158 rfl h.1 ?_
          obtain ⟨M7, eM7⟩ : ∃ q : zh_M, q = zh_set M5 49 r2.toNatClampNeg (zI 1) := ⟨_, rfl⟩
          replace h := h.2 M7 eM7
          rw [← eM7]
          refine zh_aload_n (pn := 160) rfl dX5_gives_159 (i := 0) (v := .ref 39) rfl rfl (Or.inr ⟨_, rfl⟩) ?_
          refine zh_iload_n (pn := 161) rfl dX5_gives_160 (i := 2) (x := a2) rfl rfl ?_
          refine zh_iload_n (pn := 162) rfl dX5_gives_161 (i := 3) (x := a3) rfl rfl ?_
          refine zh_iload (pn := 164) rfl dX5_gives_162 (i := 5) (x := r4) rfl ?_
          refine zh_iload_n (pn := 165) rfl dX5_gives_164 (i := 1) (x := a1) rfl rfl ?_
          refine ca_X5_hand (pn := 168) rfl dX5_gives_165 mc_X5_153 (fun _ _ => Nat.le_of_ble_eq_true rfl) h (fun M8 h => ?_)
          refine zh_iconst (pn := 169) rfl dX5_gives_168 (v := (zI 1)) rfl ?_
          exact zh_iret dX5_gives_169 rfl rfl ⟨_, rfl, rfl, h⟩
      · replace h := h.2 cc1
        refine zh_aload_n (pn := 58) rfl dX5_gives_57 (i := 0) (v := .ref 39) rfl rfl (Or.inr ⟨_, rfl⟩) ?_
        refine zh_get (pn := 61) rfl dX5_gives_58 (v := .ref 60) (k := 20) rfl rfl (by decide) (by decide) in_X5 mf_X5_71 rfl ?_
        refine zh_iconst (pn := 62) rfl dX5_gives_61 (v := (zI 4)) rfl ?_
        refine zh_iload_n (pn := 63) rfl dX5_gives_62 (i := 1) (x := a1) rfl rfl ?_
        refine zh_imul (pn := 64) rfl dX5_gives_63 ?_
        refine zh_iald (pn := 65) rfl dX5_gives_64 rfl h.1 ?_
        replace h := h.2
        refine zh_istore (pn := 67) rfl dX5_gives_65 (i := 6) (lo' := [some (.ref 39), some (.int a1), some (.int a2), some (.int a3), some (.int r2), some (.int r4), some (.int (M3 60 ((zI 4) * a1).toNatClampNeg)), none]) (by decide) rfl ?_
        refine zh_iconst (pn := 68) rfl dX5_gives_67 (v := (zI 1)) rfl ?_
        refine zh_istore (pn := 70) rfl dX5_gives_68 (i := 7) (lo' := [some (.ref 39), some (.int a1), some (.int a2), some (.int a3), some (.int r2), some (.int r4), some (.int (M3 60 ((zI 4) * a1).toNatClampNeg)), some (.int (zI 1))]) (by decide) rfl ?_
        obtain ⟨n20, h⟩ := h
        refine wkl_X5_gives_70 (fun M10 w7_11 h => ?_) n20 _ _ h
        refine zh_aload_n (pn := 112) rfl dX5_gives_111 (i := 0) (v := .ref 39) rfl rfl (Or.inr ⟨_, rfl⟩) ?_
        refine zh_get (pn := 115) rfl dX5_gives_112 (v := .ref 61) (k := 21) rfl rfl (by decide) (by decide) in_X5 mf_X5_74 rfl ?_
        refine zh_iload_n (pn := 116) rfl dX5_gives_115 (i := 1) (x := a1) rfl rfl ?_
        refine zh_dup2 (pn := 117) rfl dX5_gives_116 (fun _ _ => rfl) (fun _ _ => rfl) ?_
        refine zh_iald (pn := 118) rfl dX5_gives_117 rfl h.1 ?_
        replace h := h.2
        refine zh_iconst (pn := 119) rfl dX5_gives_118 (v := (zI 1)) rfl ?_
        refine zh_isub (pn := 120) rfl dX5_gives_119 ?_
        refine zh_iast (pn := 121) rfl dX5_gives_120 rfl h.1 ?_
        obtain ⟨M12, eM12⟩ : ∃ q : zh_M, q = zh_set M10 61 a1.toNatClampNeg ((M10 61 a1.toNatClampNeg) - (zI 1)) := ⟨_, rfl⟩
        replace h := h.2 M12 eM12
        rw [← eM12]
        refine zh_iload (pn := 123) rfl dX5_gives_121 (i := 4) (x := r2) rfl ?_
        refine zh_if_lt (pn := 126) rfl dX5_gives_123 (tgt := 133) rfl (fun cc1 => ?_) (fun cc1 => ?_)
        · replace h := h.1 cc1
          refine zh_iload (pn := 135) rfl dX5_gives_133 (i := 6) (x := M3 60 ((zI 4) * a1).toNatClampNeg) rfl ?_
          refine zh_istore (pn := 137) rfl dX5_gives_135 (i := 5) (lo' := [some (.ref 39), some (.int a1), some (.int a2), some (.int a3), some (.int r2), some (.int (M3 60 ((zI 4) * a1).toNatClampNeg)), some (.int (M3 60 ((zI 4) * a1).toNatClampNeg)), w7_11]) (by decide) rfl ?_
          refine zh_goto dX5_gives_137 (tgt := 146) rfl ?_
          refine zh_iload (pn := 148) rfl dX5_gives_146 (i := 4) (x := r2) rfl ?_
          refine zh_if_lt (pn := 151) rfl dX5_gives_148 (tgt := 159) rfl (fun cc1 => ?_) (fun cc1 => ?_)
          · replace h := h.1 cc1
            refine zh_aload_n (pn := 160) rfl dX5_gives_159 (i := 0) (v := .ref 39) rfl rfl (Or.inr ⟨_, rfl⟩) ?_
            refine zh_iload_n (pn := 161) rfl dX5_gives_160 (i := 2) (x := a2) rfl rfl ?_
            refine zh_iload_n (pn := 162) rfl dX5_gives_161 (i := 3) (x := a3) rfl rfl ?_
            refine zh_iload (pn := 164) rfl dX5_gives_162 (i := 5) (x := M3 60 ((zI 4) * a1).toNatClampNeg) rfl ?_
            refine zh_iload_n (pn := 165) rfl dX5_gives_164 (i := 1) (x := a1) rfl rfl ?_
            refine ca_X5_hand (pn := 168) rfl dX5_gives_165 mc_X5_153 (fun _ _ => Nat.le_of_ble_eq_true rfl) h (fun M13 h => ?_)
            refine zh_iconst (pn := 169) rfl dX5_gives_168 (v := (zI 1)) rfl ?_
            exact zh_iret dX5_gives_169 rfl rfl ⟨_, rfl, rfl, h⟩
          · replace h := h.2 cc1
            refine zh_aload_n (pn := 152) rfl dX5_gives_151 (i := 0) (v := .ref 39) rfl rfl (Or.inr ⟨_, rfl⟩) ?_
            refine zh_get (pn := 155) rfl dX5_gives_152 (v := .ref 49) (k := 9) rfl rfl (by decide) (by decide) in_X5 mf_X5_38 rfl ?_
            refine zh_iload (pn := 157) rfl dX5_gives_155 (i := 4) (x := r2) rfl ?_
            refine zh_iconst (pn := 158) rfl dX5_gives_157 (v := (zI 1)) rfl ?_
            refine zh_iast (pn := 159) rfl dX5_gives_158 rfl h.1 ?_
            obtain ⟨M14, eM14⟩ : ∃ q : zh_M, q = zh_set M12 49 r2.toNatClampNeg (zI 1) := ⟨_, rfl⟩
            replace h := h.2 M14 eM14
            rw [← eM14]
            refine zh_aload_n (pn := 160) rfl dX5_gives_159 (i := 0) (v := .ref 39) rfl rfl (Or.inr ⟨_, rfl⟩) ?_
            refine zh_iload_n (pn := 161) rfl dX5_gives_160 (i := 2) (x := a2) rfl rfl ?_
            refine zh_iload_n (pn := 162) rfl dX5_gives_161 (i := 3) (x := a3) rfl rfl ?_
            refine zh_iload (pn := 164) rfl dX5_gives_162 (i := 5) (x := M3 60 ((zI 4) * a1).toNatClampNeg) rfl ?_
            refine zh_iload_n (pn := 165) rfl dX5_gives_164 (i := 1) (x := a1) rfl rfl ?_
            refine ca_X5_hand (pn := 168) rfl dX5_gives_165 mc_X5_153 (fun _ _ => Nat.le_of_ble_eq_true rfl) h (fun M15 h => ?_)
            refine zh_iconst (pn := 169) rfl dX5_gives_168 (v := (zI 1)) rfl ?_
            exact zh_iret dX5_gives_169 rfl rfl ⟨_, rfl, rfl, h⟩
        · replace h := h.2 cc1
          refine zh_aload_n (pn := 127) rfl dX5_gives_126 (i := 0) (v := .ref 39) rfl rfl (Or.inr ⟨_, rfl⟩) ?_
          refine zh_iload_n (pn := 128) rfl dX5_gives_127 (i := 1) (x := a1) rfl rfl ?_
          refine zh_iload (pn := 130) rfl dX5_gives_128 (i := 5) (x := r4) rfl ?_
          refine ca_X5_enter (pn := 133) rfl dX5_gives_130 mc_X5_157 (fun _ _ => Nat.le_of_ble_eq_true rfl) h (fun M16 h => ?_)
          refine zh_iload (pn := 135) rfl dX5_gives_133 (i := 6) (x := M3 60 ((zI 4) * a1).toNatClampNeg) rfl ?_
          refine zh_istore (pn := 137) rfl dX5_gives_135 (i := 5) (lo' := [some (.ref 39), some (.int a1), some (.int a2), some (.int a3), some (.int r2), some (.int (M3 60 ((zI 4) * a1).toNatClampNeg)), some (.int (M3 60 ((zI 4) * a1).toNatClampNeg)), w7_11]) (by decide) rfl ?_
          refine zh_goto dX5_gives_137 (tgt := 146) rfl ?_
          refine zh_iload (pn := 148) rfl dX5_gives_146 (i := 4) (x := r2) rfl ?_
          refine zh_if_lt (pn := 151) rfl dX5_gives_148 (tgt := 159) rfl (fun cc1 => ?_) (fun cc1 => ?_)
          · replace h := h.1 cc1
            refine zh_aload_n (pn := 160) rfl dX5_gives_159 (i := 0) (v := .ref 39) rfl rfl (Or.inr ⟨_, rfl⟩) ?_
            refine zh_iload_n (pn := 161) rfl dX5_gives_160 (i := 2) (x := a2) rfl rfl ?_
            refine zh_iload_n (pn := 162) rfl dX5_gives_161 (i := 3) (x := a3) rfl rfl ?_
            refine zh_iload (pn := 164) rfl dX5_gives_162 (i := 5) (x := M3 60 ((zI 4) * a1).toNatClampNeg) rfl ?_
            refine zh_iload_n (pn := 165) rfl dX5_gives_164 (i := 1) (x := a1) rfl rfl ?_
            refine ca_X5_hand (pn := 168) rfl dX5_gives_165 mc_X5_153 (fun _ _ => Nat.le_of_ble_eq_true rfl) h (fun M17 h => ?_)
            refine zh_iconst (pn := 169) rfl dX5_gives_168 (v := (zI 1)) rfl ?_
            exact zh_iret dX5_gives_169 rfl rfl ⟨_, rfl, rfl, h⟩
          · replace h := h.2 cc1
            refine zh_aload_n (pn := 152) rfl dX5_gives_151 (i := 0) (v := .ref 39) rfl rfl (Or.inr ⟨_, rfl⟩) ?_
            refine zh_get (pn := 155) rfl dX5_gives_152 (v := .ref 49) (k := 9) rfl rfl (by decide) (by decide) in_X5 mf_X5_38 rfl ?_
            refine zh_iload (pn := 157) rfl dX5_gives_155 (i := 4) (x := r2) rfl ?_
            refine zh_iconst (pn := 158) rfl dX5_gives_157 (v := (zI 1)) rfl ?_
            refine zh_iast (pn := 159) rfl dX5_gives_158 rfl h.1 ?_
            obtain ⟨M18, eM18⟩ : ∃ q : zh_M, q = zh_set M16 49 r2.toNatClampNeg (zI 1) := ⟨_, rfl⟩
            replace h := h.2 M18 eM18
            rw [← eM18]
            refine zh_aload_n (pn := 160) rfl dX5_gives_159 (i := 0) (v := .ref 39) rfl rfl (Or.inr ⟨_, rfl⟩) ?_
            refine zh_iload_n (pn := 161) rfl dX5_gives_160 (i := 2) (x := a2) rfl rfl ?_
            refine zh_iload_n (pn := 162) rfl dX5_gives_161 (i := 3) (x := a3) rfl rfl ?_
            refine zh_iload (pn := 164) rfl dX5_gives_162 (i := 5) (x := M3 60 ((zI 4) * a1).toNatClampNeg) rfl ?_
            refine zh_iload_n (pn := 165) rfl dX5_gives_164 (i := 1) (x := a1) rfl rfl ?_
            refine ca_X5_hand (pn := 168) rfl dX5_gives_165 mc_X5_153 (fun _ _ => Nat.le_of_ble_eq_true rfl) h (fun M19 h => ?_)
            refine zh_iconst (pn := 169) rfl dX5_gives_168 (v := (zI 1)) rfl ?_
            exact zh_iret dX5_gives_169 rfl rfl ⟨_, rfl, rfl, h⟩
    · replace h := h.2 cc1
      refine zh_iconst (pn := 30) rfl dX5_gives_29 (v := (zI (-1))) rfl ?_
      refine zh_goto dX5_gives_30 (tgt := 46) rfl ?_
      refine zh_istore (pn := 48) rfl dX5_gives_46 (i := 5) (lo' := [some (.ref 39), some (.int a1), some (.int a2), some (.int a3), some (.int r2), some (.int (zI (-1))), none, none]) (by decide) rfl ?_
      refine zh_aload_n (pn := 49) rfl dX5_gives_48 (i := 0) (v := .ref 39) rfl rfl (Or.inr ⟨_, rfl⟩) ?_
      refine zh_get (pn := 52) rfl dX5_gives_49 (v := .ref 61) (k := 21) rfl rfl (by decide) (by decide) in_X5 mf_X5_74 rfl ?_
      refine zh_iload_n (pn := 53) rfl dX5_gives_52 (i := 1) (x := a1) rfl rfl ?_
      refine zh_iald (pn := 54) rfl dX5_gives_53 rfl h.1 ?_
      replace h := h.2
      refine zh_if_le (pn := 57) rfl dX5_gives_54 (tgt := 140) rfl (fun cc1 => ?_) (fun cc1 => ?_)
      · replace h := h.1 cc1
        refine zh_aload_n (pn := 141) rfl dX5_gives_140 (i := 0) (v := .ref 39) rfl rfl (Or.inr ⟨_, rfl⟩) ?_
        refine zh_iload (pn := 143) rfl dX5_gives_141 (i := 5) (x := (zI (-1))) rfl ?_
        refine ca_X5_note (pn := 146) rfl dX5_gives_143 mc_X5_144 (fun _ _ => Nat.le_of_ble_eq_true rfl) h (fun M21 h => ?_)
        refine zh_iload (pn := 148) rfl dX5_gives_146 (i := 4) (x := r2) rfl ?_
        refine zh_if_lt (pn := 151) rfl dX5_gives_148 (tgt := 159) rfl (fun cc1 => ?_) (fun cc1 => ?_)
        · replace h := h.1 cc1
          refine zh_aload_n (pn := 160) rfl dX5_gives_159 (i := 0) (v := .ref 39) rfl rfl (Or.inr ⟨_, rfl⟩) ?_
          refine zh_iload_n (pn := 161) rfl dX5_gives_160 (i := 2) (x := a2) rfl rfl ?_
          refine zh_iload_n (pn := 162) rfl dX5_gives_161 (i := 3) (x := a3) rfl rfl ?_
          refine zh_iload (pn := 164) rfl dX5_gives_162 (i := 5) (x := (zI (-1))) rfl ?_
          refine zh_iload_n (pn := 165) rfl dX5_gives_164 (i := 1) (x := a1) rfl rfl ?_
          refine ca_X5_hand (pn := 168) rfl dX5_gives_165 mc_X5_153 (fun _ _ => Nat.le_of_ble_eq_true rfl) h (fun M22 h => ?_)
          refine zh_iconst (pn := 169) rfl dX5_gives_168 (v := (zI 1)) rfl ?_
          exact zh_iret dX5_gives_169 rfl rfl ⟨_, rfl, rfl, h⟩
        · replace h := h.2 cc1
          refine zh_aload_n (pn := 152) rfl dX5_gives_151 (i := 0) (v := .ref 39) rfl rfl (Or.inr ⟨_, rfl⟩) ?_
          refine zh_get (pn := 155) rfl dX5_gives_152 (v := .ref 49) (k := 9) rfl rfl (by decide) (by decide) in_X5 mf_X5_38 rfl ?_
          refine zh_iload (pn := 157) rfl dX5_gives_155 (i := 4) (x := r2) rfl ?_
          refine zh_iconst (pn := 158) rfl dX5_gives_157 (v := (zI 1)) rfl ?_
          refine zh_iast (pn := 159) rfl dX5_gives_158 rfl h.1 ?_
          obtain ⟨M23, eM23⟩ : ∃ q : zh_M, q = zh_set M21 49 r2.toNatClampNeg (zI 1) := ⟨_, rfl⟩
          replace h := h.2 M23 eM23
          rw [← eM23]
          refine zh_aload_n (pn := 160) rfl dX5_gives_159 (i := 0) (v := .ref 39) rfl rfl (Or.inr ⟨_, rfl⟩) ?_
          refine zh_iload_n (pn := 161) rfl dX5_gives_160 (i := 2) (x := a2) rfl rfl ?_
          refine zh_iload_n (pn := 162) rfl dX5_gives_161 (i := 3) (x := a3) rfl rfl ?_
          refine zh_iload (pn := 164) rfl dX5_gives_162 (i := 5) (x := (zI (-1))) rfl ?_
          refine zh_iload_n (pn := 165) rfl dX5_gives_164 (i := 1) (x := a1) rfl rfl ?_
          refine ca_X5_hand (pn := 168) rfl dX5_gives_165 mc_X5_153 (fun _ _ => Nat.le_of_ble_eq_true rfl) h (fun M24 h => ?_)
          refine zh_iconst (pn := 169) rfl dX5_gives_168 (v := (zI 1)) rfl ?_
          exact zh_iret dX5_gives_169 rfl rfl ⟨_, rfl, rfl, h⟩
      · replace h := h.2 cc1
        refine zh_aload_n (pn := 58) rfl dX5_gives_57 (i := 0) (v := .ref 39) rfl rfl (Or.inr ⟨_, rfl⟩) ?_
        refine zh_get (pn := 61) rfl dX5_gives_58 (v := .ref 60) (k := 20) rfl rfl (by decide) (by decide) in_X5 mf_X5_71 rfl ?_
        refine zh_iconst (pn := 62) rfl dX5_gives_61 (v := (zI 4)) rfl ?_
        refine zh_iload_n (pn := 63) rfl dX5_gives_62 (i := 1) (x := a1) rfl rfl ?_
        refine zh_imul (pn := 64) rfl dX5_gives_63 ?_
        refine zh_iald (pn := 65) rfl dX5_gives_64 rfl h.1 ?_
        replace h := h.2
        refine zh_istore (pn := 67) rfl dX5_gives_65 (i := 6) (lo' := [some (.ref 39), some (.int a1), some (.int a2), some (.int a3), some (.int r2), some (.int (zI (-1))), some (.int (M1 60 ((zI 4) * a1).toNatClampNeg)), none]) (by decide) rfl ?_
        refine zh_iconst (pn := 68) rfl dX5_gives_67 (v := (zI 1)) rfl ?_
        refine zh_istore (pn := 70) rfl dX5_gives_68 (i := 7) (lo' := [some (.ref 39), some (.int a1), some (.int a2), some (.int a3), some (.int r2), some (.int (zI (-1))), some (.int (M1 60 ((zI 4) * a1).toNatClampNeg)), some (.int (zI 1))]) (by decide) rfl ?_
        obtain ⟨n35, h⟩ := h
        refine wkl_X5_gives_70 (fun M25 w7_26 h => ?_) n35 _ _ h
        refine zh_aload_n (pn := 112) rfl dX5_gives_111 (i := 0) (v := .ref 39) rfl rfl (Or.inr ⟨_, rfl⟩) ?_
        refine zh_get (pn := 115) rfl dX5_gives_112 (v := .ref 61) (k := 21) rfl rfl (by decide) (by decide) in_X5 mf_X5_74 rfl ?_
        refine zh_iload_n (pn := 116) rfl dX5_gives_115 (i := 1) (x := a1) rfl rfl ?_
        refine zh_dup2 (pn := 117) rfl dX5_gives_116 (fun _ _ => rfl) (fun _ _ => rfl) ?_
        refine zh_iald (pn := 118) rfl dX5_gives_117 rfl h.1 ?_
        replace h := h.2
        refine zh_iconst (pn := 119) rfl dX5_gives_118 (v := (zI 1)) rfl ?_
        refine zh_isub (pn := 120) rfl dX5_gives_119 ?_
        refine zh_iast (pn := 121) rfl dX5_gives_120 rfl h.1 ?_
        obtain ⟨M27, eM27⟩ : ∃ q : zh_M, q = zh_set M25 61 a1.toNatClampNeg ((M25 61 a1.toNatClampNeg) - (zI 1)) := ⟨_, rfl⟩
        replace h := h.2 M27 eM27
        rw [← eM27]
        refine zh_iload (pn := 123) rfl dX5_gives_121 (i := 4) (x := r2) rfl ?_
        refine zh_if_lt (pn := 126) rfl dX5_gives_123 (tgt := 133) rfl (fun cc1 => ?_) (fun cc1 => ?_)
        · replace h := h.1 cc1
          refine zh_iload (pn := 135) rfl dX5_gives_133 (i := 6) (x := M1 60 ((zI 4) * a1).toNatClampNeg) rfl ?_
          refine zh_istore (pn := 137) rfl dX5_gives_135 (i := 5) (lo' := [some (.ref 39), some (.int a1), some (.int a2), some (.int a3), some (.int r2), some (.int (M1 60 ((zI 4) * a1).toNatClampNeg)), some (.int (M1 60 ((zI 4) * a1).toNatClampNeg)), w7_26]) (by decide) rfl ?_
          refine zh_goto dX5_gives_137 (tgt := 146) rfl ?_
          refine zh_iload (pn := 148) rfl dX5_gives_146 (i := 4) (x := r2) rfl ?_
          refine zh_if_lt (pn := 151) rfl dX5_gives_148 (tgt := 159) rfl (fun cc1 => ?_) (fun cc1 => ?_)
          · replace h := h.1 cc1
            refine zh_aload_n (pn := 160) rfl dX5_gives_159 (i := 0) (v := .ref 39) rfl rfl (Or.inr ⟨_, rfl⟩) ?_
            refine zh_iload_n (pn := 161) rfl dX5_gives_160 (i := 2) (x := a2) rfl rfl ?_
            refine zh_iload_n (pn := 162) rfl dX5_gives_161 (i := 3) (x := a3) rfl rfl ?_
            refine zh_iload (pn := 164) rfl dX5_gives_162 (i := 5) (x := M1 60 ((zI 4) * a1).toNatClampNeg) rfl ?_
            refine zh_iload_n (pn := 165) rfl dX5_gives_164 (i := 1) (x := a1) rfl rfl ?_
            refine ca_X5_hand (pn := 168) rfl dX5_gives_165 mc_X5_153 (fun _ _ => Nat.le_of_ble_eq_true rfl) h (fun M28 h => ?_)
            refine zh_iconst (pn := 169) rfl dX5_gives_168 (v := (zI 1)) rfl ?_
            exact zh_iret dX5_gives_169 rfl rfl ⟨_, rfl, rfl, h⟩
          · replace h := h.2 cc1
            refine zh_aload_n (pn := 152) rfl dX5_gives_151 (i := 0) (v := .ref 39) rfl rfl (Or.inr ⟨_, rfl⟩) ?_
            refine zh_get (pn := 155) rfl dX5_gives_152 (v := .ref 49) (k := 9) rfl rfl (by decide) (by decide) in_X5 mf_X5_38 rfl ?_
            refine zh_iload (pn := 157) rfl dX5_gives_155 (i := 4) (x := r2) rfl ?_
            refine zh_iconst (pn := 158) rfl dX5_gives_157 (v := (zI 1)) rfl ?_
            refine zh_iast (pn := 159) rfl dX5_gives_158 rfl h.1 ?_
            obtain ⟨M29, eM29⟩ : ∃ q : zh_M, q = zh_set M27 49 r2.toNatClampNeg (zI 1) := ⟨_, rfl⟩
            replace h := h.2 M29 eM29
            rw [← eM29]
            refine zh_aload_n (pn := 160) rfl dX5_gives_159 (i := 0) (v := .ref 39) rfl rfl (Or.inr ⟨_, rfl⟩) ?_
            refine zh_iload_n (pn := 161) rfl dX5_gives_160 (i := 2) (x := a2) rfl rfl ?_
            refine zh_iload_n (pn := 162) rfl dX5_gives_161 (i := 3) (x := a3) rfl rfl ?_
            refine zh_iload (pn := 164) rfl dX5_gives_162 (i := 5) (x := M1 60 ((zI 4) * a1).toNatClampNeg) rfl ?_
            refine zh_iload_n (pn := 165) rfl dX5_gives_164 (i := 1) (x := a1) rfl rfl ?_
            refine ca_X5_hand (pn := 168) rfl dX5_gives_165 mc_X5_153 (fun _ _ => Nat.le_of_ble_eq_true rfl) h (fun M30 h => ?_)
            refine zh_iconst (pn := 169) rfl dX5_gives_168 (v := (zI 1)) rfl ?_
            exact zh_iret dX5_gives_169 rfl rfl ⟨_, rfl, rfl, h⟩
        · replace h := h.2 cc1
          refine zh_aload_n (pn := 127) rfl dX5_gives_126 (i := 0) (v := .ref 39) rfl rfl (Or.inr ⟨_, rfl⟩) ?_
          refine zh_iload_n (pn := 128) rfl dX5_gives_127 (i := 1) (x := a1) rfl rfl ?_
          refine zh_iload (pn := 130) rfl dX5_gives_128 (i := 5) (x := (zI (-1))) rfl ?_
          refine ca_X5_enter (pn := 133) rfl dX5_gives_130 mc_X5_157 (fun _ _ => Nat.le_of_ble_eq_true rfl) h (fun M31 h => ?_)
          refine zh_iload (pn := 135) rfl dX5_gives_133 (i := 6) (x := M1 60 ((zI 4) * a1).toNatClampNeg) rfl ?_
          refine zh_istore (pn := 137) rfl dX5_gives_135 (i := 5) (lo' := [some (.ref 39), some (.int a1), some (.int a2), some (.int a3), some (.int r2), some (.int (M1 60 ((zI 4) * a1).toNatClampNeg)), some (.int (M1 60 ((zI 4) * a1).toNatClampNeg)), w7_26]) (by decide) rfl ?_
          refine zh_goto dX5_gives_137 (tgt := 146) rfl ?_
          refine zh_iload (pn := 148) rfl dX5_gives_146 (i := 4) (x := r2) rfl ?_
          refine zh_if_lt (pn := 151) rfl dX5_gives_148 (tgt := 159) rfl (fun cc1 => ?_) (fun cc1 => ?_)
          · replace h := h.1 cc1
            refine zh_aload_n (pn := 160) rfl dX5_gives_159 (i := 0) (v := .ref 39) rfl rfl (Or.inr ⟨_, rfl⟩) ?_
            refine zh_iload_n (pn := 161) rfl dX5_gives_160 (i := 2) (x := a2) rfl rfl ?_
            refine zh_iload_n (pn := 162) rfl dX5_gives_161 (i := 3) (x := a3) rfl rfl ?_
            refine zh_iload (pn := 164) rfl dX5_gives_162 (i := 5) (x := M1 60 ((zI 4) * a1).toNatClampNeg) rfl ?_
            refine zh_iload_n (pn := 165) rfl dX5_gives_164 (i := 1) (x := a1) rfl rfl ?_
            refine ca_X5_hand (pn := 168) rfl dX5_gives_165 mc_X5_153 (fun _ _ => Nat.le_of_ble_eq_true rfl) h (fun M32 h => ?_)
            refine zh_iconst (pn := 169) rfl dX5_gives_168 (v := (zI 1)) rfl ?_
            exact zh_iret dX5_gives_169 rfl rfl ⟨_, rfl, rfl, h⟩
          · replace h := h.2 cc1
            refine zh_aload_n (pn := 152) rfl dX5_gives_151 (i := 0) (v := .ref 39) rfl rfl (Or.inr ⟨_, rfl⟩) ?_
            refine zh_get (pn := 155) rfl dX5_gives_152 (v := .ref 49) (k := 9) rfl rfl (by decide) (by decide) in_X5 mf_X5_38 rfl ?_
            refine zh_iload (pn := 157) rfl dX5_gives_155 (i := 4) (x := r2) rfl ?_
            refine zh_iconst (pn := 158) rfl dX5_gives_157 (v := (zI 1)) rfl ?_
            refine zh_iast (pn := 159) rfl dX5_gives_158 rfl h.1 ?_
            obtain ⟨M33, eM33⟩ : ∃ q : zh_M, q = zh_set M31 49 r2.toNatClampNeg (zI 1) := ⟨_, rfl⟩
            replace h := h.2 M33 eM33
            rw [← eM33]
            refine zh_aload_n (pn := 160) rfl dX5_gives_159 (i := 0) (v := .ref 39) rfl rfl (Or.inr ⟨_, rfl⟩) ?_
            refine zh_iload_n (pn := 161) rfl dX5_gives_160 (i := 2) (x := a2) rfl rfl ?_
            refine zh_iload_n (pn := 162) rfl dX5_gives_161 (i := 3) (x := a3) rfl rfl ?_
            refine zh_iload (pn := 164) rfl dX5_gives_162 (i := 5) (x := M1 60 ((zI 4) * a1).toNatClampNeg) rfl ?_
            refine zh_iload_n (pn := 165) rfl dX5_gives_164 (i := 1) (x := a1) rfl rfl ?_
            refine ca_X5_hand (pn := 168) rfl dX5_gives_165 mc_X5_153 (fun _ _ => Nat.le_of_ble_eq_true rfl) h (fun M34 h => ?_)
            refine zh_iconst (pn := 169) rfl dX5_gives_168 (v := (zI 1)) rfl ?_
            exact zh_iret dX5_gives_169 rfl rfl ⟨_, rfl, rfl, h⟩
  · replace h := h.2 cc1
    refine zh_iload (pn := 19) rfl dX5_gives_17 (i := 4) (x := r2) rfl ?_
    refine zh_if_ge (pn := 22) rfl dX5_gives_19 (tgt := 24) rfl (fun cc1 => ?_) (fun cc1 => ?_)
    · replace h := h.1 cc1
      refine zh_iload (pn := 26) rfl dX5_gives_24 (i := 4) (x := r2) rfl ?_
      refine zh_if_ge (pn := 29) rfl dX5_gives_26 (tgt := 33) rfl (fun cc1 => ?_) (fun cc1 => ?_)
      · replace h := h.1 cc1
        refine zh_aload_n (pn := 34) rfl dX5_gives_33 (i := 0) (v := .ref 39) rfl rfl (Or.inr ⟨_, rfl⟩) ?_
        refine zh_iload (pn := 36) rfl dX5_gives_34 (i := 4) (x := r2) rfl ?_
        refine zh_aload_n (pn := 37) rfl dX5_gives_36 (i := 0) (v := .ref 39) rfl rfl (Or.inr ⟨_, rfl⟩) ?_
        refine zh_get (pn := 40) rfl dX5_gives_37 (v := .ref 58) (k := 18) rfl rfl (by decide) (by decide) in_X5 mf_X5_65 rfl ?_
        refine zh_iload (pn := 42) rfl dX5_gives_40 (i := 4) (x := r2) rfl ?_
        refine zh_iald (pn := 43) rfl dX5_gives_42 rfl h.1 ?_
        replace h := h.2
        refine ca_X5_value (pn := 46) rfl dX5_gives_43 mc_X5_100 (fun _ _ => Nat.le_of_ble_eq_true rfl) h (fun r37 M36 h => ?_)
        refine zh_istore (pn := 48) rfl dX5_gives_46 (i := 5) (lo' := [some (.ref 39), some (.int a1), some (.int a2), some (.int a3), some (.int r2), some (.int r37), none, none]) (by decide) rfl ?_
        refine zh_aload_n (pn := 49) rfl dX5_gives_48 (i := 0) (v := .ref 39) rfl rfl (Or.inr ⟨_, rfl⟩) ?_
        refine zh_get (pn := 52) rfl dX5_gives_49 (v := .ref 61) (k := 21) rfl rfl (by decide) (by decide) in_X5 mf_X5_74 rfl ?_
        refine zh_iload_n (pn := 53) rfl dX5_gives_52 (i := 1) (x := a1) rfl rfl ?_
        refine zh_iald (pn := 54) rfl dX5_gives_53 rfl h.1 ?_
        replace h := h.2
        refine zh_if_le (pn := 57) rfl dX5_gives_54 (tgt := 140) rfl (fun cc1 => ?_) (fun cc1 => ?_)
        · replace h := h.1 cc1
          refine zh_aload_n (pn := 141) rfl dX5_gives_140 (i := 0) (v := .ref 39) rfl rfl (Or.inr ⟨_, rfl⟩) ?_
          refine zh_iload (pn := 143) rfl dX5_gives_141 (i := 5) (x := r37) rfl ?_
          refine ca_X5_note (pn := 146) rfl dX5_gives_143 mc_X5_144 (fun _ _ => Nat.le_of_ble_eq_true rfl) h (fun M38 h => ?_)
          refine zh_iload (pn := 148) rfl dX5_gives_146 (i := 4) (x := r2) rfl ?_
          refine zh_if_lt (pn := 151) rfl dX5_gives_148 (tgt := 159) rfl (fun cc1 => ?_) (fun cc1 => ?_)
          · replace h := h.1 cc1
            refine zh_aload_n (pn := 160) rfl dX5_gives_159 (i := 0) (v := .ref 39) rfl rfl (Or.inr ⟨_, rfl⟩) ?_
            refine zh_iload_n (pn := 161) rfl dX5_gives_160 (i := 2) (x := a2) rfl rfl ?_
            refine zh_iload_n (pn := 162) rfl dX5_gives_161 (i := 3) (x := a3) rfl rfl ?_
            refine zh_iload (pn := 164) rfl dX5_gives_162 (i := 5) (x := r37) rfl ?_
            refine zh_iload_n (pn := 165) rfl dX5_gives_164 (i := 1) (x := a1) rfl rfl ?_
            refine ca_X5_hand (pn := 168) rfl dX5_gives_165 mc_X5_153 (fun _ _ => Nat.le_of_ble_eq_true rfl) h (fun M39 h => ?_)
            refine zh_iconst (pn := 169) rfl dX5_gives_168 (v := (zI 1)) rfl ?_
            exact zh_iret dX5_gives_169 rfl rfl ⟨_, rfl, rfl, h⟩
          · replace h := h.2 cc1
            refine zh_aload_n (pn := 152) rfl dX5_gives_151 (i := 0) (v := .ref 39) rfl rfl (Or.inr ⟨_, rfl⟩) ?_
            refine zh_get (pn := 155) rfl dX5_gives_152 (v := .ref 49) (k := 9) rfl rfl (by decide) (by decide) in_X5 mf_X5_38 rfl ?_
            refine zh_iload (pn := 157) rfl dX5_gives_155 (i := 4) (x := r2) rfl ?_
            refine zh_iconst (pn := 158) rfl dX5_gives_157 (v := (zI 1)) rfl ?_
            refine zh_iast (pn := 159) rfl dX5_gives_158 rfl h.1 ?_
            obtain ⟨M40, eM40⟩ : ∃ q : zh_M, q = zh_set M38 49 r2.toNatClampNeg (zI 1) := ⟨_, rfl⟩
            replace h := h.2 M40 eM40
            rw [← eM40]
            refine zh_aload_n (pn := 160) rfl dX5_gives_159 (i := 0) (v := .ref 39) rfl rfl (Or.inr ⟨_, rfl⟩) ?_
            refine zh_iload_n (pn := 161) rfl dX5_gives_160 (i := 2) (x := a2) rfl rfl ?_
            refine zh_iload_n (pn := 162) rfl dX5_gives_161 (i := 3) (x := a3) rfl rfl ?_
            refine zh_iload (pn := 164) rfl dX5_gives_162 (i := 5) (x := r37) rfl ?_
            refine zh_iload_n (pn := 165) rfl dX5_gives_164 (i := 1) (x := a1) rfl rfl ?_
            refine ca_X5_hand (pn := 168) rfl dX5_gives_165 mc_X5_153 (fun _ _ => Nat.le_of_ble_eq_true rfl) h (fun M41 h => ?_)
            refine zh_iconst (pn := 169) rfl dX5_gives_168 (v := (zI 1)) rfl ?_
            exact zh_iret dX5_gives_169 rfl rfl ⟨_, rfl, rfl, h⟩
        · replace h := h.2 cc1
          refine zh_aload_n (pn := 58) rfl dX5_gives_57 (i := 0) (v := .ref 39) rfl rfl (Or.inr ⟨_, rfl⟩) ?_
          refine zh_get (pn := 61) rfl dX5_gives_58 (v := .ref 60) (k := 20) rfl rfl (by decide) (by decide) in_X5 mf_X5_71 rfl ?_
          refine zh_iconst (pn := 62) rfl dX5_gives_61 (v := (zI 4)) rfl ?_
          refine zh_iload_n (pn := 63) rfl dX5_gives_62 (i := 1) (x := a1) rfl rfl ?_
          refine zh_imul (pn := 64) rfl dX5_gives_63 ?_
          refine zh_iald (pn := 65) rfl dX5_gives_64 rfl h.1 ?_
          replace h := h.2
          refine zh_istore (pn := 67) rfl dX5_gives_65 (i := 6) (lo' := [some (.ref 39), some (.int a1), some (.int a2), some (.int a3), some (.int r2), some (.int r37), some (.int (M36 60 ((zI 4) * a1).toNatClampNeg)), none]) (by decide) rfl ?_
          refine zh_iconst (pn := 68) rfl dX5_gives_67 (v := (zI 1)) rfl ?_
          refine zh_istore (pn := 70) rfl dX5_gives_68 (i := 7) (lo' := [some (.ref 39), some (.int a1), some (.int a2), some (.int a3), some (.int r2), some (.int r37), some (.int (M36 60 ((zI 4) * a1).toNatClampNeg)), some (.int (zI 1))]) (by decide) rfl ?_
          obtain ⟨n52, h⟩ := h
          refine wkl_X5_gives_70 (fun M42 w7_43 h => ?_) n52 _ _ h
          refine zh_aload_n (pn := 112) rfl dX5_gives_111 (i := 0) (v := .ref 39) rfl rfl (Or.inr ⟨_, rfl⟩) ?_
          refine zh_get (pn := 115) rfl dX5_gives_112 (v := .ref 61) (k := 21) rfl rfl (by decide) (by decide) in_X5 mf_X5_74 rfl ?_
          refine zh_iload_n (pn := 116) rfl dX5_gives_115 (i := 1) (x := a1) rfl rfl ?_
          refine zh_dup2 (pn := 117) rfl dX5_gives_116 (fun _ _ => rfl) (fun _ _ => rfl) ?_
          refine zh_iald (pn := 118) rfl dX5_gives_117 rfl h.1 ?_
          replace h := h.2
          refine zh_iconst (pn := 119) rfl dX5_gives_118 (v := (zI 1)) rfl ?_
          refine zh_isub (pn := 120) rfl dX5_gives_119 ?_
          refine zh_iast (pn := 121) rfl dX5_gives_120 rfl h.1 ?_
          obtain ⟨M44, eM44⟩ : ∃ q : zh_M, q = zh_set M42 61 a1.toNatClampNeg ((M42 61 a1.toNatClampNeg) - (zI 1)) := ⟨_, rfl⟩
          replace h := h.2 M44 eM44
          rw [← eM44]
          refine zh_iload (pn := 123) rfl dX5_gives_121 (i := 4) (x := r2) rfl ?_
          refine zh_if_lt (pn := 126) rfl dX5_gives_123 (tgt := 133) rfl (fun cc1 => ?_) (fun cc1 => ?_)
          · replace h := h.1 cc1
            refine zh_iload (pn := 135) rfl dX5_gives_133 (i := 6) (x := M36 60 ((zI 4) * a1).toNatClampNeg) rfl ?_
            refine zh_istore (pn := 137) rfl dX5_gives_135 (i := 5) (lo' := [some (.ref 39), some (.int a1), some (.int a2), some (.int a3), some (.int r2), some (.int (M36 60 ((zI 4) * a1).toNatClampNeg)), some (.int (M36 60 ((zI 4) * a1).toNatClampNeg)), w7_43]) (by decide) rfl ?_
            refine zh_goto dX5_gives_137 (tgt := 146) rfl ?_
            refine zh_iload (pn := 148) rfl dX5_gives_146 (i := 4) (x := r2) rfl ?_
            refine zh_if_lt (pn := 151) rfl dX5_gives_148 (tgt := 159) rfl (fun cc1 => ?_) (fun cc1 => ?_)
            · replace h := h.1 cc1
              refine zh_aload_n (pn := 160) rfl dX5_gives_159 (i := 0) (v := .ref 39) rfl rfl (Or.inr ⟨_, rfl⟩) ?_
              refine zh_iload_n (pn := 161) rfl dX5_gives_160 (i := 2) (x := a2) rfl rfl ?_
              refine zh_iload_n (pn := 162) rfl dX5_gives_161 (i := 3) (x := a3) rfl rfl ?_
              refine zh_iload (pn := 164) rfl dX5_gives_162 (i := 5) (x := M36 60 ((zI 4) * a1).toNatClampNeg) rfl ?_
              refine zh_iload_n (pn := 165) rfl dX5_gives_164 (i := 1) (x := a1) rfl rfl ?_
              refine ca_X5_hand (pn := 168) rfl dX5_gives_165 mc_X5_153 (fun _ _ => Nat.le_of_ble_eq_true rfl) h (fun M45 h => ?_)
              refine zh_iconst (pn := 169) rfl dX5_gives_168 (v := (zI 1)) rfl ?_
              exact zh_iret dX5_gives_169 rfl rfl ⟨_, rfl, rfl, h⟩
            · replace h := h.2 cc1
              refine zh_aload_n (pn := 152) rfl dX5_gives_151 (i := 0) (v := .ref 39) rfl rfl (Or.inr ⟨_, rfl⟩) ?_
              refine zh_get (pn := 155) rfl dX5_gives_152 (v := .ref 49) (k := 9) rfl rfl (by decide) (by decide) in_X5 mf_X5_38 rfl ?_
              refine zh_iload (pn := 157) rfl dX5_gives_155 (i := 4) (x := r2) rfl ?_
              refine zh_iconst (pn := 158) rfl dX5_gives_157 (v := (zI 1)) rfl ?_
              refine zh_iast (pn := 159) rfl dX5_gives_158 rfl h.1 ?_
              obtain ⟨M46, eM46⟩ : ∃ q : zh_M, q = zh_set M44 49 r2.toNatClampNeg (zI 1) := ⟨_, rfl⟩
              replace h := h.2 M46 eM46
              rw [← eM46]
              refine zh_aload_n (pn := 160) rfl dX5_gives_159 (i := 0) (v := .ref 39) rfl rfl (Or.inr ⟨_, rfl⟩) ?_
              refine zh_iload_n (pn := 161) rfl dX5_gives_160 (i := 2) (x := a2) rfl rfl ?_
              refine zh_iload_n (pn := 162) rfl dX5_gives_161 (i := 3) (x := a3) rfl rfl ?_
              refine zh_iload (pn := 164) rfl dX5_gives_162 (i := 5) (x := M36 60 ((zI 4) * a1).toNatClampNeg) rfl ?_
              refine zh_iload_n (pn := 165) rfl dX5_gives_164 (i := 1) (x := a1) rfl rfl ?_
              refine ca_X5_hand (pn := 168) rfl dX5_gives_165 mc_X5_153 (fun _ _ => Nat.le_of_ble_eq_true rfl) h (fun M47 h => ?_)
              refine zh_iconst (pn := 169) rfl dX5_gives_168 (v := (zI 1)) rfl ?_
              exact zh_iret dX5_gives_169 rfl rfl ⟨_, rfl, rfl, h⟩
          · replace h := h.2 cc1
            refine zh_aload_n (pn := 127) rfl dX5_gives_126 (i := 0) (v := .ref 39) rfl rfl (Or.inr ⟨_, rfl⟩) ?_
            refine zh_iload_n (pn := 128) rfl dX5_gives_127 (i := 1) (x := a1) rfl rfl ?_
            refine zh_iload (pn := 130) rfl dX5_gives_128 (i := 5) (x := r37) rfl ?_
            refine ca_X5_enter (pn := 133) rfl dX5_gives_130 mc_X5_157 (fun _ _ => Nat.le_of_ble_eq_true rfl) h (fun M48 h => ?_)
            refine zh_iload (pn := 135) rfl dX5_gives_133 (i := 6) (x := M36 60 ((zI 4) * a1).toNatClampNeg) rfl ?_
            refine zh_istore (pn := 137) rfl dX5_gives_135 (i := 5) (lo' := [some (.ref 39), some (.int a1), some (.int a2), some (.int a3), some (.int r2), some (.int (M36 60 ((zI 4) * a1).toNatClampNeg)), some (.int (M36 60 ((zI 4) * a1).toNatClampNeg)), w7_43]) (by decide) rfl ?_
            refine zh_goto dX5_gives_137 (tgt := 146) rfl ?_
            refine zh_iload (pn := 148) rfl dX5_gives_146 (i := 4) (x := r2) rfl ?_
            refine zh_if_lt (pn := 151) rfl dX5_gives_148 (tgt := 159) rfl (fun cc1 => ?_) (fun cc1 => ?_)
            · replace h := h.1 cc1
              refine zh_aload_n (pn := 160) rfl dX5_gives_159 (i := 0) (v := .ref 39) rfl rfl (Or.inr ⟨_, rfl⟩) ?_
              refine zh_iload_n (pn := 161) rfl dX5_gives_160 (i := 2) (x := a2) rfl rfl ?_
              refine zh_iload_n (pn := 162) rfl dX5_gives_161 (i := 3) (x := a3) rfl rfl ?_
              refine zh_iload (pn := 164) rfl dX5_gives_162 (i := 5) (x := M36 60 ((zI 4) * a1).toNatClampNeg) rfl ?_
              refine zh_iload_n (pn := 165) rfl dX5_gives_164 (i := 1) (x := a1) rfl rfl ?_
              refine ca_X5_hand (pn := 168) rfl dX5_gives_165 mc_X5_153 (fun _ _ => Nat.le_of_ble_eq_true rfl) h (fun M49 h => ?_)
              refine zh_iconst (pn := 169) rfl dX5_gives_168 (v := (zI 1)) rfl ?_
              exact zh_iret dX5_gives_169 rfl rfl ⟨_, rfl, rfl, h⟩
            · replace h := h.2 cc1
              refine zh_aload_n (pn := 152) rfl dX5_gives_151 (i := 0) (v := .ref 39) rfl rfl (Or.inr ⟨_, rfl⟩) ?_
              refine zh_get (pn := 155) rfl dX5_gives_152 (v := .ref 49) (k := 9) rfl rfl (by decide) (by decide) in_X5 mf_X5_38 rfl ?_
              refine zh_iload (pn := 157) rfl dX5_gives_155 (i := 4) (x := r2) rfl ?_
              refine zh_iconst (pn := 158) rfl dX5_gives_157 (v := (zI 1)) rfl ?_
              refine zh_iast (pn := 159) rfl dX5_gives_158 rfl h.1 ?_
              obtain ⟨M50, eM50⟩ : ∃ q : zh_M, q = zh_set M48 49 r2.toNatClampNeg (zI 1) := ⟨_, rfl⟩
              replace h := h.2 M50 eM50
              rw [← eM50]
              refine zh_aload_n (pn := 160) rfl dX5_gives_159 (i := 0) (v := .ref 39) rfl rfl (Or.inr ⟨_, rfl⟩) ?_
              refine zh_iload_n (pn := 161) rfl dX5_gives_160 (i := 2) (x := a2) rfl rfl ?_
              refine zh_iload_n (pn := 162) rfl dX5_gives_161 (i := 3) (x := a3) rfl rfl ?_
              refine zh_iload (pn := 164) rfl dX5_gives_162 (i := 5) (x := M36 60 ((zI 4) * a1).toNatClampNeg) rfl ?_
              refine zh_iload_n (pn := 165) rfl dX5_gives_164 (i := 1) (x := a1) rfl rfl ?_
              refine ca_X5_hand (pn := 168) rfl dX5_gives_165 mc_X5_153 (fun _ _ => Nat.le_of_ble_eq_true rfl) h (fun M51 h => ?_)
              refine zh_iconst (pn := 169) rfl dX5_gives_168 (v := (zI 1)) rfl ?_
              exact zh_iret dX5_gives_169 rfl rfl ⟨_, rfl, rfl, h⟩
      · replace h := h.2 cc1
        refine zh_iconst (pn := 30) rfl dX5_gives_29 (v := (zI (-1))) rfl ?_
        refine zh_goto dX5_gives_30 (tgt := 46) rfl ?_
        refine zh_istore (pn := 48) rfl dX5_gives_46 (i := 5) (lo' := [some (.ref 39), some (.int a1), some (.int a2), some (.int a3), some (.int r2), some (.int (zI (-1))), none, none]) (by decide) rfl ?_
        refine zh_aload_n (pn := 49) rfl dX5_gives_48 (i := 0) (v := .ref 39) rfl rfl (Or.inr ⟨_, rfl⟩) ?_
        refine zh_get (pn := 52) rfl dX5_gives_49 (v := .ref 61) (k := 21) rfl rfl (by decide) (by decide) in_X5 mf_X5_74 rfl ?_
        refine zh_iload_n (pn := 53) rfl dX5_gives_52 (i := 1) (x := a1) rfl rfl ?_
        refine zh_iald (pn := 54) rfl dX5_gives_53 rfl h.1 ?_
        replace h := h.2
        refine zh_if_le (pn := 57) rfl dX5_gives_54 (tgt := 140) rfl (fun cc1 => ?_) (fun cc1 => ?_)
        · replace h := h.1 cc1
          refine zh_aload_n (pn := 141) rfl dX5_gives_140 (i := 0) (v := .ref 39) rfl rfl (Or.inr ⟨_, rfl⟩) ?_
          refine zh_iload (pn := 143) rfl dX5_gives_141 (i := 5) (x := (zI (-1))) rfl ?_
          refine ca_X5_note (pn := 146) rfl dX5_gives_143 mc_X5_144 (fun _ _ => Nat.le_of_ble_eq_true rfl) h (fun M53 h => ?_)
          refine zh_iload (pn := 148) rfl dX5_gives_146 (i := 4) (x := r2) rfl ?_
          refine zh_if_lt (pn := 151) rfl dX5_gives_148 (tgt := 159) rfl (fun cc1 => ?_) (fun cc1 => ?_)
          · replace h := h.1 cc1
            refine zh_aload_n (pn := 160) rfl dX5_gives_159 (i := 0) (v := .ref 39) rfl rfl (Or.inr ⟨_, rfl⟩) ?_
            refine zh_iload_n (pn := 161) rfl dX5_gives_160 (i := 2) (x := a2) rfl rfl ?_
            refine zh_iload_n (pn := 162) rfl dX5_gives_161 (i := 3) (x := a3) rfl rfl ?_
            refine zh_iload (pn := 164) rfl dX5_gives_162 (i := 5) (x := (zI (-1))) rfl ?_
            refine zh_iload_n (pn := 165) rfl dX5_gives_164 (i := 1) (x := a1) rfl rfl ?_
            refine ca_X5_hand (pn := 168) rfl dX5_gives_165 mc_X5_153 (fun _ _ => Nat.le_of_ble_eq_true rfl) h (fun M54 h => ?_)
            refine zh_iconst (pn := 169) rfl dX5_gives_168 (v := (zI 1)) rfl ?_
            exact zh_iret dX5_gives_169 rfl rfl ⟨_, rfl, rfl, h⟩
          · replace h := h.2 cc1
            refine zh_aload_n (pn := 152) rfl dX5_gives_151 (i := 0) (v := .ref 39) rfl rfl (Or.inr ⟨_, rfl⟩) ?_
            refine zh_get (pn := 155) rfl dX5_gives_152 (v := .ref 49) (k := 9) rfl rfl (by decide) (by decide) in_X5 mf_X5_38 rfl ?_
            refine zh_iload (pn := 157) rfl dX5_gives_155 (i := 4) (x := r2) rfl ?_
            refine zh_iconst (pn := 158) rfl dX5_gives_157 (v := (zI 1)) rfl ?_
            refine zh_iast (pn := 159) rfl dX5_gives_158 rfl h.1 ?_
            obtain ⟨M55, eM55⟩ : ∃ q : zh_M, q = zh_set M53 49 r2.toNatClampNeg (zI 1) := ⟨_, rfl⟩
            replace h := h.2 M55 eM55
            rw [← eM55]
            refine zh_aload_n (pn := 160) rfl dX5_gives_159 (i := 0) (v := .ref 39) rfl rfl (Or.inr ⟨_, rfl⟩) ?_
            refine zh_iload_n (pn := 161) rfl dX5_gives_160 (i := 2) (x := a2) rfl rfl ?_
            refine zh_iload_n (pn := 162) rfl dX5_gives_161 (i := 3) (x := a3) rfl rfl ?_
            refine zh_iload (pn := 164) rfl dX5_gives_162 (i := 5) (x := (zI (-1))) rfl ?_
            refine zh_iload_n (pn := 165) rfl dX5_gives_164 (i := 1) (x := a1) rfl rfl ?_
            refine ca_X5_hand (pn := 168) rfl dX5_gives_165 mc_X5_153 (fun _ _ => Nat.le_of_ble_eq_true rfl) h (fun M56 h => ?_)
            refine zh_iconst (pn := 169) rfl dX5_gives_168 (v := (zI 1)) rfl ?_
            exact zh_iret dX5_gives_169 rfl rfl ⟨_, rfl, rfl, h⟩
        · replace h := h.2 cc1
          refine zh_aload_n (pn := 58) rfl dX5_gives_57 (i := 0) (v := .ref 39) rfl rfl (Or.inr ⟨_, rfl⟩) ?_
          refine zh_get (pn := 61) rfl dX5_gives_58 (v := .ref 60) (k := 20) rfl rfl (by decide) (by decide) in_X5 mf_X5_71 rfl ?_
          refine zh_iconst (pn := 62) rfl dX5_gives_61 (v := (zI 4)) rfl ?_
          refine zh_iload_n (pn := 63) rfl dX5_gives_62 (i := 1) (x := a1) rfl rfl ?_
          refine zh_imul (pn := 64) rfl dX5_gives_63 ?_
          refine zh_iald (pn := 65) rfl dX5_gives_64 rfl h.1 ?_
          replace h := h.2
          refine zh_istore (pn := 67) rfl dX5_gives_65 (i := 6) (lo' := [some (.ref 39), some (.int a1), some (.int a2), some (.int a3), some (.int r2), some (.int (zI (-1))), some (.int (M1 60 ((zI 4) * a1).toNatClampNeg)), none]) (by decide) rfl ?_
          refine zh_iconst (pn := 68) rfl dX5_gives_67 (v := (zI 1)) rfl ?_
          refine zh_istore (pn := 70) rfl dX5_gives_68 (i := 7) (lo' := [some (.ref 39), some (.int a1), some (.int a2), some (.int a3), some (.int r2), some (.int (zI (-1))), some (.int (M1 60 ((zI 4) * a1).toNatClampNeg)), some (.int (zI 1))]) (by decide) rfl ?_
          obtain ⟨n67, h⟩ := h
          refine wkl_X5_gives_70 (fun M57 w7_58 h => ?_) n67 _ _ h
          refine zh_aload_n (pn := 112) rfl dX5_gives_111 (i := 0) (v := .ref 39) rfl rfl (Or.inr ⟨_, rfl⟩) ?_
          refine zh_get (pn := 115) rfl dX5_gives_112 (v := .ref 61) (k := 21) rfl rfl (by decide) (by decide) in_X5 mf_X5_74 rfl ?_
          refine zh_iload_n (pn := 116) rfl dX5_gives_115 (i := 1) (x := a1) rfl rfl ?_
          refine zh_dup2 (pn := 117) rfl dX5_gives_116 (fun _ _ => rfl) (fun _ _ => rfl) ?_
          refine zh_iald (pn := 118) rfl dX5_gives_117 rfl h.1 ?_
          replace h := h.2
          refine zh_iconst (pn := 119) rfl dX5_gives_118 (v := (zI 1)) rfl ?_
          refine zh_isub (pn := 120) rfl dX5_gives_119 ?_
          refine zh_iast (pn := 121) rfl dX5_gives_120 rfl h.1 ?_
          obtain ⟨M59, eM59⟩ : ∃ q : zh_M, q = zh_set M57 61 a1.toNatClampNeg ((M57 61 a1.toNatClampNeg) - (zI 1)) := ⟨_, rfl⟩
          replace h := h.2 M59 eM59
          rw [← eM59]
          refine zh_iload (pn := 123) rfl dX5_gives_121 (i := 4) (x := r2) rfl ?_
          refine zh_if_lt (pn := 126) rfl dX5_gives_123 (tgt := 133) rfl (fun cc1 => ?_) (fun cc1 => ?_)
          · replace h := h.1 cc1
            refine zh_iload (pn := 135) rfl dX5_gives_133 (i := 6) (x := M1 60 ((zI 4) * a1).toNatClampNeg) rfl ?_
            refine zh_istore (pn := 137) rfl dX5_gives_135 (i := 5) (lo' := [some (.ref 39), some (.int a1), some (.int a2), some (.int a3), some (.int r2), some (.int (M1 60 ((zI 4) * a1).toNatClampNeg)), some (.int (M1 60 ((zI 4) * a1).toNatClampNeg)), w7_58]) (by decide) rfl ?_
            refine zh_goto dX5_gives_137 (tgt := 146) rfl ?_
            refine zh_iload (pn := 148) rfl dX5_gives_146 (i := 4) (x := r2) rfl ?_
            refine zh_if_lt (pn := 151) rfl dX5_gives_148 (tgt := 159) rfl (fun cc1 => ?_) (fun cc1 => ?_)
            · replace h := h.1 cc1
              refine zh_aload_n (pn := 160) rfl dX5_gives_159 (i := 0) (v := .ref 39) rfl rfl (Or.inr ⟨_, rfl⟩) ?_
              refine zh_iload_n (pn := 161) rfl dX5_gives_160 (i := 2) (x := a2) rfl rfl ?_
              refine zh_iload_n (pn := 162) rfl dX5_gives_161 (i := 3) (x := a3) rfl rfl ?_
              refine zh_iload (pn := 164) rfl dX5_gives_162 (i := 5) (x := M1 60 ((zI 4) * a1).toNatClampNeg) rfl ?_
              refine zh_iload_n (pn := 165) rfl dX5_gives_164 (i := 1) (x := a1) rfl rfl ?_
              refine ca_X5_hand (pn := 168) rfl dX5_gives_165 mc_X5_153 (fun _ _ => Nat.le_of_ble_eq_true rfl) h (fun M60 h => ?_)
              refine zh_iconst (pn := 169) rfl dX5_gives_168 (v := (zI 1)) rfl ?_
              exact zh_iret dX5_gives_169 rfl rfl ⟨_, rfl, rfl, h⟩
            · replace h := h.2 cc1
              refine zh_aload_n (pn := 152) rfl dX5_gives_151 (i := 0) (v := .ref 39) rfl rfl (Or.inr ⟨_, rfl⟩) ?_
              refine zh_get (pn := 155) rfl dX5_gives_152 (v := .ref 49) (k := 9) rfl rfl (by decide) (by decide) in_X5 mf_X5_38 rfl ?_
              refine zh_iload (pn := 157) rfl dX5_gives_155 (i := 4) (x := r2) rfl ?_
              refine zh_iconst (pn := 158) rfl dX5_gives_157 (v := (zI 1)) rfl ?_
              refine zh_iast (pn := 159) rfl dX5_gives_158 rfl h.1 ?_
              obtain ⟨M61, eM61⟩ : ∃ q : zh_M, q = zh_set M59 49 r2.toNatClampNeg (zI 1) := ⟨_, rfl⟩
              replace h := h.2 M61 eM61
              rw [← eM61]
              refine zh_aload_n (pn := 160) rfl dX5_gives_159 (i := 0) (v := .ref 39) rfl rfl (Or.inr ⟨_, rfl⟩) ?_
              refine zh_iload_n (pn := 161) rfl dX5_gives_160 (i := 2) (x := a2) rfl rfl ?_
              refine zh_iload_n (pn := 162) rfl dX5_gives_161 (i := 3) (x := a3) rfl rfl ?_
              refine zh_iload (pn := 164) rfl dX5_gives_162 (i := 5) (x := M1 60 ((zI 4) * a1).toNatClampNeg) rfl ?_
              refine zh_iload_n (pn := 165) rfl dX5_gives_164 (i := 1) (x := a1) rfl rfl ?_
              refine ca_X5_hand (pn := 168) rfl dX5_gives_165 mc_X5_153 (fun _ _ => Nat.le_of_ble_eq_true rfl) h (fun M62 h => ?_)
              refine zh_iconst (pn := 169) rfl dX5_gives_168 (v := (zI 1)) rfl ?_
              exact zh_iret dX5_gives_169 rfl rfl ⟨_, rfl, rfl, h⟩
          · replace h := h.2 cc1
            refine zh_aload_n (pn := 127) rfl dX5_gives_126 (i := 0) (v := .ref 39) rfl rfl (Or.inr ⟨_, rfl⟩) ?_
            refine zh_iload_n (pn := 128) rfl dX5_gives_127 (i := 1) (x := a1) rfl rfl ?_
            refine zh_iload (pn := 130) rfl dX5_gives_128 (i := 5) (x := (zI (-1))) rfl ?_
            refine ca_X5_enter (pn := 133) rfl dX5_gives_130 mc_X5_157 (fun _ _ => Nat.le_of_ble_eq_true rfl) h (fun M63 h => ?_)
            refine zh_iload (pn := 135) rfl dX5_gives_133 (i := 6) (x := M1 60 ((zI 4) * a1).toNatClampNeg) rfl ?_
            refine zh_istore (pn := 137) rfl dX5_gives_135 (i := 5) (lo' := [some (.ref 39), some (.int a1), some (.int a2), some (.int a3), some (.int r2), some (.int (M1 60 ((zI 4) * a1).toNatClampNeg)), some (.int (M1 60 ((zI 4) * a1).toNatClampNeg)), w7_58]) (by decide) rfl ?_
            refine zh_goto dX5_gives_137 (tgt := 146) rfl ?_
            refine zh_iload (pn := 148) rfl dX5_gives_146 (i := 4) (x := r2) rfl ?_
            refine zh_if_lt (pn := 151) rfl dX5_gives_148 (tgt := 159) rfl (fun cc1 => ?_) (fun cc1 => ?_)
            · replace h := h.1 cc1
              refine zh_aload_n (pn := 160) rfl dX5_gives_159 (i := 0) (v := .ref 39) rfl rfl (Or.inr ⟨_, rfl⟩) ?_
              refine zh_iload_n (pn := 161) rfl dX5_gives_160 (i := 2) (x := a2) rfl rfl ?_
              refine zh_iload_n (pn := 162) rfl dX5_gives_161 (i := 3) (x := a3) rfl rfl ?_
              refine zh_iload (pn := 164) rfl dX5_gives_162 (i := 5) (x := M1 60 ((zI 4) * a1).toNatClampNeg) rfl ?_
              refine zh_iload_n (pn := 165) rfl dX5_gives_164 (i := 1) (x := a1) rfl rfl ?_
              refine ca_X5_hand (pn := 168) rfl dX5_gives_165 mc_X5_153 (fun _ _ => Nat.le_of_ble_eq_true rfl) h (fun M64 h => ?_)
              refine zh_iconst (pn := 169) rfl dX5_gives_168 (v := (zI 1)) rfl ?_
              exact zh_iret dX5_gives_169 rfl rfl ⟨_, rfl, rfl, h⟩
            · replace h := h.2 cc1
              refine zh_aload_n (pn := 152) rfl dX5_gives_151 (i := 0) (v := .ref 39) rfl rfl (Or.inr ⟨_, rfl⟩) ?_
              refine zh_get (pn := 155) rfl dX5_gives_152 (v := .ref 49) (k := 9) rfl rfl (by decide) (by decide) in_X5 mf_X5_38 rfl ?_
              refine zh_iload (pn := 157) rfl dX5_gives_155 (i := 4) (x := r2) rfl ?_
              refine zh_iconst (pn := 158) rfl dX5_gives_157 (v := (zI 1)) rfl ?_
              refine zh_iast (pn := 159) rfl dX5_gives_158 rfl h.1 ?_
              obtain ⟨M65, eM65⟩ : ∃ q : zh_M, q = zh_set M63 49 r2.toNatClampNeg (zI 1) := ⟨_, rfl⟩
              replace h := h.2 M65 eM65
              rw [← eM65]
              refine zh_aload_n (pn := 160) rfl dX5_gives_159 (i := 0) (v := .ref 39) rfl rfl (Or.inr ⟨_, rfl⟩) ?_
              refine zh_iload_n (pn := 161) rfl dX5_gives_160 (i := 2) (x := a2) rfl rfl ?_
              refine zh_iload_n (pn := 162) rfl dX5_gives_161 (i := 3) (x := a3) rfl rfl ?_
              refine zh_iload (pn := 164) rfl dX5_gives_162 (i := 5) (x := M1 60 ((zI 4) * a1).toNatClampNeg) rfl ?_
              refine zh_iload_n (pn := 165) rfl dX5_gives_164 (i := 1) (x := a1) rfl rfl ?_
              refine ca_X5_hand (pn := 168) rfl dX5_gives_165 mc_X5_153 (fun _ _ => Nat.le_of_ble_eq_true rfl) h (fun M66 h => ?_)
              refine zh_iconst (pn := 169) rfl dX5_gives_168 (v := (zI 1)) rfl ?_
              exact zh_iret dX5_gives_169 rfl rfl ⟨_, rfl, rfl, h⟩
    · replace h := h.2 cc1
      refine zh_iconst (pn := 23) rfl dX5_gives_22 (v := (zI 0)) rfl ?_
      exact zh_iret dX5_gives_23 rfl rfl ⟨_, rfl, rfl, h⟩
set_option maxRecDepth 100000 in
theorem ca_X5_gives {X : Nat × (Nat → Int32)} {d : Nat} {y : MethodName} {cc : ByteArray} {nL : Nat} {rt : Option FieldType} {pc pn idx : Nat} {lo : List (Option Value)} {st : List Value} {M : zh_M} {P : Option Value → List zh_LC → zh_M → Prop} {a1 : Int32} {a2 : Int32} {a3 : Int32} {K : Int32 → zh_M → Prop} (hp : pc + 3 = pn) (hd : decode cc pc = .ok (.invokevirtual idx, 3)) (m1 : Cond.methodLink y.cls idx yX5_gives ∈ zh_WS) (hsc : ∀ base b, ((st.map (zh_tr base b)).map fun v => v.category).sum ≤ 8) (h : wp_X5_gives M a1 a2 a3 K) (kk : ∀ r M1, K r M1 → zh_W X (d + 3) y cc nL rt pn lo (.int r :: st) zh_LL M1 0 0 P) : zh_W X (d + 3) y cc nL rt pc lo (.int a3 :: .int a2 :: .int a1 :: .ref 39 :: st) zh_LL M 0 0 P := by
  refine zh_callV (bc := 0) (bs := 0) (bc' := 0) (bs' := 0) (as := [.int a1, .int a2, .int a3]) (st := st) hp hd rfl (by decide) rfl rfl m1 me_X5_gives.1 me_X5_gives.2.1 me_X5_gives.2.2.1 me_X5_gives.2.2.2 ⟨by decide, by decide, by decide⟩ (by show _ = some 3; decide +kernel) (by intro v hv; simp only [List.mem_cons, List.not_mem_nil, or_false] at hv; rcases hv with rfl | rfl | rfl <;> (intro _ _; rfl)) hsc (Nat.le_of_ble_eq_true rfl) (by decide) (wk_X5_gives  h) (fun r L' M' q => ?_) (fun r L' M' q => ?_)
  · obtain ⟨v, -, rfl, q⟩ := q; rfl
  · obtain ⟨v, rfl, rfl, q⟩ := q; exact kk v M' q
