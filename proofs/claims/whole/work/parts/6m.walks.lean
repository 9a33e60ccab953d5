set_option maxRecDepth 100000 in
set_option maxHeartbeats 4000000 in
theorem wk_X5_count {X : Nat × (Nat → Int32)} {d : Nat} {M : zh_M} {a1 : Int32} {P : Int32 → zh_M → Prop} (h : wp_X5_count M a1 P) : zh_W X (d + 2) yX5_count cX5_count 2 (some .int) 0 (zh_en [.ref 39, .int a1] 2) [] zh_LL M 0 0 (zh_pi P) := by
  unfold wp_X5_count at h
  show zh_W X (d + 2) yX5_count cX5_count 2 (some .int) 0 [some (.ref 39), some (.int a1)] [] zh_LL M 0 0 (zh_pi P)
  refine zh_iload_n (pn := 1) rfl dX5_count_0 (i := 1) (x := a1) rfl rfl ?_
  by_cases cc1 : a1.toInt < 3 ∨ 11 < a1.toInt
  · replace h := h.1 cc1
    refine zh_tableOut dX5_count_1 cc1 (tgt := 102) rfl ?_
    refine zh_iload_n (pn := 103) rfl dX5_count_102 (i := 1) (x := a1) rfl rfl ?_
    refine zh_if_lt (pn := 106) rfl dX5_count_103 (tgt := 112) rfl (fun cc1 => ?_) (fun cc1 => ?_)
    · replace h := h.1 cc1
      refine zh_iconst (pn := 113) rfl dX5_count_112 (v := (zI (-1))) rfl ?_
      refine zh_goto dX5_count_113 (tgt := 121) rfl ?_
      exact zh_iret dX5_count_121 rfl rfl ⟨_, rfl, rfl, h⟩
    · replace h := h.2 cc1
      refine zh_iload_n (pn := 107) rfl dX5_count_106 (i := 1) (x := a1) rfl rfl ?_
      refine zh_bipush (pn := 109) rfl dX5_count_107 (v := (zI 11)) rfl ?_
      refine zh_icmp_le (pn := 112) rfl dX5_count_109 (tgt := 116) rfl (fun cc1 => ?_) (fun cc1 => ?_)
      · replace h := h.1 cc1
        refine zh_aload_n (pn := 117) rfl dX5_count_116 (i := 0) (v := .ref 39) rfl rfl (Or.inr ⟨_, rfl⟩) ?_
        refine zh_iload_n (pn := 118) rfl dX5_count_117 (i := 1) (x := a1) rfl rfl ?_
        refine ca_X5_tally (pn := 121) rfl dX5_count_118 mc_X5_187 (fun _ _ => Nat.le_of_ble_eq_true rfl) h (fun r2 M1 h => ?_)
        exact zh_iret dX5_count_121 rfl rfl ⟨_, rfl, rfl, h⟩
      · replace h := h.2 cc1
        refine zh_iconst (pn := 113) rfl dX5_count_112 (v := (zI (-1))) rfl ?_
        refine zh_goto dX5_count_113 (tgt := 121) rfl ?_
        exact zh_iret dX5_count_121 rfl rfl ⟨_, rfl, rfl, h⟩
  · replace h := h.2
    rcases (show a1.toInt = 3 ∨ a1.toInt = 4 ∨ a1.toInt = 5 ∨ a1.toInt = 6 ∨ a1.toInt = 7 ∨ a1.toInt = 8 ∨ a1.toInt = 9 ∨ a1.toInt = 10 ∨ a1.toInt = 11 by omega) with cc2 | cc2 | cc2 | cc2 | cc2 | cc2 | cc2 | cc2 | cc2
    · replace h := h.1 cc2
      refine zh_tableIn dX5_count_1 (by omega) (by omega) (by rw [cc2]; rfl) (tgt := 52) rfl ?_
      refine zh_aload_n (pn := 53) rfl dX5_count_52 (i := 0) (v := .ref 39) rfl rfl (Or.inr ⟨_, rfl⟩) ?_
      refine zh_iconst (pn := 54) rfl dX5_count_53 (v := (zI 1)) rfl ?_
      refine zh_iconst (pn := 55) rfl dX5_count_54 (v := (zI 1)) rfl ?_
      refine ca_X5_runOf (pn := 58) rfl dX5_count_55 mc_X5_117 (fun _ _ => Nat.le_of_ble_eq_true rfl) h (fun r4 M3 h => ?_)
      exact zh_iret dX5_count_58 rfl rfl ⟨_, rfl, rfl, h⟩
    · replace h := h.2.1 cc2
      refine zh_tableIn dX5_count_1 (by omega) (by omega) (by rw [cc2]; rfl) (tgt := 59) rfl ?_
      refine zh_aload_n (pn := 60) rfl dX5_count_59 (i := 0) (v := .ref 39) rfl rfl (Or.inr ⟨_, rfl⟩) ?_
      refine zh_get (pn := 63) rfl dX5_count_60 (v := .int (M 39 23)) (k := 23) rfl rfl (by decide) (by decide) in_X5 mf_X5_103 rfl ?_
      refine zh_if_eq (pn := 66) rfl dX5_count_63 (tgt := 70) rfl (fun cc1 => ?_) (fun cc1 => ?_)
      · replace h := h.1 cc1
        refine zh_iconst (pn := 71) rfl dX5_count_70 (v := (zI 0)) rfl ?_
        exact zh_iret dX5_count_71 rfl rfl ⟨_, rfl, rfl, h⟩
      · replace h := h.2 cc1
        refine zh_iconst (pn := 67) rfl dX5_count_66 (v := (zI 1)) rfl ?_
        refine zh_goto dX5_count_67 (tgt := 71) rfl ?_
        exact zh_iret dX5_count_71 rfl rfl ⟨_, rfl, rfl, h⟩
    · replace h := h.2.2.1 cc2
      refine zh_tableIn dX5_count_1 (by omega) (by omega) (by rw [cc2]; rfl) (tgt := 102) rfl ?_
      refine zh_iload_n (pn := 103) rfl dX5_count_102 (i := 1) (x := a1) rfl rfl ?_
      refine zh_if_lt (pn := 106) rfl dX5_count_103 (tgt := 112) rfl (fun cc1 => ?_) (fun cc1 => ?_)
      · replace h := h.1 cc1
        refine zh_iconst (pn := 113) rfl dX5_count_112 (v := (zI (-1))) rfl ?_
        refine zh_goto dX5_count_113 (tgt := 121) rfl ?_
        exact zh_iret dX5_count_121 rfl rfl ⟨_, rfl, rfl, h⟩
      · replace h := h.2 cc1
        refine zh_iload_n (pn := 107) rfl dX5_count_106 (i := 1) (x := a1) rfl rfl ?_
        refine zh_bipush (pn := 109) rfl dX5_count_107 (v := (zI 11)) rfl ?_
        refine zh_icmp_le (pn := 112) rfl dX5_count_109 (tgt := 116) rfl (fun cc1 => ?_) (fun cc1 => ?_)
        · replace h := h.1 cc1
          refine zh_aload_n (pn := 117) rfl dX5_count_116 (i := 0) (v := .ref 39) rfl rfl (Or.inr ⟨_, rfl⟩) ?_
          refine zh_iload_n (pn := 118) rfl dX5_count_117 (i := 1) (x := a1) rfl rfl ?_
          refine ca_X5_tally (pn := 121) rfl dX5_count_118 mc_X5_187 (fun _ _ => Nat.le_of_ble_eq_true rfl) h (fun r6 M5 h => ?_)
          exact zh_iret dX5_count_121 rfl rfl ⟨_, rfl, rfl, h⟩
        · replace h := h.2 cc1
          refine zh_iconst (pn := 113) rfl dX5_count_112 (v := (zI (-1))) rfl ?_
          refine zh_goto dX5_count_113 (tgt := 121) rfl ?_
          exact zh_iret dX5_count_121 rfl rfl ⟨_, rfl, rfl, h⟩
    · replace h := h.2.2.2.1 cc2
      refine zh_tableIn dX5_count_1 (by omega) (by omega) (by rw [cc2]; rfl) (tgt := 72) rfl ?_
      refine zh_aload_n (pn := 73) rfl dX5_count_72 (i := 0) (v := .ref 39) rfl rfl (Or.inr ⟨_, rfl⟩) ?_
      refine zh_get (pn := 76) rfl dX5_count_73 (v := .int (M 39 25)) (k := 25) rfl rfl (by decide) (by decide) in_X5 mf_X5_171 rfl ?_
      exact zh_iret dX5_count_76 rfl rfl ⟨_, rfl, rfl, h⟩
    · replace h := h.2.2.2.2.1 cc2
      refine zh_tableIn dX5_count_1 (by omega) (by omega) (by rw [cc2]; rfl) (tgt := 77) rfl ?_
      refine zh_aload_n (pn := 78) rfl dX5_count_77 (i := 0) (v := .ref 39) rfl rfl (Or.inr ⟨_, rfl⟩) ?_
      refine zh_get (pn := 81) rfl dX5_count_78 (v := .int (M 39 26)) (k := 26) rfl rfl (by decide) (by decide) in_X5 mf_X5_181 rfl ?_
      exact zh_iret dX5_count_81 rfl rfl ⟨_, rfl, rfl, h⟩
    · replace h := h.2.2.2.2.2.1 cc2
      refine zh_tableIn dX5_count_1 (by omega) (by omega) (by rw [cc2]; rfl) (tgt := 82) rfl ?_
      refine zh_aload_n (pn := 83) rfl dX5_count_82 (i := 0) (v := .ref 39) rfl rfl (Or.inr ⟨_, rfl⟩) ?_
      refine zh_get (pn := 86) rfl dX5_count_83 (v := .int (M 39 27)) (k := 27) rfl rfl (by decide) (by decide) in_X5 mf_X5_107 rfl ?_
      exact zh_iret dX5_count_86 rfl rfl ⟨_, rfl, rfl, h⟩
    · replace h := h.2.2.2.2.2.2.1 cc2
      refine zh_tableIn dX5_count_1 (by omega) (by omega) (by rw [cc2]; rfl) (tgt := 87) rfl ?_
      refine zh_aload_n (pn := 88) rfl dX5_count_87 (i := 0) (v := .ref 39) rfl rfl (Or.inr ⟨_, rfl⟩) ?_
      refine zh_get (pn := 91) rfl dX5_count_88 (v := .int (M 39 28)) (k := 28) rfl rfl (by decide) (by decide) in_X5 mf_X5_125 rfl ?_
      exact zh_iret dX5_count_91 rfl rfl ⟨_, rfl, rfl, h⟩
    · replace h := h.2.2.2.2.2.2.2.1 cc2
      refine zh_tableIn dX5_count_1 (by omega) (by omega) (by rw [cc2]; rfl) (tgt := 92) rfl ?_
      refine zh_aload_n (pn := 93) rfl dX5_count_92 (i := 0) (v := .ref 39) rfl rfl (Or.inr ⟨_, rfl⟩) ?_
      refine zh_get (pn := 96) rfl dX5_count_93 (v := .int (M 39 29)) (k := 29) rfl rfl (by decide) (by decide) in_X5 mf_X5_77 rfl ?_
      exact zh_iret dX5_count_96 rfl rfl ⟨_, rfl, rfl, h⟩
    · replace h := h.2.2.2.2.2.2.2.2 cc2
      refine zh_tableIn dX5_count_1 (by omega) (by omega) (by rw [cc2]; rfl) (tgt := 97) rfl ?_
      refine zh_aload_n (pn := 98) rfl dX5_count_97 (i := 0) (v := .ref 39) rfl rfl (Or.inr ⟨_, rfl⟩) ?_
      refine zh_get (pn := 101) rfl dX5_count_98 (v := .int (M 39 30)) (k := 30) rfl rfl (by decide) (by decide) in_X5 mf_X5_110 rfl ?_
      exact zh_iret dX5_count_101 rfl rfl ⟨_, rfl, rfl, h⟩
set_option maxRecDepth 100000 in
theorem ca_X5_count {X : Nat × (Nat → Int32)} {d : Nat} {y : MethodName} {cc : ByteArray} {nL : Nat} {rt : Option FieldType} {pc pn idx : Nat} {lo : List (Option Value)} {st : List Value} {M : zh_M} {P : Option Value → List zh_LC → zh_M → Prop} {a1 : Int32} {K : Int32 → zh_M → Prop} (hp : pc + 3 = pn) (hd : decode cc pc = .ok (.invokevirtual idx, 3)) (m1 : Cond.methodLink y.cls idx yX5_count ∈ zh_WS) (hsc : ∀ base b, ((st.map (zh_tr base b)).map fun v => v.category).sum ≤ 8) (h : wp_X5_count M a1 K) (kk : ∀ r M1, K r M1 → zh_W X (d + 3) y cc nL rt pn lo (.int r :: st) zh_LL M1 0 0 P) : zh_W X (d + 3) y cc nL rt pc lo (.int a1 :: .ref 39 :: st) zh_LL M 0 0 P := by
  refine zh_callV (bc := 0) (bs := 0) (bc' := 0) (bs' := 0) (as := [.int a1]) (st := st) hp hd rfl (by decide) rfl rfl m1 me_X5_count.1 me_X5_count.2.1 me_X5_count.2.2.1 me_X5_count.2.2.2 ⟨by decide, by decide, by decide⟩ (by show _ = some 1; decide +kernel) (by intro v hv; simp only [List.mem_cons, List.not_mem_nil, or_false] at hv; rcases hv with rfl <;> (intro _ _; rfl)) hsc (Nat.le_of_ble_eq_true rfl) (by decide) (wk_X5_count  h) (fun r L' M' q => ?_) (fun r L' M' q => ?_)
  · obtain ⟨v, -, rfl, q⟩ := q; rfl
  · obtain ⟨v, rfl, rfl, q⟩ := q; exact kk v M' q
set_option maxRecDepth 100000 in
set_option maxHeartbeats 4000000 in
theorem wk_X5_page {X : Nat × (Nat → Int32)} {d : Nat} {M : zh_M} {a1 : Int32} {P : Int32 → zh_M → Prop} (h : wp_X5_page M a1 P) : zh_W X (d + 0) yX5_page cX5_page 2 (some .int) 0 (zh_en [.ref 39, .int a1] 2) [] zh_LL M 0 0 (zh_pi P) := by
  unfold wp_X5_page at h
  show zh_W X (d + 0) yX5_page cX5_page 2 (some .int) 0 [some (.ref 39), some (.int a1)] [] zh_LL M 0 0 (zh_pi P)
  refine zh_iload_n (pn := 1) rfl dX5_page_0 (i := 1) (x := a1) rfl rfl ?_
  refine zh_if_lt (pn := 4) rfl dX5_page_1 (tgt := 10) rfl (fun cc1 => ?_) (fun cc1 => ?_)
  · replace h := h.1 cc1
    refine zh_iconst (pn := 11) rfl dX5_page_10 (v := (zI (-1))) rfl ?_
    refine zh_goto dX5_page_11 (tgt := 20) rfl ?_
    exact zh_iret dX5_page_20 rfl rfl ⟨_, rfl, rfl, h⟩
  · replace h := h.2 cc1
    refine zh_iload_n (pn := 5) rfl dX5_page_4 (i := 1) (x := a1) rfl rfl ?_
    refine zh_bipush (pn := 7) rfl dX5_page_5 (v := (zI 15)) rfl ?_
    refine zh_icmp_le (pn := 10) rfl dX5_page_7 (tgt := 14) rfl (fun cc1 => ?_) (fun cc1 => ?_)
    · replace h := h.1 cc1
      refine zh_aload_n (pn := 15) rfl dX5_page_14 (i := 0) (v := .ref 39) rfl rfl (Or.inr ⟨_, rfl⟩) ?_
      refine zh_get (pn := 18) rfl dX5_page_15 (v := .ref 47) (k := 7) rfl rfl (by decide) (by decide) in_X5 mf_X5_32 rfl ?_
      refine zh_iload_n (pn := 19) rfl dX5_page_18 (i := 1) (x := a1) rfl rfl ?_
      refine zh_iald (pn := 20) rfl dX5_page_19 rfl h.1 ?_
      replace h := h.2
      exact zh_iret dX5_page_20 rfl rfl ⟨_, rfl, rfl, h⟩
    · replace h := h.2 cc1
      refine zh_iconst (pn := 11) rfl dX5_page_10 (v := (zI (-1))) rfl ?_
      refine zh_goto dX5_page_11 (tgt := 20) rfl ?_
      exact zh_iret dX5_page_20 rfl rfl ⟨_, rfl, rfl, h⟩
set_option maxRecDepth 100000 in
theorem ca_X5_page {X : Nat × (Nat → Int32)} {d : Nat} {y : MethodName} {cc : ByteArray} {nL : Nat} {rt : Option FieldType} {pc pn idx : Nat} {lo : List (Option Value)} {st : List Value} {M : zh_M} {P : Option Value → List zh_LC → zh_M → Prop} {a1 : Int32} {K : Int32 → zh_M → Prop} (hp : pc + 3 = pn) (hd : decode cc pc = .ok (.invokevirtual idx, 3)) (m1 : Cond.methodLink y.cls idx yX5_page ∈ zh_WS) (hsc : ∀ base b, ((st.map (zh_tr base b)).map fun v => v.category).sum ≤ 8) (h : wp_X5_page M a1 K) (kk : ∀ r M1, K r M1 → zh_W X (d + 1) y cc nL rt pn lo (.int r :: st) zh_LL M1 0 0 P) : zh_W X (d + 1) y cc nL rt pc lo (.int a1 :: .ref 39 :: st) zh_LL M 0 0 P := by
  refine zh_callV (bc := 0) (bs := 0) (bc' := 0) (bs' := 0) (as := [.int a1]) (st := st) hp hd rfl (by decide) rfl rfl m1 me_X5_page.1 me_X5_page.2.1 me_X5_page.2.2.1 me_X5_page.2.2.2 ⟨by decide, by decide, by decide⟩ (by show _ = some 1; decide +kernel) (by intro v hv; simp only [List.mem_cons, List.not_mem_nil, or_false] at hv; rcases hv with rfl <;> (intro _ _; rfl)) hsc (Nat.le_of_ble_eq_true rfl) (by decide) (wk_X5_page  h) (fun r L' M' q => ?_) (fun r L' M' q => ?_)
  · obtain ⟨v, -, rfl, q⟩ := q; rfl
  · obtain ⟨v, rfl, rfl, q⟩ := q; exact kk v M' q
