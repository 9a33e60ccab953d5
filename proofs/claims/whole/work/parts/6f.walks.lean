set_option maxRecDepth 100000 in
set_option maxHeartbeats 4000000 in
theorem wk_X4_take {X : Nat × (Nat → Int32)} {d : Nat} {M : zh_M} {a1 : Int32} {a2 : Int32} {a3 : Int32} {a4 : Int32} {P : Int32 → zh_M → Prop} (h : wp_X4_take M a1 a2 a3 a4 P) : zh_W X (d + 3) yX4_take cX4_take 7 (some .int) 0 (zh_en [.ref 1, .int a1, .int a2, .int a3, .int a4] 7) [] zh_LL M 0 0 (zh_pi P) := by
  unfold wp_X4_take at h
  show zh_W X (d + 3) yX4_take cX4_take 7 (some .int) 0 [some (.ref 1), some (.int a1), some (.int a2), some (.int a3), some (.int a4), none, none] [] zh_LL M 0 0 (zh_pi P)
  refine zh_aload_n (pn := 1) rfl dX4_take_0 (i := 0) (v := .ref 1) rfl rfl (Or.inr ⟨_, rfl⟩) ?_
  refine zh_iload_n (pn := 2) rfl dX4_take_1 (i := 1) (x := a1) rfl rfl ?_
  refine ca_X4_readyFiber (pn := 5) rfl dX4_take_2 mc_X4_48 (fun _ _ => Nat.le_of_ble_eq_true rfl) h (fun r2 M1 h => ?_)
  refine zh_astore (pn := 7) rfl dX4_take_5 (i := 5) (lo' := [some (.ref 1), some (.int a1), some (.int a2), some (.int a3), some (.int a4), some (va_rf r2), none]) (by decide) (zh_rfor r2) rfl ?_
  refine zh_aload (pn := 9) rfl dX4_take_7 (i := 5) (v := va_rf r2) rfl (zh_rfor r2) ?_
  refine zh_ifnull (pn := 12) rfl dX4_take_9 (tgt := 36) rfl (fun cc1 => ?_) (fun o3 cc1 => ?_)
  · subst cc1
    replace h := h.1 rfl
    refine zh_iconst (pn := 37) rfl dX4_take_36 (v := (zI (-1))) rfl ?_
    exact zh_iret dX4_take_37 rfl rfl ⟨_, rfl, rfl, h⟩
  · subst cc1
    obtain ⟨zo3, h⟩ := h.2 o3 rfl
    refine zh_aload (pn := 14) rfl dX4_take_12 (i := 5) (v := .ref o3) rfl (Or.inr ⟨_, rfl⟩) ?_
    refine zh_iload_n (pn := 15) rfl dX4_take_14 (i := 2) (x := a2) rfl rfl ?_
    refine ca_X2_isCell (pn := 18) rfl dX4_take_15 mc_X4_89 zo3 (fun _ _ => Nat.le_of_ble_eq_true rfl) h (fun r5 M4 h => ?_)
    refine zh_if_eq (pn := 21) rfl dX4_take_18 (tgt := 36) rfl (fun cc1 => ?_) (fun cc1 => ?_)
    · replace h := h.1 cc1
      refine zh_iconst (pn := 37) rfl dX4_take_36 (v := (zI (-1))) rfl ?_
      exact zh_iret dX4_take_37 rfl rfl ⟨_, rfl, rfl, h⟩
    · replace h := h.2 cc1
      refine zh_iload_n (pn := 22) rfl dX4_take_21 (i := 3) (x := a3) rfl rfl ?_
      refine ca_X4_isChannel (pn := 25) rfl dX4_take_22 mc_X4_123 (fun _ _ => Nat.le_of_ble_eq_true rfl) h (fun r7 M6 h => ?_)
      refine zh_if_eq (pn := 28) rfl dX4_take_25 (tgt := 36) rfl (fun cc1 => ?_) (fun cc1 => ?_)
      · replace h := h.1 cc1
        refine zh_iconst (pn := 37) rfl dX4_take_36 (v := (zI (-1))) rfl ?_
        exact zh_iret dX4_take_37 rfl rfl ⟨_, rfl, rfl, h⟩
      · replace h := h.2 cc1
        refine zh_iload (pn := 30) rfl dX4_take_28 (i := 4) (x := a4) rfl ?_
        refine ca_X4_isChannel (pn := 33) rfl dX4_take_30 mc_X4_123 (fun _ _ => Nat.le_of_ble_eq_true rfl) h (fun r9 M8 h => ?_)
        refine zh_if_ne (pn := 36) rfl dX4_take_33 (tgt := 38) rfl (fun cc1 => ?_) (fun cc1 => ?_)
        · replace h := h.1 cc1
          refine zh_aload_n (pn := 39) rfl dX4_take_38 (i := 0) (v := .ref 1) rfl rfl (Or.inr ⟨_, rfl⟩) ?_
          refine zh_iload_n (pn := 40) rfl dX4_take_39 (i := 3) (x := a3) rfl rfl ?_
          refine ca_X4_canGive (pn := 43) rfl dX4_take_40 mc_X4_147 (fun _ _ => Nat.le_of_ble_eq_true rfl) h (fun r11 M10 h => ?_)
          refine zh_if_eq (pn := 46) rfl dX4_take_43 (tgt := 50) rfl (fun cc1 => ?_) (fun cc1 => ?_)
          · replace h := h.1 cc1
            refine zh_iload (pn := 52) rfl dX4_take_50 (i := 4) (x := a4) rfl ?_
            refine zh_istore (pn := 54) rfl dX4_take_52 (i := 6) (lo' := [some (.ref 1), some (.int a1), some (.int a2), some (.int a3), some (.int a4), some (.ref o3), some (.int a4)]) (by decide) rfl ?_
            refine zh_aload_n (pn := 55) rfl dX4_take_54 (i := 0) (v := .ref 1) rfl rfl (Or.inr ⟨_, rfl⟩) ?_
            refine zh_iload (pn := 57) rfl dX4_take_55 (i := 6) (x := a4) rfl ?_
            refine ca_X4_canGive (pn := 60) rfl dX4_take_57 mc_X4_147 (fun _ _ => Nat.le_of_ble_eq_true rfl) h (fun r13 M12 h => ?_)
            refine zh_if_ne (pn := 63) rfl dX4_take_60 (tgt := 79) rfl (fun cc1 => ?_) (fun cc1 => ?_)
            · replace h := h.1 cc1
              refine zh_aload (pn := 81) rfl dX4_take_79 (i := 5) (v := .ref o3) rfl (Or.inr ⟨_, rfl⟩) ?_
              refine zh_iload_n (pn := 82) rfl dX4_take_81 (i := 2) (x := a2) rfl rfl ?_
              refine zh_aload_n (pn := 83) rfl dX4_take_82 (i := 0) (v := .ref 1) rfl rfl (Or.inr ⟨_, rfl⟩) ?_
              refine zh_iload (pn := 85) rfl dX4_take_83 (i := 6) (x := a4) rfl ?_
              refine ca_X4_pointerOutOf (pn := 88) rfl dX4_take_85 mc_X4_150 (fun _ _ => Nat.le_of_ble_eq_true rfl) h (fun r15 M14 h => ?_)
              refine ca_X2_fillCell (pn := 91) rfl dX4_take_88 mc_X4_92 zo3 (fun _ _ => Nat.le_of_ble_eq_true rfl) h (fun M16 h => ?_)
              refine zh_aload (pn := 93) rfl dX4_take_91 (i := 5) (v := .ref o3) rfl (Or.inr ⟨_, rfl⟩) ?_
              refine zh_iload (pn := 95) rfl dX4_take_93 (i := 6) (x := a4) rfl ?_
              refine zh_put (pn := 98) rfl dX4_take_95 (k := 7) (at_Fiber zo3) rfl (by decide) (by decide) in_X2 tyX2_ok nmX2 mf_X4_153 rfl rfl rfl rfl ?_
              obtain ⟨M17, eM17⟩ : ∃ q : zh_M, q = zh_set M16 o3 7 a4 := ⟨_, rfl⟩
              replace h := h M17 eM17
              rw [← eM17]
              refine zh_iload (pn := 100) rfl dX4_take_98 (i := 6) (x := a4) rfl ?_
              exact zh_iret dX4_take_100 rfl rfl ⟨_, rfl, rfl, h⟩
            · replace h := h.2 cc1
              refine zh_aload (pn := 65) rfl dX4_take_63 (i := 5) (v := .ref o3) rfl (Or.inr ⟨_, rfl⟩) ?_
              refine zh_iconst (pn := 66) rfl dX4_take_65 (v := (zI 3)) rfl ?_
              refine zh_iload_n (pn := 67) rfl dX4_take_66 (i := 2) (x := a2) rfl rfl ?_
              refine zh_iload_n (pn := 68) rfl dX4_take_67 (i := 3) (x := a3) rfl rfl ?_
              refine zh_iload (pn := 70) rfl dX4_take_68 (i := 4) (x := a4) rfl ?_
              refine zh_aload_n (pn := 71) rfl dX4_take_70 (i := 0) (v := .ref 1) rfl rfl (Or.inr ⟨_, rfl⟩) ?_
              refine ca_X4_newTicket (pn := 74) rfl dX4_take_71 mc_X4_140 (fun _ _ => Nat.le_of_ble_eq_true rfl) h (fun r19 M18 h => ?_)
              refine ca_X2_beginToWait (pn := 77) rfl dX4_take_74 mc_X4_143 zo3 (fun _ _ => Nat.le_of_ble_eq_true rfl) h (fun M20 h => ?_)
              refine zh_iconst (pn := 78) rfl dX4_take_77 (v := (zI 4)) rfl ?_
              exact zh_iret dX4_take_78 rfl rfl ⟨_, rfl, rfl, h⟩
          · replace h := h.2 cc1
            refine zh_iload_n (pn := 47) rfl dX4_take_46 (i := 3) (x := a3) rfl rfl ?_
            refine zh_goto dX4_take_47 (tgt := 52) rfl ?_
            refine zh_istore (pn := 54) rfl dX4_take_52 (i := 6) (lo' := [some (.ref 1), some (.int a1), some (.int a2), some (.int a3), some (.int a4), some (.ref o3), some (.int a3)]) (by decide) rfl ?_
            refine zh_aload_n (pn := 55) rfl dX4_take_54 (i := 0) (v := .ref 1) rfl rfl (Or.inr ⟨_, rfl⟩) ?_
            refine zh_iload (pn := 57) rfl dX4_take_55 (i := 6) (x := a3) rfl ?_
            refine ca_X4_canGive (pn := 60) rfl dX4_take_57 mc_X4_147 (fun _ _ => Nat.le_of_ble_eq_true rfl) h (fun r22 M21 h => ?_)
            refine zh_if_ne (pn := 63) rfl dX4_take_60 (tgt := 79) rfl (fun cc1 => ?_) (fun cc1 => ?_)
            · replace h := h.1 cc1
              refine zh_aload (pn := 81) rfl dX4_take_79 (i := 5) (v := .ref o3) rfl (Or.inr ⟨_, rfl⟩) ?_
              refine zh_iload_n (pn := 82) rfl dX4_take_81 (i := 2) (x := a2) rfl rfl ?_
              refine zh_aload_n (pn := 83) rfl dX4_take_82 (i := 0) (v := .ref 1) rfl rfl (Or.inr ⟨_, rfl⟩) ?_
              refine zh_iload (pn := 85) rfl dX4_take_83 (i := 6) (x := a3) rfl ?_
              refine ca_X4_pointerOutOf (pn := 88) rfl dX4_take_85 mc_X4_150 (fun _ _ => Nat.le_of_ble_eq_true rfl) h (fun r24 M23 h => ?_)
              refine ca_X2_fillCell (pn := 91) rfl dX4_take_88 mc_X4_92 zo3 (fun _ _ => Nat.le_of_ble_eq_true rfl) h (fun M25 h => ?_)
              refine zh_aload (pn := 93) rfl dX4_take_91 (i := 5) (v := .ref o3) rfl (Or.inr ⟨_, rfl⟩) ?_
              refine zh_iload (pn := 95) rfl dX4_take_93 (i := 6) (x := a3) rfl ?_
              refine zh_put (pn := 98) rfl dX4_take_95 (k := 7) (at_Fiber zo3) rfl (by decide) (by decide) in_X2 tyX2_ok nmX2 mf_X4_153 rfl rfl rfl rfl ?_
              obtain ⟨M26, eM26⟩ : ∃ q : zh_M, q = zh_set M25 o3 7 a3 := ⟨_, rfl⟩
              replace h := h M26 eM26
              rw [← eM26]
              refine zh_iload (pn := 100) rfl dX4_take_98 (i := 6) (x := a3) rfl ?_
              exact zh_iret dX4_take_100 rfl rfl ⟨_, rfl, rfl, h⟩
            · replace h := h.2 cc1
              refine zh_aload (pn := 65) rfl dX4_take_63 (i := 5) (v := .ref o3) rfl (Or.inr ⟨_, rfl⟩) ?_
              refine zh_iconst (pn := 66) rfl dX4_take_65 (v := (zI 3)) rfl ?_
              refine zh_iload_n (pn := 67) rfl dX4_take_66 (i := 2) (x := a2) rfl rfl ?_
              refine zh_iload_n (pn := 68) rfl dX4_take_67 (i := 3) (x := a3) rfl rfl ?_
              refine zh_iload (pn := 70) rfl dX4_take_68 (i := 4) (x := a4) rfl ?_
              refine zh_aload_n (pn := 71) rfl dX4_take_70 (i := 0) (v := .ref 1) rfl rfl (Or.inr ⟨_, rfl⟩) ?_
              refine ca_X4_newTicket (pn := 74) rfl dX4_take_71 mc_X4_140 (fun _ _ => Nat.le_of_ble_eq_true rfl) h (fun r28 M27 h => ?_)
              refine ca_X2_beginToWait (pn := 77) rfl dX4_take_74 mc_X4_143 zo3 (fun _ _ => Nat.le_of_ble_eq_true rfl) h (fun M29 h => ?_)
              refine zh_iconst (pn := 78) rfl dX4_take_77 (v := (zI 4)) rfl ?_
              exact zh_iret dX4_take_78 rfl rfl ⟨_, rfl, rfl, h⟩
        · replace h := h.2 cc1
          refine zh_iconst (pn := 37) rfl dX4_take_36 (v := (zI (-1))) rfl ?_
          exact zh_iret dX4_take_37 rfl rfl ⟨_, rfl, rfl, h⟩
set_option maxRecDepth 100000 in
theorem ca_X4_take {X : Nat × (Nat → Int32)} {d : Nat} {y : MethodName} {cc : ByteArray} {nL : Nat} {rt : Option FieldType} {pc pn idx : Nat} {lo : List (Option Value)} {st : List Value} {M : zh_M} {P : Option Value → List zh_LC → zh_M → Prop} {a1 : Int32} {a2 : Int32} {a3 : Int32} {a4 : Int32} {K : Int32 → zh_M → Prop} (hp : pc + 3 = pn) (hd : decode cc pc = .ok (.invokevirtual idx, 3)) (m1 : Cond.methodLink y.cls idx yX4_take ∈ zh_WS) (hsc : ∀ base b, ((st.map (zh_tr base b)).map fun v => v.category).sum ≤ 8) (h : wp_X4_take M a1 a2 a3 a4 K) (kk : ∀ r M1, K r M1 → zh_W X (d + 4) y cc nL rt pn lo (.int r :: st) zh_LL M1 0 0 P) : zh_W X (d + 4) y cc nL rt pc lo (.int a4 :: .int a3 :: .int a2 :: .int a1 :: .ref 1 :: st) zh_LL M 0 0 P := by
  refine zh_callV (bc := 0) (bs := 0) (bc' := 0) (bs' := 0) (as := [.int a1, .int a2, .int a3, .int a4]) (st := st) hp hd rfl (by decide) rfl rfl m1 me_X4_take.1 me_X4_take.2.1 me_X4_take.2.2.1 me_X4_take.2.2.2 ⟨by decide, by decide, by decide⟩ (by show _ = some 4; decide +kernel) (by intro v hv; simp only [List.mem_cons, List.not_mem_nil, or_false] at hv; rcases hv with rfl | rfl | rfl | rfl <;> (intro _ _; rfl)) hsc (Nat.le_of_ble_eq_true rfl) (by decide) (wk_X4_take  h) (fun r L' M' q => ?_) (fun r L' M' q => ?_)
  · obtain ⟨v, -, rfl, q⟩ := q; rfl
  · obtain ⟨v, rfl, rfl, q⟩ := q; exact kk v M' q
set_option maxRecDepth 100000 in
set_option maxHeartbeats 4000000 in
theorem wk_X4_mark {X : Nat × (Nat → Int32)} {d : Nat} {M : zh_M} {a1 : Int32} {P : Int32 → zh_M → Prop} (h : wp_X4_mark M a1 P) : zh_W X (d + 5) yX4_mark cX4_mark 2 (some .int) 0 (zh_en [.ref 1, .int a1] 2) [] zh_LL M 0 0 (zh_pi P) := by
  unfold wp_X4_mark at h
  show zh_W X (d + 5) yX4_mark cX4_mark 2 (some .int) 0 [some (.ref 1), some (.int a1)] [] zh_LL M 0 0 (zh_pi P)
  refine zh_iload_n (pn := 1) rfl dX4_mark_0 (i := 1) (x := a1) rfl rfl ?_
  refine zh_iconst (pn := 2) rfl dX4_mark_1 (v := (zI 1)) rfl ?_
  refine zh_icmp_lt (pn := 5) rfl dX4_mark_2 (tgt := 15) rfl (fun cc1 => ?_) (fun cc1 => ?_)
  · replace h := h.1 cc1
    refine zh_iconst (pn := 16) rfl dX4_mark_15 (v := (zI 0)) rfl ?_
    refine zh_goto dX4_mark_16 (tgt := 27) rfl ?_
    exact zh_iret dX4_mark_27 rfl rfl ⟨_, rfl, rfl, h⟩
  · replace h := h.2 cc1
    refine zh_aload_n (pn := 6) rfl dX4_mark_5 (i := 0) (v := .ref 1) rfl rfl (Or.inr ⟨_, rfl⟩) ?_
    refine zh_get (pn := 9) rfl dX4_mark_6 (v := .ref 37) (k := 3) rfl rfl (by decide) (by decide) in_X4 mf_X4_37 rfl ?_
    refine zh_get (pn := 12) rfl dX4_mark_9 (v := .int (M 37 5)) (k := 5) rfl rfl (by decide) (by decide) in_X1 mf_X4_156 rfl ?_
    refine zh_if_ne (pn := 15) rfl dX4_mark_12 (tgt := 19) rfl (fun cc1 => ?_) (fun cc1 => ?_)
    · replace h := h.1 cc1
      refine zh_aload_n (pn := 20) rfl dX4_mark_19 (i := 0) (v := .ref 1) rfl rfl (Or.inr ⟨_, rfl⟩) ?_
      refine zh_get (pn := 23) rfl dX4_mark_20 (v := .ref 37) (k := 3) rfl rfl (by decide) (by decide) in_X4 mf_X4_37 rfl ?_
      refine zh_iload_n (pn := 24) rfl dX4_mark_23 (i := 1) (x := a1) rfl rfl ?_
      refine ca_X1_work (pn := 27) rfl dX4_mark_24 mc_X4_160 (fun _ _ => Nat.le_of_ble_eq_true rfl) h (fun r2 M1 h => ?_)
      exact zh_iret dX4_mark_27 rfl rfl ⟨_, rfl, rfl, h⟩
    · replace h := h.2 cc1
      refine zh_iconst (pn := 16) rfl dX4_mark_15 (v := (zI 0)) rfl ?_
      refine zh_goto dX4_mark_16 (tgt := 27) rfl ?_
      exact zh_iret dX4_mark_27 rfl rfl ⟨_, rfl, rfl, h⟩
set_option maxRecDepth 100000 in
theorem ca_X4_mark {X : Nat × (Nat → Int32)} {d : Nat} {y : MethodName} {cc : ByteArray} {nL : Nat} {rt : Option FieldType} {pc pn idx : Nat} {lo : List (Option Value)} {st : List Value} {M : zh_M} {P : Option Value → List zh_LC → zh_M → Prop} {a1 : Int32} {K : Int32 → zh_M → Prop} (hp : pc + 3 = pn) (hd : decode cc pc = .ok (.invokevirtual idx, 3)) (m1 : Cond.methodLink y.cls idx yX4_mark ∈ zh_WS) (hsc : ∀ base b, ((st.map (zh_tr base b)).map fun v => v.category).sum ≤ 8) (h : wp_X4_mark M a1 K) (kk : ∀ r M1, K r M1 → zh_W X (d + 6) y cc nL rt pn lo (.int r :: st) zh_LL M1 0 0 P) : zh_W X (d + 6) y cc nL rt pc lo (.int a1 :: .ref 1 :: st) zh_LL M 0 0 P := by
  refine zh_callV (bc := 0) (bs := 0) (bc' := 0) (bs' := 0) (as := [.int a1]) (st := st) hp hd rfl (by decide) rfl rfl m1 me_X4_mark.1 me_X4_mark.2.1 me_X4_mark.2.2.1 me_X4_mark.2.2.2 ⟨by decide, by decide, by decide⟩ (by show _ = some 1; decide +kernel) (by intro v hv; simp only [List.mem_cons, List.not_mem_nil, or_false] at hv; rcases hv with rfl <;> (intro _ _; rfl)) hsc (Nat.le_of_ble_eq_true rfl) (by decide) (wk_X4_mark  h) (fun r L' M' q => ?_) (fun r L' M' q => ?_)
  · obtain ⟨v, -, rfl, q⟩ := q; rfl
  · obtain ⟨v, rfl, rfl, q⟩ := q; exact kk v M' q
set_option maxRecDepth 100000 in
set_option maxHeartbeats 4000000 in
theorem wk_X4_sweep {X : Nat × (Nat → Int32)} {d : Nat} {M : zh_M} {a1 : Int32} {P : Int32 → zh_M → Prop} (h : wp_X4_sweep M a1 P) : zh_W X (d + 4) yX4_sweep cX4_sweep 2 (some .int) 0 (zh_en [.ref 1, .int a1] 2) [] zh_LL M 0 0 (zh_pi P) := by
  unfold wp_X4_sweep at h
  show zh_W X (d + 4) yX4_sweep cX4_sweep 2 (some .int) 0 [some (.ref 1), some (.int a1)] [] zh_LL M 0 0 (zh_pi P)
  refine zh_aload_n (pn := 1) rfl dX4_sweep_0 (i := 0) (v := .ref 1) rfl rfl (Or.inr ⟨_, rfl⟩) ?_
  refine zh_get (pn := 4) rfl dX4_sweep_1 (v := .ref 2) (k := 0) rfl rfl (by decide) (by decide) in_X4 mf_X4_12 rfl ?_
  refine zh_iload_n (pn := 5) rfl dX4_sweep_4 (i := 1) (x := a1) rfl rfl ?_
  refine ca_X3_sweepSpans (pn := 8) rfl dX4_sweep_5 mc_X4_163 (fun _ _ => Nat.le_of_ble_eq_true rfl) h (fun r2 M1 h => ?_)
  exact zh_iret dX4_sweep_8 rfl rfl ⟨_, rfl, rfl, h⟩
set_option maxRecDepth 100000 in
theorem ca_X4_sweep {X : Nat × (Nat → Int32)} {d : Nat} {y : MethodName} {cc : ByteArray} {nL : Nat} {rt : Option FieldType} {pc pn idx : Nat} {lo : List (Option Value)} {st : List Value} {M : zh_M} {P : Option Value → List zh_LC → zh_M → Prop} {a1 : Int32} {K : Int32 → zh_M → Prop} (hp : pc + 3 = pn) (hd : decode cc pc = .ok (.invokevirtual idx, 3)) (m1 : Cond.methodLink y.cls idx yX4_sweep ∈ zh_WS) (hsc : ∀ base b, ((st.map (zh_tr base b)).map fun v => v.category).sum ≤ 8) (h : wp_X4_sweep M a1 K) (kk : ∀ r M1, K r M1 → zh_W X (d + 5) y cc nL rt pn lo (.int r :: st) zh_LL M1 0 0 P) : zh_W X (d + 5) y cc nL rt pc lo (.int a1 :: .ref 1 :: st) zh_LL M 0 0 P := by
  refine zh_callV (bc := 0) (bs := 0) (bc' := 0) (bs' := 0) (as := [.int a1]) (st := st) hp hd rfl (by decide) rfl rfl m1 me_X4_sweep.1 me_X4_sweep.2.1 me_X4_sweep.2.2.1 me_X4_sweep.2.2.2 ⟨by decide, by decide, by decide⟩ (by show _ = some 1; decide +kernel) (by intro v hv; simp only [List.mem_cons, List.not_mem_nil, or_false] at hv; rcases hv with rfl <;> (intro _ _; rfl)) hsc (Nat.le_of_ble_eq_true rfl) (by decide) (wk_X4_sweep  h) (fun r L' M' q => ?_) (fun r L' M' q => ?_)
  · obtain ⟨v, -, rfl, q⟩ := q; rfl
  · obtain ⟨v, rfl, rfl, q⟩ := q; exact kk v M' q
set_option maxRecDepth 100000 in
set_option maxHeartbeats 4000000 in
theorem wk_X4_collect {X : Nat × (Nat → Int32)} {d : Nat} {M : zh_M} {P : Int32 → zh_M → Prop} (h : wp_X4_collect M P) : zh_W X (d + 5) yX4_collect cX4_collect 1 (some .boolean) 0 (zh_en [.ref 1] 1) [] zh_LL M 0 0 (zh_pi P) := by
  unfold wp_X4_collect at h
  show zh_W X (d + 5) yX4_collect cX4_collect 1 (some .boolean) 0 [some (.ref 1)] [] zh_LL M 0 0 (zh_pi P)
  refine zh_aload_n (pn := 1) rfl dX4_collect_0 (i := 0) (v := .ref 1) rfl rfl (Or.inr ⟨_, rfl⟩) ?_
  refine zh_get (pn := 4) rfl dX4_collect_1 (v := .ref 37) (k := 3) rfl rfl (by decide) (by decide) in_X4 mf_X4_37 rfl ?_
  refine zh_get (pn := 7) rfl dX4_collect_4 (v := .int (M 37 5)) (k := 5) rfl rfl (by decide) (by decide) in_X1 mf_X4_156 rfl ?_
  refine zh_if_eq (pn := 10) rfl dX4_collect_7 (tgt := 12) rfl (fun cc1 => ?_) (fun cc1 => ?_)
  · replace h := h.1 cc1
    refine zh_aload_n (pn := 13) rfl dX4_collect_12 (i := 0) (v := .ref 1) rfl rfl (Or.inr ⟨_, rfl⟩) ?_
    refine zh_get (pn := 16) rfl dX4_collect_13 (v := .ref 37) (k := 3) rfl rfl (by decide) (by decide) in_X4 mf_X4_37 rfl ?_
    refine ca_X1_beginCycle (pn := 19) rfl dX4_collect_16 mc_X4_166 (fun _ _ => Nat.le_of_ble_eq_true rfl) h (fun M1 h => ?_)
    refine zh_iconst (pn := 20) rfl dX4_collect_19 (v := (zI 1)) rfl ?_
    exact zh_iret dX4_collect_20 rfl rfl ⟨_, rfl, rfl, h⟩
  · replace h := h.2 cc1
    refine zh_iconst (pn := 11) rfl dX4_collect_10 (v := (zI 0)) rfl ?_
    exact zh_iret dX4_collect_11 rfl rfl ⟨_, rfl, rfl, h⟩
set_option maxRecDepth 100000 in
theorem ca_X4_collect {X : Nat × (Nat → Int32)} {d : Nat} {y : MethodName} {cc : ByteArray} {nL : Nat} {rt : Option FieldType} {pc pn idx : Nat} {lo : List (Option Value)} {st : List Value} {M : zh_M} {P : Option Value → List zh_LC → zh_M → Prop} {K : Int32 → zh_M → Prop} (hp : pc + 3 = pn) (hd : decode cc pc = .ok (.invokevirtual idx, 3)) (m1 : Cond.methodLink y.cls idx yX4_collect ∈ zh_WS) (hsc : ∀ base b, ((st.map (zh_tr base b)).map fun v => v.category).sum ≤ 8) (h : wp_X4_collect M K) (kk : ∀ r M1, K r M1 → zh_W X (d + 6) y cc nL rt pn lo (.int r :: st) zh_LL M1 0 0 P) : zh_W X (d + 6) y cc nL rt pc lo (.ref 1 :: st) zh_LL M 0 0 P := by
  refine zh_callV (bc := 0) (bs := 0) (bc' := 0) (bs' := 0) (as := []) (st := st) hp hd rfl (by decide) rfl rfl m1 me_X4_collect.1 me_X4_collect.2.1 me_X4_collect.2.2.1 me_X4_collect.2.2.2 ⟨by decide, by decide, by decide⟩ (by show _ = some 0; decide +kernel) (fun v hv => by cases hv) hsc (Nat.le_of_ble_eq_true rfl) (by decide) (wk_X4_collect  h) (fun r L' M' q => ?_) (fun r L' M' q => ?_)
  · obtain ⟨v, -, rfl, q⟩ := q; rfl
  · obtain ⟨v, rfl, rfl, q⟩ := q; exact kk v M' q
set_option maxRecDepth 100000 in
set_option maxHeartbeats 4000000 in
theorem wk_X4_fiber {X : Nat × (Nat → Int32)} {d : Nat} {M : zh_M} {a1 : Int32} {a2 : Int32} {P : Int32 → zh_M → Prop} (h : wp_X4_fiber M a1 a2 P) : zh_W X (d + 2) yX4_fiber cX4_fiber 4 (some .int) 0 (zh_en [.ref 1, .int a1, .int a2] 4) [] zh_LL M 0 0 (zh_pi P) := by
  unfold wp_X4_fiber at h
  show zh_W X (d + 2) yX4_fiber cX4_fiber 4 (some .int) 0 [some (.ref 1), some (.int a1), some (.int a2), none] [] zh_LL M 0 0 (zh_pi P)
  refine zh_iload_n (pn := 1) rfl dX4_fiber_0 (i := 1) (x := a1) rfl rfl ?_
  refine zh_if_lt (pn := 4) rfl dX4_fiber_1 (tgt := 10) rfl (fun cc1 => ?_) (fun cc1 => ?_)
  · replace h := h.1 cc1
    refine zh_iconst (pn := 11) rfl dX4_fiber_10 (v := (zI (-1))) rfl ?_
    exact zh_iret dX4_fiber_11 rfl rfl ⟨_, rfl, rfl, h⟩
  · replace h := h.2 cc1
    refine zh_iload_n (pn := 5) rfl dX4_fiber_4 (i := 1) (x := a1) rfl rfl ?_
    refine zh_bipush (pn := 7) rfl dX4_fiber_5 (v := (zI 6)) rfl ?_
    refine zh_icmp_lt (pn := 10) rfl dX4_fiber_7 (tgt := 12) rfl (fun cc1 => ?_) (fun cc1 => ?_)
    · replace h := h.1 cc1
      refine zh_aload_n (pn := 13) rfl dX4_fiber_12 (i := 0) (v := .ref 1) rfl rfl (Or.inr ⟨_, rfl⟩) ?_
      refine zh_get (pn := 16) rfl dX4_fiber_13 (v := .ref 9) (k := 1) rfl rfl (by decide) (by decide) in_X4 mf_X4_18 rfl ?_
      refine zh_iload_n (pn := 17) rfl dX4_fiber_16 (i := 1) (x := a1) rfl rfl ?_
      refine zh_aald_Fiber (pn := 18) rfl dX4_fiber_17 h.1 ?_
      have zf1 := zf_of_Fiber h.1
      replace h := h.2
      refine zh_astore_n (pn := 19) rfl dX4_fiber_18 (i := 3) (lo' := [some (.ref 1), some (.int a1), some (.int a2), some (.ref (zi_Fiber a1))]) rfl (by decide) (Or.inr ⟨_, rfl⟩) rfl ?_
      refine zh_iload_n (pn := 20) rfl dX4_fiber_19 (i := 2) (x := a2) rfl rfl ?_
      refine zh_if_ne (pn := 23) rfl dX4_fiber_20 (tgt := 28) rfl (fun cc1 => ?_) (fun cc1 => ?_)
      · replace h := h.1 cc1
        refine zh_aload_n (pn := 29) rfl dX4_fiber_28 (i := 3) (v := .ref (zi_Fiber a1)) rfl rfl (Or.inr ⟨_, rfl⟩) ?_
        refine zh_get (pn := 32) rfl dX4_fiber_29 (v := .int (M (zi_Fiber a1) 2)) (k := 2) (at_Fiber zf1) rfl (by decide) (by decide) in_X2 mf_X4_70 rfl ?_
        refine zh_if_ne (pn := 35) rfl dX4_fiber_32 (tgt := 37) rfl (fun cc1 => ?_) (fun cc1 => ?_)
        · replace h := h.1 cc1
          refine zh_iload_n (pn := 38) rfl dX4_fiber_37 (i := 2) (x := a2) rfl rfl ?_
          by_cases cc1 : a2.toInt < 1 ∨ 9 < a2.toInt
          · replace h := h.1 cc1
            refine zh_tableOut dX4_fiber_38 cc1 (tgt := 146) rfl ?_
            refine zh_iconst (pn := 147) rfl dX4_fiber_146 (v := (zI (-1))) rfl ?_
            exact zh_iret dX4_fiber_147 rfl rfl ⟨_, rfl, rfl, h⟩
          · replace h := h.2
            rcases (show a2.toInt = 1 ∨ a2.toInt = 2 ∨ a2.toInt = 3 ∨ a2.toInt = 4 ∨ a2.toInt = 5 ∨ a2.toInt = 6 ∨ a2.toInt = 7 ∨ a2.toInt = 8 ∨ a2.toInt = 9 by omega) with cc2 | cc2 | cc2 | cc2 | cc2 | cc2 | cc2 | cc2 | cc2
            · replace h := h.1 cc2
              refine zh_tableIn dX4_fiber_38 (by omega) (by omega) (by rw [cc2]; rfl) (tgt := 88) rfl ?_
              refine zh_aload_n (pn := 89) rfl dX4_fiber_88 (i := 3) (v := .ref (zi_Fiber a1)) rfl rfl (Or.inr ⟨_, rfl⟩) ?_
              refine zh_get (pn := 92) rfl dX4_fiber_89 (v := .int (M (zi_Fiber a1) 3)) (k := 3) (at_Fiber zf1) rfl (by decide) (by decide) in_X2 mf_X4_73 rfl ?_
              exact zh_iret dX4_fiber_92 rfl rfl ⟨_, rfl, rfl, h⟩
            · replace h := h.2.1 cc2
              refine zh_tableIn dX4_fiber_38 (by omega) (by omega) (by rw [cc2]; rfl) (tgt := 93) rfl ?_
              refine zh_aload_n (pn := 94) rfl dX4_fiber_93 (i := 3) (v := .ref (zi_Fiber a1)) rfl rfl (Or.inr ⟨_, rfl⟩) ?_
              refine zh_get (pn := 97) rfl dX4_fiber_94 (v := .int (M (zi_Fiber a1) 4)) (k := 4) (at_Fiber zf1) rfl (by decide) (by decide) in_X2 mf_X4_169 rfl ?_
              exact zh_iret dX4_fiber_97 rfl rfl ⟨_, rfl, rfl, h⟩
            · replace h := h.2.2.1 cc2
              refine zh_tableIn dX4_fiber_38 (by omega) (by omega) (by rw [cc2]; rfl) (tgt := 98) rfl ?_
              refine zh_aload_n (pn := 99) rfl dX4_fiber_98 (i := 0) (v := .ref 1) rfl rfl (Or.inr ⟨_, rfl⟩) ?_
              refine zh_get (pn := 102) rfl dX4_fiber_99 (v := .ref 37) (k := 3) rfl rfl (by decide) (by decide) in_X4 mf_X4_37 rfl ?_
              refine zh_get (pn := 105) rfl dX4_fiber_102 (v := .int (M 37 5)) (k := 5) rfl rfl (by decide) (by decide) in_X1 mf_X4_156 rfl ?_
              refine zh_if_eq (pn := 108) rfl dX4_fiber_105 (tgt := 119) rfl (fun cc1 => ?_) (fun cc1 => ?_)
              · replace h := h.1 cc1
                refine zh_iconst (pn := 120) rfl dX4_fiber_119 (v := (zI 0)) rfl ?_
                exact zh_iret dX4_fiber_120 rfl rfl ⟨_, rfl, rfl, h⟩
              · replace h := h.2 cc1
                refine zh_aload_n (pn := 109) rfl dX4_fiber_108 (i := 3) (v := .ref (zi_Fiber a1)) rfl rfl (Or.inr ⟨_, rfl⟩) ?_
                refine zh_get (pn := 112) rfl dX4_fiber_109 (v := .int (M (zi_Fiber a1) 6)) (k := 6) (at_Fiber zf1) rfl (by decide) (by decide) in_X2 mf_X4_172 rfl ?_
                refine zh_if_eq (pn := 115) rfl dX4_fiber_112 (tgt := 119) rfl (fun cc1 => ?_) (fun cc1 => ?_)
                · replace h := h.1 cc1
                  refine zh_iconst (pn := 120) rfl dX4_fiber_119 (v := (zI 0)) rfl ?_
                  exact zh_iret dX4_fiber_120 rfl rfl ⟨_, rfl, rfl, h⟩
                · replace h := h.2 cc1
                  refine zh_iconst (pn := 116) rfl dX4_fiber_115 (v := (zI 1)) rfl ?_
                  refine zh_goto dX4_fiber_116 (tgt := 120) rfl ?_
                  exact zh_iret dX4_fiber_120 rfl rfl ⟨_, rfl, rfl, h⟩
            · replace h := h.2.2.2.1 cc2
              refine zh_tableIn dX4_fiber_38 (by omega) (by omega) (by rw [cc2]; rfl) (tgt := 121) rfl ?_
              refine zh_aload_n (pn := 122) rfl dX4_fiber_121 (i := 3) (v := .ref (zi_Fiber a1)) rfl rfl (Or.inr ⟨_, rfl⟩) ?_
              refine zh_iload_n (pn := 123) rfl dX4_fiber_122 (i := 2) (x := a2) rfl rfl ?_
              refine zh_iconst (pn := 124) rfl dX4_fiber_123 (v := (zI 4)) rfl ?_
              refine zh_isub (pn := 125) rfl dX4_fiber_124 ?_
              refine ca_X2_pointerFrom (pn := 128) rfl dX4_fiber_125 mc_X4_60 zf1 (fun _ _ => Nat.le_of_ble_eq_true rfl) h (fun r3 M2 h => ?_)
              exact zh_iret dX4_fiber_128 rfl rfl ⟨_, rfl, rfl, h⟩
            · replace h := h.2.2.2.2.1 cc2
              refine zh_tableIn dX4_fiber_38 (by omega) (by omega) (by rw [cc2]; rfl) (tgt := 121) rfl ?_
              refine zh_aload_n (pn := 122) rfl dX4_fiber_121 (i := 3) (v := .ref (zi_Fiber a1)) rfl rfl (Or.inr ⟨_, rfl⟩) ?_
              refine zh_iload_n (pn := 123) rfl dX4_fiber_122 (i := 2) (x := a2) rfl rfl ?_
              refine zh_iconst (pn := 124) rfl dX4_fiber_123 (v := (zI 4)) rfl ?_
              refine zh_isub (pn := 125) rfl dX4_fiber_124 ?_
              refine ca_X2_pointerFrom (pn := 128) rfl dX4_fiber_125 mc_X4_60 zf1 (fun _ _ => Nat.le_of_ble_eq_true rfl) h (fun r5 M4 h => ?_)
              exact zh_iret dX4_fiber_128 rfl rfl ⟨_, rfl, rfl, h⟩
            · replace h := h.2.2.2.2.2.1 cc2
              refine zh_tableIn dX4_fiber_38 (by omega) (by omega) (by rw [cc2]; rfl) (tgt := 121) rfl ?_
              refine zh_aload_n (pn := 122) rfl dX4_fiber_121 (i := 3) (v := .ref (zi_Fiber a1)) rfl rfl (Or.inr ⟨_, rfl⟩) ?_
              refine zh_iload_n (pn := 123) rfl dX4_fiber_122 (i := 2) (x := a2) rfl rfl ?_
              refine zh_iconst (pn := 124) rfl dX4_fiber_123 (v := (zI 4)) rfl ?_
              refine zh_isub (pn := 125) rfl dX4_fiber_124 ?_
              refine ca_X2_pointerFrom (pn := 128) rfl dX4_fiber_125 mc_X4_60 zf1 (fun _ _ => Nat.le_of_ble_eq_true rfl) h (fun r7 M6 h => ?_)
              exact zh_iret dX4_fiber_128 rfl rfl ⟨_, rfl, rfl, h⟩
            · replace h := h.2.2.2.2.2.2.1 cc2
              refine zh_tableIn dX4_fiber_38 (by omega) (by omega) (by rw [cc2]; rfl) (tgt := 121) rfl ?_
              refine zh_aload_n (pn := 122) rfl dX4_fiber_121 (i := 3) (v := .ref (zi_Fiber a1)) rfl rfl (Or.inr ⟨_, rfl⟩) ?_
              refine zh_iload_n (pn := 123) rfl dX4_fiber_122 (i := 2) (x := a2) rfl rfl ?_
              refine zh_iconst (pn := 124) rfl dX4_fiber_123 (v := (zI 4)) rfl ?_
              refine zh_isub (pn := 125) rfl dX4_fiber_124 ?_
              refine ca_X2_pointerFrom (pn := 128) rfl dX4_fiber_125 mc_X4_60 zf1 (fun _ _ => Nat.le_of_ble_eq_true rfl) h (fun r9 M8 h => ?_)
              exact zh_iret dX4_fiber_128 rfl rfl ⟨_, rfl, rfl, h⟩
            · replace h := h.2.2.2.2.2.2.2.1 cc2
              refine zh_tableIn dX4_fiber_38 (by omega) (by omega) (by rw [cc2]; rfl) (tgt := 129) rfl ?_
              refine zh_aload_n (pn := 130) rfl dX4_fiber_129 (i := 3) (v := .ref (zi_Fiber a1)) rfl rfl (Or.inr ⟨_, rfl⟩) ?_
              refine zh_get (pn := 133) rfl dX4_fiber_130 (v := .ref ((zi_Fiber a1) + 2)) (k := 1) (at_Fiber zf1) rfl (by decide) (by decide) in_X2 mf_X4_82 rfl ?_
              refine zh_aload_n (pn := 134) rfl dX4_fiber_133 (i := 3) (v := .ref (zi_Fiber a1)) rfl rfl (Or.inr ⟨_, rfl⟩) ?_
              refine zh_get (pn := 137) rfl dX4_fiber_134 (v := .int (M (zi_Fiber a1) 3)) (k := 3) (at_Fiber zf1) rfl (by decide) (by decide) in_X2 mf_X4_73 rfl ?_
              refine zh_iconst (pn := 138) rfl dX4_fiber_137 (v := (zI 1)) rfl ?_
              refine zh_isub (pn := 139) rfl dX4_fiber_138 ?_
              refine zh_iald (pn := 140) rfl dX4_fiber_139 (at_Fiber_2 zf1) h.1 ?_
              replace h := h.2
              exact zh_iret dX4_fiber_140 rfl rfl ⟨_, rfl, rfl, h⟩
            · replace h := h.2.2.2.2.2.2.2.2 cc2
              refine zh_tableIn dX4_fiber_38 (by omega) (by omega) (by rw [cc2]; rfl) (tgt := 141) rfl ?_
              refine zh_aload_n (pn := 142) rfl dX4_fiber_141 (i := 3) (v := .ref (zi_Fiber a1)) rfl rfl (Or.inr ⟨_, rfl⟩) ?_
              refine zh_get (pn := 145) rfl dX4_fiber_142 (v := .int (M (zi_Fiber a1) 7)) (k := 7) (at_Fiber zf1) rfl (by decide) (by decide) in_X2 mf_X4_153 rfl ?_
              exact zh_iret dX4_fiber_145 rfl rfl ⟨_, rfl, rfl, h⟩
        · replace h := h.2 cc1
          refine zh_iconst (pn := 36) rfl dX4_fiber_35 (v := (zI (-1))) rfl ?_
          exact zh_iret dX4_fiber_36 rfl rfl ⟨_, rfl, rfl, h⟩
      · replace h := h.2 cc1
        refine zh_aload_n (pn := 24) rfl dX4_fiber_23 (i := 3) (v := .ref (zi_Fiber a1)) rfl rfl (Or.inr ⟨_, rfl⟩) ?_
        refine zh_get (pn := 27) rfl dX4_fiber_24 (v := .int (M (zi_Fiber a1) 2)) (k := 2) (at_Fiber zf1) rfl (by decide) (by decide) in_X2 mf_X4_70 rfl ?_
        exact zh_iret dX4_fiber_27 rfl rfl ⟨_, rfl, rfl, h⟩
    · replace h := h.2 cc1
      refine zh_iconst (pn := 11) rfl dX4_fiber_10 (v := (zI (-1))) rfl ?_
      exact zh_iret dX4_fiber_11 rfl rfl ⟨_, rfl, rfl, h⟩
set_option maxRecDepth 100000 in
theorem ca_X4_fiber {X : Nat × (Nat → Int32)} {d : Nat} {y : MethodName} {cc : ByteArray} {nL : Nat} {rt : Option FieldType} {pc pn idx : Nat} {lo : List (Option Value)} {st : List Value} {M : zh_M} {P : Option Value → List zh_LC → zh_M → Prop} {a1 : Int32} {a2 : Int32} {K : Int32 → zh_M → Prop} (hp : pc + 3 = pn) (hd : decode cc pc = .ok (.invokevirtual idx, 3)) (m1 : Cond.methodLink y.cls idx yX4_fiber ∈ zh_WS) (hsc : ∀ base b, ((st.map (zh_tr base b)).map fun v => v.category).sum ≤ 8) (h : wp_X4_fiber M a1 a2 K) (kk : ∀ r M1, K r M1 → zh_W X (d + 3) y cc nL rt pn lo (.int r :: st) zh_LL M1 0 0 P) : zh_W X (d + 3) y cc nL rt pc lo (.int a2 :: .int a1 :: .ref 1 :: st) zh_LL M 0 0 P := by
  refine zh_callV (bc := 0) (bs := 0) (bc' := 0) (bs' := 0) (as := [.int a1, .int a2]) (st := st) hp hd rfl (by decide) rfl rfl m1 me_X4_fiber.1 me_X4_fiber.2.1 me_X4_fiber.2.2.1 me_X4_fiber.2.2.2 ⟨by decide, by decide, by decide⟩ (by show _ = some 2; decide +kernel) (by intro v hv; simp only [List.mem_cons, List.not_mem_nil, or_false] at hv; rcases hv with rfl | rfl <;> (intro _ _; rfl)) hsc (Nat.le_of_ble_eq_true rfl) (by decide) (wk_X4_fiber  h) (fun r L' M' q => ?_) (fun r L' M' q => ?_)
  · obtain ⟨v, -, rfl, q⟩ := q; rfl
  · obtain ⟨v, rfl, rfl, q⟩ := q; exact kk v M' q
set_option maxRecDepth 100000 in
set_option maxHeartbeats 4000000 in
theorem wkl_X3_takenSlots_4 {X : Nat × (Nat → Int32)} {d : Nat} {P : Int32 → zh_M → Prop} : ∀ (n : Nat) (l1 : Int32) (l2 : Int32) (M : zh_M) , wl_X3_takenSlots_4 P n l1 l2 M → zh_W X (d + 0) yX3_takenSlots cX3_takenSlots 3 (some .int) 4 [some (.ref 2), some (.int l1), some (.int l2)] [] zh_LL M 0 0 (zh_pi P) := by
  intro n
  induction n with
  | zero => intro l1 l2 M  h; exact h.elim
  | succ n ih =>
    intro l1 l2 M  h
    unfold wl_X3_takenSlots_4 at h
    refine zh_iload_n (pn := 5) rfl dX3_takenSlots_4 (i := 2) (x := l2) rfl rfl ?_
    refine zh_sipush (pn := 8) rfl dX3_takenSlots_5 (v := (zI 128)) rfl ?_
    refine zh_icmp_ge (pn := 11) rfl dX3_takenSlots_8 (tgt := 29) rfl (fun cc1 => ?_) (fun cc1 => ?_)
    · replace h := h.1 cc1
      refine zh_iload_n (pn := 30) rfl dX3_takenSlots_29 (i := 1) (x := l1) rfl rfl ?_
      exact zh_iret dX3_takenSlots_30 rfl rfl ⟨_, rfl, rfl, h⟩
    · replace h := h.2 cc1
      refine zh_aload_n (pn := 12) rfl dX3_takenSlots_11 (i := 0) (v := .ref 2) rfl rfl (Or.inr ⟨_, rfl⟩) ?_
      refine zh_get (pn := 15) rfl dX3_takenSlots_12 (v := .ref 6) (k := 3) rfl rfl (by decide) (by decide) in_X3 mf_X3_22 rfl ?_
      refine zh_iload_n (pn := 16) rfl dX3_takenSlots_15 (i := 2) (x := l2) rfl rfl ?_
      refine zh_iald (pn := 17) rfl dX3_takenSlots_16 rfl h.1 ?_
      replace h := h.2
      refine zh_if_eq (pn := 20) rfl dX3_takenSlots_17 (tgt := 23) rfl (fun cc1 => ?_) (fun cc1 => ?_)
      · replace h := h.1 cc1
        refine zh_iinc (pn := 26) rfl dX3_takenSlots_23 (i := 2) (x := l2) (v := l2 + (zI 1)) (lo' := [some (.ref 2), some (.int l1), some (.int (l2 + (zI 1)))]) rfl rfl (by decide) rfl ?_
        refine zh_goto dX3_takenSlots_26 (tgt := 4) rfl ?_
        exact ih _ _ _ h
      · replace h := h.2 cc1
        refine zh_iinc (pn := 23) rfl dX3_takenSlots_20 (i := 1) (x := l1) (v := l1 + (zI 1)) (lo' := [some (.ref 2), some (.int (l1 + (zI 1))), some (.int l2)]) rfl rfl (by decide) rfl ?_
        refine zh_iinc (pn := 26) rfl dX3_takenSlots_23 (i := 2) (x := l2) (v := l2 + (zI 1)) (lo' := [some (.ref 2), some (.int (l1 + (zI 1))), some (.int (l2 + (zI 1)))]) rfl rfl (by decide) rfl ?_
        refine zh_goto dX3_takenSlots_26 (tgt := 4) rfl ?_
        exact ih _ _ _ h
set_option maxRecDepth 100000 in
set_option maxHeartbeats 4000000 in
theorem wk_X3_takenSlots {X : Nat × (Nat → Int32)} {d : Nat} {M : zh_M} {P : Int32 → zh_M → Prop} (h : wp_X3_takenSlots M P) : zh_W X (d + 0) yX3_takenSlots cX3_takenSlots 3 (some .int) 0 (zh_en [.ref 2] 3) [] zh_LL M 0 0 (zh_pi P) := by
  unfold wp_X3_takenSlots at h
  show zh_W X (d + 0) yX3_takenSlots cX3_takenSlots 3 (some .int) 0 [some (.ref 2), none, none] [] zh_LL M 0 0 (zh_pi P)
  refine zh_iconst (pn := 1) rfl dX3_takenSlots_0 (v := (zI 0)) rfl ?_
  refine zh_istore_n (pn := 2) rfl dX3_takenSlots_1 (i := 1) (lo' := [some (.ref 2), some (.int (zI 0)), none]) rfl (by decide) rfl ?_
  refine zh_iconst (pn := 3) rfl dX3_takenSlots_2 (v := (zI 0)) rfl ?_
  refine zh_istore_n (pn := 4) rfl dX3_takenSlots_3 (i := 2) (lo' := [some (.ref 2), some (.int (zI 0)), some (.int (zI 0))]) rfl (by decide) rfl ?_
  obtain ⟨n1, h⟩ := h
  refine wkl_X3_takenSlots_4 n1 _ _ _ h
set_option maxRecDepth 100000 in
theorem ca_X3_takenSlots {X : Nat × (Nat → Int32)} {d : Nat} {y : MethodName} {cc : ByteArray} {nL : Nat} {rt : Option FieldType} {pc pn idx : Nat} {lo : List (Option Value)} {st : List Value} {M : zh_M} {P : Option Value → List zh_LC → zh_M → Prop} {K : Int32 → zh_M → Prop} (hp : pc + 3 = pn) (hd : decode cc pc = .ok (.invokevirtual idx, 3)) (m1 : Cond.methodLink y.cls idx yX3_takenSlots ∈ zh_WS) (hsc : ∀ base b, ((st.map (zh_tr base b)).map fun v => v.category).sum ≤ 8) (h : wp_X3_takenSlots M K) (kk : ∀ r M1, K r M1 → zh_W X (d + 1) y cc nL rt pn lo (.int r :: st) zh_LL M1 0 0 P) : zh_W X (d + 1) y cc nL rt pc lo (.ref 2 :: st) zh_LL M 0 0 P := by
  refine zh_callV (bc := 0) (bs := 0) (bc' := 0) (bs' := 0) (as := []) (st := st) hp hd rfl (by decide) rfl rfl m1 me_X3_takenSlots.1 me_X3_takenSlots.2.1 me_X3_takenSlots.2.2.1 me_X3_takenSlots.2.2.2 ⟨by decide, by decide, by decide⟩ (by show _ = some 0; decide +kernel) (fun v hv => by cases hv) hsc (Nat.le_of_ble_eq_true rfl) (by decide) (wk_X3_takenSlots  h) (fun r L' M' q => ?_) (fun r L' M' q => ?_)
  · obtain ⟨v, -, rfl, q⟩ := q; rfl
  · obtain ⟨v, rfl, rfl, q⟩ := q; exact kk v M' q
set_option maxRecDepth 100000 in
set_option maxHeartbeats 4000000 in
theorem wkl_X3_takenWords_4 {X : Nat × (Nat → Int32)} {d : Nat} {P : Int32 → zh_M → Prop} : ∀ (n : Nat) (l1 : Int32) (l2 : Int32) (M : zh_M) , wl_X3_takenWords_4 P n l1 l2 M → zh_W X (d + 1) yX3_takenWords cX3_takenWords 3 (some .int) 4 [some (.ref 2), some (.int l1), some (.int l2)] [] zh_LL M 0 0 (zh_pi P) := by
  intro n
  induction n with
  | zero => intro l1 l2 M  h; exact h.elim
  | succ n ih =>
    intro l1 l2 M  h
    unfold wl_X3_takenWords_4 at h
    refine zh_iload_n (pn := 5) rfl dX3_takenWords_4 (i := 2) (x := l2) rfl rfl ?_
    refine zh_sipush (pn := 8) rfl dX3_takenWords_5 (v := (zI 128)) rfl ?_
    refine zh_icmp_ge (pn := 11) rfl dX3_takenWords_8 (tgt := 38) rfl (fun cc1 => ?_) (fun cc1 => ?_)
    · replace h := h.1 cc1
      refine zh_iload_n (pn := 39) rfl dX3_takenWords_38 (i := 1) (x := l1) rfl rfl ?_
      exact zh_iret dX3_takenWords_39 rfl rfl ⟨_, rfl, rfl, h⟩
    · replace h := h.2 cc1
      refine zh_aload_n (pn := 12) rfl dX3_takenWords_11 (i := 0) (v := .ref 2) rfl rfl (Or.inr ⟨_, rfl⟩) ?_
      refine zh_get (pn := 15) rfl dX3_takenWords_12 (v := .ref 6) (k := 3) rfl rfl (by decide) (by decide) in_X3 mf_X3_22 rfl ?_
      refine zh_iload_n (pn := 16) rfl dX3_takenWords_15 (i := 2) (x := l2) rfl rfl ?_
      refine zh_iald (pn := 17) rfl dX3_takenWords_16 rfl h.1 ?_
      replace h := h.2
      refine zh_if_eq (pn := 20) rfl dX3_takenWords_17 (tgt := 32) rfl (fun cc1 => ?_) (fun cc1 => ?_)
      · replace h := h.1 cc1
        refine zh_iinc (pn := 35) rfl dX3_takenWords_32 (i := 2) (x := l2) (v := l2 + (zI 1)) (lo' := [some (.ref 2), some (.int l1), some (.int (l2 + (zI 1)))]) rfl rfl (by decide) rfl ?_
        refine zh_goto dX3_takenWords_35 (tgt := 4) rfl ?_
        exact ih _ _ _ h
      · replace h := h.2 cc1
        refine zh_iload_n (pn := 21) rfl dX3_takenWords_20 (i := 1) (x := l1) rfl rfl ?_
        refine zh_aload_n (pn := 22) rfl dX3_takenWords_21 (i := 0) (v := .ref 2) rfl rfl (Or.inr ⟨_, rfl⟩) ?_
        refine zh_get (pn := 25) rfl dX3_takenWords_22 (v := .ref 6) (k := 3) rfl rfl (by decide) (by decide) in_X3 mf_X3_22 rfl ?_
        refine zh_iload_n (pn := 26) rfl dX3_takenWords_25 (i := 2) (x := l2) rfl rfl ?_
        refine zh_iald (pn := 27) rfl dX3_takenWords_26 rfl h.1 ?_
        replace h := h.2
        refine ca_X3_slotWordsFor (pn := 30) rfl dX3_takenWords_27 mc_X3_41 (fun _ _ => Nat.le_of_ble_eq_true rfl) h (fun r2 M1 h => ?_)
        refine zh_iadd (pn := 31) rfl dX3_takenWords_30 ?_
        refine zh_istore_n (pn := 32) rfl dX3_takenWords_31 (i := 1) (lo' := [some (.ref 2), some (.int (l1 + r2)), some (.int l2)]) rfl (by decide) rfl ?_
        refine zh_iinc (pn := 35) rfl dX3_takenWords_32 (i := 2) (x := l2) (v := l2 + (zI 1)) (lo' := [some (.ref 2), some (.int (l1 + r2)), some (.int (l2 + (zI 1)))]) rfl rfl (by decide) rfl ?_
        refine zh_goto dX3_takenWords_35 (tgt := 4) rfl ?_
        exact ih _ _ _ h
set_option maxRecDepth 100000 in
set_option maxHeartbeats 4000000 in
theorem wk_X3_takenWords {X : Nat × (Nat → Int32)} {d : Nat} {M : zh_M} {P : Int32 → zh_M → Prop} (h : wp_X3_takenWords M P) : zh_W X (d + 1) yX3_takenWords cX3_takenWords 3 (some .int) 0 (zh_en [.ref 2] 3) [] zh_LL M 0 0 (zh_pi P) := by
  unfold wp_X3_takenWords at h
  show zh_W X (d + 1) yX3_takenWords cX3_takenWords 3 (some .int) 0 [some (.ref 2), none, none] [] zh_LL M 0 0 (zh_pi P)
  refine zh_iconst (pn := 1) rfl dX3_takenWords_0 (v := (zI 0)) rfl ?_
  refine zh_istore_n (pn := 2) rfl dX3_takenWords_1 (i := 1) (lo' := [some (.ref 2), some (.int (zI 0)), none]) rfl (by decide) rfl ?_
  refine zh_iconst (pn := 3) rfl dX3_takenWords_2 (v := (zI 0)) rfl ?_
  refine zh_istore_n (pn := 4) rfl dX3_takenWords_3 (i := 2) (lo' := [some (.ref 2), some (.int (zI 0)), some (.int (zI 0))]) rfl (by decide) rfl ?_
  obtain ⟨n3, h⟩ := h
  refine wkl_X3_takenWords_4 n3 _ _ _ h
set_option maxRecDepth 100000 in
theorem ca_X3_takenWords {X : Nat × (Nat → Int32)} {d : Nat} {y : MethodName} {cc : ByteArray} {nL : Nat} {rt : Option FieldType} {pc pn idx : Nat} {lo : List (Option Value)} {st : List Value} {M : zh_M} {P : Option Value → List zh_LC → zh_M → Prop} {K : Int32 → zh_M → Prop} (hp : pc + 3 = pn) (hd : decode cc pc = .ok (.invokevirtual idx, 3)) (m1 : Cond.methodLink y.cls idx yX3_takenWords ∈ zh_WS) (hsc : ∀ base b, ((st.map (zh_tr base b)).map fun v => v.category).sum ≤ 8) (h : wp_X3_takenWords M K) (kk : ∀ r M1, K r M1 → zh_W X (d + 2) y cc nL rt pn lo (.int r :: st) zh_LL M1 0 0 P) : zh_W X (d + 2) y cc nL rt pc lo (.ref 2 :: st) zh_LL M 0 0 P := by
  refine zh_callV (bc := 0) (bs := 0) (bc' := 0) (bs' := 0) (as := []) (st := st) hp hd rfl (by decide) rfl rfl m1 me_X3_takenWords.1 me_X3_takenWords.2.1 me_X3_takenWords.2.2.1 me_X3_takenWords.2.2.2 ⟨by decide, by decide, by decide⟩ (by show _ = some 0; decide +kernel) (fun v hv => by cases hv) hsc (Nat.le_of_ble_eq_true rfl) (by decide) (wk_X3_takenWords  h) (fun r L' M' q => ?_) (fun r L' M' q => ?_)
  · obtain ⟨v, -, rfl, q⟩ := q; rfl
  · obtain ⟨v, rfl, rfl, q⟩ := q; exact kk v M' q
set_option maxRecDepth 100000 in
set_option maxHeartbeats 4000000 in
theorem wkl_X3_freePages_4 {X : Nat × (Nat → Int32)} {d : Nat} {P : Int32 → zh_M → Prop} : ∀ (n : Nat) (l1 : Int32) (l2 : Int32) (M : zh_M) , wl_X3_freePages_4 P n l1 l2 M → zh_W X (d + 0) yX3_freePages cX3_freePages 3 (some .int) 4 [some (.ref 2), some (.int l1), some (.int l2)] [] zh_LL M 0 0 (zh_pi P) := by
  intro n
  induction n with
  | zero => intro l1 l2 M  h; exact h.elim
  | succ n ih =>
    intro l1 l2 M  h
    unfold wl_X3_freePages_4 at h
    refine zh_iload_n (pn := 5) rfl dX3_freePages_4 (i := 2) (x := l2) rfl rfl ?_
    refine zh_bipush (pn := 7) rfl dX3_freePages_5 (v := (zI 16)) rfl ?_
    refine zh_icmp_ge (pn := 10) rfl dX3_freePages_7 (tgt := 28) rfl (fun cc1 => ?_) (fun cc1 => ?_)
    · replace h := h.1 cc1
      refine zh_iload_n (pn := 29) rfl dX3_freePages_28 (i := 1) (x := l1) rfl rfl ?_
      exact zh_iret dX3_freePages_29 rfl rfl ⟨_, rfl, rfl, h⟩
    · replace h := h.2 cc1
      refine zh_aload_n (pn := 11) rfl dX3_freePages_10 (i := 0) (v := .ref 2) rfl rfl (Or.inr ⟨_, rfl⟩) ?_
      refine zh_get (pn := 14) rfl dX3_freePages_11 (v := .ref 4) (k := 1) rfl rfl (by decide) (by decide) in_X3 mf_X3_15 rfl ?_
      refine zh_iload_n (pn := 15) rfl dX3_freePages_14 (i := 2) (x := l2) rfl rfl ?_
      refine zh_iald (pn := 16) rfl dX3_freePages_15 rfl h.1 ?_
      replace h := h.2
      refine zh_if_ne (pn := 19) rfl dX3_freePages_16 (tgt := 22) rfl (fun cc1 => ?_) (fun cc1 => ?_)
      · replace h := h.1 cc1
        refine zh_iinc (pn := 25) rfl dX3_freePages_22 (i := 2) (x := l2) (v := l2 + (zI 1)) (lo' := [some (.ref 2), some (.int l1), some (.int (l2 + (zI 1)))]) rfl rfl (by decide) rfl ?_
        refine zh_goto dX3_freePages_25 (tgt := 4) rfl ?_
        exact ih _ _ _ h
      · replace h := h.2 cc1
        refine zh_iinc (pn := 22) rfl dX3_freePages_19 (i := 1) (x := l1) (v := l1 + (zI 1)) (lo' := [some (.ref 2), some (.int (l1 + (zI 1))), some (.int l2)]) rfl rfl (by decide) rfl ?_
        refine zh_iinc (pn := 25) rfl dX3_freePages_22 (i := 2) (x := l2) (v := l2 + (zI 1)) (lo' := [some (.ref 2), some (.int (l1 + (zI 1))), some (.int (l2 + (zI 1)))]) rfl rfl (by decide) rfl ?_
        refine zh_goto dX3_freePages_25 (tgt := 4) rfl ?_
        exact ih _ _ _ h
set_option maxRecDepth 100000 in
set_option maxHeartbeats 4000000 in
theorem wk_X3_freePages {X : Nat × (Nat → Int32)} {d : Nat} {M : zh_M} {P : Int32 → zh_M → Prop} (h : wp_X3_freePages M P) : zh_W X (d + 0) yX3_freePages cX3_freePages 3 (some .int) 0 (zh_en [.ref 2] 3) [] zh_LL M 0 0 (zh_pi P) := by
  unfold wp_X3_freePages at h
  show zh_W X (d + 0) yX3_freePages cX3_freePages 3 (some .int) 0 [some (.ref 2), none, none] [] zh_LL M 0 0 (zh_pi P)
  refine zh_iconst (pn := 1) rfl dX3_freePages_0 (v := (zI 0)) rfl ?_
  refine zh_istore_n (pn := 2) rfl dX3_freePages_1 (i := 1) (lo' := [some (.ref 2), some (.int (zI 0)), none]) rfl (by decide) rfl ?_
  refine zh_iconst (pn := 3) rfl dX3_freePages_2 (v := (zI 0)) rfl ?_
  refine zh_istore_n (pn := 4) rfl dX3_freePages_3 (i := 2) (lo' := [some (.ref 2), some (.int (zI 0)), some (.int (zI 0))]) rfl (by decide) rfl ?_
  obtain ⟨n1, h⟩ := h
  refine wkl_X3_freePages_4 n1 _ _ _ h
set_option maxRecDepth 100000 in
theorem ca_X3_freePages {X : Nat × (Nat → Int32)} {d : Nat} {y : MethodName} {cc : ByteArray} {nL : Nat} {rt : Option FieldType} {pc pn idx : Nat} {lo : List (Option Value)} {st : List Value} {M : zh_M} {P : Option Value → List zh_LC → zh_M → Prop} {K : Int32 → zh_M → Prop} (hp : pc + 3 = pn) (hd : decode cc pc = .ok (.invokevirtual idx, 3)) (m1 : Cond.methodLink y.cls idx yX3_freePages ∈ zh_WS) (hsc : ∀ base b, ((st.map (zh_tr base b)).map fun v => v.category).sum ≤ 8) (h : wp_X3_freePages M K) (kk : ∀ r M1, K r M1 → zh_W X (d + 1) y cc nL rt pn lo (.int r :: st) zh_LL M1 0 0 P) : zh_W X (d + 1) y cc nL rt pc lo (.ref 2 :: st) zh_LL M 0 0 P := by
  refine zh_callV (bc := 0) (bs := 0) (bc' := 0) (bs' := 0) (as := []) (st := st) hp hd rfl (by decide) rfl rfl m1 me_X3_freePages.1 me_X3_freePages.2.1 me_X3_freePages.2.2.1 me_X3_freePages.2.2.2 ⟨by decide, by decide, by decide⟩ (by show _ = some 0; decide +kernel) (fun v hv => by cases hv) hsc (Nat.le_of_ble_eq_true rfl) (by decide) (wk_X3_freePages  h) (fun r L' M' q => ?_) (fun r L' M' q => ?_)
  · obtain ⟨v, -, rfl, q⟩ := q; rfl
  · obtain ⟨v, rfl, rfl, q⟩ := q; exact kk v M' q
set_option maxRecDepth 100000 in
set_option maxHeartbeats 4000000 in
theorem wkl_X3_longestRun_6 {X : Nat × (Nat → Int32)} {d : Nat} {P : Int32 → zh_M → Prop} : ∀ (n : Nat) (l1 : Int32) (l2 : Int32) (l3 : Int32) (M : zh_M) , wl_X3_longestRun_6 P n l1 l2 l3 M → zh_W X (d + 1) yX3_longestRun cX3_longestRun 4 (some .int) 6 [some (.ref 2), some (.int l1), some (.int l2), some (.int l3)] [] zh_LL M 0 0 (zh_pi P) := by
  intro n
  induction n with
  | zero => intro l1 l2 l3 M  h; exact h.elim
  | succ n ih =>
    intro l1 l2 l3 M  h
    unfold wl_X3_longestRun_6 at h
    refine zh_iload_n (pn := 7) rfl dX3_longestRun_6 (i := 3) (x := l3) rfl rfl ?_
    refine zh_bipush (pn := 9) rfl dX3_longestRun_7 (v := (zI 16)) rfl ?_
    refine zh_icmp_ge (pn := 12) rfl dX3_longestRun_9 (tgt := 41) rfl (fun cc1 => ?_) (fun cc1 => ?_)
    · replace h := h.1 cc1
      refine zh_iload_n (pn := 42) rfl dX3_longestRun_41 (i := 1) (x := l1) rfl rfl ?_
      exact zh_iret dX3_longestRun_42 rfl rfl ⟨_, rfl, rfl, h⟩
    · replace h := h.2 cc1
      refine zh_aload_n (pn := 13) rfl dX3_longestRun_12 (i := 0) (v := .ref 2) rfl rfl (Or.inr ⟨_, rfl⟩) ?_
      refine zh_get (pn := 16) rfl dX3_longestRun_13 (v := .ref 4) (k := 1) rfl rfl (by decide) (by decide) in_X3 mf_X3_15 rfl ?_
      refine zh_iload_n (pn := 17) rfl dX3_longestRun_16 (i := 3) (x := l3) rfl rfl ?_
      refine zh_iald (pn := 18) rfl dX3_longestRun_17 rfl h.1 ?_
      replace h := h.2
      refine zh_if_ne (pn := 21) rfl dX3_longestRun_18 (tgt := 27) rfl (fun cc1 => ?_) (fun cc1 => ?_)
      · replace h := h.1 cc1
        refine zh_iconst (pn := 28) rfl dX3_longestRun_27 (v := (zI 0)) rfl ?_
        refine zh_istore_n (pn := 29) rfl dX3_longestRun_28 (i := 2) (lo' := [some (.ref 2), some (.int l1), some (.int (zI 0)), some (.int l3)]) rfl (by decide) rfl ?_
        refine zh_iload_n (pn := 30) rfl dX3_longestRun_29 (i := 1) (x := l1) rfl rfl ?_
        refine zh_iload_n (pn := 31) rfl dX3_longestRun_30 (i := 2) (x := (zI 0)) rfl rfl ?_
        refine zh_max (pn := 34) rfl dX3_longestRun_31 mc_X3_35 me_max.1 me_max.2.1 me_max.2.2 (fun _ _ => Nat.le_of_ble_eq_true rfl) ?_
        refine zh_istore_n (pn := 35) rfl dX3_longestRun_34 (i := 1) (lo' := [some (.ref 2), some (.int (if l1 < (zI 0) then (zI 0) else l1)), some (.int (zI 0)), some (.int l3)]) rfl (by decide) rfl ?_
        refine zh_iinc (pn := 38) rfl dX3_longestRun_35 (i := 3) (x := l3) (v := l3 + (zI 1)) (lo' := [some (.ref 2), some (.int (if l1 < (zI 0) then (zI 0) else l1)), some (.int (zI 0)), some (.int (l3 + (zI 1)))]) rfl rfl (by decide) rfl ?_
        refine zh_goto dX3_longestRun_38 (tgt := 6) rfl ?_
        exact ih _ _ _ _ h
      · replace h := h.2 cc1
        refine zh_iload_n (pn := 22) rfl dX3_longestRun_21 (i := 2) (x := l2) rfl rfl ?_
        refine zh_iconst (pn := 23) rfl dX3_longestRun_22 (v := (zI 1)) rfl ?_
        refine zh_iadd (pn := 24) rfl dX3_longestRun_23 ?_
        refine zh_goto dX3_longestRun_24 (tgt := 28) rfl ?_
        refine zh_istore_n (pn := 29) rfl dX3_longestRun_28 (i := 2) (lo' := [some (.ref 2), some (.int l1), some (.int (l2 + (zI 1))), some (.int l3)]) rfl (by decide) rfl ?_
        refine zh_iload_n (pn := 30) rfl dX3_longestRun_29 (i := 1) (x := l1) rfl rfl ?_
        refine zh_iload_n (pn := 31) rfl dX3_longestRun_30 (i := 2) (x := l2 + (zI 1)) rfl rfl ?_
        refine zh_max (pn := 34) rfl dX3_longestRun_31 mc_X3_35 me_max.1 me_max.2.1 me_max.2.2 (fun _ _ => Nat.le_of_ble_eq_true rfl) ?_
        refine zh_istore_n (pn := 35) rfl dX3_longestRun_34 (i := 1) (lo' := [some (.ref 2), some (.int (if l1 < (l2 + (zI 1)) then (l2 + (zI 1)) else l1)), some (.int (l2 + (zI 1))), some (.int l3)]) rfl (by decide) rfl ?_
        refine zh_iinc (pn := 38) rfl dX3_longestRun_35 (i := 3) (x := l3) (v := l3 + (zI 1)) (lo' := [some (.ref 2), some (.int (if l1 < (l2 + (zI 1)) then (l2 + (zI 1)) else l1)), some (.int (l2 + (zI 1))), some (.int (l3 + (zI 1)))]) rfl rfl (by decide) rfl ?_
        refine zh_goto dX3_longestRun_38 (tgt := 6) rfl ?_
        exact ih _ _ _ _ h
set_option maxRecDepth 100000 in
set_option maxHeartbeats 4000000 in
theorem wk_X3_longestRun {X : Nat × (Nat → Int32)} {d : Nat} {M : zh_M} {P : Int32 → zh_M → Prop} (h : wp_X3_longestRun M P) : zh_W X (d + 1) yX3_longestRun cX3_longestRun 4 (some .int) 0 (zh_en [.ref 2] 4) [] zh_LL M 0 0 (zh_pi P) := by
  unfold wp_X3_longestRun at h
  show zh_W X (d + 1) yX3_longestRun cX3_longestRun 4 (some .int) 0 [some (.ref 2), none, none, none] [] zh_LL M 0 0 (zh_pi P)
  refine zh_iconst (pn := 1) rfl dX3_longestRun_0 (v := (zI 0)) rfl ?_
  refine zh_istore_n (pn := 2) rfl dX3_longestRun_1 (i := 1) (lo' := [some (.ref 2), some (.int (zI 0)), none, none]) rfl (by decide) rfl ?_
  refine zh_iconst (pn := 3) rfl dX3_longestRun_2 (v := (zI 0)) rfl ?_
  refine zh_istore_n (pn := 4) rfl dX3_longestRun_3 (i := 2) (lo' := [some (.ref 2), some (.int (zI 0)), some (.int (zI 0)), none]) rfl (by decide) rfl ?_
  refine zh_iconst (pn := 5) rfl dX3_longestRun_4 (v := (zI 0)) rfl ?_
  refine zh_istore_n (pn := 6) rfl dX3_longestRun_5 (i := 3) (lo' := [some (.ref 2), some (.int (zI 0)), some (.int (zI 0)), some (.int (zI 0))]) rfl (by decide) rfl ?_
  obtain ⟨n1, h⟩ := h
  refine wkl_X3_longestRun_6 n1 _ _ _ _ h
set_option maxRecDepth 100000 in
theorem ca_X3_longestRun {X : Nat × (Nat → Int32)} {d : Nat} {y : MethodName} {cc : ByteArray} {nL : Nat} {rt : Option FieldType} {pc pn idx : Nat} {lo : List (Option Value)} {st : List Value} {M : zh_M} {P : Option Value → List zh_LC → zh_M → Prop} {K : Int32 → zh_M → Prop} (hp : pc + 3 = pn) (hd : decode cc pc = .ok (.invokevirtual idx, 3)) (m1 : Cond.methodLink y.cls idx yX3_longestRun ∈ zh_WS) (hsc : ∀ base b, ((st.map (zh_tr base b)).map fun v => v.category).sum ≤ 8) (h : wp_X3_longestRun M K) (kk : ∀ r M1, K r M1 → zh_W X (d + 2) y cc nL rt pn lo (.int r :: st) zh_LL M1 0 0 P) : zh_W X (d + 2) y cc nL rt pc lo (.ref 2 :: st) zh_LL M 0 0 P := by
  refine zh_callV (bc := 0) (bs := 0) (bc' := 0) (bs' := 0) (as := []) (st := st) hp hd rfl (by decide) rfl rfl m1 me_X3_longestRun.1 me_X3_longestRun.2.1 me_X3_longestRun.2.2.1 me_X3_longestRun.2.2.2 ⟨by decide, by decide, by decide⟩ (by show _ = some 0; decide +kernel) (fun v hv => by cases hv) hsc (Nat.le_of_ble_eq_true rfl) (by decide) (wk_X3_longestRun  h) (fun r L' M' q => ?_) (fun r L' M' q => ?_)
  · obtain ⟨v, -, rfl, q⟩ := q; rfl
  · obtain ⟨v, rfl, rfl, q⟩ := q; exact kk v M' q
set_option maxRecDepth 100000 in
set_option maxHeartbeats 4000000 in
theorem wkl_X3_unsweptSpans_4 {X : Nat × (Nat → Int32)} {d : Nat} {P : Int32 → zh_M → Prop} : ∀ (n : Nat) (l1 : Int32) (l2 : Int32) (M : zh_M) , wl_X3_unsweptSpans_4 P n l1 l2 M → zh_W X (d + 0) yX3_unsweptSpans cX3_unsweptSpans 3 (some .int) 4 [some (.ref 2), some (.int l1), some (.int l2)] [] zh_LL M 0 0 (zh_pi P) := by
  intro n
  induction n with
  | zero => intro l1 l2 M  h; exact h.elim
  | succ n ih =>
    intro l1 l2 M  h
    unfold wl_X3_unsweptSpans_4 at h
    refine zh_iload_n (pn := 5) rfl dX3_unsweptSpans_4 (i := 2) (x := l2) rfl rfl ?_
    refine zh_bipush (pn := 7) rfl dX3_unsweptSpans_5 (v := (zI 16)) rfl ?_
    refine zh_icmp_ge (pn := 10) rfl dX3_unsweptSpans_7 (tgt := 28) rfl (fun cc1 => ?_) (fun cc1 => ?_)
    · replace h := h.1 cc1
      refine zh_iload_n (pn := 29) rfl dX3_unsweptSpans_28 (i := 1) (x := l1) rfl rfl ?_
      exact zh_iret dX3_unsweptSpans_29 rfl rfl ⟨_, rfl, rfl, h⟩
    · replace h := h.2 cc1
      refine zh_aload_n (pn := 11) rfl dX3_unsweptSpans_10 (i := 0) (v := .ref 2) rfl rfl (Or.inr ⟨_, rfl⟩) ?_
      refine zh_get (pn := 14) rfl dX3_unsweptSpans_11 (v := .ref 5) (k := 2) rfl rfl (by decide) (by decide) in_X3 mf_X3_18 rfl ?_
      refine zh_iload_n (pn := 15) rfl dX3_unsweptSpans_14 (i := 2) (x := l2) rfl rfl ?_
      refine zh_zald (pn := 16) rfl dX3_unsweptSpans_15 rfl h.1 ?_
      replace h := h.2
      refine zh_if_eq (pn := 19) rfl dX3_unsweptSpans_16 (tgt := 22) rfl (fun cc1 => ?_) (fun cc1 => ?_)
      · replace h := h.1 cc1
        refine zh_iinc (pn := 25) rfl dX3_unsweptSpans_22 (i := 2) (x := l2) (v := l2 + (zI 1)) (lo' := [some (.ref 2), some (.int l1), some (.int (l2 + (zI 1)))]) rfl rfl (by decide) rfl ?_
        refine zh_goto dX3_unsweptSpans_25 (tgt := 4) rfl ?_
        exact ih _ _ _ h
      · replace h := h.2 cc1
        refine zh_iinc (pn := 22) rfl dX3_unsweptSpans_19 (i := 1) (x := l1) (v := l1 + (zI 1)) (lo' := [some (.ref 2), some (.int (l1 + (zI 1))), some (.int l2)]) rfl rfl (by decide) rfl ?_
        refine zh_iinc (pn := 25) rfl dX3_unsweptSpans_22 (i := 2) (x := l2) (v := l2 + (zI 1)) (lo' := [some (.ref 2), some (.int (l1 + (zI 1))), some (.int (l2 + (zI 1)))]) rfl rfl (by decide) rfl ?_
        refine zh_goto dX3_unsweptSpans_25 (tgt := 4) rfl ?_
        exact ih _ _ _ h
set_option maxRecDepth 100000 in
set_option maxHeartbeats 4000000 in
theorem wk_X3_unsweptSpans {X : Nat × (Nat → Int32)} {d : Nat} {M : zh_M} {P : Int32 → zh_M → Prop} (h : wp_X3_unsweptSpans M P) : zh_W X (d + 0) yX3_unsweptSpans cX3_unsweptSpans 3 (some .int) 0 (zh_en [.ref 2] 3) [] zh_LL M 0 0 (zh_pi P) := by
  unfold wp_X3_unsweptSpans at h
  show zh_W X (d + 0) yX3_unsweptSpans cX3_unsweptSpans 3 (some .int) 0 [some (.ref 2), none, none] [] zh_LL M 0 0 (zh_pi P)
  refine zh_iconst (pn := 1) rfl dX3_unsweptSpans_0 (v := (zI 0)) rfl ?_
  refine zh_istore_n (pn := 2) rfl dX3_unsweptSpans_1 (i := 1) (lo' := [some (.ref 2), some (.int (zI 0)), none]) rfl (by decide) rfl ?_
  refine zh_iconst (pn := 3) rfl dX3_unsweptSpans_2 (v := (zI 0)) rfl ?_
  refine zh_istore_n (pn := 4) rfl dX3_unsweptSpans_3 (i := 2) (lo' := [some (.ref 2), some (.int (zI 0)), some (.int (zI 0))]) rfl (by decide) rfl ?_
  obtain ⟨n1, h⟩ := h
  refine wkl_X3_unsweptSpans_4 n1 _ _ _ h
set_option maxRecDepth 100000 in
theorem ca_X3_unsweptSpans {X : Nat × (Nat → Int32)} {d : Nat} {y : MethodName} {cc : ByteArray} {nL : Nat} {rt : Option FieldType} {pc pn idx : Nat} {lo : List (Option Value)} {st : List Value} {M : zh_M} {P : Option Value → List zh_LC → zh_M → Prop} {K : Int32 → zh_M → Prop} (hp : pc + 3 = pn) (hd : decode cc pc = .ok (.invokevirtual idx, 3)) (m1 : Cond.methodLink y.cls idx yX3_unsweptSpans ∈ zh_WS) (hsc : ∀ base b, ((st.map (zh_tr base b)).map fun v => v.category).sum ≤ 8) (h : wp_X3_unsweptSpans M K) (kk : ∀ r M1, K r M1 → zh_W X (d + 1) y cc nL rt pn lo (.int r :: st) zh_LL M1 0 0 P) : zh_W X (d + 1) y cc nL rt pc lo (.ref 2 :: st) zh_LL M 0 0 P := by
  refine zh_callV (bc := 0) (bs := 0) (bc' := 0) (bs' := 0) (as := []) (st := st) hp hd rfl (by decide) rfl rfl m1 me_X3_unsweptSpans.1 me_X3_unsweptSpans.2.1 me_X3_unsweptSpans.2.2.1 me_X3_unsweptSpans.2.2.2 ⟨by decide, by decide, by decide⟩ (by show _ = some 0; decide +kernel) (fun v hv => by cases hv) hsc (Nat.le_of_ble_eq_true rfl) (by decide) (wk_X3_unsweptSpans  h) (fun r L' M' q => ?_) (fun r L' M' q => ?_)
  · obtain ⟨v, -, rfl, q⟩ := q; rfl
  · obtain ⟨v, rfl, rfl, q⟩ := q; exact kk v M' q
set_option maxRecDepth 100000 in
set_option maxHeartbeats 4000000 in
theorem wkl_X4_copiedFrames_4 {X : Nat × (Nat → Int32)} {d : Nat} {P : Int32 → zh_M → Prop} : ∀ (n : Nat) (l1 : Int32) (l2 : Int32) (M : zh_M) , wl_X4_copiedFrames_4 P n l1 l2 M → zh_W X (d + 0) yX4_copiedFrames cX4_copiedFrames 3 (some .int) 4 [some (.ref 1), some (.int l1), some (.int l2)] [] zh_LL M 0 0 (zh_pi P) := by
  intro n
  induction n with
  | zero => intro l1 l2 M  h; exact h.elim
  | succ n ih =>
    intro l1 l2 M  h
    unfold wl_X4_copiedFrames_4 at h
    refine zh_iload_n (pn := 5) rfl dX4_copiedFrames_4 (i := 2) (x := l2) rfl rfl ?_
    refine zh_bipush (pn := 7) rfl dX4_copiedFrames_5 (v := (zI 6)) rfl ?_
    refine zh_icmp_ge (pn := 10) rfl dX4_copiedFrames_7 (tgt := 28) rfl (fun cc1 => ?_) (fun cc1 => ?_)
    · replace h := h.1 cc1
      refine zh_iload_n (pn := 29) rfl dX4_copiedFrames_28 (i := 1) (x := l1) rfl rfl ?_
      exact zh_iret dX4_copiedFrames_29 rfl rfl ⟨_, rfl, rfl, h⟩
    · replace h := h.2 cc1
      refine zh_iload_n (pn := 11) rfl dX4_copiedFrames_10 (i := 1) (x := l1) rfl rfl ?_
      refine zh_aload_n (pn := 12) rfl dX4_copiedFrames_11 (i := 0) (v := .ref 1) rfl rfl (Or.inr ⟨_, rfl⟩) ?_
      refine zh_get (pn := 15) rfl dX4_copiedFrames_12 (v := .ref 9) (k := 1) rfl rfl (by decide) (by decide) in_X4 mf_X4_18 rfl ?_
      refine zh_iload_n (pn := 16) rfl dX4_copiedFrames_15 (i := 2) (x := l2) rfl rfl ?_
      refine zh_aald_Fiber (pn := 17) rfl dX4_copiedFrames_16 h.1 ?_
      have zf1 := zf_of_Fiber h.1
      replace h := h.2
      refine zh_get (pn := 20) rfl dX4_copiedFrames_17 (v := .int (M (zi_Fiber l2) 5)) (k := 5) (at_Fiber zf1) rfl (by decide) (by decide) in_X2 mf_X4_208 rfl ?_
      refine zh_iadd (pn := 21) rfl dX4_copiedFrames_20 ?_
      refine zh_istore_n (pn := 22) rfl dX4_copiedFrames_21 (i := 1) (lo' := [some (.ref 1), some (.int (l1 + (M (zi_Fiber l2) 5))), some (.int l2)]) rfl (by decide) rfl ?_
      refine zh_iinc (pn := 25) rfl dX4_copiedFrames_22 (i := 2) (x := l2) (v := l2 + (zI 1)) (lo' := [some (.ref 1), some (.int (l1 + (M (zi_Fiber l2) 5))), some (.int (l2 + (zI 1)))]) rfl rfl (by decide) rfl ?_
      refine zh_goto dX4_copiedFrames_25 (tgt := 4) rfl ?_
      exact ih _ _ _ h
set_option maxRecDepth 100000 in
set_option maxHeartbeats 4000000 in
theorem wk_X4_copiedFrames {X : Nat × (Nat → Int32)} {d : Nat} {M : zh_M} {P : Int32 → zh_M → Prop} (h : wp_X4_copiedFrames M P) : zh_W X (d + 0) yX4_copiedFrames cX4_copiedFrames 3 (some .int) 0 (zh_en [.ref 1] 3) [] zh_LL M 0 0 (zh_pi P) := by
  unfold wp_X4_copiedFrames at h
  show zh_W X (d + 0) yX4_copiedFrames cX4_copiedFrames 3 (some .int) 0 [some (.ref 1), none, none] [] zh_LL M 0 0 (zh_pi P)
  refine zh_iconst (pn := 1) rfl dX4_copiedFrames_0 (v := (zI 0)) rfl ?_
  refine zh_istore_n (pn := 2) rfl dX4_copiedFrames_1 (i := 1) (lo' := [some (.ref 1), some (.int (zI 0)), none]) rfl (by decide) rfl ?_
  refine zh_iconst (pn := 3) rfl dX4_copiedFrames_2 (v := (zI 0)) rfl ?_
  refine zh_istore_n (pn := 4) rfl dX4_copiedFrames_3 (i := 2) (lo' := [some (.ref 1), some (.int (zI 0)), some (.int (zI 0))]) rfl (by decide) rfl ?_
  obtain ⟨n2, h⟩ := h
  refine wkl_X4_copiedFrames_4 n2 _ _ _ h
set_option maxRecDepth 100000 in
theorem ca_X4_copiedFrames {X : Nat × (Nat → Int32)} {d : Nat} {y : MethodName} {cc : ByteArray} {nL : Nat} {rt : Option FieldType} {pc pn idx : Nat} {lo : List (Option Value)} {st : List Value} {M : zh_M} {P : Option Value → List zh_LC → zh_M → Prop} {K : Int32 → zh_M → Prop} (hp : pc + 3 = pn) (hd : decode cc pc = .ok (.invokevirtual idx, 3)) (m1 : Cond.methodLink y.cls idx yX4_copiedFrames ∈ zh_WS) (hsc : ∀ base b, ((st.map (zh_tr base b)).map fun v => v.category).sum ≤ 8) (h : wp_X4_copiedFrames M K) (kk : ∀ r M1, K r M1 → zh_W X (d + 1) y cc nL rt pn lo (.int r :: st) zh_LL M1 0 0 P) : zh_W X (d + 1) y cc nL rt pc lo (.ref 1 :: st) zh_LL M 0 0 P := by
  refine zh_callV (bc := 0) (bs := 0) (bc' := 0) (bs' := 0) (as := []) (st := st) hp hd rfl (by decide) rfl rfl m1 me_X4_copiedFrames.1 me_X4_copiedFrames.2.1 me_X4_copiedFrames.2.2.1 me_X4_copiedFrames.2.2.2 ⟨by decide, by decide, by decide⟩ (by show _ = some 0; decide +kernel) (fun v hv => by cases hv) hsc (Nat.le_of_ble_eq_true rfl) (by decide) (wk_X4_copiedFrames  h) (fun r L' M' q => ?_) (fun r L' M' q => ?_)
  · obtain ⟨v, -, rfl, q⟩ := q; rfl
  · obtain ⟨v, rfl, rfl, q⟩ := q; exact kk v M' q
set_option maxRecDepth 100000 in
set_option maxHeartbeats 4000000 in
theorem wk_X4_count {X : Nat × (Nat → Int32)} {d : Nat} {M : zh_M} {a1 : Int32} {P : Int32 → zh_M → Prop} (h : wp_X4_count M a1 P) : zh_W X (d + 2) yX4_count cX4_count 2 (some .int) 0 (zh_en [.ref 1, .int a1] 2) [] zh_LL M 0 0 (zh_pi P) := by
  unfold wp_X4_count at h
  show zh_W X (d + 2) yX4_count cX4_count 2 (some .int) 0 [some (.ref 1), some (.int a1)] [] zh_LL M 0 0 (zh_pi P)
  refine zh_iload_n (pn := 1) rfl dX4_count_0 (i := 1) (x := a1) rfl rfl ?_
  by_cases cc1 : a1.toInt < 0 ∨ 11 < a1.toInt
  · replace h := h.1 cc1
    refine zh_tableOut dX4_count_1 cc1 (tgt := 165) rfl ?_
    refine zh_iconst (pn := 166) rfl dX4_count_165 (v := (zI (-1))) rfl ?_
    exact zh_iret dX4_count_166 rfl rfl ⟨_, rfl, rfl, h⟩
  · replace h := h.2
    rcases (show a1.toInt = 0 ∨ a1.toInt = 1 ∨ a1.toInt = 2 ∨ a1.toInt = 3 ∨ a1.toInt = 4 ∨ a1.toInt = 5 ∨ a1.toInt = 6 ∨ a1.toInt = 7 ∨ a1.toInt = 8 ∨ a1.toInt = 9 ∨ a1.toInt = 10 ∨ a1.toInt = 11 by omega) with cc2 | cc2 | cc2 | cc2 | cc2 | cc2 | cc2 | cc2 | cc2 | cc2 | cc2 | cc2
    · replace h := h.1 cc2
      refine zh_tableIn dX4_count_1 (by omega) (by omega) (by rw [cc2]; rfl) (tgt := 64) rfl ?_
      refine zh_aload_n (pn := 65) rfl dX4_count_64 (i := 0) (v := .ref 1) rfl rfl (Or.inr ⟨_, rfl⟩) ?_
      refine zh_get (pn := 68) rfl dX4_count_65 (v := .ref 2) (k := 0) rfl rfl (by decide) (by decide) in_X4 mf_X4_12 rfl ?_
      refine ca_X3_takenSlots (pn := 71) rfl dX4_count_68 mc_X4_175 (fun _ _ => Nat.le_of_ble_eq_true rfl) h (fun r2 M1 h => ?_)
      exact zh_iret dX4_count_71 rfl rfl ⟨_, rfl, rfl, h⟩
    · replace h := h.2.1 cc2
      refine zh_tableIn dX4_count_1 (by omega) (by omega) (by rw [cc2]; rfl) (tgt := 72) rfl ?_
      refine zh_aload_n (pn := 73) rfl dX4_count_72 (i := 0) (v := .ref 1) rfl rfl (Or.inr ⟨_, rfl⟩) ?_
      refine zh_get (pn := 76) rfl dX4_count_73 (v := .ref 2) (k := 0) rfl rfl (by decide) (by decide) in_X4 mf_X4_12 rfl ?_
      refine ca_X3_takenWords (pn := 79) rfl dX4_count_76 mc_X4_178 (fun _ _ => Nat.le_of_ble_eq_true rfl) h (fun r4 M3 h => ?_)
      exact zh_iret dX4_count_79 rfl rfl ⟨_, rfl, rfl, h⟩
    · replace h := h.2.2.1 cc2
      refine zh_tableIn dX4_count_1 (by omega) (by omega) (by rw [cc2]; rfl) (tgt := 80) rfl ?_
      refine zh_aload_n (pn := 81) rfl dX4_count_80 (i := 0) (v := .ref 1) rfl rfl (Or.inr ⟨_, rfl⟩) ?_
      refine zh_get (pn := 84) rfl dX4_count_81 (v := .ref 2) (k := 0) rfl rfl (by decide) (by decide) in_X4 mf_X4_12 rfl ?_
      refine ca_X3_freePages (pn := 87) rfl dX4_count_84 mc_X4_181 (fun _ _ => Nat.le_of_ble_eq_true rfl) h (fun r6 M5 h => ?_)
      exact zh_iret dX4_count_87 rfl rfl ⟨_, rfl, rfl, h⟩
    · replace h := h.2.2.2.1 cc2
      refine zh_tableIn dX4_count_1 (by omega) (by omega) (by rw [cc2]; rfl) (tgt := 88) rfl ?_
      refine zh_aload_n (pn := 89) rfl dX4_count_88 (i := 0) (v := .ref 1) rfl rfl (Or.inr ⟨_, rfl⟩) ?_
      refine zh_get (pn := 92) rfl dX4_count_89 (v := .ref 2) (k := 0) rfl rfl (by decide) (by decide) in_X4 mf_X4_12 rfl ?_
      refine ca_X3_longestRun (pn := 95) rfl dX4_count_92 mc_X4_184 (fun _ _ => Nat.le_of_ble_eq_true rfl) h (fun r8 M7 h => ?_)
      exact zh_iret dX4_count_95 rfl rfl ⟨_, rfl, rfl, h⟩
    · replace h := h.2.2.2.2.1 cc2
      refine zh_tableIn dX4_count_1 (by omega) (by omega) (by rw [cc2]; rfl) (tgt := 96) rfl ?_
      refine zh_aload_n (pn := 97) rfl dX4_count_96 (i := 0) (v := .ref 1) rfl rfl (Or.inr ⟨_, rfl⟩) ?_
      refine zh_get (pn := 100) rfl dX4_count_97 (v := .ref 37) (k := 3) rfl rfl (by decide) (by decide) in_X4 mf_X4_37 rfl ?_
      refine zh_get (pn := 103) rfl dX4_count_100 (v := .int (M 37 5)) (k := 5) rfl rfl (by decide) (by decide) in_X1 mf_X4_156 rfl ?_
      refine zh_if_eq (pn := 106) rfl dX4_count_103 (tgt := 110) rfl (fun cc1 => ?_) (fun cc1 => ?_)
      · replace h := h.1 cc1
        refine zh_iconst (pn := 111) rfl dX4_count_110 (v := (zI 0)) rfl ?_
        exact zh_iret dX4_count_111 rfl rfl ⟨_, rfl, rfl, h⟩
      · replace h := h.2 cc1
        refine zh_iconst (pn := 107) rfl dX4_count_106 (v := (zI 1)) rfl ?_
        refine zh_goto dX4_count_107 (tgt := 111) rfl ?_
        exact zh_iret dX4_count_111 rfl rfl ⟨_, rfl, rfl, h⟩
    · replace h := h.2.2.2.2.2.1 cc2
      refine zh_tableIn dX4_count_1 (by omega) (by omega) (by rw [cc2]; rfl) (tgt := 112) rfl ?_
      refine zh_aload_n (pn := 113) rfl dX4_count_112 (i := 0) (v := .ref 1) rfl rfl (Or.inr ⟨_, rfl⟩) ?_
      refine zh_get (pn := 116) rfl dX4_count_113 (v := .ref 2) (k := 0) rfl rfl (by decide) (by decide) in_X4 mf_X4_12 rfl ?_
      refine ca_X3_unsweptSpans (pn := 119) rfl dX4_count_116 mc_X4_187 (fun _ _ => Nat.le_of_ble_eq_true rfl) h (fun r10 M9 h => ?_)
      exact zh_iret dX4_count_119 rfl rfl ⟨_, rfl, rfl, h⟩
    · replace h := h.2.2.2.2.2.2.1 cc2
      refine zh_tableIn dX4_count_1 (by omega) (by omega) (by rw [cc2]; rfl) (tgt := 120) rfl ?_
      refine zh_aload_n (pn := 121) rfl dX4_count_120 (i := 0) (v := .ref 1) rfl rfl (Or.inr ⟨_, rfl⟩) ?_
      refine zh_get (pn := 124) rfl dX4_count_121 (v := .ref 37) (k := 3) rfl rfl (by decide) (by decide) in_X4 mf_X4_37 rfl ?_
      refine zh_get (pn := 127) rfl dX4_count_124 (v := .int (M 37 6)) (k := 6) rfl rfl (by decide) (by decide) in_X1 mf_X4_190 rfl ?_
      exact zh_iret dX4_count_127 rfl rfl ⟨_, rfl, rfl, h⟩
    · replace h := h.2.2.2.2.2.2.2.1 cc2
      refine zh_tableIn dX4_count_1 (by omega) (by omega) (by rw [cc2]; rfl) (tgt := 128) rfl ?_
      refine zh_aload_n (pn := 129) rfl dX4_count_128 (i := 0) (v := .ref 1) rfl rfl (Or.inr ⟨_, rfl⟩) ?_
      refine zh_get (pn := 132) rfl dX4_count_129 (v := .ref 37) (k := 3) rfl rfl (by decide) (by decide) in_X4 mf_X4_37 rfl ?_
      refine zh_get (pn := 135) rfl dX4_count_132 (v := .int (M 37 7)) (k := 7) rfl rfl (by decide) (by decide) in_X1 mf_X4_193 rfl ?_
      exact zh_iret dX4_count_135 rfl rfl ⟨_, rfl, rfl, h⟩
    · replace h := h.2.2.2.2.2.2.2.2.1 cc2
      refine zh_tableIn dX4_count_1 (by omega) (by omega) (by rw [cc2]; rfl) (tgt := 136) rfl ?_
      refine zh_aload_n (pn := 137) rfl dX4_count_136 (i := 0) (v := .ref 1) rfl rfl (Or.inr ⟨_, rfl⟩) ?_
      refine ca_X4_copiedFrames (pn := 140) rfl dX4_count_137 mc_X4_196 (fun _ _ => Nat.le_of_ble_eq_true rfl) h (fun r12 M11 h => ?_)
      exact zh_iret dX4_count_140 rfl rfl ⟨_, rfl, rfl, h⟩
    · replace h := h.2.2.2.2.2.2.2.2.2.1 cc2
      refine zh_tableIn dX4_count_1 (by omega) (by omega) (by rw [cc2]; rfl) (tgt := 141) rfl ?_
      refine zh_aload_n (pn := 142) rfl dX4_count_141 (i := 0) (v := .ref 1) rfl rfl (Or.inr ⟨_, rfl⟩) ?_
      refine zh_get (pn := 145) rfl dX4_count_142 (v := .ref 37) (k := 3) rfl rfl (by decide) (by decide) in_X4 mf_X4_37 rfl ?_
      refine zh_get (pn := 148) rfl dX4_count_145 (v := .int (M 37 8)) (k := 8) rfl rfl (by decide) (by decide) in_X1 mf_X4_106 rfl ?_
      exact zh_iret dX4_count_148 rfl rfl ⟨_, rfl, rfl, h⟩
    · replace h := h.2.2.2.2.2.2.2.2.2.2.1 cc2
      refine zh_tableIn dX4_count_1 (by omega) (by omega) (by rw [cc2]; rfl) (tgt := 149) rfl ?_
      refine zh_aload_n (pn := 150) rfl dX4_count_149 (i := 0) (v := .ref 1) rfl rfl (Or.inr ⟨_, rfl⟩) ?_
      refine zh_get (pn := 153) rfl dX4_count_150 (v := .ref 37) (k := 3) rfl rfl (by decide) (by decide) in_X4 mf_X4_37 rfl ?_
      refine zh_get (pn := 156) rfl dX4_count_153 (v := .int (M 37 9)) (k := 9) rfl rfl (by decide) (by decide) in_X1 mf_X4_199 rfl ?_
      exact zh_iret dX4_count_156 rfl rfl ⟨_, rfl, rfl, h⟩
    · replace h := h.2.2.2.2.2.2.2.2.2.2.2 cc2
      refine zh_tableIn dX4_count_1 (by omega) (by omega) (by rw [cc2]; rfl) (tgt := 157) rfl ?_
      refine zh_aload_n (pn := 158) rfl dX4_count_157 (i := 0) (v := .ref 1) rfl rfl (Or.inr ⟨_, rfl⟩) ?_
      refine zh_get (pn := 161) rfl dX4_count_158 (v := .ref 2) (k := 0) rfl rfl (by decide) (by decide) in_X4 mf_X4_12 rfl ?_
      refine zh_get (pn := 164) rfl dX4_count_161 (v := .int (M 2 6)) (k := 6) rfl rfl (by decide) (by decide) in_X3 mf_X4_202 rfl ?_
      exact zh_iret dX4_count_164 rfl rfl ⟨_, rfl, rfl, h⟩
set_option maxRecDepth 100000 in
theorem ca_X4_count {X : Nat × (Nat → Int32)} {d : Nat} {y : MethodName} {cc : ByteArray} {nL : Nat} {rt : Option FieldType} {pc pn idx : Nat} {lo : List (Option Value)} {st : List Value} {M : zh_M} {P : Option Value → List zh_LC → zh_M → Prop} {a1 : Int32} {K : Int32 → zh_M → Prop} (hp : pc + 3 = pn) (hd : decode cc pc = .ok (.invokevirtual idx, 3)) (m1 : Cond.methodLink y.cls idx yX4_count ∈ zh_WS) (hsc : ∀ base b, ((st.map (zh_tr base b)).map fun v => v.category).sum ≤ 8) (h : wp_X4_count M a1 K) (kk : ∀ r M1, K r M1 → zh_W X (d + 3) y cc nL rt pn lo (.int r :: st) zh_LL M1 0 0 P) : zh_W X (d + 3) y cc nL rt pc lo (.int a1 :: .ref 1 :: st) zh_LL M 0 0 P := by
  refine zh_callV (bc := 0) (bs := 0) (bc' := 0) (bs' := 0) (as := [.int a1]) (st := st) hp hd rfl (by decide) rfl rfl m1 me_X4_count.1 me_X4_count.2.1 me_X4_count.2.2.1 me_X4_count.2.2.2 ⟨by decide, by decide, by decide⟩ (by show _ = some 1; decide +kernel) (by intro v hv; simp only [List.mem_cons, List.not_mem_nil, or_false] at hv; rcases hv with rfl <;> (intro _ _; rfl)) hsc (Nat.le_of_ble_eq_true rfl) (by decide) (wk_X4_count  h) (fun r L' M' q => ?_) (fun r L' M' q => ?_)
  · obtain ⟨v, -, rfl, q⟩ := q; rfl
  · obtain ⟨v, rfl, rfl, q⟩ := q; exact kk v M' q
