set_option maxRecDepth 100000 in
set_option maxHeartbeats 4000000 in
theorem wkl_X5_cycle_29 {X : Nat × (Nat → Int32)} {d : Nat} {P : zh_M → Prop} {K48 : zh_M → Prop} (hK48 : ∀ (M : zh_M) (w1 : Option Value), K48 M → zh_W X (d + 2) yX5_cycle cX5_cycle 2 none 48 [some (.ref 39), w1] [] zh_LL M 0 0 (zh_pv P)) : ∀ (n : Nat) (l1 : Int32) (M : zh_M) , wl_X5_cycle_29 K48 P n l1 M → zh_W X (d + 2) yX5_cycle cX5_cycle 2 none 29 [some (.ref 39), some (.int l1)] [] zh_LL M 0 0 (zh_pv P) := by
  intro n
  induction n with
  | zero => intro l1 M  h; exact h.elim
  | succ n ih =>
    intro l1 M  h
    unfold wl_X5_cycle_29 at h
    refine zh_iload_n (pn := 30) rfl dX5_cycle_29 (i := 1) (x := l1) rfl rfl ?_
    refine zh_bipush (pn := 32) rfl dX5_cycle_30 (v := (zI 6)) rfl ?_
    refine zh_icmp_ge (pn := 35) rfl dX5_cycle_32 (tgt := 48) rfl (fun cc1 => ?_) (fun cc1 => ?_)
    · replace h := h.1 cc1
      exact hK48 _ _ h
    · replace h := h.2 cc1
      refine zh_aload_n (pn := 36) rfl dX5_cycle_35 (i := 0) (v := .ref 39) rfl rfl (Or.inr ⟨_, rfl⟩) ?_
      refine zh_get (pn := 39) rfl dX5_cycle_36 (v := .ref 54) (k := 14) rfl rfl (by decide) (by decide) in_X5 mf_X5_53 rfl ?_
      refine zh_iload_n (pn := 40) rfl dX5_cycle_39 (i := 1) (x := l1) rfl rfl ?_
      refine zh_iconst (pn := 41) rfl dX5_cycle_40 (v := (zI 0)) rfl ?_
      refine zh_zast (pn := 42) rfl dX5_cycle_41 (x' := (zI 0)) rfl h.1 rfl ?_
      obtain ⟨M6, eM6⟩ : ∃ q : zh_M, q = zh_set M 54 l1.toNatClampNeg (zI 0) := ⟨_, rfl⟩
      replace h := h.2 M6 eM6
      rw [← eM6]
      refine zh_iinc (pn := 45) rfl dX5_cycle_42 (i := 1) (x := l1) (v := l1 + (zI 1)) (lo' := [some (.ref 39), some (.int (l1 + (zI 1)))]) rfl rfl (by decide) rfl ?_
      refine zh_goto dX5_cycle_45 (tgt := 29) rfl ?_
      exact ih _ _ h
set_option maxRecDepth 100000 in
set_option maxHeartbeats 4000000 in
theorem wkl_X5_cycle_50 {X : Nat × (Nat → Int32)} {d : Nat} {P : zh_M → Prop} {K77 : zh_M → Prop} (hK77 : ∀ (M : zh_M) (w1 : Option Value), K77 M → zh_W X (d + 2) yX5_cycle cX5_cycle 2 none 77 [some (.ref 39), w1] [] zh_LL M 0 0 (zh_pv P)) : ∀ (n : Nat) (l1 : Int32) (M : zh_M) , wl_X5_cycle_50 K77 P n l1 M → zh_W X (d + 2) yX5_cycle cX5_cycle 2 none 50 [some (.ref 39), some (.int l1)] [] zh_LL M 0 0 (zh_pv P) := by
  intro n
  induction n with
  | zero => intro l1 M  h; exact h.elim
  | succ n ih =>
    intro l1 M  h
    unfold wl_X5_cycle_50 at h
    refine zh_iload_n (pn := 51) rfl dX5_cycle_50 (i := 1) (x := l1) rfl rfl ?_
    refine zh_sipush (pn := 54) rfl dX5_cycle_51 (v := (zI 256)) rfl ?_
    refine zh_icmp_ge (pn := 57) rfl dX5_cycle_54 (tgt := 77) rfl (fun cc1 => ?_) (fun cc1 => ?_)
    · replace h := h.1 cc1
      exact hK77 _ _ h
    · replace h := h.2 cc1
      refine zh_aload_n (pn := 58) rfl dX5_cycle_57 (i := 0) (v := .ref 39) rfl rfl (Or.inr ⟨_, rfl⟩) ?_
      refine zh_get (pn := 61) rfl dX5_cycle_58 (v := .ref 43) (k := 3) rfl rfl (by decide) (by decide) in_X5 mf_X5_19 rfl ?_
      refine zh_iload_n (pn := 62) rfl dX5_cycle_61 (i := 1) (x := l1) rfl rfl ?_
      refine zh_iconst (pn := 63) rfl dX5_cycle_62 (v := (zI 0)) rfl ?_
      refine zh_zast (pn := 64) rfl dX5_cycle_63 (x' := (zI 0)) rfl h.1 rfl ?_
      obtain ⟨M9, eM9⟩ : ∃ q : zh_M, q = zh_set M 43 l1.toNatClampNeg (zI 0) := ⟨_, rfl⟩
      replace h := h.2 M9 eM9
      rw [← eM9]
      refine zh_aload_n (pn := 65) rfl dX5_cycle_64 (i := 0) (v := .ref 39) rfl rfl (Or.inr ⟨_, rfl⟩) ?_
      refine zh_get (pn := 68) rfl dX5_cycle_65 (v := .ref 44) (k := 4) rfl rfl (by decide) (by decide) in_X5 mf_X5_23 rfl ?_
      refine zh_iload_n (pn := 69) rfl dX5_cycle_68 (i := 1) (x := l1) rfl rfl ?_
      refine zh_iconst (pn := 70) rfl dX5_cycle_69 (v := (zI 0)) rfl ?_
      refine zh_zast (pn := 71) rfl dX5_cycle_70 (x' := (zI 0)) rfl h.1 rfl ?_
      obtain ⟨M10, eM10⟩ : ∃ q : zh_M, q = zh_set M9 44 l1.toNatClampNeg (zI 0) := ⟨_, rfl⟩
      replace h := h.2 M10 eM10
      rw [← eM10]
      refine zh_iinc (pn := 74) rfl dX5_cycle_71 (i := 1) (x := l1) (v := l1 + (zI 1)) (lo' := [some (.ref 39), some (.int (l1 + (zI 1)))]) rfl rfl (by decide) rfl ?_
      refine zh_goto dX5_cycle_74 (tgt := 50) rfl ?_
      exact ih _ _ h
set_option maxRecDepth 100000 in
set_option maxHeartbeats 4000000 in
theorem wkl_X5_cycle_79 {X : Nat × (Nat → Int32)} {d : Nat} {P : zh_M → Prop} : ∀ (n : Nat) (l1 : Int32) (M : zh_M) , wl_X5_cycle_79 P n l1 M → zh_W X (d + 2) yX5_cycle cX5_cycle 2 none 79 [some (.ref 39), some (.int l1)] [] zh_LL M 0 0 (zh_pv P) := by
  intro n
  induction n with
  | zero => intro l1 M  h; exact h.elim
  | succ n ih =>
    intro l1 M  h
    unfold wl_X5_cycle_79 at h
    refine zh_iload_n (pn := 80) rfl dX5_cycle_79 (i := 1) (x := l1) rfl rfl ?_
    refine zh_bipush (pn := 82) rfl dX5_cycle_80 (v := (zI 16)) rfl ?_
    refine zh_icmp_ge (pn := 85) rfl dX5_cycle_82 (tgt := 115) rfl (fun cc1 => ?_) (fun cc1 => ?_)
    · replace h := h.1 cc1
      exact zh_vret dX5_cycle_115 rfl ⟨rfl, rfl, h⟩
    · replace h := h.2 cc1
      refine zh_iload_n (pn := 86) rfl dX5_cycle_85 (i := 1) (x := l1) rfl rfl ?_
      refine zh_iconst (pn := 87) rfl dX5_cycle_86 (v := (zI 4)) rfl ?_
      refine zh_irem (pn := 88) rfl dX5_cycle_87 (by decide) ?_
      refine zh_aload_n (pn := 89) rfl dX5_cycle_88 (i := 0) (v := .ref 39) rfl rfl (Or.inr ⟨_, rfl⟩) ?_
      refine zh_get (pn := 92) rfl dX5_cycle_89 (v := .ref 61) (k := 21) rfl rfl (by decide) (by decide) in_X5 mf_X5_74 rfl ?_
      refine zh_iload_n (pn := 93) rfl dX5_cycle_92 (i := 1) (x := l1) rfl rfl ?_
      refine zh_iconst (pn := 94) rfl dX5_cycle_93 (v := (zI 4)) rfl ?_
      refine zh_idiv (pn := 95) rfl dX5_cycle_94 (by decide) ?_
      refine zh_iald (pn := 96) rfl dX5_cycle_95 rfl h.1 ?_
      replace h := h.2
      refine zh_icmp_ge (pn := 99) rfl dX5_cycle_96 (tgt := 109) rfl (fun cc1 => ?_) (fun cc1 => ?_)
      · replace h := h.1 cc1
        refine zh_iinc (pn := 112) rfl dX5_cycle_109 (i := 1) (x := l1) (v := l1 + (zI 1)) (lo' := [some (.ref 39), some (.int (l1 + (zI 1)))]) rfl rfl (by decide) rfl ?_
        refine zh_goto dX5_cycle_112 (tgt := 79) rfl ?_
        exact ih _ _ h
      · replace h := h.2 cc1
        refine zh_aload_n (pn := 100) rfl dX5_cycle_99 (i := 0) (v := .ref 39) rfl rfl (Or.inr ⟨_, rfl⟩) ?_
        refine zh_aload_n (pn := 101) rfl dX5_cycle_100 (i := 0) (v := .ref 39) rfl rfl (Or.inr ⟨_, rfl⟩) ?_
        refine zh_get (pn := 104) rfl dX5_cycle_101 (v := .ref 60) (k := 20) rfl rfl (by decide) (by decide) in_X5 mf_X5_71 rfl ?_
        refine zh_iload_n (pn := 105) rfl dX5_cycle_104 (i := 1) (x := l1) rfl rfl ?_
        refine zh_iald (pn := 106) rfl dX5_cycle_105 rfl h.1 ?_
        replace h := h.2
        refine ca_X5_note (pn := 109) rfl dX5_cycle_106 mc_X5_144 (fun _ _ => Nat.le_of_ble_eq_true rfl) h (fun M13 h => ?_)
        refine zh_iinc (pn := 112) rfl dX5_cycle_109 (i := 1) (x := l1) (v := l1 + (zI 1)) (lo' := [some (.ref 39), some (.int (l1 + (zI 1)))]) rfl rfl (by decide) rfl ?_
        refine zh_goto dX5_cycle_112 (tgt := 79) rfl ?_
        exact ih _ _ h
set_option maxRecDepth 100000 in
set_option maxHeartbeats 4000000 in
theorem wk_X5_cycle {X : Nat × (Nat → Int32)} {d : Nat} {M : zh_M} {P : zh_M → Prop} (h : wp_X5_cycle M P) : zh_W X (d + 2) yX5_cycle cX5_cycle 2 none 0 (zh_en [.ref 39] 2) [] zh_LL M 0 0 (zh_pv P) := by
  unfold wp_X5_cycle at h
  show zh_W X (d + 2) yX5_cycle cX5_cycle 2 none 0 [some (.ref 39), none] [] zh_LL M 0 0 (zh_pv P)
  refine zh_aload_n (pn := 1) rfl dX5_cycle_0 (i := 0) (v := .ref 39) rfl rfl (Or.inr ⟨_, rfl⟩) ?_
  refine zh_bipush (pn := 3) rfl dX5_cycle_1 (v := (zI 16)) rfl ?_
  refine ca_X5_sweepUpTo (pn := 6) rfl dX5_cycle_3 mc_X5_138 (fun _ _ => Nat.le_of_ble_eq_true rfl) h (fun r2 M1 h => ?_)
  refine zh_pop (pn := 7) rfl dX5_cycle_6 (fun _ _ => rfl) ?_
  refine zh_aload_n (pn := 8) rfl dX5_cycle_7 (i := 0) (v := .ref 39) rfl rfl (Or.inr ⟨_, rfl⟩) ?_
  refine zh_iconst (pn := 9) rfl dX5_cycle_8 (v := (zI 1)) rfl ?_
  refine zh_put (pn := 12) rfl dX5_cycle_9 (k := 23) rfl rfl (by decide) (by decide) in_X5 tyX5_ok nmX5 mf_X5_103 rfl rfl rfl rfl ?_
  obtain ⟨M3, eM3⟩ : ∃ q : zh_M, q = zh_set M1 39 23 (zI 1) := ⟨_, rfl⟩
  replace h := h M3 eM3
  rw [← eM3]
  refine zh_aload_n (pn := 13) rfl dX5_cycle_12 (i := 0) (v := .ref 39) rfl rfl (Or.inr ⟨_, rfl⟩) ?_
  refine zh_iconst (pn := 14) rfl dX5_cycle_13 (v := (zI 0)) rfl ?_
  refine zh_put (pn := 17) rfl dX5_cycle_14 (k := 24) rfl rfl (by decide) (by decide) in_X5 tyX5_ok nmX5 mf_X5_168 rfl rfl rfl rfl ?_
  obtain ⟨M4, eM4⟩ : ∃ q : zh_M, q = zh_set M3 39 24 (zI 0) := ⟨_, rfl⟩
  replace h := h M4 eM4
  rw [← eM4]
  refine zh_aload_n (pn := 18) rfl dX5_cycle_17 (i := 0) (v := .ref 39) rfl rfl (Or.inr ⟨_, rfl⟩) ?_
  refine zh_dup (pn := 19) rfl dX5_cycle_18 (fun _ _ => rfl) ?_
  refine zh_get (pn := 22) rfl dX5_cycle_19 (v := .int (M4 39 25)) (k := 25) rfl rfl (by decide) (by decide) in_X5 mf_X5_171 rfl ?_
  refine zh_iconst (pn := 23) rfl dX5_cycle_22 (v := (zI 1)) rfl ?_
  refine zh_iadd (pn := 24) rfl dX5_cycle_23 ?_
  refine zh_put (pn := 27) rfl dX5_cycle_24 (k := 25) rfl rfl (by decide) (by decide) in_X5 tyX5_ok nmX5 mf_X5_171 rfl rfl rfl rfl ?_
  obtain ⟨M5, eM5⟩ : ∃ q : zh_M, q = zh_set M4 39 25 ((M4 39 25) + (zI 1)) := ⟨_, rfl⟩
  replace h := h M5 eM5
  rw [← eM5]
  refine zh_iconst (pn := 28) rfl dX5_cycle_27 (v := (zI 0)) rfl ?_
  refine zh_istore_n (pn := 29) rfl dX5_cycle_28 (i := 1) (lo' := [some (.ref 39), some (.int (zI 0))]) rfl (by decide) rfl ?_
  obtain ⟨n16, h⟩ := h
  refine wkl_X5_cycle_29 (fun M7 w1_8 h => ?_) n16 _ _ h
  refine zh_iconst (pn := 49) rfl dX5_cycle_48 (v := (zI 0)) rfl ?_
  refine zh_istore_n (pn := 50) rfl dX5_cycle_49 (i := 1) (lo' := [some (.ref 39), some (.int (zI 0))]) rfl (by decide) rfl ?_
  obtain ⟨n15, h⟩ := h
  refine wkl_X5_cycle_50 (fun M11 w1_12 h => ?_) n15 _ _ h
  refine zh_iconst (pn := 78) rfl dX5_cycle_77 (v := (zI 0)) rfl ?_
  refine zh_istore_n (pn := 79) rfl dX5_cycle_78 (i := 1) (lo' := [some (.ref 39), some (.int (zI 0))]) rfl (by decide) rfl ?_
  obtain ⟨n14, h⟩ := h
  refine wkl_X5_cycle_79 n14 _ _ h
set_option maxRecDepth 100000 in
theorem ca_X5_cycle {X : Nat × (Nat → Int32)} {d : Nat} {y : MethodName} {cc : ByteArray} {nL : Nat} {rt : Option FieldType} {pc pn idx : Nat} {lo : List (Option Value)} {st : List Value} {M : zh_M} {P : Option Value → List zh_LC → zh_M → Prop} {K : zh_M → Prop} (hp : pc + 3 = pn) (hd : decode cc pc = .ok (.invokevirtual idx, 3)) (m1 : Cond.methodLink y.cls idx yX5_cycle ∈ zh_WS) (hsc : ∀ base b, ((st.map (zh_tr base b)).map fun v => v.category).sum ≤ 8) (h : wp_X5_cycle M K) (kk : ∀ M1, K M1 → zh_W X (d + 3) y cc nL rt pn lo st zh_LL M1 0 0 P) : zh_W X (d + 3) y cc nL rt pc lo (.ref 39 :: st) zh_LL M 0 0 P := by
  refine zh_callV (bc := 0) (bs := 0) (bc' := 0) (bs' := 0) (as := []) (st := st) hp hd rfl (by decide) rfl rfl m1 me_X5_cycle.1 me_X5_cycle.2.1 me_X5_cycle.2.2.1 me_X5_cycle.2.2.2 ⟨by decide, by decide, by decide⟩ (by show _ = some 0; decide +kernel) (fun v hv => by cases hv) hsc (Nat.le_of_ble_eq_true rfl) (by decide) (wk_X5_cycle  h) (fun r L' M' q => ?_) (fun r L' M' q => ?_)
  · obtain ⟨-, rfl, q⟩ := q; rfl
  · obtain ⟨rfl, rfl, q⟩ := q; exact kk M' q
set_option maxRecDepth 100000 in
set_option maxHeartbeats 4000000 in
theorem wkl_X5_scan_9 {X : Nat × (Nat → Int32)} {d : Nat} {P : zh_M → Prop} {l1 : Int32} {K42 : zh_M → Prop} (hK42 : ∀ (M : zh_M) (w2 : Option Value), K42 M → zh_W X (d + 1) yX5_scan cX5_scan 3 none 42 [some (.ref 39), some (.int l1), w2] [] zh_LL M 0 0 (zh_pv P)) : ∀ (n : Nat) (l2 : Int32) (M : zh_M) , wl_X5_scan_9 l1 K42 P n l2 M → zh_W X (d + 1) yX5_scan cX5_scan 3 none 9 [some (.ref 39), some (.int l1), some (.int l2)] [] zh_LL M 0 0 (zh_pv P) := by
  intro n
  induction n with
  | zero => intro l2 M  h; exact h.elim
  | succ n ih =>
    intro l2 M  h
    unfold wl_X5_scan_9 at h
    refine zh_iload_n (pn := 10) rfl dX5_scan_9 (i := 2) (x := l2) rfl rfl ?_
    refine zh_iconst (pn := 11) rfl dX5_scan_10 (v := (zI 4)) rfl ?_
    refine zh_aload_n (pn := 12) rfl dX5_scan_11 (i := 0) (v := .ref 39) rfl rfl (Or.inr ⟨_, rfl⟩) ?_
    refine zh_get (pn := 15) rfl dX5_scan_12 (v := .ref 50) (k := 10) rfl rfl (by decide) (by decide) in_X5 mf_X5_41 rfl ?_
    refine zh_iload_n (pn := 16) rfl dX5_scan_15 (i := 1) (x := l1) rfl rfl ?_
    refine zh_iald (pn := 17) rfl dX5_scan_16 rfl h.1 ?_
    replace h := h.2
    refine zh_imul (pn := 18) rfl dX5_scan_17 ?_
    refine zh_icmp_ge (pn := 21) rfl dX5_scan_18 (tgt := 42) rfl (fun cc1 => ?_) (fun cc1 => ?_)
    · replace h := h.1 cc1
      exact hK42 _ _ h
    · replace h := h.2 cc1
      refine zh_aload_n (pn := 22) rfl dX5_scan_21 (i := 0) (v := .ref 39) rfl rfl (Or.inr ⟨_, rfl⟩) ?_
      refine zh_aload_n (pn := 23) rfl dX5_scan_22 (i := 0) (v := .ref 39) rfl rfl (Or.inr ⟨_, rfl⟩) ?_
      refine zh_get (pn := 26) rfl dX5_scan_23 (v := .ref 52) (k := 12) rfl rfl (by decide) (by decide) in_X5 mf_X5_47 rfl ?_
      refine zh_bipush (pn := 28) rfl dX5_scan_26 (v := (zI 64)) rfl ?_
      refine zh_iload_n (pn := 29) rfl dX5_scan_28 (i := 1) (x := l1) rfl rfl ?_
      refine zh_imul (pn := 30) rfl dX5_scan_29 ?_
      refine zh_iload_n (pn := 31) rfl dX5_scan_30 (i := 2) (x := l2) rfl rfl ?_
      refine zh_iadd (pn := 32) rfl dX5_scan_31 ?_
      refine zh_iald (pn := 33) rfl dX5_scan_32 rfl h.1 ?_
      replace h := h.2
      refine ca_X5_note (pn := 36) rfl dX5_scan_33 mc_X5_144 (fun _ _ => Nat.le_of_ble_eq_true rfl) h (fun M2 h => ?_)
      refine zh_iinc (pn := 39) rfl dX5_scan_36 (i := 2) (x := l2) (v := l2 + (zI 1)) (lo' := [some (.ref 39), some (.int l1), some (.int (l2 + (zI 1)))]) rfl rfl (by decide) rfl ?_
      refine zh_goto dX5_scan_39 (tgt := 9) rfl ?_
      exact ih _ _ h
set_option maxRecDepth 100000 in
set_option maxHeartbeats 4000000 in
theorem wk_X5_scan {X : Nat × (Nat → Int32)} {d : Nat} {M : zh_M} {a1 : Int32} {P : zh_M → Prop} (h : wp_X5_scan M a1 P) : zh_W X (d + 1) yX5_scan cX5_scan 3 none 0 (zh_en [.ref 39, .int a1] 3) [] zh_LL M 0 0 (zh_pv P) := by
  unfold wp_X5_scan at h
  show zh_W X (d + 1) yX5_scan cX5_scan 3 none 0 [some (.ref 39), some (.int a1), none] [] zh_LL M 0 0 (zh_pv P)
  refine zh_aload_n (pn := 1) rfl dX5_scan_0 (i := 0) (v := .ref 39) rfl rfl (Or.inr ⟨_, rfl⟩) ?_
  refine zh_get (pn := 4) rfl dX5_scan_1 (v := .ref 54) (k := 14) rfl rfl (by decide) (by decide) in_X5 mf_X5_53 rfl ?_
  refine zh_iload_n (pn := 5) rfl dX5_scan_4 (i := 1) (x := a1) rfl rfl ?_
  refine zh_iconst (pn := 6) rfl dX5_scan_5 (v := (zI 1)) rfl ?_
  refine zh_zast (pn := 7) rfl dX5_scan_6 (x' := (zI 1)) rfl h.1 rfl ?_
  obtain ⟨M1, eM1⟩ : ∃ q : zh_M, q = zh_set M 54 a1.toNatClampNeg (zI 1) := ⟨_, rfl⟩
  replace h := h.2 M1 eM1
  rw [← eM1]
  refine zh_iconst (pn := 8) rfl dX5_scan_7 (v := (zI 0)) rfl ?_
  refine zh_istore_n (pn := 9) rfl dX5_scan_8 (i := 2) (lo' := [some (.ref 39), some (.int a1), some (.int (zI 0))]) rfl (by decide) rfl ?_
  obtain ⟨n7, h⟩ := h
  refine wkl_X5_scan_9 (fun M3 w2_4 h => ?_) n7 _ _ h
  refine zh_iconst (pn := 43) rfl dX5_scan_42 (v := (zI 4)) rfl ?_
  refine zh_aload_n (pn := 44) rfl dX5_scan_43 (i := 0) (v := .ref 39) rfl rfl (Or.inr ⟨_, rfl⟩) ?_
  refine zh_get (pn := 47) rfl dX5_scan_44 (v := .ref 50) (k := 10) rfl rfl (by decide) (by decide) in_X5 mf_X5_41 rfl ?_
  refine zh_iload_n (pn := 48) rfl dX5_scan_47 (i := 1) (x := a1) rfl rfl ?_
  refine zh_iald (pn := 49) rfl dX5_scan_48 rfl h.1 ?_
  replace h := h.2
  refine zh_imul (pn := 50) rfl dX5_scan_49 ?_
  refine zh_aload_n (pn := 51) rfl dX5_scan_50 (i := 0) (v := .ref 39) rfl rfl (Or.inr ⟨_, rfl⟩) ?_
  refine zh_get (pn := 54) rfl dX5_scan_51 (v := .ref 51) (k := 11) rfl rfl (by decide) (by decide) in_X5 mf_X5_44 rfl ?_
  refine zh_iload_n (pn := 55) rfl dX5_scan_54 (i := 1) (x := a1) rfl rfl ?_
  refine zh_iald (pn := 56) rfl dX5_scan_55 rfl h.1 ?_
  replace h := h.2
  refine zh_icmp_gt (pn := 59) rfl dX5_scan_56 (tgt := 94) rfl (fun cc1 => ?_) (fun cc1 => ?_)
  · replace h := h.1 cc1
    exact zh_vret dX5_scan_94 rfl ⟨rfl, rfl, h⟩
  · replace h := h.2 cc1
    refine zh_aload_n (pn := 60) rfl dX5_scan_59 (i := 0) (v := .ref 39) rfl rfl (Or.inr ⟨_, rfl⟩) ?_
    refine zh_get (pn := 63) rfl dX5_scan_60 (v := .ref 51) (k := 11) rfl rfl (by decide) (by decide) in_X5 mf_X5_44 rfl ?_
    refine zh_iload_n (pn := 64) rfl dX5_scan_63 (i := 1) (x := a1) rfl rfl ?_
    refine zh_iald (pn := 65) rfl dX5_scan_64 rfl h.1 ?_
    replace h := h.2
    refine zh_iconst (pn := 66) rfl dX5_scan_65 (v := (zI 2)) rfl ?_
    refine zh_icmp_le (pn := 69) rfl dX5_scan_66 (tgt := 94) rfl (fun cc1 => ?_) (fun cc1 => ?_)
    · replace h := h.1 cc1
      exact zh_vret dX5_scan_94 rfl ⟨rfl, rfl, h⟩
    · replace h := h.2 cc1
      refine zh_aload_n (pn := 70) rfl dX5_scan_69 (i := 0) (v := .ref 39) rfl rfl (Or.inr ⟨_, rfl⟩) ?_
      refine zh_get (pn := 73) rfl dX5_scan_70 (v := .ref 51) (k := 11) rfl rfl (by decide) (by decide) in_X5 mf_X5_44 rfl ?_
      refine zh_iload_n (pn := 74) rfl dX5_scan_73 (i := 1) (x := a1) rfl rfl ?_
      refine zh_dup2 (pn := 75) rfl dX5_scan_74 (fun _ _ => rfl) (fun _ _ => rfl) ?_
      refine zh_iald (pn := 76) rfl dX5_scan_75 rfl h.1 ?_
      replace h := h.2
      refine zh_iconst (pn := 77) rfl dX5_scan_76 (v := (zI 2)) rfl ?_
      refine zh_idiv (pn := 78) rfl dX5_scan_77 (by decide) ?_
      refine zh_iast (pn := 79) rfl dX5_scan_78 rfl h.1 ?_
      obtain ⟨M5, eM5⟩ : ∃ q : zh_M, q = zh_set M3 51 a1.toNatClampNeg ((M3 51 a1.toNatClampNeg) / (zI 2)) := ⟨_, rfl⟩
      replace h := h.2 M5 eM5
      rw [← eM5]
      refine zh_aload_n (pn := 80) rfl dX5_scan_79 (i := 0) (v := .ref 39) rfl rfl (Or.inr ⟨_, rfl⟩) ?_
      refine zh_dup (pn := 81) rfl dX5_scan_80 (fun _ _ => rfl) ?_
      refine zh_get (pn := 84) rfl dX5_scan_81 (v := .int (M5 39 27)) (k := 27) rfl rfl (by decide) (by decide) in_X5 mf_X5_107 rfl ?_
      refine zh_aload_n (pn := 85) rfl dX5_scan_84 (i := 0) (v := .ref 39) rfl rfl (Or.inr ⟨_, rfl⟩) ?_
      refine zh_get (pn := 88) rfl dX5_scan_85 (v := .ref 50) (k := 10) rfl rfl (by decide) (by decide) in_X5 mf_X5_41 rfl ?_
      refine zh_iload_n (pn := 89) rfl dX5_scan_88 (i := 1) (x := a1) rfl rfl ?_
      refine zh_iald (pn := 90) rfl dX5_scan_89 rfl h.1 ?_
      replace h := h.2
      refine zh_iadd (pn := 91) rfl dX5_scan_90 ?_
      refine zh_put (pn := 94) rfl dX5_scan_91 (k := 27) rfl rfl (by decide) (by decide) in_X5 tyX5_ok nmX5 mf_X5_107 rfl rfl rfl rfl ?_
      obtain ⟨M6, eM6⟩ : ∃ q : zh_M, q = zh_set M5 39 27 ((M5 39 27) + (M5 50 a1.toNatClampNeg)) := ⟨_, rfl⟩
      replace h := h M6 eM6
      rw [← eM6]
      exact zh_vret dX5_scan_94 rfl ⟨rfl, rfl, h⟩
set_option maxRecDepth 100000 in
theorem ca_X5_scan {X : Nat × (Nat → Int32)} {d : Nat} {y : MethodName} {cc : ByteArray} {nL : Nat} {rt : Option FieldType} {pc pn idx : Nat} {lo : List (Option Value)} {st : List Value} {M : zh_M} {P : Option Value → List zh_LC → zh_M → Prop} {a1 : Int32} {K : zh_M → Prop} (hp : pc + 3 = pn) (hd : decode cc pc = .ok (.invokevirtual idx, 3)) (m1 : Cond.methodLink y.cls idx yX5_scan ∈ zh_WS) (hsc : ∀ base b, ((st.map (zh_tr base b)).map fun v => v.category).sum ≤ 8) (h : wp_X5_scan M a1 K) (kk : ∀ M1, K M1 → zh_W X (d + 2) y cc nL rt pn lo st zh_LL M1 0 0 P) : zh_W X (d + 2) y cc nL rt pc lo (.int a1 :: .ref 39 :: st) zh_LL M 0 0 P := by
  refine zh_callV (bc := 0) (bs := 0) (bc' := 0) (bs' := 0) (as := [.int a1]) (st := st) hp hd rfl (by decide) rfl rfl m1 me_X5_scan.1 me_X5_scan.2.1 me_X5_scan.2.2.1 me_X5_scan.2.2.2 ⟨by decide, by decide, by decide⟩ (by show _ = some 1; decide +kernel) (by intro v hv; simp only [List.mem_cons, List.not_mem_nil, or_false] at hv; rcases hv with rfl <;> (intro _ _; rfl)) hsc (Nat.le_of_ble_eq_true rfl) (by decide) (wk_X5_scan  h) (fun r L' M' q => ?_) (fun r L' M' q => ?_)
  · obtain ⟨-, rfl, q⟩ := q; rfl
  · obtain ⟨rfl, rfl, q⟩ := q; exact kk M' q
set_option maxRecDepth 100000 in
set_option maxHeartbeats 4000000 in
theorem wkl_X5_countDue_4 {X : Nat × (Nat → Int32)} {d : Nat} {P : Int32 → zh_M → Prop} {K72 : Int32 → zh_M → Prop} (hK72 : ∀ (l1 : Int32) (M : zh_M) (w2 : Option Value) (w3 : Option Value) (w4 : Option Value) (w5 : Option Value) (w6 : Option Value), K72 l1 M → zh_W X (d + 0) yX5_countDue cX5_countDue 7 (some .int) 72 [some (.ref 39), some (.int l1), w2, w3, w4, w5, w6] [] zh_LL M 0 0 (zh_pi P)) : ∀ (n : Nat) (l1 : Int32) (l2 : Int32) (M : zh_M) (w3 : Option Value) (w4 : Option Value) (w5 : Option Value) (w6 : Option Value), wl_X5_countDue_4 K72 P n l1 l2 M → zh_W X (d + 0) yX5_countDue cX5_countDue 7 (some .int) 4 [some (.ref 39), some (.int l1), some (.int l2), w3, w4, w5, w6] [] zh_LL M 0 0 (zh_pi P) := by
  intro n
  induction n with
  | zero => intro l1 l2 M w3 w4 w5 w6 h; exact h.elim
  | succ n ih =>
    intro l1 l2 M w3 w4 w5 w6 h
    unfold wl_X5_countDue_4 at h
    refine zh_iload_n (pn := 5) rfl dX5_countDue_4 (i := 2) (x := l2) rfl rfl ?_
    refine zh_sipush (pn := 8) rfl dX5_countDue_5 (v := (zI 256)) rfl ?_
    refine zh_icmp_ge (pn := 11) rfl dX5_countDue_8 (tgt := 72) rfl (fun cc1 => ?_) (fun cc1 => ?_)
    · replace h := h.1 cc1
      exact hK72 _ _ _ _ _ _ _ h
    · replace h := h.2 cc1
      refine zh_aload_n (pn := 12) rfl dX5_countDue_11 (i := 0) (v := .ref 39) rfl rfl (Or.inr ⟨_, rfl⟩) ?_
      refine zh_get (pn := 15) rfl dX5_countDue_12 (v := .ref 46) (k := 6) rfl rfl (by decide) (by decide) in_X5 mf_X5_29 rfl ?_
      refine zh_iload_n (pn := 16) rfl dX5_countDue_15 (i := 2) (x := l2) rfl rfl ?_
      refine zh_aload_n (pn := 17) rfl dX5_countDue_16 (i := 0) (v := .ref 39) rfl rfl (Or.inr ⟨_, rfl⟩) ?_
      refine zh_get (pn := 20) rfl dX5_countDue_17 (v := .ref 41) (k := 1) rfl rfl (by decide) (by decide) in_X5 mf_X5_13 rfl ?_
      refine zh_iload_n (pn := 21) rfl dX5_countDue_20 (i := 2) (x := l2) rfl rfl ?_
      refine zh_iald (pn := 22) rfl dX5_countDue_21 rfl h.1 ?_
      replace h := h.2
      refine zh_if_le (pn := 25) rfl dX5_countDue_22 (tgt := 47) rfl (fun cc1 => ?_) (fun cc1 => ?_)
      · replace h := h.1 cc1
        refine zh_iconst (pn := 48) rfl dX5_countDue_47 (v := (zI 0)) rfl ?_
        refine zh_zast (pn := 49) rfl dX5_countDue_48 (x' := (zI 0)) rfl h.1 rfl ?_
        obtain ⟨M1, eM1⟩ : ∃ q : zh_M, q = zh_set M 46 l2.toNatClampNeg (zI 0) := ⟨_, rfl⟩
        replace h := h.2 M1 eM1
        rw [← eM1]
        refine zh_iload_n (pn := 50) rfl dX5_countDue_49 (i := 1) (x := l1) rfl rfl ?_
        refine zh_aload_n (pn := 51) rfl dX5_countDue_50 (i := 0) (v := .ref 39) rfl rfl (Or.inr ⟨_, rfl⟩) ?_
        refine zh_get (pn := 54) rfl dX5_countDue_51 (v := .ref 46) (k := 6) rfl rfl (by decide) (by decide) in_X5 mf_X5_29 rfl ?_
        refine zh_iload_n (pn := 55) rfl dX5_countDue_54 (i := 2) (x := l2) rfl rfl ?_
        refine zh_zald (pn := 56) rfl dX5_countDue_55 rfl h.1 ?_
        replace h := h.2
        refine zh_if_eq (pn := 59) rfl dX5_countDue_56 (tgt := 63) rfl (fun cc1 => ?_) (fun cc1 => ?_)
        · replace h := h.1 cc1
          refine zh_iconst (pn := 64) rfl dX5_countDue_63 (v := (zI 0)) rfl ?_
          refine zh_iadd (pn := 65) rfl dX5_countDue_64 ?_
          refine zh_istore_n (pn := 66) rfl dX5_countDue_65 (i := 1) (lo' := [some (.ref 39), some (.int (l1 + (zI 0))), some (.int l2), w3, w4, w5, w6]) rfl (by decide) rfl ?_
          refine zh_iinc (pn := 69) rfl dX5_countDue_66 (i := 2) (x := l2) (v := l2 + (zI 1)) (lo' := [some (.ref 39), some (.int (l1 + (zI 0))), some (.int (l2 + (zI 1))), w3, w4, w5, w6]) rfl rfl (by decide) rfl ?_
          refine zh_goto dX5_countDue_69 (tgt := 4) rfl ?_
          exact ih _ _ _ _ _ _ _ h
        · replace h := h.2 cc1
          refine zh_iconst (pn := 60) rfl dX5_countDue_59 (v := (zI 1)) rfl ?_
          refine zh_goto dX5_countDue_60 (tgt := 64) rfl ?_
          refine zh_iadd (pn := 65) rfl dX5_countDue_64 ?_
          refine zh_istore_n (pn := 66) rfl dX5_countDue_65 (i := 1) (lo' := [some (.ref 39), some (.int (l1 + (zI 1))), some (.int l2), w3, w4, w5, w6]) rfl (by decide) rfl ?_
          refine zh_iinc (pn := 69) rfl dX5_countDue_66 (i := 2) (x := l2) (v := l2 + (zI 1)) (lo' := [some (.ref 39), some (.int (l1 + (zI 1))), some (.int (l2 + (zI 1))), w3, w4, w5, w6]) rfl rfl (by decide) rfl ?_
          refine zh_goto dX5_countDue_69 (tgt := 4) rfl ?_
          exact ih _ _ _ _ _ _ _ h
      · replace h := h.2 cc1
        refine zh_aload_n (pn := 26) rfl dX5_countDue_25 (i := 0) (v := .ref 39) rfl rfl (Or.inr ⟨_, rfl⟩) ?_
        refine zh_get (pn := 29) rfl dX5_countDue_26 (v := .ref 44) (k := 4) rfl rfl (by decide) (by decide) in_X5 mf_X5_23 rfl ?_
        refine zh_iload_n (pn := 30) rfl dX5_countDue_29 (i := 2) (x := l2) rfl rfl ?_
        refine zh_zald (pn := 31) rfl dX5_countDue_30 rfl h.1 ?_
        replace h := h.2
        refine zh_if_eq (pn := 34) rfl dX5_countDue_31 (tgt := 47) rfl (fun cc1 => ?_) (fun cc1 => ?_)
        · replace h := h.1 cc1
          refine zh_iconst (pn := 48) rfl dX5_countDue_47 (v := (zI 0)) rfl ?_
          refine zh_zast (pn := 49) rfl dX5_countDue_48 (x' := (zI 0)) rfl h.1 rfl ?_
          obtain ⟨M2, eM2⟩ : ∃ q : zh_M, q = zh_set M 46 l2.toNatClampNeg (zI 0) := ⟨_, rfl⟩
          replace h := h.2 M2 eM2
          rw [← eM2]
          refine zh_iload_n (pn := 50) rfl dX5_countDue_49 (i := 1) (x := l1) rfl rfl ?_
          refine zh_aload_n (pn := 51) rfl dX5_countDue_50 (i := 0) (v := .ref 39) rfl rfl (Or.inr ⟨_, rfl⟩) ?_
          refine zh_get (pn := 54) rfl dX5_countDue_51 (v := .ref 46) (k := 6) rfl rfl (by decide) (by decide) in_X5 mf_X5_29 rfl ?_
          refine zh_iload_n (pn := 55) rfl dX5_countDue_54 (i := 2) (x := l2) rfl rfl ?_
          refine zh_zald (pn := 56) rfl dX5_countDue_55 rfl h.1 ?_
          replace h := h.2
          refine zh_if_eq (pn := 59) rfl dX5_countDue_56 (tgt := 63) rfl (fun cc1 => ?_) (fun cc1 => ?_)
          · replace h := h.1 cc1
            refine zh_iconst (pn := 64) rfl dX5_countDue_63 (v := (zI 0)) rfl ?_
            refine zh_iadd (pn := 65) rfl dX5_countDue_64 ?_
            refine zh_istore_n (pn := 66) rfl dX5_countDue_65 (i := 1) (lo' := [some (.ref 39), some (.int (l1 + (zI 0))), some (.int l2), w3, w4, w5, w6]) rfl (by decide) rfl ?_
            refine zh_iinc (pn := 69) rfl dX5_countDue_66 (i := 2) (x := l2) (v := l2 + (zI 1)) (lo' := [some (.ref 39), some (.int (l1 + (zI 0))), some (.int (l2 + (zI 1))), w3, w4, w5, w6]) rfl rfl (by decide) rfl ?_
            refine zh_goto dX5_countDue_69 (tgt := 4) rfl ?_
            exact ih _ _ _ _ _ _ _ h
          · replace h := h.2 cc1
            refine zh_iconst (pn := 60) rfl dX5_countDue_59 (v := (zI 1)) rfl ?_
            refine zh_goto dX5_countDue_60 (tgt := 64) rfl ?_
            refine zh_iadd (pn := 65) rfl dX5_countDue_64 ?_
            refine zh_istore_n (pn := 66) rfl dX5_countDue_65 (i := 1) (lo' := [some (.ref 39), some (.int (l1 + (zI 1))), some (.int l2), w3, w4, w5, w6]) rfl (by decide) rfl ?_
            refine zh_iinc (pn := 69) rfl dX5_countDue_66 (i := 2) (x := l2) (v := l2 + (zI 1)) (lo' := [some (.ref 39), some (.int (l1 + (zI 1))), some (.int (l2 + (zI 1))), w3, w4, w5, w6]) rfl rfl (by decide) rfl ?_
            refine zh_goto dX5_countDue_69 (tgt := 4) rfl ?_
            exact ih _ _ _ _ _ _ _ h
        · replace h := h.2 cc1
          refine zh_aload_n (pn := 35) rfl dX5_countDue_34 (i := 0) (v := .ref 39) rfl rfl (Or.inr ⟨_, rfl⟩) ?_
          refine zh_get (pn := 38) rfl dX5_countDue_35 (v := .ref 43) (k := 3) rfl rfl (by decide) (by decide) in_X5 mf_X5_19 rfl ?_
          refine zh_iload_n (pn := 39) rfl dX5_countDue_38 (i := 2) (x := l2) rfl rfl ?_
          refine zh_zald (pn := 40) rfl dX5_countDue_39 rfl h.1 ?_
          replace h := h.2
          refine zh_if_ne (pn := 43) rfl dX5_countDue_40 (tgt := 47) rfl (fun cc1 => ?_) (fun cc1 => ?_)
          · replace h := h.1 cc1
            refine zh_iconst (pn := 48) rfl dX5_countDue_47 (v := (zI 0)) rfl ?_
            refine zh_zast (pn := 49) rfl dX5_countDue_48 (x' := (zI 0)) rfl h.1 rfl ?_
            obtain ⟨M3, eM3⟩ : ∃ q : zh_M, q = zh_set M 46 l2.toNatClampNeg (zI 0) := ⟨_, rfl⟩
            replace h := h.2 M3 eM3
            rw [← eM3]
            refine zh_iload_n (pn := 50) rfl dX5_countDue_49 (i := 1) (x := l1) rfl rfl ?_
            refine zh_aload_n (pn := 51) rfl dX5_countDue_50 (i := 0) (v := .ref 39) rfl rfl (Or.inr ⟨_, rfl⟩) ?_
            refine zh_get (pn := 54) rfl dX5_countDue_51 (v := .ref 46) (k := 6) rfl rfl (by decide) (by decide) in_X5 mf_X5_29 rfl ?_
            refine zh_iload_n (pn := 55) rfl dX5_countDue_54 (i := 2) (x := l2) rfl rfl ?_
            refine zh_zald (pn := 56) rfl dX5_countDue_55 rfl h.1 ?_
            replace h := h.2
            refine zh_if_eq (pn := 59) rfl dX5_countDue_56 (tgt := 63) rfl (fun cc1 => ?_) (fun cc1 => ?_)
            · replace h := h.1 cc1
              refine zh_iconst (pn := 64) rfl dX5_countDue_63 (v := (zI 0)) rfl ?_
              refine zh_iadd (pn := 65) rfl dX5_countDue_64 ?_
              refine zh_istore_n (pn := 66) rfl dX5_countDue_65 (i := 1) (lo' := [some (.ref 39), some (.int (l1 + (zI 0))), some (.int l2), w3, w4, w5, w6]) rfl (by decide) rfl ?_
              refine zh_iinc (pn := 69) rfl dX5_countDue_66 (i := 2) (x := l2) (v := l2 + (zI 1)) (lo' := [some (.ref 39), some (.int (l1 + (zI 0))), some (.int (l2 + (zI 1))), w3, w4, w5, w6]) rfl rfl (by decide) rfl ?_
              refine zh_goto dX5_countDue_69 (tgt := 4) rfl ?_
              exact ih _ _ _ _ _ _ _ h
            · replace h := h.2 cc1
              refine zh_iconst (pn := 60) rfl dX5_countDue_59 (v := (zI 1)) rfl ?_
              refine zh_goto dX5_countDue_60 (tgt := 64) rfl ?_
              refine zh_iadd (pn := 65) rfl dX5_countDue_64 ?_
              refine zh_istore_n (pn := 66) rfl dX5_countDue_65 (i := 1) (lo' := [some (.ref 39), some (.int (l1 + (zI 1))), some (.int l2), w3, w4, w5, w6]) rfl (by decide) rfl ?_
              refine zh_iinc (pn := 69) rfl dX5_countDue_66 (i := 2) (x := l2) (v := l2 + (zI 1)) (lo' := [some (.ref 39), some (.int (l1 + (zI 1))), some (.int (l2 + (zI 1))), w3, w4, w5, w6]) rfl rfl (by decide) rfl ?_
              refine zh_goto dX5_countDue_69 (tgt := 4) rfl ?_
              exact ih _ _ _ _ _ _ _ h
          · replace h := h.2 cc1
            refine zh_iconst (pn := 44) rfl dX5_countDue_43 (v := (zI 1)) rfl ?_
            refine zh_goto dX5_countDue_44 (tgt := 48) rfl ?_
            refine zh_zast (pn := 49) rfl dX5_countDue_48 (x' := (zI 1)) rfl h.1 rfl ?_
            obtain ⟨M4, eM4⟩ : ∃ q : zh_M, q = zh_set M 46 l2.toNatClampNeg (zI 1) := ⟨_, rfl⟩
            replace h := h.2 M4 eM4
            rw [← eM4]
            refine zh_iload_n (pn := 50) rfl dX5_countDue_49 (i := 1) (x := l1) rfl rfl ?_
            refine zh_aload_n (pn := 51) rfl dX5_countDue_50 (i := 0) (v := .ref 39) rfl rfl (Or.inr ⟨_, rfl⟩) ?_
            refine zh_get (pn := 54) rfl dX5_countDue_51 (v := .ref 46) (k := 6) rfl rfl (by decide) (by decide) in_X5 mf_X5_29 rfl ?_
            refine zh_iload_n (pn := 55) rfl dX5_countDue_54 (i := 2) (x := l2) rfl rfl ?_
            refine zh_zald (pn := 56) rfl dX5_countDue_55 rfl h.1 ?_
            replace h := h.2
            refine zh_if_eq (pn := 59) rfl dX5_countDue_56 (tgt := 63) rfl (fun cc1 => ?_) (fun cc1 => ?_)
            · replace h := h.1 cc1
              refine zh_iconst (pn := 64) rfl dX5_countDue_63 (v := (zI 0)) rfl ?_
              refine zh_iadd (pn := 65) rfl dX5_countDue_64 ?_
              refine zh_istore_n (pn := 66) rfl dX5_countDue_65 (i := 1) (lo' := [some (.ref 39), some (.int (l1 + (zI 0))), some (.int l2), w3, w4, w5, w6]) rfl (by decide) rfl ?_
              refine zh_iinc (pn := 69) rfl dX5_countDue_66 (i := 2) (x := l2) (v := l2 + (zI 1)) (lo' := [some (.ref 39), some (.int (l1 + (zI 0))), some (.int (l2 + (zI 1))), w3, w4, w5, w6]) rfl rfl (by decide) rfl ?_
              refine zh_goto dX5_countDue_69 (tgt := 4) rfl ?_
              exact ih _ _ _ _ _ _ _ h
            · replace h := h.2 cc1
              refine zh_iconst (pn := 60) rfl dX5_countDue_59 (v := (zI 1)) rfl ?_
              refine zh_goto dX5_countDue_60 (tgt := 64) rfl ?_
              refine zh_iadd (pn := 65) rfl dX5_countDue_64 ?_
              refine zh_istore_n (pn := 66) rfl dX5_countDue_65 (i := 1) (lo' := [some (.ref 39), some (.int (l1 + (zI 1))), some (.int l2), w3, w4, w5, w6]) rfl (by decide) rfl ?_
              refine zh_iinc (pn := 69) rfl dX5_countDue_66 (i := 2) (x := l2) (v := l2 + (zI 1)) (lo' := [some (.ref 39), some (.int (l1 + (zI 1))), some (.int (l2 + (zI 1))), w3, w4, w5, w6]) rfl rfl (by decide) rfl ?_
              refine zh_goto dX5_countDue_69 (tgt := 4) rfl ?_
              exact ih _ _ _ _ _ _ _ h
set_option maxRecDepth 100000 in
set_option maxHeartbeats 4000000 in
theorem wkl_X5_countDue_104 {X : Nat × (Nat → Int32)} {d : Nat} {P : Int32 → zh_M → Prop} {l2 : Int32} {l3 : Int32} {l4 : Int32} {K181 : Int32 → zh_M → Prop} (hK181 : ∀ (l1 : Int32) (M : zh_M) (w5 : Option Value) (w6 : Option Value), K181 l1 M → zh_W X (d + 0) yX5_countDue cX5_countDue 7 (some .int) 181 [some (.ref 39), some (.int l1), some (.int l2), some (.int l3), some (.int l4), w5, w6] [] zh_LL M 0 0 (zh_pi P)) : ∀ (n : Nat) (l1 : Int32) (l5 : Int32) (M : zh_M) (w6 : Option Value), wl_X5_countDue_104 l2 l3 l4 K181 P n l1 l5 M → zh_W X (d + 0) yX5_countDue cX5_countDue 7 (some .int) 104 [some (.ref 39), some (.int l1), some (.int l2), some (.int l3), some (.int l4), some (.int l5), w6] [] zh_LL M 0 0 (zh_pi P) := by
  intro n
  induction n with
  | zero => intro l1 l5 M w6 h; exact h.elim
  | succ n ih =>
    intro l1 l5 M w6 h
    unfold wl_X5_countDue_104 at h
    refine zh_iload (pn := 106) rfl dX5_countDue_104 (i := 5) (x := l5) rfl ?_
    refine zh_aload_n (pn := 107) rfl dX5_countDue_106 (i := 0) (v := .ref 39) rfl rfl (Or.inr ⟨_, rfl⟩) ?_
    refine zh_get (pn := 110) rfl dX5_countDue_107 (v := .ref 42) (k := 2) rfl rfl (by decide) (by decide) in_X5 mf_X5_16 rfl ?_
    refine zh_iload (pn := 112) rfl dX5_countDue_110 (i := 4) (x := l4) rfl ?_
    refine zh_iald (pn := 113) rfl dX5_countDue_112 rfl h.1 ?_
    replace h := h.2
    refine zh_icmp_ge (pn := 116) rfl dX5_countDue_113 (tgt := 181) rfl (fun cc1 => ?_) (fun cc1 => ?_)
    · replace h := h.1 cc1
      exact hK181 _ _ _ _ h
    · replace h := h.2 cc1
      refine zh_aload_n (pn := 117) rfl dX5_countDue_116 (i := 0) (v := .ref 39) rfl rfl (Or.inr ⟨_, rfl⟩) ?_
      refine zh_get (pn := 120) rfl dX5_countDue_117 (v := .ref 46) (k := 6) rfl rfl (by decide) (by decide) in_X5 mf_X5_29 rfl ?_
      refine zh_iload (pn := 122) rfl dX5_countDue_120 (i := 4) (x := l4) rfl ?_
      refine zh_zald (pn := 123) rfl dX5_countDue_122 rfl h.1 ?_
      replace h := h.2
      refine zh_if_eq (pn := 126) rfl dX5_countDue_123 (tgt := 181) rfl (fun cc1 => ?_) (fun cc1 => ?_)
      · replace h := h.1 cc1
        exact hK181 _ _ _ _ h
      · replace h := h.2 cc1
        refine zh_aload_n (pn := 127) rfl dX5_countDue_126 (i := 0) (v := .ref 39) rfl rfl (Or.inr ⟨_, rfl⟩) ?_
        refine zh_get (pn := 130) rfl dX5_countDue_127 (v := .ref 40) (k := 0) rfl rfl (by decide) (by decide) in_X5 mf_X5_7 rfl ?_
        refine zh_iload (pn := 132) rfl dX5_countDue_130 (i := 4) (x := l4) rfl ?_
        refine zh_iload (pn := 134) rfl dX5_countDue_132 (i := 5) (x := l5) rfl ?_
        refine zh_iadd (pn := 135) rfl dX5_countDue_134 ?_
        refine zh_iald (pn := 136) rfl dX5_countDue_135 rfl h.1 ?_
        replace h := h.2
        refine zh_istore (pn := 138) rfl dX5_countDue_136 (i := 6) (lo' := [some (.ref 39), some (.int l1), some (.int l2), some (.int l3), some (.int l4), some (.int l5), some (.int (M 40 (l4 + l5).toNatClampNeg))]) (by decide) rfl ?_
        refine zh_iload (pn := 140) rfl dX5_countDue_138 (i := 6) (x := M 40 (l4 + l5).toNatClampNeg) rfl ?_
        refine zh_iconst (pn := 141) rfl dX5_countDue_140 (v := (zI (-1))) rfl ?_
        refine zh_icmp_eq (pn := 144) rfl dX5_countDue_141 (tgt := 175) rfl (fun cc1 => ?_) (fun cc1 => ?_)
        · replace h := h.1 cc1
          refine zh_iinc (pn := 178) rfl dX5_countDue_175 (i := 5) (x := l5) (v := l5 + (zI 1)) (lo' := [some (.ref 39), some (.int l1), some (.int l2), some (.int l3), some (.int l4), some (.int (l5 + (zI 1))), some (.int (M 40 (l4 + l5).toNatClampNeg))]) rfl rfl (by decide) rfl ?_
          refine zh_goto dX5_countDue_178 (tgt := 104) rfl ?_
          exact ih _ _ _ _ h
        · replace h := h.2 cc1
          refine zh_aload_n (pn := 145) rfl dX5_countDue_144 (i := 0) (v := .ref 39) rfl rfl (Or.inr ⟨_, rfl⟩) ?_
          refine zh_get (pn := 148) rfl dX5_countDue_145 (v := .ref 46) (k := 6) rfl rfl (by decide) (by decide) in_X5 mf_X5_29 rfl ?_
          refine zh_iload (pn := 150) rfl dX5_countDue_148 (i := 6) (x := M 40 (l4 + l5).toNatClampNeg) rfl ?_
          refine zh_zald (pn := 151) rfl dX5_countDue_150 rfl h.1 ?_
          replace h := h.2
          refine zh_if_ne (pn := 154) rfl dX5_countDue_151 (tgt := 175) rfl (fun cc1 => ?_) (fun cc1 => ?_)
          · replace h := h.1 cc1
            refine zh_iinc (pn := 178) rfl dX5_countDue_175 (i := 5) (x := l5) (v := l5 + (zI 1)) (lo' := [some (.ref 39), some (.int l1), some (.int l2), some (.int l3), some (.int l4), some (.int (l5 + (zI 1))), some (.int (M 40 (l4 + l5).toNatClampNeg))]) rfl rfl (by decide) rfl ?_
            refine zh_goto dX5_countDue_178 (tgt := 104) rfl ?_
            exact ih _ _ _ _ h
          · replace h := h.2 cc1
            refine zh_aload_n (pn := 155) rfl dX5_countDue_154 (i := 0) (v := .ref 39) rfl rfl (Or.inr ⟨_, rfl⟩) ?_
            refine zh_get (pn := 158) rfl dX5_countDue_155 (v := .ref 43) (k := 3) rfl rfl (by decide) (by decide) in_X5 mf_X5_19 rfl ?_
            refine zh_iload (pn := 160) rfl dX5_countDue_158 (i := 6) (x := M 40 (l4 + l5).toNatClampNeg) rfl ?_
            refine zh_zald (pn := 161) rfl dX5_countDue_160 rfl h.1 ?_
            replace h := h.2
            refine zh_if_ne (pn := 164) rfl dX5_countDue_161 (tgt := 175) rfl (fun cc1 => ?_) (fun cc1 => ?_)
            · replace h := h.1 cc1
              refine zh_iinc (pn := 178) rfl dX5_countDue_175 (i := 5) (x := l5) (v := l5 + (zI 1)) (lo' := [some (.ref 39), some (.int l1), some (.int l2), some (.int l3), some (.int l4), some (.int (l5 + (zI 1))), some (.int (M 40 (l4 + l5).toNatClampNeg))]) rfl rfl (by decide) rfl ?_
              refine zh_goto dX5_countDue_178 (tgt := 104) rfl ?_
              exact ih _ _ _ _ h
            · replace h := h.2 cc1
              refine zh_aload_n (pn := 165) rfl dX5_countDue_164 (i := 0) (v := .ref 39) rfl rfl (Or.inr ⟨_, rfl⟩) ?_
              refine zh_get (pn := 168) rfl dX5_countDue_165 (v := .ref 46) (k := 6) rfl rfl (by decide) (by decide) in_X5 mf_X5_29 rfl ?_
              refine zh_iload (pn := 170) rfl dX5_countDue_168 (i := 6) (x := M 40 (l4 + l5).toNatClampNeg) rfl ?_
              refine zh_iconst (pn := 171) rfl dX5_countDue_170 (v := (zI 1)) rfl ?_
              refine zh_zast (pn := 172) rfl dX5_countDue_171 (x' := (zI 1)) rfl h.1 rfl ?_
              obtain ⟨M12, eM12⟩ : ∃ q : zh_M, q = zh_set M 46 (M 40 (l4 + l5).toNatClampNeg).toNatClampNeg (zI 1) := ⟨_, rfl⟩
              replace h := h.2 M12 eM12
              rw [← eM12]
              refine zh_iinc (pn := 175) rfl dX5_countDue_172 (i := 1) (x := l1) (v := l1 + (zI 1)) (lo' := [some (.ref 39), some (.int (l1 + (zI 1))), some (.int l2), some (.int l3), some (.int l4), some (.int l5), some (.int (M 40 (l4 + l5).toNatClampNeg))]) rfl rfl (by decide) rfl ?_
              refine zh_iinc (pn := 178) rfl dX5_countDue_175 (i := 5) (x := l5) (v := l5 + (zI 1)) (lo' := [some (.ref 39), some (.int (l1 + (zI 1))), some (.int l2), some (.int l3), some (.int l4), some (.int (l5 + (zI 1))), some (.int (M 40 (l4 + l5).toNatClampNeg))]) rfl rfl (by decide) rfl ?_
              refine zh_goto dX5_countDue_178 (tgt := 104) rfl ?_
              exact ih _ _ _ _ h
set_option maxRecDepth 100000 in
set_option maxHeartbeats 4000000 in
theorem wkl_X5_countDue_93 {X : Nat × (Nat → Int32)} {d : Nat} {P : Int32 → zh_M → Prop} {l2 : Int32} {l3 : Int32} {K187 : Int32 → zh_M → Prop} (hK187 : ∀ (l1 : Int32) (M : zh_M) (w4 : Option Value) (w5 : Option Value) (w6 : Option Value), K187 l1 M → zh_W X (d + 0) yX5_countDue cX5_countDue 7 (some .int) 187 [some (.ref 39), some (.int l1), some (.int l2), some (.int l3), w4, w5, w6] [] zh_LL M 0 0 (zh_pi P)) : ∀ (n : Nat) (l1 : Int32) (l4 : Int32) (M : zh_M) (w5 : Option Value) (w6 : Option Value), wl_X5_countDue_93 l2 l3 K187 P n l1 l4 M → zh_W X (d + 0) yX5_countDue cX5_countDue 7 (some .int) 93 [some (.ref 39), some (.int l1), some (.int l2), some (.int l3), some (.int l4), w5, w6] [] zh_LL M 0 0 (zh_pi P) := by
  intro n
  induction n with
  | zero => intro l1 l4 M w5 w6 h; exact h.elim
  | succ n ih =>
    intro l1 l4 M w5 w6 h
    unfold wl_X5_countDue_93 at h
    refine zh_iload (pn := 95) rfl dX5_countDue_93 (i := 4) (x := l4) rfl ?_
    refine zh_sipush (pn := 98) rfl dX5_countDue_95 (v := (zI 256)) rfl ?_
    refine zh_icmp_ge (pn := 101) rfl dX5_countDue_98 (tgt := 187) rfl (fun cc1 => ?_) (fun cc1 => ?_)
    · replace h := h.1 cc1
      exact hK187 _ _ _ _ _ h
    · replace h := h.2 cc1
      refine zh_iconst (pn := 102) rfl dX5_countDue_101 (v := (zI 0)) rfl ?_
      refine zh_istore (pn := 104) rfl dX5_countDue_102 (i := 5) (lo' := [some (.ref 39), some (.int l1), some (.int l2), some (.int l3), some (.int l4), some (.int (zI 0)), w6]) (by decide) rfl ?_
      obtain ⟨n17, h⟩ := h
      refine wkl_X5_countDue_104 (fun v1_13 M14 w5_15 w6_16 h => ?_) n17 _ _ _ _ h
      refine zh_iinc (pn := 184) rfl dX5_countDue_181 (i := 4) (x := l4) (v := l4 + (zI 1)) (lo' := [some (.ref 39), some (.int v1_13), some (.int l2), some (.int l3), some (.int (l4 + (zI 1))), w5_15, w6_16]) rfl rfl (by decide) rfl ?_
      refine zh_goto dX5_countDue_184 (tgt := 93) rfl ?_
      exact ih _ _ _ _ _ h
set_option maxRecDepth 100000 in
set_option maxHeartbeats 4000000 in
theorem wkl_X5_countDue_76 {X : Nat × (Nat → Int32)} {d : Nat} {P : Int32 → zh_M → Prop} : ∀ (n : Nat) (l1 : Int32) (l2 : Int32) (l3 : Int32) (M : zh_M) (w4 : Option Value) (w5 : Option Value) (w6 : Option Value), wl_X5_countDue_76 P n l1 l2 l3 M → zh_W X (d + 0) yX5_countDue cX5_countDue 7 (some .int) 76 [some (.ref 39), some (.int l1), some (.int l2), some (.int l3), w4, w5, w6] [] zh_LL M 0 0 (zh_pi P) := by
  intro n
  induction n with
  | zero => intro l1 l2 l3 M w4 w5 w6 h; exact h.elim
  | succ n ih =>
    intro l1 l2 l3 M w4 w5 w6 h
    unfold wl_X5_countDue_76 at h
    refine zh_iload_n (pn := 77) rfl dX5_countDue_76 (i := 3) (x := l3) rfl rfl ?_
    refine zh_sipush (pn := 80) rfl dX5_countDue_77 (v := (zI 1000)) rfl ?_
    refine zh_icmp_ge (pn := 83) rfl dX5_countDue_80 (tgt := 193) rfl (fun cc1 => ?_) (fun cc1 => ?_)
    · replace h := h.1 cc1
      refine zh_iload_n (pn := 194) rfl dX5_countDue_193 (i := 1) (x := l1) rfl rfl ?_
      exact zh_iret dX5_countDue_194 rfl rfl ⟨_, rfl, rfl, h⟩
    · replace h := h.2 cc1
      refine zh_iload_n (pn := 84) rfl dX5_countDue_83 (i := 1) (x := l1) rfl rfl ?_
      refine zh_iload_n (pn := 85) rfl dX5_countDue_84 (i := 2) (x := l2) rfl rfl ?_
      refine zh_icmp_le (pn := 88) rfl dX5_countDue_85 (tgt := 193) rfl (fun cc1 => ?_) (fun cc1 => ?_)
      · replace h := h.1 cc1
        refine zh_iload_n (pn := 194) rfl dX5_countDue_193 (i := 1) (x := l1) rfl rfl ?_
        exact zh_iret dX5_countDue_194 rfl rfl ⟨_, rfl, rfl, h⟩
      · replace h := h.2 cc1
        refine zh_iload_n (pn := 89) rfl dX5_countDue_88 (i := 1) (x := l1) rfl rfl ?_
        refine zh_istore_n (pn := 90) rfl dX5_countDue_89 (i := 2) (lo' := [some (.ref 39), some (.int l1), some (.int l1), some (.int l3), w4, w5, w6]) rfl (by decide) rfl ?_
        refine zh_iconst (pn := 91) rfl dX5_countDue_90 (v := (zI 0)) rfl ?_
        refine zh_istore (pn := 93) rfl dX5_countDue_91 (i := 4) (lo' := [some (.ref 39), some (.int l1), some (.int l1), some (.int l3), some (.int (zI 0)), w5, w6]) (by decide) rfl ?_
        obtain ⟨n23, h⟩ := h
        refine wkl_X5_countDue_93 (fun v1_18 M19 w4_20 w5_21 w6_22 h => ?_) n23 _ _ _ _ _ h
        refine zh_iinc (pn := 190) rfl dX5_countDue_187 (i := 3) (x := l3) (v := l3 + (zI 1)) (lo' := [some (.ref 39), some (.int v1_18), some (.int l1), some (.int (l3 + (zI 1))), w4_20, w5_21, w6_22]) rfl rfl (by decide) rfl ?_
        refine zh_goto dX5_countDue_190 (tgt := 76) rfl ?_
        exact ih _ _ _ _ _ _ _ h
set_option maxRecDepth 100000 in
set_option maxHeartbeats 4000000 in
theorem wk_X5_countDue {X : Nat × (Nat → Int32)} {d : Nat} {M : zh_M} {P : Int32 → zh_M → Prop} (h : wp_X5_countDue M P) : zh_W X (d + 0) yX5_countDue cX5_countDue 7 (some .int) 0 (zh_en [.ref 39] 7) [] zh_LL M 0 0 (zh_pi P) := by
  unfold wp_X5_countDue at h
  show zh_W X (d + 0) yX5_countDue cX5_countDue 7 (some .int) 0 [some (.ref 39), none, none, none, none, none, none] [] zh_LL M 0 0 (zh_pi P)
  refine zh_iconst (pn := 1) rfl dX5_countDue_0 (v := (zI 0)) rfl ?_
  refine zh_istore_n (pn := 2) rfl dX5_countDue_1 (i := 1) (lo' := [some (.ref 39), some (.int (zI 0)), none, none, none, none, none]) rfl (by decide) rfl ?_
  refine zh_iconst (pn := 3) rfl dX5_countDue_2 (v := (zI 0)) rfl ?_
  refine zh_istore_n (pn := 4) rfl dX5_countDue_3 (i := 2) (lo' := [some (.ref 39), some (.int (zI 0)), some (.int (zI 0)), none, none, none, none]) rfl (by decide) rfl ?_
  obtain ⟨n25, h⟩ := h
  refine wkl_X5_countDue_4 (fun v1_5 M6 w2_7 w3_8 w4_9 w5_10 w6_11 h => ?_) n25 _ _ _ _ _ _ _ h
  refine zh_iconst (pn := 73) rfl dX5_countDue_72 (v := (zI (-1))) rfl ?_
  refine zh_istore_n (pn := 74) rfl dX5_countDue_73 (i := 2) (lo' := [some (.ref 39), some (.int v1_5), some (.int (zI (-1))), w3_8, w4_9, w5_10, w6_11]) rfl (by decide) rfl ?_
  refine zh_iconst (pn := 75) rfl dX5_countDue_74 (v := (zI 0)) rfl ?_
  refine zh_istore_n (pn := 76) rfl dX5_countDue_75 (i := 3) (lo' := [some (.ref 39), some (.int v1_5), some (.int (zI (-1))), some (.int (zI 0)), w4_9, w5_10, w6_11]) rfl (by decide) rfl ?_
  obtain ⟨n24, h⟩ := h
  refine wkl_X5_countDue_76 n24 _ _ _ _ _ _ _ h
set_option maxRecDepth 100000 in
theorem ca_X5_countDue {X : Nat × (Nat → Int32)} {d : Nat} {y : MethodName} {cc : ByteArray} {nL : Nat} {rt : Option FieldType} {pc pn idx : Nat} {lo : List (Option Value)} {st : List Value} {M : zh_M} {P : Option Value → List zh_LC → zh_M → Prop} {K : Int32 → zh_M → Prop} (hp : pc + 3 = pn) (hd : decode cc pc = .ok (.invokevirtual idx, 3)) (m1 : Cond.methodLink y.cls idx yX5_countDue ∈ zh_WS) (hsc : ∀ base b, ((st.map (zh_tr base b)).map fun v => v.category).sum ≤ 8) (h : wp_X5_countDue M K) (kk : ∀ r M1, K r M1 → zh_W X (d + 1) y cc nL rt pn lo (.int r :: st) zh_LL M1 0 0 P) : zh_W X (d + 1) y cc nL rt pc lo (.ref 39 :: st) zh_LL M 0 0 P := by
  refine zh_callV (bc := 0) (bs := 0) (bc' := 0) (bs' := 0) (as := []) (st := st) hp hd rfl (by decide) rfl rfl m1 me_X5_countDue.1 me_X5_countDue.2.1 me_X5_countDue.2.2.1 me_X5_countDue.2.2.2 ⟨by decide, by decide, by decide⟩ (by show _ = some 0; decide +kernel) (fun v hv => by cases hv) hsc (Nat.le_of_ble_eq_true rfl) (by decide) (wk_X5_countDue  h) (fun r L' M' q => ?_) (fun r L' M' q => ?_)
  · obtain ⟨v, -, rfl, q⟩ := q; rfl
  · obtain ⟨v, rfl, rfl, q⟩ := q; exact kk v M' q
set_option maxRecDepth 100000 in
set_option maxHeartbeats 4000000 in
theorem wkl_X5_finish_9 {X : Nat × (Nat → Int32)} {d : Nat} {P : zh_M → Prop} {K86 : Int32 → zh_M → Prop} (hK86 : ∀ (l1 : Int32) (M : zh_M) (w2 : Option Value), K86 l1 M → zh_W X (d + 1) yX5_finish cX5_finish 3 none 86 [some (.ref 39), some (.int l1), w2] [] zh_LL M 0 0 (zh_pv P)) : ∀ (n : Nat) (l1 : Int32) (l2 : Int32) (M : zh_M) , wl_X5_finish_9 K86 P n l1 l2 M → zh_W X (d + 1) yX5_finish cX5_finish 3 none 9 [some (.ref 39), some (.int l1), some (.int l2)] [] zh_LL M 0 0 (zh_pv P) := by
  intro n
  induction n with
  | zero => intro l1 l2 M  h; exact h.elim
  | succ n ih =>
    intro l1 l2 M  h
    unfold wl_X5_finish_9 at h
    refine zh_iload_n (pn := 10) rfl dX5_finish_9 (i := 2) (x := l2) rfl rfl ?_
    refine zh_sipush (pn := 13) rfl dX5_finish_10 (v := (zI 256)) rfl ?_
    refine zh_icmp_ge (pn := 16) rfl dX5_finish_13 (tgt := 86) rfl (fun cc1 => ?_) (fun cc1 => ?_)
    · replace h := h.1 cc1
      exact hK86 _ _ _ h
    · replace h := h.2 cc1
      refine zh_aload_n (pn := 17) rfl dX5_finish_16 (i := 0) (v := .ref 39) rfl rfl (Or.inr ⟨_, rfl⟩) ?_
      refine zh_get (pn := 20) rfl dX5_finish_17 (v := .ref 45) (k := 5) rfl rfl (by decide) (by decide) in_X5 mf_X5_26 rfl ?_
      refine zh_iload_n (pn := 21) rfl dX5_finish_20 (i := 2) (x := l2) rfl rfl ?_
      refine zh_aload_n (pn := 22) rfl dX5_finish_21 (i := 0) (v := .ref 39) rfl rfl (Or.inr ⟨_, rfl⟩) ?_
      refine zh_get (pn := 25) rfl dX5_finish_22 (v := .ref 41) (k := 1) rfl rfl (by decide) (by decide) in_X5 mf_X5_13 rfl ?_
      refine zh_iload_n (pn := 26) rfl dX5_finish_25 (i := 2) (x := l2) rfl rfl ?_
      refine zh_iald (pn := 27) rfl dX5_finish_26 rfl h.1 ?_
      replace h := h.2
      refine zh_if_le (pn := 30) rfl dX5_finish_27 (tgt := 52) rfl (fun cc1 => ?_) (fun cc1 => ?_)
      · replace h := h.1 cc1
        refine zh_iconst (pn := 53) rfl dX5_finish_52 (v := (zI 0)) rfl ?_
        refine zh_zast (pn := 54) rfl dX5_finish_53 (x' := (zI 0)) rfl h.1 rfl ?_
        obtain ⟨M2, eM2⟩ : ∃ q : zh_M, q = zh_set M 45 l2.toNatClampNeg (zI 0) := ⟨_, rfl⟩
        replace h := h.2 M2 eM2
        rw [← eM2]
        refine zh_iload_n (pn := 55) rfl dX5_finish_54 (i := 1) (x := l1) rfl rfl ?_
        refine zh_aload_n (pn := 56) rfl dX5_finish_55 (i := 0) (v := .ref 39) rfl rfl (Or.inr ⟨_, rfl⟩) ?_
        refine zh_get (pn := 59) rfl dX5_finish_56 (v := .ref 45) (k := 5) rfl rfl (by decide) (by decide) in_X5 mf_X5_26 rfl ?_
        refine zh_iload_n (pn := 60) rfl dX5_finish_59 (i := 2) (x := l2) rfl rfl ?_
        refine zh_zald (pn := 61) rfl dX5_finish_60 rfl h.1 ?_
        replace h := h.2
        refine zh_if_eq (pn := 64) rfl dX5_finish_61 (tgt := 77) rfl (fun cc1 => ?_) (fun cc1 => ?_)
        · replace h := h.1 cc1
          refine zh_iconst (pn := 78) rfl dX5_finish_77 (v := (zI 0)) rfl ?_
          refine zh_iadd (pn := 79) rfl dX5_finish_78 ?_
          refine zh_istore_n (pn := 80) rfl dX5_finish_79 (i := 1) (lo' := [some (.ref 39), some (.int (l1 + (zI 0))), some (.int l2)]) rfl (by decide) rfl ?_
          refine zh_iinc (pn := 83) rfl dX5_finish_80 (i := 2) (x := l2) (v := l2 + (zI 1)) (lo' := [some (.ref 39), some (.int (l1 + (zI 0))), some (.int (l2 + (zI 1)))]) rfl rfl (by decide) rfl ?_
          refine zh_goto dX5_finish_83 (tgt := 9) rfl ?_
          exact ih _ _ _ h
        · replace h := h.2 cc1
          refine zh_aload_n (pn := 65) rfl dX5_finish_64 (i := 0) (v := .ref 39) rfl rfl (Or.inr ⟨_, rfl⟩) ?_
          refine zh_aload_n (pn := 66) rfl dX5_finish_65 (i := 0) (v := .ref 39) rfl rfl (Or.inr ⟨_, rfl⟩) ?_
          refine zh_get (pn := 69) rfl dX5_finish_66 (v := .ref 41) (k := 1) rfl rfl (by decide) (by decide) in_X5 mf_X5_13 rfl ?_
          refine zh_iload_n (pn := 70) rfl dX5_finish_69 (i := 2) (x := l2) rfl rfl ?_
          refine zh_iald (pn := 71) rfl dX5_finish_70 rfl h.1 ?_
          replace h := h.2
          refine ca_X5_slotOf (pn := 74) rfl dX5_finish_71 mc_X5_121 (fun _ _ => Nat.le_of_ble_eq_true rfl) h (fun r4 M3 h => ?_)
          refine zh_goto dX5_finish_74 (tgt := 78) rfl ?_
          refine zh_iadd (pn := 79) rfl dX5_finish_78 ?_
          refine zh_istore_n (pn := 80) rfl dX5_finish_79 (i := 1) (lo' := [some (.ref 39), some (.int (l1 + r4)), some (.int l2)]) rfl (by decide) rfl ?_
          refine zh_iinc (pn := 83) rfl dX5_finish_80 (i := 2) (x := l2) (v := l2 + (zI 1)) (lo' := [some (.ref 39), some (.int (l1 + r4)), some (.int (l2 + (zI 1)))]) rfl rfl (by decide) rfl ?_
          refine zh_goto dX5_finish_83 (tgt := 9) rfl ?_
          exact ih _ _ _ h
      · replace h := h.2 cc1
        refine zh_aload_n (pn := 31) rfl dX5_finish_30 (i := 0) (v := .ref 39) rfl rfl (Or.inr ⟨_, rfl⟩) ?_
        refine zh_get (pn := 34) rfl dX5_finish_31 (v := .ref 43) (k := 3) rfl rfl (by decide) (by decide) in_X5 mf_X5_19 rfl ?_
        refine zh_iload_n (pn := 35) rfl dX5_finish_34 (i := 2) (x := l2) rfl rfl ?_
        refine zh_zald (pn := 36) rfl dX5_finish_35 rfl h.1 ?_
        replace h := h.2
        refine zh_if_ne (pn := 39) rfl dX5_finish_36 (tgt := 48) rfl (fun cc1 => ?_) (fun cc1 => ?_)
        · replace h := h.1 cc1
          refine zh_iconst (pn := 49) rfl dX5_finish_48 (v := (zI 1)) rfl ?_
          refine zh_goto dX5_finish_49 (tgt := 53) rfl ?_
          refine zh_zast (pn := 54) rfl dX5_finish_53 (x' := (zI 1)) rfl h.1 rfl ?_
          obtain ⟨M5, eM5⟩ : ∃ q : zh_M, q = zh_set M 45 l2.toNatClampNeg (zI 1) := ⟨_, rfl⟩
          replace h := h.2 M5 eM5
          rw [← eM5]
          refine zh_iload_n (pn := 55) rfl dX5_finish_54 (i := 1) (x := l1) rfl rfl ?_
          refine zh_aload_n (pn := 56) rfl dX5_finish_55 (i := 0) (v := .ref 39) rfl rfl (Or.inr ⟨_, rfl⟩) ?_
          refine zh_get (pn := 59) rfl dX5_finish_56 (v := .ref 45) (k := 5) rfl rfl (by decide) (by decide) in_X5 mf_X5_26 rfl ?_
          refine zh_iload_n (pn := 60) rfl dX5_finish_59 (i := 2) (x := l2) rfl rfl ?_
          refine zh_zald (pn := 61) rfl dX5_finish_60 rfl h.1 ?_
          replace h := h.2
          refine zh_if_eq (pn := 64) rfl dX5_finish_61 (tgt := 77) rfl (fun cc1 => ?_) (fun cc1 => ?_)
          · replace h := h.1 cc1
            refine zh_iconst (pn := 78) rfl dX5_finish_77 (v := (zI 0)) rfl ?_
            refine zh_iadd (pn := 79) rfl dX5_finish_78 ?_
            refine zh_istore_n (pn := 80) rfl dX5_finish_79 (i := 1) (lo' := [some (.ref 39), some (.int (l1 + (zI 0))), some (.int l2)]) rfl (by decide) rfl ?_
            refine zh_iinc (pn := 83) rfl dX5_finish_80 (i := 2) (x := l2) (v := l2 + (zI 1)) (lo' := [some (.ref 39), some (.int (l1 + (zI 0))), some (.int (l2 + (zI 1)))]) rfl rfl (by decide) rfl ?_
            refine zh_goto dX5_finish_83 (tgt := 9) rfl ?_
            exact ih _ _ _ h
          · replace h := h.2 cc1
            refine zh_aload_n (pn := 65) rfl dX5_finish_64 (i := 0) (v := .ref 39) rfl rfl (Or.inr ⟨_, rfl⟩) ?_
            refine zh_aload_n (pn := 66) rfl dX5_finish_65 (i := 0) (v := .ref 39) rfl rfl (Or.inr ⟨_, rfl⟩) ?_
            refine zh_get (pn := 69) rfl dX5_finish_66 (v := .ref 41) (k := 1) rfl rfl (by decide) (by decide) in_X5 mf_X5_13 rfl ?_
            refine zh_iload_n (pn := 70) rfl dX5_finish_69 (i := 2) (x := l2) rfl rfl ?_
            refine zh_iald (pn := 71) rfl dX5_finish_70 rfl h.1 ?_
            replace h := h.2
            refine ca_X5_slotOf (pn := 74) rfl dX5_finish_71 mc_X5_121 (fun _ _ => Nat.le_of_ble_eq_true rfl) h (fun r7 M6 h => ?_)
            refine zh_goto dX5_finish_74 (tgt := 78) rfl ?_
            refine zh_iadd (pn := 79) rfl dX5_finish_78 ?_
            refine zh_istore_n (pn := 80) rfl dX5_finish_79 (i := 1) (lo' := [some (.ref 39), some (.int (l1 + r7)), some (.int l2)]) rfl (by decide) rfl ?_
            refine zh_iinc (pn := 83) rfl dX5_finish_80 (i := 2) (x := l2) (v := l2 + (zI 1)) (lo' := [some (.ref 39), some (.int (l1 + r7)), some (.int (l2 + (zI 1)))]) rfl rfl (by decide) rfl ?_
            refine zh_goto dX5_finish_83 (tgt := 9) rfl ?_
            exact ih _ _ _ h
        · replace h := h.2 cc1
          refine zh_aload_n (pn := 40) rfl dX5_finish_39 (i := 0) (v := .ref 39) rfl rfl (Or.inr ⟨_, rfl⟩) ?_
          refine zh_get (pn := 43) rfl dX5_finish_40 (v := .ref 46) (k := 6) rfl rfl (by decide) (by decide) in_X5 mf_X5_29 rfl ?_
          refine zh_iload_n (pn := 44) rfl dX5_finish_43 (i := 2) (x := l2) rfl rfl ?_
          refine zh_zald (pn := 45) rfl dX5_finish_44 rfl h.1 ?_
          replace h := h.2
          refine zh_if_eq (pn := 48) rfl dX5_finish_45 (tgt := 52) rfl (fun cc1 => ?_) (fun cc1 => ?_)
          · replace h := h.1 cc1
            refine zh_iconst (pn := 53) rfl dX5_finish_52 (v := (zI 0)) rfl ?_
            refine zh_zast (pn := 54) rfl dX5_finish_53 (x' := (zI 0)) rfl h.1 rfl ?_
            obtain ⟨M8, eM8⟩ : ∃ q : zh_M, q = zh_set M 45 l2.toNatClampNeg (zI 0) := ⟨_, rfl⟩
            replace h := h.2 M8 eM8
            rw [← eM8]
            refine zh_iload_n (pn := 55) rfl dX5_finish_54 (i := 1) (x := l1) rfl rfl ?_
            refine zh_aload_n (pn := 56) rfl dX5_finish_55 (i := 0) (v := .ref 39) rfl rfl (Or.inr ⟨_, rfl⟩) ?_
            refine zh_get (pn := 59) rfl dX5_finish_56 (v := .ref 45) (k := 5) rfl rfl (by decide) (by decide) in_X5 mf_X5_26 rfl ?_
            refine zh_iload_n (pn := 60) rfl dX5_finish_59 (i := 2) (x := l2) rfl rfl ?_
            refine zh_zald (pn := 61) rfl dX5_finish_60 rfl h.1 ?_
            replace h := h.2
            refine zh_if_eq (pn := 64) rfl dX5_finish_61 (tgt := 77) rfl (fun cc1 => ?_) (fun cc1 => ?_)
            · replace h := h.1 cc1
              refine zh_iconst (pn := 78) rfl dX5_finish_77 (v := (zI 0)) rfl ?_
              refine zh_iadd (pn := 79) rfl dX5_finish_78 ?_
              refine zh_istore_n (pn := 80) rfl dX5_finish_79 (i := 1) (lo' := [some (.ref 39), some (.int (l1 + (zI 0))), some (.int l2)]) rfl (by decide) rfl ?_
              refine zh_iinc (pn := 83) rfl dX5_finish_80 (i := 2) (x := l2) (v := l2 + (zI 1)) (lo' := [some (.ref 39), some (.int (l1 + (zI 0))), some (.int (l2 + (zI 1)))]) rfl rfl (by decide) rfl ?_
              refine zh_goto dX5_finish_83 (tgt := 9) rfl ?_
              exact ih _ _ _ h
            · replace h := h.2 cc1
              refine zh_aload_n (pn := 65) rfl dX5_finish_64 (i := 0) (v := .ref 39) rfl rfl (Or.inr ⟨_, rfl⟩) ?_
              refine zh_aload_n (pn := 66) rfl dX5_finish_65 (i := 0) (v := .ref 39) rfl rfl (Or.inr ⟨_, rfl⟩) ?_
              refine zh_get (pn := 69) rfl dX5_finish_66 (v := .ref 41) (k := 1) rfl rfl (by decide) (by decide) in_X5 mf_X5_13 rfl ?_
              refine zh_iload_n (pn := 70) rfl dX5_finish_69 (i := 2) (x := l2) rfl rfl ?_
              refine zh_iald (pn := 71) rfl dX5_finish_70 rfl h.1 ?_
              replace h := h.2
              refine ca_X5_slotOf (pn := 74) rfl dX5_finish_71 mc_X5_121 (fun _ _ => Nat.le_of_ble_eq_true rfl) h (fun r10 M9 h => ?_)
              refine zh_goto dX5_finish_74 (tgt := 78) rfl ?_
              refine zh_iadd (pn := 79) rfl dX5_finish_78 ?_
              refine zh_istore_n (pn := 80) rfl dX5_finish_79 (i := 1) (lo' := [some (.ref 39), some (.int (l1 + r10)), some (.int l2)]) rfl (by decide) rfl ?_
              refine zh_iinc (pn := 83) rfl dX5_finish_80 (i := 2) (x := l2) (v := l2 + (zI 1)) (lo' := [some (.ref 39), some (.int (l1 + r10)), some (.int (l2 + (zI 1)))]) rfl rfl (by decide) rfl ?_
              refine zh_goto dX5_finish_83 (tgt := 9) rfl ?_
              exact ih _ _ _ h
          · replace h := h.2 cc1
            refine zh_iconst (pn := 49) rfl dX5_finish_48 (v := (zI 1)) rfl ?_
            refine zh_goto dX5_finish_49 (tgt := 53) rfl ?_
            refine zh_zast (pn := 54) rfl dX5_finish_53 (x' := (zI 1)) rfl h.1 rfl ?_
            obtain ⟨M11, eM11⟩ : ∃ q : zh_M, q = zh_set M 45 l2.toNatClampNeg (zI 1) := ⟨_, rfl⟩
            replace h := h.2 M11 eM11
            rw [← eM11]
            refine zh_iload_n (pn := 55) rfl dX5_finish_54 (i := 1) (x := l1) rfl rfl ?_
            refine zh_aload_n (pn := 56) rfl dX5_finish_55 (i := 0) (v := .ref 39) rfl rfl (Or.inr ⟨_, rfl⟩) ?_
            refine zh_get (pn := 59) rfl dX5_finish_56 (v := .ref 45) (k := 5) rfl rfl (by decide) (by decide) in_X5 mf_X5_26 rfl ?_
            refine zh_iload_n (pn := 60) rfl dX5_finish_59 (i := 2) (x := l2) rfl rfl ?_
            refine zh_zald (pn := 61) rfl dX5_finish_60 rfl h.1 ?_
            replace h := h.2
            refine zh_if_eq (pn := 64) rfl dX5_finish_61 (tgt := 77) rfl (fun cc1 => ?_) (fun cc1 => ?_)
            · replace h := h.1 cc1
              refine zh_iconst (pn := 78) rfl dX5_finish_77 (v := (zI 0)) rfl ?_
              refine zh_iadd (pn := 79) rfl dX5_finish_78 ?_
              refine zh_istore_n (pn := 80) rfl dX5_finish_79 (i := 1) (lo' := [some (.ref 39), some (.int (l1 + (zI 0))), some (.int l2)]) rfl (by decide) rfl ?_
              refine zh_iinc (pn := 83) rfl dX5_finish_80 (i := 2) (x := l2) (v := l2 + (zI 1)) (lo' := [some (.ref 39), some (.int (l1 + (zI 0))), some (.int (l2 + (zI 1)))]) rfl rfl (by decide) rfl ?_
              refine zh_goto dX5_finish_83 (tgt := 9) rfl ?_
              exact ih _ _ _ h
            · replace h := h.2 cc1
              refine zh_aload_n (pn := 65) rfl dX5_finish_64 (i := 0) (v := .ref 39) rfl rfl (Or.inr ⟨_, rfl⟩) ?_
              refine zh_aload_n (pn := 66) rfl dX5_finish_65 (i := 0) (v := .ref 39) rfl rfl (Or.inr ⟨_, rfl⟩) ?_
              refine zh_get (pn := 69) rfl dX5_finish_66 (v := .ref 41) (k := 1) rfl rfl (by decide) (by decide) in_X5 mf_X5_13 rfl ?_
              refine zh_iload_n (pn := 70) rfl dX5_finish_69 (i := 2) (x := l2) rfl rfl ?_
              refine zh_iald (pn := 71) rfl dX5_finish_70 rfl h.1 ?_
              replace h := h.2
              refine ca_X5_slotOf (pn := 74) rfl dX5_finish_71 mc_X5_121 (fun _ _ => Nat.le_of_ble_eq_true rfl) h (fun r13 M12 h => ?_)
              refine zh_goto dX5_finish_74 (tgt := 78) rfl ?_
              refine zh_iadd (pn := 79) rfl dX5_finish_78 ?_
              refine zh_istore_n (pn := 80) rfl dX5_finish_79 (i := 1) (lo' := [some (.ref 39), some (.int (l1 + r13)), some (.int l2)]) rfl (by decide) rfl ?_
              refine zh_iinc (pn := 83) rfl dX5_finish_80 (i := 2) (x := l2) (v := l2 + (zI 1)) (lo' := [some (.ref 39), some (.int (l1 + r13)), some (.int (l2 + (zI 1)))]) rfl rfl (by decide) rfl ?_
              refine zh_goto dX5_finish_83 (tgt := 9) rfl ?_
              exact ih _ _ _ h
set_option maxRecDepth 100000 in
set_option maxHeartbeats 4000000 in
theorem wkl_X5_finish_88 {X : Nat × (Nat → Int32)} {d : Nat} {P : zh_M → Prop} {l1 : Int32} {K121 : zh_M → Prop} (hK121 : ∀ (M : zh_M) (w2 : Option Value), K121 M → zh_W X (d + 1) yX5_finish cX5_finish 3 none 121 [some (.ref 39), some (.int l1), w2] [] zh_LL M 0 0 (zh_pv P)) : ∀ (n : Nat) (l2 : Int32) (M : zh_M) , wl_X5_finish_88 l1 K121 P n l2 M → zh_W X (d + 1) yX5_finish cX5_finish 3 none 88 [some (.ref 39), some (.int l1), some (.int l2)] [] zh_LL M 0 0 (zh_pv P) := by
  intro n
  induction n with
  | zero => intro l2 M  h; exact h.elim
  | succ n ih =>
    intro l2 M  h
    unfold wl_X5_finish_88 at h
    refine zh_iload_n (pn := 89) rfl dX5_finish_88 (i := 2) (x := l2) rfl rfl ?_
    refine zh_bipush (pn := 91) rfl dX5_finish_89 (v := (zI 16)) rfl ?_
    refine zh_icmp_ge (pn := 94) rfl dX5_finish_91 (tgt := 121) rfl (fun cc1 => ?_) (fun cc1 => ?_)
    · replace h := h.1 cc1
      exact hK121 _ _ h
    · replace h := h.2 cc1
      refine zh_aload_n (pn := 95) rfl dX5_finish_94 (i := 0) (v := .ref 39) rfl rfl (Or.inr ⟨_, rfl⟩) ?_
      refine zh_get (pn := 98) rfl dX5_finish_95 (v := .ref 48) (k := 8) rfl rfl (by decide) (by decide) in_X5 mf_X5_35 rfl ?_
      refine zh_iload_n (pn := 99) rfl dX5_finish_98 (i := 2) (x := l2) rfl rfl ?_
      refine zh_aload_n (pn := 100) rfl dX5_finish_99 (i := 0) (v := .ref 39) rfl rfl (Or.inr ⟨_, rfl⟩) ?_
      refine zh_get (pn := 103) rfl dX5_finish_100 (v := .ref 47) (k := 7) rfl rfl (by decide) (by decide) in_X5 mf_X5_32 rfl ?_
      refine zh_iload_n (pn := 104) rfl dX5_finish_103 (i := 2) (x := l2) rfl rfl ?_
      refine zh_iald (pn := 105) rfl dX5_finish_104 rfl h.1 ?_
      replace h := h.2
      refine zh_iconst (pn := 106) rfl dX5_finish_105 (v := (zI 1)) rfl ?_
      refine zh_icmp_le (pn := 109) rfl dX5_finish_106 (tgt := 113) rfl (fun cc1 => ?_) (fun cc1 => ?_)
      · replace h := h.1 cc1
        refine zh_iconst (pn := 114) rfl dX5_finish_113 (v := (zI 0)) rfl ?_
        refine zh_zast (pn := 115) rfl dX5_finish_114 (x' := (zI 0)) rfl h.1 rfl ?_
        obtain ⟨M17, eM17⟩ : ∃ q : zh_M, q = zh_set M 48 l2.toNatClampNeg (zI 0) := ⟨_, rfl⟩
        replace h := h.2 M17 eM17
        rw [← eM17]
        refine zh_iinc (pn := 118) rfl dX5_finish_115 (i := 2) (x := l2) (v := l2 + (zI 1)) (lo' := [some (.ref 39), some (.int l1), some (.int (l2 + (zI 1)))]) rfl rfl (by decide) rfl ?_
        refine zh_goto dX5_finish_118 (tgt := 88) rfl ?_
        exact ih _ _ h
      · replace h := h.2 cc1
        refine zh_iconst (pn := 110) rfl dX5_finish_109 (v := (zI 1)) rfl ?_
        refine zh_goto dX5_finish_110 (tgt := 114) rfl ?_
        refine zh_zast (pn := 115) rfl dX5_finish_114 (x' := (zI 1)) rfl h.1 rfl ?_
        obtain ⟨M18, eM18⟩ : ∃ q : zh_M, q = zh_set M 48 l2.toNatClampNeg (zI 1) := ⟨_, rfl⟩
        replace h := h.2 M18 eM18
        rw [← eM18]
        refine zh_iinc (pn := 118) rfl dX5_finish_115 (i := 2) (x := l2) (v := l2 + (zI 1)) (lo' := [some (.ref 39), some (.int l1), some (.int (l2 + (zI 1)))]) rfl rfl (by decide) rfl ?_
        refine zh_goto dX5_finish_118 (tgt := 88) rfl ?_
        exact ih _ _ h
set_option maxRecDepth 100000 in
set_option maxHeartbeats 4000000 in
theorem wk_X5_finish {X : Nat × (Nat → Int32)} {d : Nat} {M : zh_M} {P : zh_M → Prop} (h : wp_X5_finish M P) : zh_W X (d + 1) yX5_finish cX5_finish 3 none 0 (zh_en [.ref 39] 3) [] zh_LL M 0 0 (zh_pv P) := by
  unfold wp_X5_finish at h
  show zh_W X (d + 1) yX5_finish cX5_finish 3 none 0 [some (.ref 39), none, none] [] zh_LL M 0 0 (zh_pv P)
  refine zh_aload_n (pn := 1) rfl dX5_finish_0 (i := 0) (v := .ref 39) rfl rfl (Or.inr ⟨_, rfl⟩) ?_
  refine zh_iconst (pn := 2) rfl dX5_finish_1 (v := (zI 0)) rfl ?_
  refine zh_put (pn := 5) rfl dX5_finish_2 (k := 23) rfl rfl (by decide) (by decide) in_X5 tyX5_ok nmX5 mf_X5_103 rfl rfl rfl rfl ?_
  obtain ⟨M1, eM1⟩ : ∃ q : zh_M, q = zh_set M 39 23 (zI 0) := ⟨_, rfl⟩
  replace h := h M1 eM1
  rw [← eM1]
  refine zh_iconst (pn := 6) rfl dX5_finish_5 (v := (zI 0)) rfl ?_
  refine zh_istore_n (pn := 7) rfl dX5_finish_6 (i := 1) (lo' := [some (.ref 39), some (.int (zI 0)), none]) rfl (by decide) rfl ?_
  refine zh_iconst (pn := 8) rfl dX5_finish_7 (v := (zI 0)) rfl ?_
  refine zh_istore_n (pn := 9) rfl dX5_finish_8 (i := 2) (lo' := [some (.ref 39), some (.int (zI 0)), some (.int (zI 0))]) rfl (by decide) rfl ?_
  obtain ⟨n25, h⟩ := h
  refine wkl_X5_finish_9 (fun v1_14 M15 w2_16 h => ?_) n25 _ _ _ h
  refine zh_iconst (pn := 87) rfl dX5_finish_86 (v := (zI 0)) rfl ?_
  refine zh_istore_n (pn := 88) rfl dX5_finish_87 (i := 2) (lo' := [some (.ref 39), some (.int v1_14), some (.int (zI 0))]) rfl (by decide) rfl ?_
  obtain ⟨n24, h⟩ := h
  refine wkl_X5_finish_88 (fun M19 w2_20 h => ?_) n24 _ _ h
  refine zh_aload_n (pn := 122) rfl dX5_finish_121 (i := 0) (v := .ref 39) rfl rfl (Or.inr ⟨_, rfl⟩) ?_
  refine zh_iconst (pn := 123) rfl dX5_finish_122 (v := (zI 0)) rfl ?_
  refine zh_put (pn := 126) rfl dX5_finish_123 (k := 28) rfl rfl (by decide) (by decide) in_X5 tyX5_ok nmX5 mf_X5_125 rfl rfl rfl rfl ?_
  obtain ⟨M21, eM21⟩ : ∃ q : zh_M, q = zh_set M19 39 28 (zI 0) := ⟨_, rfl⟩
  replace h := h M21 eM21
  rw [← eM21]
  refine zh_aload_n (pn := 127) rfl dX5_finish_126 (i := 0) (v := .ref 39) rfl rfl (Or.inr ⟨_, rfl⟩) ?_
  refine zh_iload_n (pn := 128) rfl dX5_finish_127 (i := 1) (x := v1_14) rfl rfl ?_
  refine zh_iconst (pn := 129) rfl dX5_finish_128 (v := (zI 2)) rfl ?_
  refine zh_idiv (pn := 130) rfl dX5_finish_129 (by decide) ?_
  refine zh_bipush (pn := 132) rfl dX5_finish_130 (v := (zI 64)) rfl ?_
  refine zh_icmp_ge (pn := 135) rfl dX5_finish_132 (tgt := 140) rfl (fun cc1 => ?_) (fun cc1 => ?_)
  · replace h := h.1 cc1
    refine zh_iload_n (pn := 141) rfl dX5_finish_140 (i := 1) (x := v1_14) rfl rfl ?_
    refine zh_iconst (pn := 142) rfl dX5_finish_141 (v := (zI 2)) rfl ?_
    refine zh_idiv (pn := 143) rfl dX5_finish_142 (by decide) ?_
    refine zh_put (pn := 146) rfl dX5_finish_143 (k := 29) rfl rfl (by decide) (by decide) in_X5 tyX5_ok nmX5 mf_X5_77 rfl rfl rfl rfl ?_
    obtain ⟨M22, eM22⟩ : ∃ q : zh_M, q = zh_set M21 39 29 (v1_14 / (zI 2)) := ⟨_, rfl⟩
    replace h := h M22 eM22
    rw [← eM22]
    exact zh_vret dX5_finish_146 rfl ⟨rfl, rfl, h⟩
  · replace h := h.2 cc1
    refine zh_bipush (pn := 137) rfl dX5_finish_135 (v := (zI 64)) rfl ?_
    refine zh_goto dX5_finish_137 (tgt := 143) rfl ?_
    refine zh_put (pn := 146) rfl dX5_finish_143 (k := 29) rfl rfl (by decide) (by decide) in_X5 tyX5_ok nmX5 mf_X5_77 rfl rfl rfl rfl ?_
    obtain ⟨M23, eM23⟩ : ∃ q : zh_M, q = zh_set M21 39 29 (zI 64) := ⟨_, rfl⟩
    replace h := h M23 eM23
    rw [← eM23]
    exact zh_vret dX5_finish_146 rfl ⟨rfl, rfl, h⟩
set_option maxRecDepth 100000 in
theorem ca_X5_finish {X : Nat × (Nat → Int32)} {d : Nat} {y : MethodName} {cc : ByteArray} {nL : Nat} {rt : Option FieldType} {pc pn idx : Nat} {lo : List (Option Value)} {st : List Value} {M : zh_M} {P : Option Value → List zh_LC → zh_M → Prop} {K : zh_M → Prop} (hp : pc + 3 = pn) (hd : decode cc pc = .ok (.invokevirtual idx, 3)) (m1 : Cond.methodLink y.cls idx yX5_finish ∈ zh_WS) (hsc : ∀ base b, ((st.map (zh_tr base b)).map fun v => v.category).sum ≤ 8) (h : wp_X5_finish M K) (kk : ∀ M1, K M1 → zh_W X (d + 2) y cc nL rt pn lo st zh_LL M1 0 0 P) : zh_W X (d + 2) y cc nL rt pc lo (.ref 39 :: st) zh_LL M 0 0 P := by
  refine zh_callV (bc := 0) (bs := 0) (bc' := 0) (bs' := 0) (as := []) (st := st) hp hd rfl (by decide) rfl rfl m1 me_X5_finish.1 me_X5_finish.2.1 me_X5_finish.2.2.1 me_X5_finish.2.2.2 ⟨by decide, by decide, by decide⟩ (by show _ = some 0; decide +kernel) (fun v hv => by cases hv) hsc (Nat.le_of_ble_eq_true rfl) (by decide) (wk_X5_finish  h) (fun r L' M' q => ?_) (fun r L' M' q => ?_)
  · obtain ⟨-, rfl, q⟩ := q; rfl
  · obtain ⟨rfl, rfl, q⟩ := q; exact kk M' q
