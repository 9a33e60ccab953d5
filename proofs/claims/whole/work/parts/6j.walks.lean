set_option maxRecDepth 100000 in
set_option maxHeartbeats 4000000 in
theorem wkl_X5_work_4 {X : Nat × (Nat → Int32)} {d : Nat} {P : Int32 → zh_M → Prop} {l1 : Int32} {K47 : Int32 → zh_M → Prop} (hK47 : ∀ (l2 : Int32) (M : zh_M) (w3 : Option Value) (w4 : Option Value) (w5 : Option Value) (w6 : Option Value) (w7 : Option Value), K47 l2 M → zh_W X (d + 2) yX5_work cX5_work 8 (some .int) 47 [some (.ref 39), some (.int l1), some (.int l2), w3, w4, w5, w6, w7] [] zh_LL M 0 0 (zh_pi P)) : ∀ (n : Nat) (l2 : Int32) (l3 : Int32) (M : zh_M) (w4 : Option Value) (w5 : Option Value) (w6 : Option Value) (w7 : Option Value), wl_X5_work_4 l1 K47 P n l2 l3 M → zh_W X (d + 2) yX5_work cX5_work 8 (some .int) 4 [some (.ref 39), some (.int l1), some (.int l2), some (.int l3), w4, w5, w6, w7] [] zh_LL M 0 0 (zh_pi P) := by
  intro n
  induction n with
  | zero => intro l2 l3 M w4 w5 w6 w7 h; exact h.elim
  | succ n ih =>
    intro l2 l3 M w4 w5 w6 w7 h
    unfold wl_X5_work_4 at h
    refine zh_iload_n (pn := 5) rfl dX5_work_4 (i := 3) (x := l3) rfl rfl ?_
    refine zh_bipush (pn := 7) rfl dX5_work_5 (v := (zI 6)) rfl ?_
    refine zh_icmp_ge (pn := 10) rfl dX5_work_7 (tgt := 47) rfl (fun cc1 => ?_) (fun cc1 => ?_)
    · replace h := h.1 cc1
      exact hK47 _ _ _ _ _ _ _ h
    · replace h := h.2 cc1
      refine zh_iload_n (pn := 11) rfl dX5_work_10 (i := 2) (x := l2) rfl rfl ?_
      refine zh_iload_n (pn := 12) rfl dX5_work_11 (i := 1) (x := l1) rfl rfl ?_
      refine zh_icmp_ge (pn := 15) rfl dX5_work_12 (tgt := 47) rfl (fun cc1 => ?_) (fun cc1 => ?_)
      · replace h := h.1 cc1
        exact hK47 _ _ _ _ _ _ _ h
      · replace h := h.2 cc1
        refine zh_aload_n (pn := 16) rfl dX5_work_15 (i := 0) (v := .ref 39) rfl rfl (Or.inr ⟨_, rfl⟩) ?_
        refine zh_get (pn := 19) rfl dX5_work_16 (v := .ref 49) (k := 9) rfl rfl (by decide) (by decide) in_X5 mf_X5_38 rfl ?_
        refine zh_iload_n (pn := 20) rfl dX5_work_19 (i := 3) (x := l3) rfl rfl ?_
        refine zh_iald (pn := 21) rfl dX5_work_20 rfl h.1 ?_
        replace h := h.2
        refine zh_if_le (pn := 24) rfl dX5_work_21 (tgt := 41) rfl (fun cc1 => ?_) (fun cc1 => ?_)
        · replace h := h.1 cc1
          refine zh_iinc (pn := 44) rfl dX5_work_41 (i := 3) (x := l3) (v := l3 + (zI 1)) (lo' := [some (.ref 39), some (.int l1), some (.int l2), some (.int (l3 + (zI 1))), w4, w5, w6, w7]) rfl rfl (by decide) rfl ?_
          refine zh_goto dX5_work_44 (tgt := 4) rfl ?_
          exact ih _ _ _ _ _ _ _ h
        · replace h := h.2 cc1
          refine zh_aload_n (pn := 25) rfl dX5_work_24 (i := 0) (v := .ref 39) rfl rfl (Or.inr ⟨_, rfl⟩) ?_
          refine zh_get (pn := 28) rfl dX5_work_25 (v := .ref 54) (k := 14) rfl rfl (by decide) (by decide) in_X5 mf_X5_53 rfl ?_
          refine zh_iload_n (pn := 29) rfl dX5_work_28 (i := 3) (x := l3) rfl rfl ?_
          refine zh_zald (pn := 30) rfl dX5_work_29 rfl h.1 ?_
          replace h := h.2
          refine zh_if_ne (pn := 33) rfl dX5_work_30 (tgt := 41) rfl (fun cc1 => ?_) (fun cc1 => ?_)
          · replace h := h.1 cc1
            refine zh_iinc (pn := 44) rfl dX5_work_41 (i := 3) (x := l3) (v := l3 + (zI 1)) (lo' := [some (.ref 39), some (.int l1), some (.int l2), some (.int (l3 + (zI 1))), w4, w5, w6, w7]) rfl rfl (by decide) rfl ?_
            refine zh_goto dX5_work_44 (tgt := 4) rfl ?_
            exact ih _ _ _ _ _ _ _ h
          · replace h := h.2 cc1
            refine zh_aload_n (pn := 34) rfl dX5_work_33 (i := 0) (v := .ref 39) rfl rfl (Or.inr ⟨_, rfl⟩) ?_
            refine zh_iload_n (pn := 35) rfl dX5_work_34 (i := 3) (x := l3) rfl rfl ?_
            refine ca_X5_scan (pn := 38) rfl dX5_work_35 mc_X5_174 (fun _ _ => Nat.le_of_ble_eq_true rfl) h (fun M1 h => ?_)
            refine zh_iinc (pn := 41) rfl dX5_work_38 (i := 2) (x := l2) (v := l2 + (zI 1)) (lo' := [some (.ref 39), some (.int l1), some (.int (l2 + (zI 1))), some (.int l3), w4, w5, w6, w7]) rfl rfl (by decide) rfl ?_
            refine zh_iinc (pn := 44) rfl dX5_work_41 (i := 3) (x := l3) (v := l3 + (zI 1)) (lo' := [some (.ref 39), some (.int l1), some (.int (l2 + (zI 1))), some (.int (l3 + (zI 1))), w4, w5, w6, w7]) rfl rfl (by decide) rfl ?_
            refine zh_goto dX5_work_44 (tgt := 4) rfl ?_
            exact ih _ _ _ _ _ _ _ h
set_option maxRecDepth 100000 in
set_option maxHeartbeats 4000000 in
theorem wkl_X5_work_126 {X : Nat × (Nat → Int32)} {d : Nat} {P : Int32 → zh_M → Prop} {l2 : Int32} {K171 : Int32 → zh_M → Prop} (hK171 : ∀ (l6 : Int32) (M : zh_M) (w1 : Option Value) (w3 : Option Value) (w4 : Option Value) (w5 : Option Value) (w7 : Option Value), K171 l6 M → zh_W X (d + 2) yX5_work cX5_work 8 (some .int) 171 [some (.ref 39), w1, some (.int l2), w3, w4, w5, some (.int l6), w7] [] zh_LL M 0 0 (zh_pi P)) : ∀ (n : Nat) (l6 : Int32) (l7 : Int32) (M : zh_M) (w1 : Option Value) (w3 : Option Value) (w4 : Option Value) (w5 : Option Value), wl_X5_work_126 l2 K171 P n l6 l7 M → zh_W X (d + 2) yX5_work cX5_work 8 (some .int) 126 [some (.ref 39), w1, some (.int l2), w3, w4, w5, some (.int l6), some (.int l7)] [] zh_LL M 0 0 (zh_pi P) := by
  intro n
  induction n with
  | zero => intro l6 l7 M w1 w3 w4 w5 h; exact h.elim
  | succ n ih =>
    intro l6 l7 M w1 w3 w4 w5 h
    unfold wl_X5_work_126 at h
    refine zh_iload (pn := 128) rfl dX5_work_126 (i := 7) (x := l7) rfl ?_
    refine zh_bipush (pn := 130) rfl dX5_work_128 (v := (zI 6)) rfl ?_
    refine zh_icmp_ge (pn := 133) rfl dX5_work_130 (tgt := 171) rfl (fun cc1 => ?_) (fun cc1 => ?_)
    · replace h := h.1 cc1
      exact hK171 _ _ _ _ _ _ _ h
    · replace h := h.2 cc1
      refine zh_iload (pn := 135) rfl dX5_work_133 (i := 6) (x := l6) rfl ?_
      refine zh_if_ne (pn := 138) rfl dX5_work_135 (tgt := 158) rfl (fun cc1 => ?_) (fun cc1 => ?_)
      · replace h := h.1 cc1
        refine zh_iconst (pn := 159) rfl dX5_work_158 (v := (zI 1)) rfl ?_
        refine zh_goto dX5_work_159 (tgt := 163) rfl ?_
        refine zh_istore (pn := 165) rfl dX5_work_163 (i := 6) (lo' := [some (.ref 39), w1, some (.int l2), w3, w4, w5, some (.int (zI 1)), some (.int l7)]) (by decide) rfl ?_
        refine zh_iinc (pn := 168) rfl dX5_work_165 (i := 7) (x := l7) (v := l7 + (zI 1)) (lo' := [some (.ref 39), w1, some (.int l2), w3, w4, w5, some (.int (zI 1)), some (.int (l7 + (zI 1)))]) rfl rfl (by decide) rfl ?_
        refine zh_goto dX5_work_168 (tgt := 126) rfl ?_
        exact ih _ _ _ _ _ _ _ h
      · replace h := h.2 cc1
        refine zh_aload_n (pn := 139) rfl dX5_work_138 (i := 0) (v := .ref 39) rfl rfl (Or.inr ⟨_, rfl⟩) ?_
        refine zh_get (pn := 142) rfl dX5_work_139 (v := .ref 49) (k := 9) rfl rfl (by decide) (by decide) in_X5 mf_X5_38 rfl ?_
        refine zh_iload (pn := 144) rfl dX5_work_142 (i := 7) (x := l7) rfl ?_
        refine zh_iald (pn := 145) rfl dX5_work_144 rfl h.1 ?_
        replace h := h.2
        refine zh_if_le (pn := 148) rfl dX5_work_145 (tgt := 162) rfl (fun cc1 => ?_) (fun cc1 => ?_)
        · replace h := h.1 cc1
          refine zh_iconst (pn := 163) rfl dX5_work_162 (v := (zI 0)) rfl ?_
          refine zh_istore (pn := 165) rfl dX5_work_163 (i := 6) (lo' := [some (.ref 39), w1, some (.int l2), w3, w4, w5, some (.int (zI 0)), some (.int l7)]) (by decide) rfl ?_
          refine zh_iinc (pn := 168) rfl dX5_work_165 (i := 7) (x := l7) (v := l7 + (zI 1)) (lo' := [some (.ref 39), w1, some (.int l2), w3, w4, w5, some (.int (zI 0)), some (.int (l7 + (zI 1)))]) rfl rfl (by decide) rfl ?_
          refine zh_goto dX5_work_168 (tgt := 126) rfl ?_
          exact ih _ _ _ _ _ _ _ h
        · replace h := h.2 cc1
          refine zh_aload_n (pn := 149) rfl dX5_work_148 (i := 0) (v := .ref 39) rfl rfl (Or.inr ⟨_, rfl⟩) ?_
          refine zh_get (pn := 152) rfl dX5_work_149 (v := .ref 54) (k := 14) rfl rfl (by decide) (by decide) in_X5 mf_X5_53 rfl ?_
          refine zh_iload (pn := 154) rfl dX5_work_152 (i := 7) (x := l7) rfl ?_
          refine zh_zald (pn := 155) rfl dX5_work_154 rfl h.1 ?_
          replace h := h.2
          refine zh_if_ne (pn := 158) rfl dX5_work_155 (tgt := 162) rfl (fun cc1 => ?_) (fun cc1 => ?_)
          · replace h := h.1 cc1
            refine zh_iconst (pn := 163) rfl dX5_work_162 (v := (zI 0)) rfl ?_
            refine zh_istore (pn := 165) rfl dX5_work_163 (i := 6) (lo' := [some (.ref 39), w1, some (.int l2), w3, w4, w5, some (.int (zI 0)), some (.int l7)]) (by decide) rfl ?_
            refine zh_iinc (pn := 168) rfl dX5_work_165 (i := 7) (x := l7) (v := l7 + (zI 1)) (lo' := [some (.ref 39), w1, some (.int l2), w3, w4, w5, some (.int (zI 0)), some (.int (l7 + (zI 1)))]) rfl rfl (by decide) rfl ?_
            refine zh_goto dX5_work_168 (tgt := 126) rfl ?_
            exact ih _ _ _ _ _ _ _ h
          · replace h := h.2 cc1
            refine zh_iconst (pn := 159) rfl dX5_work_158 (v := (zI 1)) rfl ?_
            refine zh_goto dX5_work_159 (tgt := 163) rfl ?_
            refine zh_istore (pn := 165) rfl dX5_work_163 (i := 6) (lo' := [some (.ref 39), w1, some (.int l2), w3, w4, w5, some (.int (zI 1)), some (.int l7)]) (by decide) rfl ?_
            refine zh_iinc (pn := 168) rfl dX5_work_165 (i := 7) (x := l7) (v := l7 + (zI 1)) (lo' := [some (.ref 39), w1, some (.int l2), w3, w4, w5, some (.int (zI 1)), some (.int (l7 + (zI 1)))]) rfl rfl (by decide) rfl ?_
            refine zh_goto dX5_work_168 (tgt := 126) rfl ?_
            exact ih _ _ _ _ _ _ _ h
set_option maxRecDepth 100000 in
set_option maxHeartbeats 4000000 in
theorem wk_X5_work {X : Nat × (Nat → Int32)} {d : Nat} {M : zh_M} {a1 : Int32} {P : Int32 → zh_M → Prop} (h : wp_X5_work M a1 P) : zh_W X (d + 2) yX5_work cX5_work 8 (some .int) 0 (zh_en [.ref 39, .int a1] 8) [] zh_LL M 0 0 (zh_pi P) := by
  unfold wp_X5_work at h
  show zh_W X (d + 2) yX5_work cX5_work 8 (some .int) 0 [some (.ref 39), some (.int a1), none, none, none, none, none, none] [] zh_LL M 0 0 (zh_pi P)
  refine zh_iconst (pn := 1) rfl dX5_work_0 (v := (zI 0)) rfl ?_
  refine zh_istore_n (pn := 2) rfl dX5_work_1 (i := 2) (lo' := [some (.ref 39), some (.int a1), some (.int (zI 0)), none, none, none, none, none]) rfl (by decide) rfl ?_
  refine zh_iconst (pn := 3) rfl dX5_work_2 (v := (zI 0)) rfl ?_
  refine zh_istore_n (pn := 4) rfl dX5_work_3 (i := 3) (lo' := [some (.ref 39), some (.int a1), some (.int (zI 0)), some (.int (zI 0)), none, none, none, none]) rfl (by decide) rfl ?_
  obtain ⟨n51, h⟩ := h
  refine wkl_X5_work_4 (fun v2_2 M3 w3_4 w4_5 w5_6 w6_7 w7_8 h => ?_) n51 _ _ _ _ _ _ _ h
  refine zh_aload_n (pn := 48) rfl dX5_work_47 (i := 0) (v := .ref 39) rfl rfl (Or.inr ⟨_, rfl⟩) ?_
  refine ca_X5_countDue (pn := 51) rfl dX5_work_48 mc_X5_177 (fun _ _ => Nat.le_of_ble_eq_true rfl) h (fun r10 M9 h => ?_)
  refine zh_istore (pn := 53) rfl dX5_work_51 (i := 4) (lo' := [some (.ref 39), some (.int a1), some (.int v2_2), w3_4, some (.int r10), w5_6, w6_7, w7_8]) (by decide) rfl ?_
  refine zh_iload (pn := 55) rfl dX5_work_53 (i := 4) (x := r10) rfl ?_
  refine zh_aload_n (pn := 56) rfl dX5_work_55 (i := 0) (v := .ref 39) rfl rfl (Or.inr ⟨_, rfl⟩) ?_
  refine zh_get (pn := 59) rfl dX5_work_56 (v := .int (M9 39 24)) (k := 24) rfl rfl (by decide) (by decide) in_X5 mf_X5_168 rfl ?_
  refine zh_isub (pn := 60) rfl dX5_work_59 ?_
  refine zh_iload_n (pn := 61) rfl dX5_work_60 (i := 1) (x := a1) rfl rfl ?_
  refine zh_iload_n (pn := 62) rfl dX5_work_61 (i := 2) (x := v2_2) rfl rfl ?_
  refine zh_isub (pn := 63) rfl dX5_work_62 ?_
  refine zh_icmp_ge (pn := 66) rfl dX5_work_63 (tgt := 76) rfl (fun cc1 => ?_) (fun cc1 => ?_)
  · replace h := h.1 cc1
    refine zh_iload_n (pn := 77) rfl dX5_work_76 (i := 1) (x := a1) rfl rfl ?_
    refine zh_iload_n (pn := 78) rfl dX5_work_77 (i := 2) (x := v2_2) rfl rfl ?_
    refine zh_isub (pn := 79) rfl dX5_work_78 ?_
    refine zh_istore (pn := 81) rfl dX5_work_79 (i := 5) (lo' := [some (.ref 39), some (.int a1), some (.int v2_2), w3_4, some (.int r10), some (.int (a1 - v2_2)), w6_7, w7_8]) (by decide) rfl ?_
    refine zh_aload_n (pn := 82) rfl dX5_work_81 (i := 0) (v := .ref 39) rfl rfl (Or.inr ⟨_, rfl⟩) ?_
    refine zh_dup (pn := 83) rfl dX5_work_82 (fun _ _ => rfl) ?_
    refine zh_get (pn := 86) rfl dX5_work_83 (v := .int (M9 39 24)) (k := 24) rfl rfl (by decide) (by decide) in_X5 mf_X5_168 rfl ?_
    refine zh_iload (pn := 88) rfl dX5_work_86 (i := 5) (x := a1 - v2_2) rfl ?_
    refine zh_iadd (pn := 89) rfl dX5_work_88 ?_
    refine zh_put (pn := 92) rfl dX5_work_89 (k := 24) rfl rfl (by decide) (by decide) in_X5 tyX5_ok nmX5 mf_X5_168 rfl rfl rfl rfl ?_
    obtain ⟨M11, eM11⟩ : ∃ q : zh_M, q = zh_set M9 39 24 ((M9 39 24) + (a1 - v2_2)) := ⟨_, rfl⟩
    replace h := h M11 eM11
    rw [← eM11]
    refine zh_iload_n (pn := 93) rfl dX5_work_92 (i := 2) (x := v2_2) rfl rfl ?_
    refine zh_iload (pn := 95) rfl dX5_work_93 (i := 5) (x := a1 - v2_2) rfl ?_
    refine zh_iadd (pn := 96) rfl dX5_work_95 ?_
    refine zh_istore_n (pn := 97) rfl dX5_work_96 (i := 2) (lo' := [some (.ref 39), some (.int a1), some (.int (v2_2 + (a1 - v2_2))), w3_4, some (.int r10), some (.int (a1 - v2_2)), w6_7, w7_8]) rfl (by decide) rfl ?_
    refine zh_aload_n (pn := 98) rfl dX5_work_97 (i := 0) (v := .ref 39) rfl rfl (Or.inr ⟨_, rfl⟩) ?_
    refine zh_dup (pn := 99) rfl dX5_work_98 (fun _ _ => rfl) ?_
    refine zh_get (pn := 102) rfl dX5_work_99 (v := .int (M11 39 26)) (k := 26) rfl rfl (by decide) (by decide) in_X5 mf_X5_181 rfl ?_
    refine zh_iload_n (pn := 103) rfl dX5_work_102 (i := 2) (x := v2_2 + (a1 - v2_2)) rfl rfl ?_
    refine zh_iadd (pn := 104) rfl dX5_work_103 ?_
    refine zh_put (pn := 107) rfl dX5_work_104 (k := 26) rfl rfl (by decide) (by decide) in_X5 tyX5_ok nmX5 mf_X5_181 rfl rfl rfl rfl ?_
    obtain ⟨M12, eM12⟩ : ∃ q : zh_M, q = zh_set M11 39 26 ((M11 39 26) + (v2_2 + (a1 - v2_2))) := ⟨_, rfl⟩
    replace h := h M12 eM12
    rw [← eM12]
    refine zh_aload_n (pn := 108) rfl dX5_work_107 (i := 0) (v := .ref 39) rfl rfl (Or.inr ⟨_, rfl⟩) ?_
    refine zh_get (pn := 111) rfl dX5_work_108 (v := .int (M12 39 24)) (k := 24) rfl rfl (by decide) (by decide) in_X5 mf_X5_168 rfl ?_
    refine zh_iload (pn := 113) rfl dX5_work_111 (i := 4) (x := r10) rfl ?_
    refine zh_icmp_ge (pn := 116) rfl dX5_work_113 (tgt := 120) rfl (fun cc1 => ?_) (fun cc1 => ?_)
    · replace h := h.1 cc1
      refine zh_iconst (pn := 121) rfl dX5_work_120 (v := (zI 0)) rfl ?_
      refine zh_istore (pn := 123) rfl dX5_work_121 (i := 6) (lo' := [some (.ref 39), some (.int a1), some (.int (v2_2 + (a1 - v2_2))), w3_4, some (.int r10), some (.int (a1 - v2_2)), some (.int (zI 0)), w7_8]) (by decide) rfl ?_
      refine zh_iconst (pn := 124) rfl dX5_work_123 (v := (zI 0)) rfl ?_
      refine zh_istore (pn := 126) rfl dX5_work_124 (i := 7) (lo' := [some (.ref 39), some (.int a1), some (.int (v2_2 + (a1 - v2_2))), w3_4, some (.int r10), some (.int (a1 - v2_2)), some (.int (zI 0)), some (.int (zI 0))]) (by decide) rfl ?_
      obtain ⟨n21, h⟩ := h
      refine wkl_X5_work_126 (fun v6_13 M14 w1_15 w3_16 w4_17 w5_18 w7_19 h => ?_) n21 _ _ _ _ _ _ _ h
      refine zh_iload (pn := 173) rfl dX5_work_171 (i := 6) (x := v6_13) rfl ?_
      refine zh_if_ne (pn := 176) rfl dX5_work_173 (tgt := 180) rfl (fun cc1 => ?_) (fun cc1 => ?_)
      · replace h := h.1 cc1
        refine zh_iload_n (pn := 181) rfl dX5_work_180 (i := 2) (x := v2_2 + (a1 - v2_2)) rfl rfl ?_
        exact zh_iret dX5_work_181 rfl rfl ⟨_, rfl, rfl, h⟩
      · replace h := h.2 cc1
        refine zh_aload_n (pn := 177) rfl dX5_work_176 (i := 0) (v := .ref 39) rfl rfl (Or.inr ⟨_, rfl⟩) ?_
        refine ca_X5_finish (pn := 180) rfl dX5_work_177 mc_X5_184 (fun _ _ => Nat.le_of_ble_eq_true rfl) h (fun M20 h => ?_)
        refine zh_iload_n (pn := 181) rfl dX5_work_180 (i := 2) (x := v2_2 + (a1 - v2_2)) rfl rfl ?_
        exact zh_iret dX5_work_181 rfl rfl ⟨_, rfl, rfl, h⟩
    · replace h := h.2 cc1
      refine zh_iconst (pn := 117) rfl dX5_work_116 (v := (zI 1)) rfl ?_
      refine zh_goto dX5_work_117 (tgt := 121) rfl ?_
      refine zh_istore (pn := 123) rfl dX5_work_121 (i := 6) (lo' := [some (.ref 39), some (.int a1), some (.int (v2_2 + (a1 - v2_2))), w3_4, some (.int r10), some (.int (a1 - v2_2)), some (.int (zI 1)), w7_8]) (by decide) rfl ?_
      refine zh_iconst (pn := 124) rfl dX5_work_123 (v := (zI 0)) rfl ?_
      refine zh_istore (pn := 126) rfl dX5_work_124 (i := 7) (lo' := [some (.ref 39), some (.int a1), some (.int (v2_2 + (a1 - v2_2))), w3_4, some (.int r10), some (.int (a1 - v2_2)), some (.int (zI 1)), some (.int (zI 0))]) (by decide) rfl ?_
      obtain ⟨n30, h⟩ := h
      refine wkl_X5_work_126 (fun v6_22 M23 w1_24 w3_25 w4_26 w5_27 w7_28 h => ?_) n30 _ _ _ _ _ _ _ h
      refine zh_iload (pn := 173) rfl dX5_work_171 (i := 6) (x := v6_22) rfl ?_
      refine zh_if_ne (pn := 176) rfl dX5_work_173 (tgt := 180) rfl (fun cc1 => ?_) (fun cc1 => ?_)
      · replace h := h.1 cc1
        refine zh_iload_n (pn := 181) rfl dX5_work_180 (i := 2) (x := v2_2 + (a1 - v2_2)) rfl rfl ?_
        exact zh_iret dX5_work_181 rfl rfl ⟨_, rfl, rfl, h⟩
      · replace h := h.2 cc1
        refine zh_aload_n (pn := 177) rfl dX5_work_176 (i := 0) (v := .ref 39) rfl rfl (Or.inr ⟨_, rfl⟩) ?_
        refine ca_X5_finish (pn := 180) rfl dX5_work_177 mc_X5_184 (fun _ _ => Nat.le_of_ble_eq_true rfl) h (fun M29 h => ?_)
        refine zh_iload_n (pn := 181) rfl dX5_work_180 (i := 2) (x := v2_2 + (a1 - v2_2)) rfl rfl ?_
        exact zh_iret dX5_work_181 rfl rfl ⟨_, rfl, rfl, h⟩
  · replace h := h.2 cc1
    refine zh_iload (pn := 68) rfl dX5_work_66 (i := 4) (x := r10) rfl ?_
    refine zh_aload_n (pn := 69) rfl dX5_work_68 (i := 0) (v := .ref 39) rfl rfl (Or.inr ⟨_, rfl⟩) ?_
    refine zh_get (pn := 72) rfl dX5_work_69 (v := .int (M9 39 24)) (k := 24) rfl rfl (by decide) (by decide) in_X5 mf_X5_168 rfl ?_
    refine zh_isub (pn := 73) rfl dX5_work_72 ?_
    refine zh_goto dX5_work_73 (tgt := 79) rfl ?_
    refine zh_istore (pn := 81) rfl dX5_work_79 (i := 5) (lo' := [some (.ref 39), some (.int a1), some (.int v2_2), w3_4, some (.int r10), some (.int (r10 - (M9 39 24))), w6_7, w7_8]) (by decide) rfl ?_
    refine zh_aload_n (pn := 82) rfl dX5_work_81 (i := 0) (v := .ref 39) rfl rfl (Or.inr ⟨_, rfl⟩) ?_
    refine zh_dup (pn := 83) rfl dX5_work_82 (fun _ _ => rfl) ?_
    refine zh_get (pn := 86) rfl dX5_work_83 (v := .int (M9 39 24)) (k := 24) rfl rfl (by decide) (by decide) in_X5 mf_X5_168 rfl ?_
    refine zh_iload (pn := 88) rfl dX5_work_86 (i := 5) (x := r10 - (M9 39 24)) rfl ?_
    refine zh_iadd (pn := 89) rfl dX5_work_88 ?_
    refine zh_put (pn := 92) rfl dX5_work_89 (k := 24) rfl rfl (by decide) (by decide) in_X5 tyX5_ok nmX5 mf_X5_168 rfl rfl rfl rfl ?_
    obtain ⟨M31, eM31⟩ : ∃ q : zh_M, q = zh_set M9 39 24 ((M9 39 24) + (r10 - (M9 39 24))) := ⟨_, rfl⟩
    replace h := h M31 eM31
    rw [← eM31]
    refine zh_iload_n (pn := 93) rfl dX5_work_92 (i := 2) (x := v2_2) rfl rfl ?_
    refine zh_iload (pn := 95) rfl dX5_work_93 (i := 5) (x := r10 - (M9 39 24)) rfl ?_
    refine zh_iadd (pn := 96) rfl dX5_work_95 ?_
    refine zh_istore_n (pn := 97) rfl dX5_work_96 (i := 2) (lo' := [some (.ref 39), some (.int a1), some (.int (v2_2 + (r10 - (M9 39 24)))), w3_4, some (.int r10), some (.int (r10 - (M9 39 24))), w6_7, w7_8]) rfl (by decide) rfl ?_
    refine zh_aload_n (pn := 98) rfl dX5_work_97 (i := 0) (v := .ref 39) rfl rfl (Or.inr ⟨_, rfl⟩) ?_
    refine zh_dup (pn := 99) rfl dX5_work_98 (fun _ _ => rfl) ?_
    refine zh_get (pn := 102) rfl dX5_work_99 (v := .int (M31 39 26)) (k := 26) rfl rfl (by decide) (by decide) in_X5 mf_X5_181 rfl ?_
    refine zh_iload_n (pn := 103) rfl dX5_work_102 (i := 2) (x := v2_2 + (r10 - (M9 39 24))) rfl rfl ?_
    refine zh_iadd (pn := 104) rfl dX5_work_103 ?_
    refine zh_put (pn := 107) rfl dX5_work_104 (k := 26) rfl rfl (by decide) (by decide) in_X5 tyX5_ok nmX5 mf_X5_181 rfl rfl rfl rfl ?_
    obtain ⟨M32, eM32⟩ : ∃ q : zh_M, q = zh_set M31 39 26 ((M31 39 26) + (v2_2 + (r10 - (M9 39 24)))) := ⟨_, rfl⟩
    replace h := h M32 eM32
    rw [← eM32]
    refine zh_aload_n (pn := 108) rfl dX5_work_107 (i := 0) (v := .ref 39) rfl rfl (Or.inr ⟨_, rfl⟩) ?_
    refine zh_get (pn := 111) rfl dX5_work_108 (v := .int (M32 39 24)) (k := 24) rfl rfl (by decide) (by decide) in_X5 mf_X5_168 rfl ?_
    refine zh_iload (pn := 113) rfl dX5_work_111 (i := 4) (x := r10) rfl ?_
    refine zh_icmp_ge (pn := 116) rfl dX5_work_113 (tgt := 120) rfl (fun cc1 => ?_) (fun cc1 => ?_)
    · replace h := h.1 cc1
      refine zh_iconst (pn := 121) rfl dX5_work_120 (v := (zI 0)) rfl ?_
      refine zh_istore (pn := 123) rfl dX5_work_121 (i := 6) (lo' := [some (.ref 39), some (.int a1), some (.int (v2_2 + (r10 - (M9 39 24)))), w3_4, some (.int r10), some (.int (r10 - (M9 39 24))), some (.int (zI 0)), w7_8]) (by decide) rfl ?_
      refine zh_iconst (pn := 124) rfl dX5_work_123 (v := (zI 0)) rfl ?_
      refine zh_istore (pn := 126) rfl dX5_work_124 (i := 7) (lo' := [some (.ref 39), some (.int a1), some (.int (v2_2 + (r10 - (M9 39 24)))), w3_4, some (.int r10), some (.int (r10 - (M9 39 24))), some (.int (zI 0)), some (.int (zI 0))]) (by decide) rfl ?_
      obtain ⟨n41, h⟩ := h
      refine wkl_X5_work_126 (fun v6_33 M34 w1_35 w3_36 w4_37 w5_38 w7_39 h => ?_) n41 _ _ _ _ _ _ _ h
      refine zh_iload (pn := 173) rfl dX5_work_171 (i := 6) (x := v6_33) rfl ?_
      refine zh_if_ne (pn := 176) rfl dX5_work_173 (tgt := 180) rfl (fun cc1 => ?_) (fun cc1 => ?_)
      · replace h := h.1 cc1
        refine zh_iload_n (pn := 181) rfl dX5_work_180 (i := 2) (x := v2_2 + (r10 - (M9 39 24))) rfl rfl ?_
        exact zh_iret dX5_work_181 rfl rfl ⟨_, rfl, rfl, h⟩
      · replace h := h.2 cc1
        refine zh_aload_n (pn := 177) rfl dX5_work_176 (i := 0) (v := .ref 39) rfl rfl (Or.inr ⟨_, rfl⟩) ?_
        refine ca_X5_finish (pn := 180) rfl dX5_work_177 mc_X5_184 (fun _ _ => Nat.le_of_ble_eq_true rfl) h (fun M40 h => ?_)
        refine zh_iload_n (pn := 181) rfl dX5_work_180 (i := 2) (x := v2_2 + (r10 - (M9 39 24))) rfl rfl ?_
        exact zh_iret dX5_work_181 rfl rfl ⟨_, rfl, rfl, h⟩
    · replace h := h.2 cc1
      refine zh_iconst (pn := 117) rfl dX5_work_116 (v := (zI 1)) rfl ?_
      refine zh_goto dX5_work_117 (tgt := 121) rfl ?_
      refine zh_istore (pn := 123) rfl dX5_work_121 (i := 6) (lo' := [some (.ref 39), some (.int a1), some (.int (v2_2 + (r10 - (M9 39 24)))), w3_4, some (.int r10), some (.int (r10 - (M9 39 24))), some (.int (zI 1)), w7_8]) (by decide) rfl ?_
      refine zh_iconst (pn := 124) rfl dX5_work_123 (v := (zI 0)) rfl ?_
      refine zh_istore (pn := 126) rfl dX5_work_124 (i := 7) (lo' := [some (.ref 39), some (.int a1), some (.int (v2_2 + (r10 - (M9 39 24)))), w3_4, some (.int r10), some (.int (r10 - (M9 39 24))), some (.int (zI 1)), some (.int (zI 0))]) (by decide) rfl ?_
      obtain ⟨n50, h⟩ := h
      refine wkl_X5_work_126 (fun v6_42 M43 w1_44 w3_45 w4_46 w5_47 w7_48 h => ?_) n50 _ _ _ _ _ _ _ h
      refine zh_iload (pn := 173) rfl dX5_work_171 (i := 6) (x := v6_42) rfl ?_
      refine zh_if_ne (pn := 176) rfl dX5_work_173 (tgt := 180) rfl (fun cc1 => ?_) (fun cc1 => ?_)
      · replace h := h.1 cc1
        refine zh_iload_n (pn := 181) rfl dX5_work_180 (i := 2) (x := v2_2 + (r10 - (M9 39 24))) rfl rfl ?_
        exact zh_iret dX5_work_181 rfl rfl ⟨_, rfl, rfl, h⟩
      · replace h := h.2 cc1
        refine zh_aload_n (pn := 177) rfl dX5_work_176 (i := 0) (v := .ref 39) rfl rfl (Or.inr ⟨_, rfl⟩) ?_
        refine ca_X5_finish (pn := 180) rfl dX5_work_177 mc_X5_184 (fun _ _ => Nat.le_of_ble_eq_true rfl) h (fun M49 h => ?_)
        refine zh_iload_n (pn := 181) rfl dX5_work_180 (i := 2) (x := v2_2 + (r10 - (M9 39 24))) rfl rfl ?_
        exact zh_iret dX5_work_181 rfl rfl ⟨_, rfl, rfl, h⟩
set_option maxRecDepth 100000 in
theorem ca_X5_work {X : Nat × (Nat → Int32)} {d : Nat} {y : MethodName} {cc : ByteArray} {nL : Nat} {rt : Option FieldType} {pc pn idx : Nat} {lo : List (Option Value)} {st : List Value} {M : zh_M} {P : Option Value → List zh_LC → zh_M → Prop} {a1 : Int32} {K : Int32 → zh_M → Prop} (hp : pc + 3 = pn) (hd : decode cc pc = .ok (.invokevirtual idx, 3)) (m1 : Cond.methodLink y.cls idx yX5_work ∈ zh_WS) (hsc : ∀ base b, ((st.map (zh_tr base b)).map fun v => v.category).sum ≤ 8) (h : wp_X5_work M a1 K) (kk : ∀ r M1, K r M1 → zh_W X (d + 3) y cc nL rt pn lo (.int r :: st) zh_LL M1 0 0 P) : zh_W X (d + 3) y cc nL rt pc lo (.int a1 :: .ref 39 :: st) zh_LL M 0 0 P := by
  refine zh_callV (bc := 0) (bs := 0) (bc' := 0) (bs' := 0) (as := [.int a1]) (st := st) hp hd rfl (by decide) rfl rfl m1 me_X5_work.1 me_X5_work.2.1 me_X5_work.2.2.1 me_X5_work.2.2.2 ⟨by decide, by decide, by decide⟩ (by show _ = some 1; decide +kernel) (by intro v hv; simp only [List.mem_cons, List.not_mem_nil, or_false] at hv; rcases hv with rfl <;> (intro _ _; rfl)) hsc (Nat.le_of_ble_eq_true rfl) (by decide) (wk_X5_work  h) (fun r L' M' q => ?_) (fun r L' M' q => ?_)
  · obtain ⟨v, -, rfl, q⟩ := q; rfl
  · obtain ⟨v, rfl, rfl, q⟩ := q; exact kk v M' q
set_option maxRecDepth 100000 in
set_option maxHeartbeats 4000000 in
theorem wkl_X5_make_88 {X : Nat × (Nat → Int32)} {d : Nat} {P : Int32 → zh_M → Prop} {l1 : Int32} {l2 : Int32} {l3 : Int32} {l4 : Int32} {l5 : Int32} {K144 : Int32 → zh_M → Prop} (hK144 : ∀ (l6 : Int32) (M : zh_M) (w7 : Option Value), K144 l6 M → zh_W X (d + 3) yX5_make cX5_make 8 (some .int) 144 [some (.ref 39), some (.int l1), some (.int l2), some (.int l3), some (.int l4), some (.int l5), some (.int l6), w7] [] zh_LL M 0 0 (zh_pi P)) : ∀ (n : Nat) (l6 : Int32) (l7 : Int32) (M : zh_M) , wl_X5_make_88 l1 l2 l3 l4 l5 K144 P n l6 l7 M → zh_W X (d + 3) yX5_make cX5_make 8 (some .int) 88 [some (.ref 39), some (.int l1), some (.int l2), some (.int l3), some (.int l4), some (.int l5), some (.int l6), some (.int l7)] [] zh_LL M 0 0 (zh_pi P) := by
  intro n
  induction n with
  | zero => intro l6 l7 M  h; exact h.elim
  | succ n ih =>
    intro l6 l7 M  h
    unfold wl_X5_make_88 at h
    refine zh_iload (pn := 90) rfl dX5_make_88 (i := 7) (x := l7) rfl ?_
    refine zh_iconst (pn := 91) rfl dX5_make_90 (v := (zI 2)) rfl ?_
    refine zh_icmp_ge (pn := 94) rfl dX5_make_91 (tgt := 144) rfl (fun cc1 => ?_) (fun cc1 => ?_)
    · replace h := h.1 cc1
      exact hK144 _ _ _ h
    · replace h := h.2 cc1
      refine zh_iload (pn := 96) rfl dX5_make_94 (i := 6) (x := l6) rfl ?_
      refine zh_if_ge (pn := 99) rfl dX5_make_96 (tgt := 144) rfl (fun cc1 => ?_) (fun cc1 => ?_)
      · replace h := h.1 cc1
        exact hK144 _ _ _ h
      · replace h := h.2 cc1
        refine zh_iload (pn := 101) rfl dX5_make_99 (i := 7) (x := l7) rfl ?_
        refine zh_iconst (pn := 102) rfl dX5_make_101 (v := (zI 1)) rfl ?_
        refine zh_icmp_ne (pn := 105) rfl dX5_make_102 (tgt := 109) rfl (fun cc1 => ?_) (fun cc1 => ?_)
        · replace h := h.1 cc1
          refine zh_aload_n (pn := 110) rfl dX5_make_109 (i := 0) (v := .ref 39) rfl rfl (Or.inr ⟨_, rfl⟩) ?_
          refine zh_get (pn := 113) rfl dX5_make_110 (v := .int (M 39 23)) (k := 23) rfl rfl (by decide) (by decide) in_X5 mf_X5_103 rfl ?_
          refine zh_if_eq (pn := 116) rfl dX5_make_113 (tgt := 123) rfl (fun cc1 => ?_) (fun cc1 => ?_)
          · replace h := h.1 cc1
            refine zh_aload_n (pn := 124) rfl dX5_make_123 (i := 0) (v := .ref 39) rfl rfl (Or.inr ⟨_, rfl⟩) ?_
            refine zh_bipush (pn := 126) rfl dX5_make_124 (v := (zI 16)) rfl ?_
            refine ca_X5_sweepUpTo (pn := 129) rfl dX5_make_126 mc_X5_138 (fun _ _ => Nat.le_of_ble_eq_true rfl) h (fun r8 M7 h => ?_)
            refine zh_pop (pn := 130) rfl dX5_make_129 (fun _ _ => rfl) ?_
            refine zh_aload_n (pn := 131) rfl dX5_make_130 (i := 0) (v := .ref 39) rfl rfl (Or.inr ⟨_, rfl⟩) ?_
            refine zh_iload (pn := 133) rfl dX5_make_131 (i := 5) (x := l5) rfl ?_
            refine ca_X5_seat (pn := 136) rfl dX5_make_133 mc_X5_134 (fun _ _ => Nat.le_of_ble_eq_true rfl) h (fun r10 M9 h => ?_)
            refine zh_istore (pn := 138) rfl dX5_make_136 (i := 6) (lo' := [some (.ref 39), some (.int l1), some (.int l2), some (.int l3), some (.int l4), some (.int l5), some (.int r10), some (.int l7)]) (by decide) rfl ?_
            refine zh_iinc (pn := 141) rfl dX5_make_138 (i := 7) (x := l7) (v := l7 + (zI 1)) (lo' := [some (.ref 39), some (.int l1), some (.int l2), some (.int l3), some (.int l4), some (.int l5), some (.int r10), some (.int (l7 + (zI 1)))]) rfl rfl (by decide) rfl ?_
            refine zh_goto dX5_make_141 (tgt := 88) rfl ?_
            exact ih _ _ _ h
          · replace h := h.2 cc1
            refine zh_aload_n (pn := 117) rfl dX5_make_116 (i := 0) (v := .ref 39) rfl rfl (Or.inr ⟨_, rfl⟩) ?_
            refine zh_ldc (pn := 119) rfl dX5_make_117 mv_X5_137 ?_
            refine ca_X5_work (pn := 122) rfl dX5_make_119 mc_X5_131 (fun _ _ => Nat.le_of_ble_eq_true rfl) h (fun r12 M11 h => ?_)
            refine zh_pop (pn := 123) rfl dX5_make_122 (fun _ _ => rfl) ?_
            refine zh_aload_n (pn := 124) rfl dX5_make_123 (i := 0) (v := .ref 39) rfl rfl (Or.inr ⟨_, rfl⟩) ?_
            refine zh_bipush (pn := 126) rfl dX5_make_124 (v := (zI 16)) rfl ?_
            refine ca_X5_sweepUpTo (pn := 129) rfl dX5_make_126 mc_X5_138 (fun _ _ => Nat.le_of_ble_eq_true rfl) h (fun r14 M13 h => ?_)
            refine zh_pop (pn := 130) rfl dX5_make_129 (fun _ _ => rfl) ?_
            refine zh_aload_n (pn := 131) rfl dX5_make_130 (i := 0) (v := .ref 39) rfl rfl (Or.inr ⟨_, rfl⟩) ?_
            refine zh_iload (pn := 133) rfl dX5_make_131 (i := 5) (x := l5) rfl ?_
            refine ca_X5_seat (pn := 136) rfl dX5_make_133 mc_X5_134 (fun _ _ => Nat.le_of_ble_eq_true rfl) h (fun r16 M15 h => ?_)
            refine zh_istore (pn := 138) rfl dX5_make_136 (i := 6) (lo' := [some (.ref 39), some (.int l1), some (.int l2), some (.int l3), some (.int l4), some (.int l5), some (.int r16), some (.int l7)]) (by decide) rfl ?_
            refine zh_iinc (pn := 141) rfl dX5_make_138 (i := 7) (x := l7) (v := l7 + (zI 1)) (lo' := [some (.ref 39), some (.int l1), some (.int l2), some (.int l3), some (.int l4), some (.int l5), some (.int r16), some (.int (l7 + (zI 1)))]) rfl rfl (by decide) rfl ?_
            refine zh_goto dX5_make_141 (tgt := 88) rfl ?_
            exact ih _ _ _ h
        · replace h := h.2 cc1
          refine zh_aload_n (pn := 106) rfl dX5_make_105 (i := 0) (v := .ref 39) rfl rfl (Or.inr ⟨_, rfl⟩) ?_
          refine ca_X5_cycle (pn := 109) rfl dX5_make_106 mc_X5_128 (fun _ _ => Nat.le_of_ble_eq_true rfl) h (fun M17 h => ?_)
          refine zh_aload_n (pn := 110) rfl dX5_make_109 (i := 0) (v := .ref 39) rfl rfl (Or.inr ⟨_, rfl⟩) ?_
          refine zh_get (pn := 113) rfl dX5_make_110 (v := .int (M17 39 23)) (k := 23) rfl rfl (by decide) (by decide) in_X5 mf_X5_103 rfl ?_
          refine zh_if_eq (pn := 116) rfl dX5_make_113 (tgt := 123) rfl (fun cc1 => ?_) (fun cc1 => ?_)
          · replace h := h.1 cc1
            refine zh_aload_n (pn := 124) rfl dX5_make_123 (i := 0) (v := .ref 39) rfl rfl (Or.inr ⟨_, rfl⟩) ?_
            refine zh_bipush (pn := 126) rfl dX5_make_124 (v := (zI 16)) rfl ?_
            refine ca_X5_sweepUpTo (pn := 129) rfl dX5_make_126 mc_X5_138 (fun _ _ => Nat.le_of_ble_eq_true rfl) h (fun r19 M18 h => ?_)
            refine zh_pop (pn := 130) rfl dX5_make_129 (fun _ _ => rfl) ?_
            refine zh_aload_n (pn := 131) rfl dX5_make_130 (i := 0) (v := .ref 39) rfl rfl (Or.inr ⟨_, rfl⟩) ?_
            refine zh_iload (pn := 133) rfl dX5_make_131 (i := 5) (x := l5) rfl ?_
            refine ca_X5_seat (pn := 136) rfl dX5_make_133 mc_X5_134 (fun _ _ => Nat.le_of_ble_eq_true rfl) h (fun r21 M20 h => ?_)
            refine zh_istore (pn := 138) rfl dX5_make_136 (i := 6) (lo' := [some (.ref 39), some (.int l1), some (.int l2), some (.int l3), some (.int l4), some (.int l5), some (.int r21), some (.int l7)]) (by decide) rfl ?_
            refine zh_iinc (pn := 141) rfl dX5_make_138 (i := 7) (x := l7) (v := l7 + (zI 1)) (lo' := [some (.ref 39), some (.int l1), some (.int l2), some (.int l3), some (.int l4), some (.int l5), some (.int r21), some (.int (l7 + (zI 1)))]) rfl rfl (by decide) rfl ?_
            refine zh_goto dX5_make_141 (tgt := 88) rfl ?_
            exact ih _ _ _ h
          · replace h := h.2 cc1
            refine zh_aload_n (pn := 117) rfl dX5_make_116 (i := 0) (v := .ref 39) rfl rfl (Or.inr ⟨_, rfl⟩) ?_
            refine zh_ldc (pn := 119) rfl dX5_make_117 mv_X5_137 ?_
            refine ca_X5_work (pn := 122) rfl dX5_make_119 mc_X5_131 (fun _ _ => Nat.le_of_ble_eq_true rfl) h (fun r23 M22 h => ?_)
            refine zh_pop (pn := 123) rfl dX5_make_122 (fun _ _ => rfl) ?_
            refine zh_aload_n (pn := 124) rfl dX5_make_123 (i := 0) (v := .ref 39) rfl rfl (Or.inr ⟨_, rfl⟩) ?_
            refine zh_bipush (pn := 126) rfl dX5_make_124 (v := (zI 16)) rfl ?_
            refine ca_X5_sweepUpTo (pn := 129) rfl dX5_make_126 mc_X5_138 (fun _ _ => Nat.le_of_ble_eq_true rfl) h (fun r25 M24 h => ?_)
            refine zh_pop (pn := 130) rfl dX5_make_129 (fun _ _ => rfl) ?_
            refine zh_aload_n (pn := 131) rfl dX5_make_130 (i := 0) (v := .ref 39) rfl rfl (Or.inr ⟨_, rfl⟩) ?_
            refine zh_iload (pn := 133) rfl dX5_make_131 (i := 5) (x := l5) rfl ?_
            refine ca_X5_seat (pn := 136) rfl dX5_make_133 mc_X5_134 (fun _ _ => Nat.le_of_ble_eq_true rfl) h (fun r27 M26 h => ?_)
            refine zh_istore (pn := 138) rfl dX5_make_136 (i := 6) (lo' := [some (.ref 39), some (.int l1), some (.int l2), some (.int l3), some (.int l4), some (.int l5), some (.int r27), some (.int l7)]) (by decide) rfl ?_
            refine zh_iinc (pn := 141) rfl dX5_make_138 (i := 7) (x := l7) (v := l7 + (zI 1)) (lo' := [some (.ref 39), some (.int l1), some (.int l2), some (.int l3), some (.int l4), some (.int l5), some (.int r27), some (.int (l7 + (zI 1)))]) rfl rfl (by decide) rfl ?_
            refine zh_goto dX5_make_141 (tgt := 88) rfl ?_
            exact ih _ _ _ h
set_option maxRecDepth 100000 in
set_option maxHeartbeats 4000000 in
theorem wkl_X5_make_183 {X : Nat × (Nat → Int32)} {d : Nat} {P : Int32 → zh_M → Prop} {l1 : Int32} {l2 : Int32} {l3 : Int32} {l4 : Int32} {l5 : Int32} {l6 : Int32} {K217 : zh_M → Prop} (hK217 : ∀ (M : zh_M) (w3 : Option Value) (w4 : Option Value) (w7 : Option Value), K217 M → zh_W X (d + 3) yX5_make cX5_make 8 (some .int) 217 [some (.ref 39), some (.int l1), some (.int l2), w3, w4, some (.int l5), some (.int l6), w7] [] zh_LL M 0 0 (zh_pi P)) : ∀ (n : Nat) (l7 : Int32) (M : zh_M) , wl_X5_make_183 l1 l2 l3 l4 l5 l6 K217 P n l7 M → zh_W X (d + 3) yX5_make cX5_make 8 (some .int) 183 [some (.ref 39), some (.int l1), some (.int l2), some (.int l3), some (.int l4), some (.int l5), some (.int l6), some (.int l7)] [] zh_LL M 0 0 (zh_pi P) := by
  intro n
  induction n with
  | zero => intro l7 M  h; exact h.elim
  | succ n ih =>
    intro l7 M  h
    unfold wl_X5_make_183 at h
    refine zh_iload (pn := 185) rfl dX5_make_183 (i := 7) (x := l7) rfl ?_
    refine zh_iload_n (pn := 186) rfl dX5_make_185 (i := 3) (x := l3) rfl rfl ?_
    refine zh_icmp_ge (pn := 189) rfl dX5_make_186 (tgt := 217) rfl (fun cc1 => ?_) (fun cc1 => ?_)
    · replace h := h.1 cc1
      exact hK217 _ _ _ _ h
    · replace h := h.2 cc1
      refine zh_aload_n (pn := 190) rfl dX5_make_189 (i := 0) (v := .ref 39) rfl rfl (Or.inr ⟨_, rfl⟩) ?_
      refine zh_get (pn := 193) rfl dX5_make_190 (v := .ref 40) (k := 0) rfl rfl (by decide) (by decide) in_X5 mf_X5_7 rfl ?_
      refine zh_iload (pn := 195) rfl dX5_make_193 (i := 6) (x := l6) rfl ?_
      refine zh_iload (pn := 197) rfl dX5_make_195 (i := 7) (x := l7) rfl ?_
      refine zh_iadd (pn := 198) rfl dX5_make_197 ?_
      refine zh_iload (pn := 200) rfl dX5_make_198 (i := 7) (x := l7) rfl ?_
      refine zh_iload (pn := 202) rfl dX5_make_200 (i := 4) (x := l4) rfl ?_
      refine zh_icmp_ge (pn := 205) rfl dX5_make_202 (tgt := 209) rfl (fun cc1 => ?_) (fun cc1 => ?_)
      · replace h := h.1 cc1
        refine zh_iconst (pn := 210) rfl dX5_make_209 (v := (zI 0)) rfl ?_
        refine zh_iast (pn := 211) rfl dX5_make_210 rfl h.1 ?_
        obtain ⟨M34, eM34⟩ : ∃ q : zh_M, q = zh_set M 40 (l6 + l7).toNatClampNeg (zI 0) := ⟨_, rfl⟩
        replace h := h.2 M34 eM34
        rw [← eM34]
        refine zh_iinc (pn := 214) rfl dX5_make_211 (i := 7) (x := l7) (v := l7 + (zI 1)) (lo' := [some (.ref 39), some (.int l1), some (.int l2), some (.int l3), some (.int l4), some (.int l5), some (.int l6), some (.int (l7 + (zI 1)))]) rfl rfl (by decide) rfl ?_
        refine zh_goto dX5_make_214 (tgt := 183) rfl ?_
        exact ih _ _ h
      · replace h := h.2 cc1
        refine zh_iconst (pn := 206) rfl dX5_make_205 (v := (zI (-1))) rfl ?_
        refine zh_goto dX5_make_206 (tgt := 210) rfl ?_
        refine zh_iast (pn := 211) rfl dX5_make_210 rfl h.1 ?_
        obtain ⟨M35, eM35⟩ : ∃ q : zh_M, q = zh_set M 40 (l6 + l7).toNatClampNeg (zI (-1)) := ⟨_, rfl⟩
        replace h := h.2 M35 eM35
        rw [← eM35]
        refine zh_iinc (pn := 214) rfl dX5_make_211 (i := 7) (x := l7) (v := l7 + (zI 1)) (lo' := [some (.ref 39), some (.int l1), some (.int l2), some (.int l3), some (.int l4), some (.int l5), some (.int l6), some (.int (l7 + (zI 1)))]) rfl rfl (by decide) rfl ?_
        refine zh_goto dX5_make_214 (tgt := 183) rfl ?_
        exact ih _ _ h
set_option maxRecDepth 100000 in
set_option maxHeartbeats 4000000 in
theorem wk_X5_make {X : Nat × (Nat → Int32)} {d : Nat} {M : zh_M} {a1 : Int32} {a2 : Int32} {a3 : Int32} {a4 : Int32} {P : Int32 → zh_M → Prop} (h : wp_X5_make M a1 a2 a3 a4 P) : zh_W X (d + 3) yX5_make cX5_make 8 (some .int) 0 (zh_en [.ref 39, .int a1, .int a2, .int a3, .int a4] 8) [] zh_LL M 0 0 (zh_pi P) := by
  unfold wp_X5_make at h
  show zh_W X (d + 3) yX5_make cX5_make 8 (some .int) 0 [some (.ref 39), some (.int a1), some (.int a2), some (.int a3), some (.int a4), none, none, none] [] zh_LL M 0 0 (zh_pi P)
  refine zh_aload_n (pn := 1) rfl dX5_make_0 (i := 0) (v := .ref 39) rfl rfl (Or.inr ⟨_, rfl⟩) ?_
  refine zh_iload_n (pn := 2) rfl dX5_make_1 (i := 1) (x := a1) rfl rfl ?_
  refine zh_iload_n (pn := 3) rfl dX5_make_2 (i := 2) (x := a2) rfl rfl ?_
  refine zh_iconst (pn := 4) rfl dX5_make_3 (v := (zI 0)) rfl ?_
  refine ca_X5_cell (pn := 7) rfl dX5_make_4 mc_X5_96 (fun _ _ => Nat.le_of_ble_eq_true rfl) h (fun r2 M1 h => ?_)
  refine zh_if_eq (pn := 10) rfl dX5_make_7 (tgt := 32) rfl (fun cc1 => ?_) (fun cc1 => ?_)
  · replace h := h.1 cc1
    refine zh_iconst (pn := 33) rfl dX5_make_32 (v := (zI (-1))) rfl ?_
    exact zh_iret dX5_make_33 rfl rfl ⟨_, rfl, rfl, h⟩
  · replace h := h.2 cc1
    refine zh_iload_n (pn := 11) rfl dX5_make_10 (i := 3) (x := a3) rfl rfl ?_
    refine zh_iconst (pn := 12) rfl dX5_make_11 (v := (zI 1)) rfl ?_
    refine zh_icmp_lt (pn := 15) rfl dX5_make_12 (tgt := 32) rfl (fun cc1 => ?_) (fun cc1 => ?_)
    · replace h := h.1 cc1
      refine zh_iconst (pn := 33) rfl dX5_make_32 (v := (zI (-1))) rfl ?_
      exact zh_iret dX5_make_33 rfl rfl ⟨_, rfl, rfl, h⟩
    · replace h := h.2 cc1
      refine zh_iload_n (pn := 16) rfl dX5_make_15 (i := 3) (x := a3) rfl rfl ?_
      refine zh_bipush (pn := 18) rfl dX5_make_16 (v := (zI 64)) rfl ?_
      refine zh_icmp_gt (pn := 21) rfl dX5_make_18 (tgt := 32) rfl (fun cc1 => ?_) (fun cc1 => ?_)
      · replace h := h.1 cc1
        refine zh_iconst (pn := 33) rfl dX5_make_32 (v := (zI (-1))) rfl ?_
        exact zh_iret dX5_make_33 rfl rfl ⟨_, rfl, rfl, h⟩
      · replace h := h.2 cc1
        refine zh_iload (pn := 23) rfl dX5_make_21 (i := 4) (x := a4) rfl ?_
        refine zh_if_lt (pn := 26) rfl dX5_make_23 (tgt := 32) rfl (fun cc1 => ?_) (fun cc1 => ?_)
        · replace h := h.1 cc1
          refine zh_iconst (pn := 33) rfl dX5_make_32 (v := (zI (-1))) rfl ?_
          exact zh_iret dX5_make_33 rfl rfl ⟨_, rfl, rfl, h⟩
        · replace h := h.2 cc1
          refine zh_iload (pn := 28) rfl dX5_make_26 (i := 4) (x := a4) rfl ?_
          refine zh_iload_n (pn := 29) rfl dX5_make_28 (i := 3) (x := a3) rfl rfl ?_
          refine zh_icmp_le (pn := 32) rfl dX5_make_29 (tgt := 34) rfl (fun cc1 => ?_) (fun cc1 => ?_)
          · replace h := h.1 cc1
            refine zh_aload_n (pn := 35) rfl dX5_make_34 (i := 0) (v := .ref 39) rfl rfl (Or.inr ⟨_, rfl⟩) ?_
            refine zh_iload_n (pn := 36) rfl dX5_make_35 (i := 3) (x := a3) rfl rfl ?_
            refine ca_X5_slotOf (pn := 39) rfl dX5_make_36 mc_X5_121 (fun _ _ => Nat.le_of_ble_eq_true rfl) h (fun r4 M3 h => ?_)
            refine zh_istore (pn := 41) rfl dX5_make_39 (i := 5) (lo' := [some (.ref 39), some (.int a1), some (.int a2), some (.int a3), some (.int a4), some (.int r4), none, none]) (by decide) rfl ?_
            refine zh_aload_n (pn := 42) rfl dX5_make_41 (i := 0) (v := .ref 39) rfl rfl (Or.inr ⟨_, rfl⟩) ?_
            refine zh_get (pn := 45) rfl dX5_make_42 (v := .int (M3 39 23)) (k := 23) rfl rfl (by decide) (by decide) in_X5 mf_X5_103 rfl ?_
            refine zh_if_ne (pn := 48) rfl dX5_make_45 (tgt := 63) rfl (fun cc1 => ?_) (fun cc1 => ?_)
            · replace h := h.1 cc1
              refine zh_aload_n (pn := 64) rfl dX5_make_63 (i := 0) (v := .ref 39) rfl rfl (Or.inr ⟨_, rfl⟩) ?_
              refine zh_get (pn := 67) rfl dX5_make_64 (v := .int (M3 39 23)) (k := 23) rfl rfl (by decide) (by decide) in_X5 mf_X5_103 rfl ?_
              refine zh_if_eq (pn := 70) rfl dX5_make_67 (tgt := 77) rfl (fun cc1 => ?_) (fun cc1 => ?_)
              · replace h := h.1 cc1
                refine zh_aload_n (pn := 78) rfl dX5_make_77 (i := 0) (v := .ref 39) rfl rfl (Or.inr ⟨_, rfl⟩) ?_
                refine zh_iload (pn := 80) rfl dX5_make_78 (i := 5) (x := r4) rfl ?_
                refine ca_X5_seat (pn := 83) rfl dX5_make_80 mc_X5_134 (fun _ _ => Nat.le_of_ble_eq_true rfl) h (fun r6 M5 h => ?_)
                refine zh_istore (pn := 85) rfl dX5_make_83 (i := 6) (lo' := [some (.ref 39), some (.int a1), some (.int a2), some (.int a3), some (.int a4), some (.int r4), some (.int r6), none]) (by decide) rfl ?_
                refine zh_iconst (pn := 86) rfl dX5_make_85 (v := (zI 0)) rfl ?_
                refine zh_istore (pn := 88) rfl dX5_make_86 (i := 7) (lo' := [some (.ref 39), some (.int a1), some (.int a2), some (.int a3), some (.int a4), some (.int r4), some (.int r6), some (.int (zI 0))]) (by decide) rfl ?_
                obtain ⟨n45, h⟩ := h
                refine wkl_X5_make_88 (fun v6_28 M29 w7_30 h => ?_) n45 _ _ _ h
                refine zh_iload (pn := 146) rfl dX5_make_144 (i := 6) (x := v6_28) rfl ?_
                refine zh_if_ge (pn := 149) rfl dX5_make_146 (tgt := 152) rfl (fun cc1 => ?_) (fun cc1 => ?_)
                · replace h := h.1 cc1
                  refine zh_aload_n (pn := 153) rfl dX5_make_152 (i := 0) (v := .ref 39) rfl rfl (Or.inr ⟨_, rfl⟩) ?_
                  refine zh_get (pn := 156) rfl dX5_make_153 (v := .ref 41) (k := 1) rfl rfl (by decide) (by decide) in_X5 mf_X5_13 rfl ?_
                  refine zh_iload (pn := 158) rfl dX5_make_156 (i := 6) (x := v6_28) rfl ?_
                  refine zh_iload_n (pn := 159) rfl dX5_make_158 (i := 3) (x := a3) rfl rfl ?_
                  refine zh_iast (pn := 160) rfl dX5_make_159 rfl h.1 ?_
                  obtain ⟨M31, eM31⟩ : ∃ q : zh_M, q = zh_set M29 41 v6_28.toNatClampNeg a3 := ⟨_, rfl⟩
                  replace h := h.2 M31 eM31
                  rw [← eM31]
                  refine zh_aload_n (pn := 161) rfl dX5_make_160 (i := 0) (v := .ref 39) rfl rfl (Or.inr ⟨_, rfl⟩) ?_
                  refine zh_get (pn := 164) rfl dX5_make_161 (v := .ref 42) (k := 2) rfl rfl (by decide) (by decide) in_X5 mf_X5_16 rfl ?_
                  refine zh_iload (pn := 166) rfl dX5_make_164 (i := 6) (x := v6_28) rfl ?_
                  refine zh_iload (pn := 168) rfl dX5_make_166 (i := 4) (x := a4) rfl ?_
                  refine zh_iast (pn := 169) rfl dX5_make_168 rfl h.1 ?_
                  obtain ⟨M32, eM32⟩ : ∃ q : zh_M, q = zh_set M31 42 v6_28.toNatClampNeg a4 := ⟨_, rfl⟩
                  replace h := h.2 M32 eM32
                  rw [← eM32]
                  refine zh_aload_n (pn := 170) rfl dX5_make_169 (i := 0) (v := .ref 39) rfl rfl (Or.inr ⟨_, rfl⟩) ?_
                  refine zh_get (pn := 173) rfl dX5_make_170 (v := .ref 43) (k := 3) rfl rfl (by decide) (by decide) in_X5 mf_X5_19 rfl ?_
                  refine zh_iload (pn := 175) rfl dX5_make_173 (i := 6) (x := v6_28) rfl ?_
                  refine zh_aload_n (pn := 176) rfl dX5_make_175 (i := 0) (v := .ref 39) rfl rfl (Or.inr ⟨_, rfl⟩) ?_
                  refine zh_get (pn := 179) rfl dX5_make_176 (v := .int (M32 39 23)) (k := 23) rfl rfl (by decide) (by decide) in_X5 mf_X5_103 rfl ?_
                  refine zh_zast (pn := 180) rfl dX5_make_179 (x' := vp_nar .boolean (M32 39 23)) rfl h.1 rfl ?_
                  obtain ⟨M33, eM33⟩ : ∃ q : zh_M, q = zh_set M32 43 v6_28.toNatClampNeg (vp_nar .boolean (M32 39 23)) := ⟨_, rfl⟩
                  replace h := h.2 M33 eM33
                  rw [← eM33]
                  refine zh_iconst (pn := 181) rfl dX5_make_180 (v := (zI 0)) rfl ?_
                  refine zh_istore (pn := 183) rfl dX5_make_181 (i := 7) (lo' := [some (.ref 39), some (.int a1), some (.int a2), some (.int a3), some (.int a4), some (.int r4), some (.int v6_28), some (.int (zI 0))]) (by decide) rfl ?_
                  obtain ⟨n44, h⟩ := h
                  refine wkl_X5_make_183 (fun M36 w3_37 w4_38 w7_39 h => ?_) n44 _ _ h
                  refine zh_aload_n (pn := 218) rfl dX5_make_217 (i := 0) (v := .ref 39) rfl rfl (Or.inr ⟨_, rfl⟩) ?_
                  refine zh_dup (pn := 219) rfl dX5_make_218 (fun _ _ => rfl) ?_
                  refine zh_get (pn := 222) rfl dX5_make_219 (v := .int (M36 39 28)) (k := 28) rfl rfl (by decide) (by decide) in_X5 mf_X5_125 rfl ?_
                  refine zh_iload (pn := 224) rfl dX5_make_222 (i := 5) (x := r4) rfl ?_
                  refine zh_iadd (pn := 225) rfl dX5_make_224 ?_
                  refine zh_put (pn := 228) rfl dX5_make_225 (k := 28) rfl rfl (by decide) (by decide) in_X5 tyX5_ok nmX5 mf_X5_125 rfl rfl rfl rfl ?_
                  obtain ⟨M40, eM40⟩ : ∃ q : zh_M, q = zh_set M36 39 28 ((M36 39 28) + r4) := ⟨_, rfl⟩
                  replace h := h M40 eM40
                  rw [← eM40]
                  refine zh_aload_n (pn := 229) rfl dX5_make_228 (i := 0) (v := .ref 39) rfl rfl (Or.inr ⟨_, rfl⟩) ?_
                  refine zh_get (pn := 232) rfl dX5_make_229 (v := .ref 52) (k := 12) rfl rfl (by decide) (by decide) in_X5 mf_X5_47 rfl ?_
                  refine zh_aload_n (pn := 233) rfl dX5_make_232 (i := 0) (v := .ref 39) rfl rfl (Or.inr ⟨_, rfl⟩) ?_
                  refine zh_iload_n (pn := 234) rfl dX5_make_233 (i := 1) (x := a1) rfl rfl ?_
                  refine zh_iload_n (pn := 235) rfl dX5_make_234 (i := 2) (x := a2) rfl rfl ?_
                  refine ca_X5_place (pn := 238) rfl dX5_make_235 mc_X5_92 (fun _ _ => Nat.le_of_ble_eq_true rfl) h (fun r42 M41 h => ?_)
                  refine zh_iload (pn := 240) rfl dX5_make_238 (i := 6) (x := v6_28) rfl ?_
                  refine zh_iast (pn := 241) rfl dX5_make_240 rfl h.1 ?_
                  obtain ⟨M43, eM43⟩ : ∃ q : zh_M, q = zh_set M41 52 r42.toNatClampNeg v6_28 := ⟨_, rfl⟩
                  replace h := h.2 M43 eM43
                  rw [← eM43]
                  refine zh_iload (pn := 243) rfl dX5_make_241 (i := 6) (x := v6_28) rfl ?_
                  exact zh_iret dX5_make_243 rfl rfl ⟨_, rfl, rfl, h⟩
                · replace h := h.2 cc1
                  refine zh_bipush (pn := 151) rfl dX5_make_149 (v := (zI (-2))) rfl ?_
                  exact zh_iret dX5_make_151 rfl rfl ⟨_, rfl, rfl, h⟩
              · replace h := h.2 cc1
                refine zh_aload_n (pn := 71) rfl dX5_make_70 (i := 0) (v := .ref 39) rfl rfl (Or.inr ⟨_, rfl⟩) ?_
                refine zh_iload (pn := 73) rfl dX5_make_71 (i := 5) (x := r4) rfl ?_
                refine ca_X5_work (pn := 76) rfl dX5_make_73 mc_X5_131 (fun _ _ => Nat.le_of_ble_eq_true rfl) h (fun r47 M46 h => ?_)
                refine zh_pop (pn := 77) rfl dX5_make_76 (fun _ _ => rfl) ?_
                refine zh_aload_n (pn := 78) rfl dX5_make_77 (i := 0) (v := .ref 39) rfl rfl (Or.inr ⟨_, rfl⟩) ?_
                refine zh_iload (pn := 80) rfl dX5_make_78 (i := 5) (x := r4) rfl ?_
                refine ca_X5_seat (pn := 83) rfl dX5_make_80 mc_X5_134 (fun _ _ => Nat.le_of_ble_eq_true rfl) h (fun r49 M48 h => ?_)
                refine zh_istore (pn := 85) rfl dX5_make_83 (i := 6) (lo' := [some (.ref 39), some (.int a1), some (.int a2), some (.int a3), some (.int a4), some (.int r4), some (.int r49), none]) (by decide) rfl ?_
                refine zh_iconst (pn := 86) rfl dX5_make_85 (v := (zI 0)) rfl ?_
                refine zh_istore (pn := 88) rfl dX5_make_86 (i := 7) (lo' := [some (.ref 39), some (.int a1), some (.int a2), some (.int a3), some (.int a4), some (.int r4), some (.int r49), some (.int (zI 0))]) (by decide) rfl ?_
                obtain ⟨n65, h⟩ := h
                refine wkl_X5_make_88 (fun v6_50 M51 w7_52 h => ?_) n65 _ _ _ h
                refine zh_iload (pn := 146) rfl dX5_make_144 (i := 6) (x := v6_50) rfl ?_
                refine zh_if_ge (pn := 149) rfl dX5_make_146 (tgt := 152) rfl (fun cc1 => ?_) (fun cc1 => ?_)
                · replace h := h.1 cc1
                  refine zh_aload_n (pn := 153) rfl dX5_make_152 (i := 0) (v := .ref 39) rfl rfl (Or.inr ⟨_, rfl⟩) ?_
                  refine zh_get (pn := 156) rfl dX5_make_153 (v := .ref 41) (k := 1) rfl rfl (by decide) (by decide) in_X5 mf_X5_13 rfl ?_
                  refine zh_iload (pn := 158) rfl dX5_make_156 (i := 6) (x := v6_50) rfl ?_
                  refine zh_iload_n (pn := 159) rfl dX5_make_158 (i := 3) (x := a3) rfl rfl ?_
                  refine zh_iast (pn := 160) rfl dX5_make_159 rfl h.1 ?_
                  obtain ⟨M53, eM53⟩ : ∃ q : zh_M, q = zh_set M51 41 v6_50.toNatClampNeg a3 := ⟨_, rfl⟩
                  replace h := h.2 M53 eM53
                  rw [← eM53]
                  refine zh_aload_n (pn := 161) rfl dX5_make_160 (i := 0) (v := .ref 39) rfl rfl (Or.inr ⟨_, rfl⟩) ?_
                  refine zh_get (pn := 164) rfl dX5_make_161 (v := .ref 42) (k := 2) rfl rfl (by decide) (by decide) in_X5 mf_X5_16 rfl ?_
                  refine zh_iload (pn := 166) rfl dX5_make_164 (i := 6) (x := v6_50) rfl ?_
                  refine zh_iload (pn := 168) rfl dX5_make_166 (i := 4) (x := a4) rfl ?_
                  refine zh_iast (pn := 169) rfl dX5_make_168 rfl h.1 ?_
                  obtain ⟨M54, eM54⟩ : ∃ q : zh_M, q = zh_set M53 42 v6_50.toNatClampNeg a4 := ⟨_, rfl⟩
                  replace h := h.2 M54 eM54
                  rw [← eM54]
                  refine zh_aload_n (pn := 170) rfl dX5_make_169 (i := 0) (v := .ref 39) rfl rfl (Or.inr ⟨_, rfl⟩) ?_
                  refine zh_get (pn := 173) rfl dX5_make_170 (v := .ref 43) (k := 3) rfl rfl (by decide) (by decide) in_X5 mf_X5_19 rfl ?_
                  refine zh_iload (pn := 175) rfl dX5_make_173 (i := 6) (x := v6_50) rfl ?_
                  refine zh_aload_n (pn := 176) rfl dX5_make_175 (i := 0) (v := .ref 39) rfl rfl (Or.inr ⟨_, rfl⟩) ?_
                  refine zh_get (pn := 179) rfl dX5_make_176 (v := .int (M54 39 23)) (k := 23) rfl rfl (by decide) (by decide) in_X5 mf_X5_103 rfl ?_
                  refine zh_zast (pn := 180) rfl dX5_make_179 (x' := vp_nar .boolean (M54 39 23)) rfl h.1 rfl ?_
                  obtain ⟨M55, eM55⟩ : ∃ q : zh_M, q = zh_set M54 43 v6_50.toNatClampNeg (vp_nar .boolean (M54 39 23)) := ⟨_, rfl⟩
                  replace h := h.2 M55 eM55
                  rw [← eM55]
                  refine zh_iconst (pn := 181) rfl dX5_make_180 (v := (zI 0)) rfl ?_
                  refine zh_istore (pn := 183) rfl dX5_make_181 (i := 7) (lo' := [some (.ref 39), some (.int a1), some (.int a2), some (.int a3), some (.int a4), some (.int r4), some (.int v6_50), some (.int (zI 0))]) (by decide) rfl ?_
                  obtain ⟨n64, h⟩ := h
                  refine wkl_X5_make_183 (fun M56 w3_57 w4_58 w7_59 h => ?_) n64 _ _ h
                  refine zh_aload_n (pn := 218) rfl dX5_make_217 (i := 0) (v := .ref 39) rfl rfl (Or.inr ⟨_, rfl⟩) ?_
                  refine zh_dup (pn := 219) rfl dX5_make_218 (fun _ _ => rfl) ?_
                  refine zh_get (pn := 222) rfl dX5_make_219 (v := .int (M56 39 28)) (k := 28) rfl rfl (by decide) (by decide) in_X5 mf_X5_125 rfl ?_
                  refine zh_iload (pn := 224) rfl dX5_make_222 (i := 5) (x := r4) rfl ?_
                  refine zh_iadd (pn := 225) rfl dX5_make_224 ?_
                  refine zh_put (pn := 228) rfl dX5_make_225 (k := 28) rfl rfl (by decide) (by decide) in_X5 tyX5_ok nmX5 mf_X5_125 rfl rfl rfl rfl ?_
                  obtain ⟨M60, eM60⟩ : ∃ q : zh_M, q = zh_set M56 39 28 ((M56 39 28) + r4) := ⟨_, rfl⟩
                  replace h := h M60 eM60
                  rw [← eM60]
                  refine zh_aload_n (pn := 229) rfl dX5_make_228 (i := 0) (v := .ref 39) rfl rfl (Or.inr ⟨_, rfl⟩) ?_
                  refine zh_get (pn := 232) rfl dX5_make_229 (v := .ref 52) (k := 12) rfl rfl (by decide) (by decide) in_X5 mf_X5_47 rfl ?_
                  refine zh_aload_n (pn := 233) rfl dX5_make_232 (i := 0) (v := .ref 39) rfl rfl (Or.inr ⟨_, rfl⟩) ?_
                  refine zh_iload_n (pn := 234) rfl dX5_make_233 (i := 1) (x := a1) rfl rfl ?_
                  refine zh_iload_n (pn := 235) rfl dX5_make_234 (i := 2) (x := a2) rfl rfl ?_
                  refine ca_X5_place (pn := 238) rfl dX5_make_235 mc_X5_92 (fun _ _ => Nat.le_of_ble_eq_true rfl) h (fun r62 M61 h => ?_)
                  refine zh_iload (pn := 240) rfl dX5_make_238 (i := 6) (x := v6_50) rfl ?_
                  refine zh_iast (pn := 241) rfl dX5_make_240 rfl h.1 ?_
                  obtain ⟨M63, eM63⟩ : ∃ q : zh_M, q = zh_set M61 52 r62.toNatClampNeg v6_50 := ⟨_, rfl⟩
                  replace h := h.2 M63 eM63
                  rw [← eM63]
                  refine zh_iload (pn := 243) rfl dX5_make_241 (i := 6) (x := v6_50) rfl ?_
                  exact zh_iret dX5_make_243 rfl rfl ⟨_, rfl, rfl, h⟩
                · replace h := h.2 cc1
                  refine zh_bipush (pn := 151) rfl dX5_make_149 (v := (zI (-2))) rfl ?_
                  exact zh_iret dX5_make_151 rfl rfl ⟨_, rfl, rfl, h⟩
            · replace h := h.2 cc1
              refine zh_aload_n (pn := 49) rfl dX5_make_48 (i := 0) (v := .ref 39) rfl rfl (Or.inr ⟨_, rfl⟩) ?_
              refine zh_get (pn := 52) rfl dX5_make_49 (v := .int (M3 39 28)) (k := 28) rfl rfl (by decide) (by decide) in_X5 mf_X5_125 rfl ?_
              refine zh_aload_n (pn := 53) rfl dX5_make_52 (i := 0) (v := .ref 39) rfl rfl (Or.inr ⟨_, rfl⟩) ?_
              refine zh_get (pn := 56) rfl dX5_make_53 (v := .int (M3 39 29)) (k := 29) rfl rfl (by decide) (by decide) in_X5 mf_X5_77 rfl ?_
              refine zh_icmp_lt (pn := 59) rfl dX5_make_56 (tgt := 63) rfl (fun cc1 => ?_) (fun cc1 => ?_)
              · replace h := h.1 cc1
                refine zh_aload_n (pn := 64) rfl dX5_make_63 (i := 0) (v := .ref 39) rfl rfl (Or.inr ⟨_, rfl⟩) ?_
                refine zh_get (pn := 67) rfl dX5_make_64 (v := .int (M3 39 23)) (k := 23) rfl rfl (by decide) (by decide) in_X5 mf_X5_103 rfl ?_
                refine zh_if_eq (pn := 70) rfl dX5_make_67 (tgt := 77) rfl (fun cc1 => ?_) (fun cc1 => ?_)
                · replace h := h.1 cc1
                  refine zh_aload_n (pn := 78) rfl dX5_make_77 (i := 0) (v := .ref 39) rfl rfl (Or.inr ⟨_, rfl⟩) ?_
                  refine zh_iload (pn := 80) rfl dX5_make_78 (i := 5) (x := r4) rfl ?_
                  refine ca_X5_seat (pn := 83) rfl dX5_make_80 mc_X5_134 (fun _ _ => Nat.le_of_ble_eq_true rfl) h (fun r67 M66 h => ?_)
                  refine zh_istore (pn := 85) rfl dX5_make_83 (i := 6) (lo' := [some (.ref 39), some (.int a1), some (.int a2), some (.int a3), some (.int a4), some (.int r4), some (.int r67), none]) (by decide) rfl ?_
                  refine zh_iconst (pn := 86) rfl dX5_make_85 (v := (zI 0)) rfl ?_
                  refine zh_istore (pn := 88) rfl dX5_make_86 (i := 7) (lo' := [some (.ref 39), some (.int a1), some (.int a2), some (.int a3), some (.int a4), some (.int r4), some (.int r67), some (.int (zI 0))]) (by decide) rfl ?_
                  obtain ⟨n83, h⟩ := h
                  refine wkl_X5_make_88 (fun v6_68 M69 w7_70 h => ?_) n83 _ _ _ h
                  refine zh_iload (pn := 146) rfl dX5_make_144 (i := 6) (x := v6_68) rfl ?_
                  refine zh_if_ge (pn := 149) rfl dX5_make_146 (tgt := 152) rfl (fun cc1 => ?_) (fun cc1 => ?_)
                  · replace h := h.1 cc1
                    refine zh_aload_n (pn := 153) rfl dX5_make_152 (i := 0) (v := .ref 39) rfl rfl (Or.inr ⟨_, rfl⟩) ?_
                    refine zh_get (pn := 156) rfl dX5_make_153 (v := .ref 41) (k := 1) rfl rfl (by decide) (by decide) in_X5 mf_X5_13 rfl ?_
                    refine zh_iload (pn := 158) rfl dX5_make_156 (i := 6) (x := v6_68) rfl ?_
                    refine zh_iload_n (pn := 159) rfl dX5_make_158 (i := 3) (x := a3) rfl rfl ?_
                    refine zh_iast (pn := 160) rfl dX5_make_159 rfl h.1 ?_
                    obtain ⟨M71, eM71⟩ : ∃ q : zh_M, q = zh_set M69 41 v6_68.toNatClampNeg a3 := ⟨_, rfl⟩
                    replace h := h.2 M71 eM71
                    rw [← eM71]
                    refine zh_aload_n (pn := 161) rfl dX5_make_160 (i := 0) (v := .ref 39) rfl rfl (Or.inr ⟨_, rfl⟩) ?_
                    refine zh_get (pn := 164) rfl dX5_make_161 (v := .ref 42) (k := 2) rfl rfl (by decide) (by decide) in_X5 mf_X5_16 rfl ?_
                    refine zh_iload (pn := 166) rfl dX5_make_164 (i := 6) (x := v6_68) rfl ?_
                    refine zh_iload (pn := 168) rfl dX5_make_166 (i := 4) (x := a4) rfl ?_
                    refine zh_iast (pn := 169) rfl dX5_make_168 rfl h.1 ?_
                    obtain ⟨M72, eM72⟩ : ∃ q : zh_M, q = zh_set M71 42 v6_68.toNatClampNeg a4 := ⟨_, rfl⟩
                    replace h := h.2 M72 eM72
                    rw [← eM72]
                    refine zh_aload_n (pn := 170) rfl dX5_make_169 (i := 0) (v := .ref 39) rfl rfl (Or.inr ⟨_, rfl⟩) ?_
                    refine zh_get (pn := 173) rfl dX5_make_170 (v := .ref 43) (k := 3) rfl rfl (by decide) (by decide) in_X5 mf_X5_19 rfl ?_
                    refine zh_iload (pn := 175) rfl dX5_make_173 (i := 6) (x := v6_68) rfl ?_
                    refine zh_aload_n (pn := 176) rfl dX5_make_175 (i := 0) (v := .ref 39) rfl rfl (Or.inr ⟨_, rfl⟩) ?_
                    refine zh_get (pn := 179) rfl dX5_make_176 (v := .int (M72 39 23)) (k := 23) rfl rfl (by decide) (by decide) in_X5 mf_X5_103 rfl ?_
                    refine zh_zast (pn := 180) rfl dX5_make_179 (x' := vp_nar .boolean (M72 39 23)) rfl h.1 rfl ?_
                    obtain ⟨M73, eM73⟩ : ∃ q : zh_M, q = zh_set M72 43 v6_68.toNatClampNeg (vp_nar .boolean (M72 39 23)) := ⟨_, rfl⟩
                    replace h := h.2 M73 eM73
                    rw [← eM73]
                    refine zh_iconst (pn := 181) rfl dX5_make_180 (v := (zI 0)) rfl ?_
                    refine zh_istore (pn := 183) rfl dX5_make_181 (i := 7) (lo' := [some (.ref 39), some (.int a1), some (.int a2), some (.int a3), some (.int a4), some (.int r4), some (.int v6_68), some (.int (zI 0))]) (by decide) rfl ?_
                    obtain ⟨n82, h⟩ := h
                    refine wkl_X5_make_183 (fun M74 w3_75 w4_76 w7_77 h => ?_) n82 _ _ h
                    refine zh_aload_n (pn := 218) rfl dX5_make_217 (i := 0) (v := .ref 39) rfl rfl (Or.inr ⟨_, rfl⟩) ?_
                    refine zh_dup (pn := 219) rfl dX5_make_218 (fun _ _ => rfl) ?_
                    refine zh_get (pn := 222) rfl dX5_make_219 (v := .int (M74 39 28)) (k := 28) rfl rfl (by decide) (by decide) in_X5 mf_X5_125 rfl ?_
                    refine zh_iload (pn := 224) rfl dX5_make_222 (i := 5) (x := r4) rfl ?_
                    refine zh_iadd (pn := 225) rfl dX5_make_224 ?_
                    refine zh_put (pn := 228) rfl dX5_make_225 (k := 28) rfl rfl (by decide) (by decide) in_X5 tyX5_ok nmX5 mf_X5_125 rfl rfl rfl rfl ?_
                    obtain ⟨M78, eM78⟩ : ∃ q : zh_M, q = zh_set M74 39 28 ((M74 39 28) + r4) := ⟨_, rfl⟩
                    replace h := h M78 eM78
                    rw [← eM78]
                    refine zh_aload_n (pn := 229) rfl dX5_make_228 (i := 0) (v := .ref 39) rfl rfl (Or.inr ⟨_, rfl⟩) ?_
                    refine zh_get (pn := 232) rfl dX5_make_229 (v := .ref 52) (k := 12) rfl rfl (by decide) (by decide) in_X5 mf_X5_47 rfl ?_
                    refine zh_aload_n (pn := 233) rfl dX5_make_232 (i := 0) (v := .ref 39) rfl rfl (Or.inr ⟨_, rfl⟩) ?_
                    refine zh_iload_n (pn := 234) rfl dX5_make_233 (i := 1) (x := a1) rfl rfl ?_
                    refine zh_iload_n (pn := 235) rfl dX5_make_234 (i := 2) (x := a2) rfl rfl ?_
                    refine ca_X5_place (pn := 238) rfl dX5_make_235 mc_X5_92 (fun _ _ => Nat.le_of_ble_eq_true rfl) h (fun r80 M79 h => ?_)
                    refine zh_iload (pn := 240) rfl dX5_make_238 (i := 6) (x := v6_68) rfl ?_
                    refine zh_iast (pn := 241) rfl dX5_make_240 rfl h.1 ?_
                    obtain ⟨M81, eM81⟩ : ∃ q : zh_M, q = zh_set M79 52 r80.toNatClampNeg v6_68 := ⟨_, rfl⟩
                    replace h := h.2 M81 eM81
                    rw [← eM81]
                    refine zh_iload (pn := 243) rfl dX5_make_241 (i := 6) (x := v6_68) rfl ?_
                    exact zh_iret dX5_make_243 rfl rfl ⟨_, rfl, rfl, h⟩
                  · replace h := h.2 cc1
                    refine zh_bipush (pn := 151) rfl dX5_make_149 (v := (zI (-2))) rfl ?_
                    exact zh_iret dX5_make_151 rfl rfl ⟨_, rfl, rfl, h⟩
                · replace h := h.2 cc1
                  refine zh_aload_n (pn := 71) rfl dX5_make_70 (i := 0) (v := .ref 39) rfl rfl (Or.inr ⟨_, rfl⟩) ?_
                  refine zh_iload (pn := 73) rfl dX5_make_71 (i := 5) (x := r4) rfl ?_
                  refine ca_X5_work (pn := 76) rfl dX5_make_73 mc_X5_131 (fun _ _ => Nat.le_of_ble_eq_true rfl) h (fun r85 M84 h => ?_)
                  refine zh_pop (pn := 77) rfl dX5_make_76 (fun _ _ => rfl) ?_
                  refine zh_aload_n (pn := 78) rfl dX5_make_77 (i := 0) (v := .ref 39) rfl rfl (Or.inr ⟨_, rfl⟩) ?_
                  refine zh_iload (pn := 80) rfl dX5_make_78 (i := 5) (x := r4) rfl ?_
                  refine ca_X5_seat (pn := 83) rfl dX5_make_80 mc_X5_134 (fun _ _ => Nat.le_of_ble_eq_true rfl) h (fun r87 M86 h => ?_)
                  refine zh_istore (pn := 85) rfl dX5_make_83 (i := 6) (lo' := [some (.ref 39), some (.int a1), some (.int a2), some (.int a3), some (.int a4), some (.int r4), some (.int r87), none]) (by decide) rfl ?_
                  refine zh_iconst (pn := 86) rfl dX5_make_85 (v := (zI 0)) rfl ?_
                  refine zh_istore (pn := 88) rfl dX5_make_86 (i := 7) (lo' := [some (.ref 39), some (.int a1), some (.int a2), some (.int a3), some (.int a4), some (.int r4), some (.int r87), some (.int (zI 0))]) (by decide) rfl ?_
                  obtain ⟨n103, h⟩ := h
                  refine wkl_X5_make_88 (fun v6_88 M89 w7_90 h => ?_) n103 _ _ _ h
                  refine zh_iload (pn := 146) rfl dX5_make_144 (i := 6) (x := v6_88) rfl ?_
                  refine zh_if_ge (pn := 149) rfl dX5_make_146 (tgt := 152) rfl (fun cc1 => ?_) (fun cc1 => ?_)
                  · replace h := h.1 cc1
                    refine zh_aload_n (pn := 153) rfl dX5_make_152 (i := 0) (v := .ref 39) rfl rfl (Or.inr ⟨_, rfl⟩) ?_
                    refine zh_get (pn := 156) rfl dX5_make_153 (v := .ref 41) (k := 1) rfl rfl (by decide) (by decide) in_X5 mf_X5_13 rfl ?_
                    refine zh_iload (pn := 158) rfl dX5_make_156 (i := 6) (x := v6_88) rfl ?_
                    refine zh_iload_n (pn := 159) rfl dX5_make_158 (i := 3) (x := a3) rfl rfl ?_
                    refine zh_iast (pn := 160) rfl dX5_make_159 rfl h.1 ?_
                    obtain ⟨M91, eM91⟩ : ∃ q : zh_M, q = zh_set M89 41 v6_88.toNatClampNeg a3 := ⟨_, rfl⟩
                    replace h := h.2 M91 eM91
                    rw [← eM91]
                    refine zh_aload_n (pn := 161) rfl dX5_make_160 (i := 0) (v := .ref 39) rfl rfl (Or.inr ⟨_, rfl⟩) ?_
                    refine zh_get (pn := 164) rfl dX5_make_161 (v := .ref 42) (k := 2) rfl rfl (by decide) (by decide) in_X5 mf_X5_16 rfl ?_
                    refine zh_iload (pn := 166) rfl dX5_make_164 (i := 6) (x := v6_88) rfl ?_
                    refine zh_iload (pn := 168) rfl dX5_make_166 (i := 4) (x := a4) rfl ?_
                    refine zh_iast (pn := 169) rfl dX5_make_168 rfl h.1 ?_
                    obtain ⟨M92, eM92⟩ : ∃ q : zh_M, q = zh_set M91 42 v6_88.toNatClampNeg a4 := ⟨_, rfl⟩
                    replace h := h.2 M92 eM92
                    rw [← eM92]
                    refine zh_aload_n (pn := 170) rfl dX5_make_169 (i := 0) (v := .ref 39) rfl rfl (Or.inr ⟨_, rfl⟩) ?_
                    refine zh_get (pn := 173) rfl dX5_make_170 (v := .ref 43) (k := 3) rfl rfl (by decide) (by decide) in_X5 mf_X5_19 rfl ?_
                    refine zh_iload (pn := 175) rfl dX5_make_173 (i := 6) (x := v6_88) rfl ?_
                    refine zh_aload_n (pn := 176) rfl dX5_make_175 (i := 0) (v := .ref 39) rfl rfl (Or.inr ⟨_, rfl⟩) ?_
                    refine zh_get (pn := 179) rfl dX5_make_176 (v := .int (M92 39 23)) (k := 23) rfl rfl (by decide) (by decide) in_X5 mf_X5_103 rfl ?_
                    refine zh_zast (pn := 180) rfl dX5_make_179 (x' := vp_nar .boolean (M92 39 23)) rfl h.1 rfl ?_
                    obtain ⟨M93, eM93⟩ : ∃ q : zh_M, q = zh_set M92 43 v6_88.toNatClampNeg (vp_nar .boolean (M92 39 23)) := ⟨_, rfl⟩
                    replace h := h.2 M93 eM93
                    rw [← eM93]
                    refine zh_iconst (pn := 181) rfl dX5_make_180 (v := (zI 0)) rfl ?_
                    refine zh_istore (pn := 183) rfl dX5_make_181 (i := 7) (lo' := [some (.ref 39), some (.int a1), some (.int a2), some (.int a3), some (.int a4), some (.int r4), some (.int v6_88), some (.int (zI 0))]) (by decide) rfl ?_
                    obtain ⟨n102, h⟩ := h
                    refine wkl_X5_make_183 (fun M94 w3_95 w4_96 w7_97 h => ?_) n102 _ _ h
                    refine zh_aload_n (pn := 218) rfl dX5_make_217 (i := 0) (v := .ref 39) rfl rfl (Or.inr ⟨_, rfl⟩) ?_
                    refine zh_dup (pn := 219) rfl dX5_make_218 (fun _ _ => rfl) ?_
                    refine zh_get (pn := 222) rfl dX5_make_219 (v := .int (M94 39 28)) (k := 28) rfl rfl (by decide) (by decide) in_X5 mf_X5_125 rfl ?_
                    refine zh_iload (pn := 224) rfl dX5_make_222 (i := 5) (x := r4) rfl ?_
                    refine zh_iadd (pn := 225) rfl dX5_make_224 ?_
                    refine zh_put (pn := 228) rfl dX5_make_225 (k := 28) rfl rfl (by decide) (by decide) in_X5 tyX5_ok nmX5 mf_X5_125 rfl rfl rfl rfl ?_
                    obtain ⟨M98, eM98⟩ : ∃ q : zh_M, q = zh_set M94 39 28 ((M94 39 28) + r4) := ⟨_, rfl⟩
                    replace h := h M98 eM98
                    rw [← eM98]
                    refine zh_aload_n (pn := 229) rfl dX5_make_228 (i := 0) (v := .ref 39) rfl rfl (Or.inr ⟨_, rfl⟩) ?_
                    refine zh_get (pn := 232) rfl dX5_make_229 (v := .ref 52) (k := 12) rfl rfl (by decide) (by decide) in_X5 mf_X5_47 rfl ?_
                    refine zh_aload_n (pn := 233) rfl dX5_make_232 (i := 0) (v := .ref 39) rfl rfl (Or.inr ⟨_, rfl⟩) ?_
                    refine zh_iload_n (pn := 234) rfl dX5_make_233 (i := 1) (x := a1) rfl rfl ?_
                    refine zh_iload_n (pn := 235) rfl dX5_make_234 (i := 2) (x := a2) rfl rfl ?_
                    refine ca_X5_place (pn := 238) rfl dX5_make_235 mc_X5_92 (fun _ _ => Nat.le_of_ble_eq_true rfl) h (fun r100 M99 h => ?_)
                    refine zh_iload (pn := 240) rfl dX5_make_238 (i := 6) (x := v6_88) rfl ?_
                    refine zh_iast (pn := 241) rfl dX5_make_240 rfl h.1 ?_
                    obtain ⟨M101, eM101⟩ : ∃ q : zh_M, q = zh_set M99 52 r100.toNatClampNeg v6_88 := ⟨_, rfl⟩
                    replace h := h.2 M101 eM101
                    rw [← eM101]
                    refine zh_iload (pn := 243) rfl dX5_make_241 (i := 6) (x := v6_88) rfl ?_
                    exact zh_iret dX5_make_243 rfl rfl ⟨_, rfl, rfl, h⟩
                  · replace h := h.2 cc1
                    refine zh_bipush (pn := 151) rfl dX5_make_149 (v := (zI (-2))) rfl ?_
                    exact zh_iret dX5_make_151 rfl rfl ⟨_, rfl, rfl, h⟩
              · replace h := h.2 cc1
                refine zh_aload_n (pn := 60) rfl dX5_make_59 (i := 0) (v := .ref 39) rfl rfl (Or.inr ⟨_, rfl⟩) ?_
                refine ca_X5_cycle (pn := 63) rfl dX5_make_60 mc_X5_128 (fun _ _ => Nat.le_of_ble_eq_true rfl) h (fun M104 h => ?_)
                refine zh_aload_n (pn := 64) rfl dX5_make_63 (i := 0) (v := .ref 39) rfl rfl (Or.inr ⟨_, rfl⟩) ?_
                refine zh_get (pn := 67) rfl dX5_make_64 (v := .int (M104 39 23)) (k := 23) rfl rfl (by decide) (by decide) in_X5 mf_X5_103 rfl ?_
                refine zh_if_eq (pn := 70) rfl dX5_make_67 (tgt := 77) rfl (fun cc1 => ?_) (fun cc1 => ?_)
                · replace h := h.1 cc1
                  refine zh_aload_n (pn := 78) rfl dX5_make_77 (i := 0) (v := .ref 39) rfl rfl (Or.inr ⟨_, rfl⟩) ?_
                  refine zh_iload (pn := 80) rfl dX5_make_78 (i := 5) (x := r4) rfl ?_
                  refine ca_X5_seat (pn := 83) rfl dX5_make_80 mc_X5_134 (fun _ _ => Nat.le_of_ble_eq_true rfl) h (fun r106 M105 h => ?_)
                  refine zh_istore (pn := 85) rfl dX5_make_83 (i := 6) (lo' := [some (.ref 39), some (.int a1), some (.int a2), some (.int a3), some (.int a4), some (.int r4), some (.int r106), none]) (by decide) rfl ?_
                  refine zh_iconst (pn := 86) rfl dX5_make_85 (v := (zI 0)) rfl ?_
                  refine zh_istore (pn := 88) rfl dX5_make_86 (i := 7) (lo' := [some (.ref 39), some (.int a1), some (.int a2), some (.int a3), some (.int a4), some (.int r4), some (.int r106), some (.int (zI 0))]) (by decide) rfl ?_
                  obtain ⟨n122, h⟩ := h
                  refine wkl_X5_make_88 (fun v6_107 M108 w7_109 h => ?_) n122 _ _ _ h
                  refine zh_iload (pn := 146) rfl dX5_make_144 (i := 6) (x := v6_107) rfl ?_
                  refine zh_if_ge (pn := 149) rfl dX5_make_146 (tgt := 152) rfl (fun cc1 => ?_) (fun cc1 => ?_)
                  · replace h := h.1 cc1
                    refine zh_aload_n (pn := 153) rfl dX5_make_152 (i := 0) (v := .ref 39) rfl rfl (Or.inr ⟨_, rfl⟩) ?_
                    refine zh_get (pn := 156) rfl dX5_make_153 (v := .ref 41) (k := 1) rfl rfl (by decide) (by decide) in_X5 mf_X5_13 rfl ?_
                    refine zh_iload (pn := 158) rfl dX5_make_156 (i := 6) (x := v6_107) rfl ?_
                    refine zh_iload_n (pn := 159) rfl dX5_make_158 (i := 3) (x := a3) rfl rfl ?_
                    refine zh_iast (pn := 160) rfl dX5_make_159 rfl h.1 ?_
                    obtain ⟨M110, eM110⟩ : ∃ q : zh_M, q = zh_set M108 41 v6_107.toNatClampNeg a3 := ⟨_, rfl⟩
                    replace h := h.2 M110 eM110
                    rw [← eM110]
                    refine zh_aload_n (pn := 161) rfl dX5_make_160 (i := 0) (v := .ref 39) rfl rfl (Or.inr ⟨_, rfl⟩) ?_
                    refine zh_get (pn := 164) rfl dX5_make_161 (v := .ref 42) (k := 2) rfl rfl (by decide) (by decide) in_X5 mf_X5_16 rfl ?_
                    refine zh_iload (pn := 166) rfl dX5_make_164 (i := 6) (x := v6_107) rfl ?_
                    refine zh_iload (pn := 168) rfl dX5_make_166 (i := 4) (x := a4) rfl ?_
                    refine zh_iast (pn := 169) rfl dX5_make_168 rfl h.1 ?_
                    obtain ⟨M111, eM111⟩ : ∃ q : zh_M, q = zh_set M110 42 v6_107.toNatClampNeg a4 := ⟨_, rfl⟩
                    replace h := h.2 M111 eM111
                    rw [← eM111]
                    refine zh_aload_n (pn := 170) rfl dX5_make_169 (i := 0) (v := .ref 39) rfl rfl (Or.inr ⟨_, rfl⟩) ?_
                    refine zh_get (pn := 173) rfl dX5_make_170 (v := .ref 43) (k := 3) rfl rfl (by decide) (by decide) in_X5 mf_X5_19 rfl ?_
                    refine zh_iload (pn := 175) rfl dX5_make_173 (i := 6) (x := v6_107) rfl ?_
                    refine zh_aload_n (pn := 176) rfl dX5_make_175 (i := 0) (v := .ref 39) rfl rfl (Or.inr ⟨_, rfl⟩) ?_
                    refine zh_get (pn := 179) rfl dX5_make_176 (v := .int (M111 39 23)) (k := 23) rfl rfl (by decide) (by decide) in_X5 mf_X5_103 rfl ?_
                    refine zh_zast (pn := 180) rfl dX5_make_179 (x' := vp_nar .boolean (M111 39 23)) rfl h.1 rfl ?_
                    obtain ⟨M112, eM112⟩ : ∃ q : zh_M, q = zh_set M111 43 v6_107.toNatClampNeg (vp_nar .boolean (M111 39 23)) := ⟨_, rfl⟩
                    replace h := h.2 M112 eM112
                    rw [← eM112]
                    refine zh_iconst (pn := 181) rfl dX5_make_180 (v := (zI 0)) rfl ?_
                    refine zh_istore (pn := 183) rfl dX5_make_181 (i := 7) (lo' := [some (.ref 39), some (.int a1), some (.int a2), some (.int a3), some (.int a4), some (.int r4), some (.int v6_107), some (.int (zI 0))]) (by decide) rfl ?_
                    obtain ⟨n121, h⟩ := h
                    refine wkl_X5_make_183 (fun M113 w3_114 w4_115 w7_116 h => ?_) n121 _ _ h
                    refine zh_aload_n (pn := 218) rfl dX5_make_217 (i := 0) (v := .ref 39) rfl rfl (Or.inr ⟨_, rfl⟩) ?_
                    refine zh_dup (pn := 219) rfl dX5_make_218 (fun _ _ => rfl) ?_
                    refine zh_get (pn := 222) rfl dX5_make_219 (v := .int (M113 39 28)) (k := 28) rfl rfl (by decide) (by decide) in_X5 mf_X5_125 rfl ?_
                    refine zh_iload (pn := 224) rfl dX5_make_222 (i := 5) (x := r4) rfl ?_
                    refine zh_iadd (pn := 225) rfl dX5_make_224 ?_
                    refine zh_put (pn := 228) rfl dX5_make_225 (k := 28) rfl rfl (by decide) (by decide) in_X5 tyX5_ok nmX5 mf_X5_125 rfl rfl rfl rfl ?_
                    obtain ⟨M117, eM117⟩ : ∃ q : zh_M, q = zh_set M113 39 28 ((M113 39 28) + r4) := ⟨_, rfl⟩
                    replace h := h M117 eM117
                    rw [← eM117]
                    refine zh_aload_n (pn := 229) rfl dX5_make_228 (i := 0) (v := .ref 39) rfl rfl (Or.inr ⟨_, rfl⟩) ?_
                    refine zh_get (pn := 232) rfl dX5_make_229 (v := .ref 52) (k := 12) rfl rfl (by decide) (by decide) in_X5 mf_X5_47 rfl ?_
                    refine zh_aload_n (pn := 233) rfl dX5_make_232 (i := 0) (v := .ref 39) rfl rfl (Or.inr ⟨_, rfl⟩) ?_
                    refine zh_iload_n (pn := 234) rfl dX5_make_233 (i := 1) (x := a1) rfl rfl ?_
                    refine zh_iload_n (pn := 235) rfl dX5_make_234 (i := 2) (x := a2) rfl rfl ?_
                    refine ca_X5_place (pn := 238) rfl dX5_make_235 mc_X5_92 (fun _ _ => Nat.le_of_ble_eq_true rfl) h (fun r119 M118 h => ?_)
                    refine zh_iload (pn := 240) rfl dX5_make_238 (i := 6) (x := v6_107) rfl ?_
                    refine zh_iast (pn := 241) rfl dX5_make_240 rfl h.1 ?_
                    obtain ⟨M120, eM120⟩ : ∃ q : zh_M, q = zh_set M118 52 r119.toNatClampNeg v6_107 := ⟨_, rfl⟩
                    replace h := h.2 M120 eM120
                    rw [← eM120]
                    refine zh_iload (pn := 243) rfl dX5_make_241 (i := 6) (x := v6_107) rfl ?_
                    exact zh_iret dX5_make_243 rfl rfl ⟨_, rfl, rfl, h⟩
                  · replace h := h.2 cc1
                    refine zh_bipush (pn := 151) rfl dX5_make_149 (v := (zI (-2))) rfl ?_
                    exact zh_iret dX5_make_151 rfl rfl ⟨_, rfl, rfl, h⟩
                · replace h := h.2 cc1
                  refine zh_aload_n (pn := 71) rfl dX5_make_70 (i := 0) (v := .ref 39) rfl rfl (Or.inr ⟨_, rfl⟩) ?_
                  refine zh_iload (pn := 73) rfl dX5_make_71 (i := 5) (x := r4) rfl ?_
                  refine ca_X5_work (pn := 76) rfl dX5_make_73 mc_X5_131 (fun _ _ => Nat.le_of_ble_eq_true rfl) h (fun r124 M123 h => ?_)
                  refine zh_pop (pn := 77) rfl dX5_make_76 (fun _ _ => rfl) ?_
                  refine zh_aload_n (pn := 78) rfl dX5_make_77 (i := 0) (v := .ref 39) rfl rfl (Or.inr ⟨_, rfl⟩) ?_
                  refine zh_iload (pn := 80) rfl dX5_make_78 (i := 5) (x := r4) rfl ?_
                  refine ca_X5_seat (pn := 83) rfl dX5_make_80 mc_X5_134 (fun _ _ => Nat.le_of_ble_eq_true rfl) h (fun r126 M125 h => ?_)
                  refine zh_istore (pn := 85) rfl dX5_make_83 (i := 6) (lo' := [some (.ref 39), some (.int a1), some (.int a2), some (.int a3), some (.int a4), some (.int r4), some (.int r126), none]) (by decide) rfl ?_
                  refine zh_iconst (pn := 86) rfl dX5_make_85 (v := (zI 0)) rfl ?_
                  refine zh_istore (pn := 88) rfl dX5_make_86 (i := 7) (lo' := [some (.ref 39), some (.int a1), some (.int a2), some (.int a3), some (.int a4), some (.int r4), some (.int r126), some (.int (zI 0))]) (by decide) rfl ?_
                  obtain ⟨n142, h⟩ := h
                  refine wkl_X5_make_88 (fun v6_127 M128 w7_129 h => ?_) n142 _ _ _ h
                  refine zh_iload (pn := 146) rfl dX5_make_144 (i := 6) (x := v6_127) rfl ?_
                  refine zh_if_ge (pn := 149) rfl dX5_make_146 (tgt := 152) rfl (fun cc1 => ?_) (fun cc1 => ?_)
                  · replace h := h.1 cc1
                    refine zh_aload_n (pn := 153) rfl dX5_make_152 (i := 0) (v := .ref 39) rfl rfl (Or.inr ⟨_, rfl⟩) ?_
                    refine zh_get (pn := 156) rfl dX5_make_153 (v := .ref 41) (k := 1) rfl rfl (by decide) (by decide) in_X5 mf_X5_13 rfl ?_
                    refine zh_iload (pn := 158) rfl dX5_make_156 (i := 6) (x := v6_127) rfl ?_
                    refine zh_iload_n (pn := 159) rfl dX5_make_158 (i := 3) (x := a3) rfl rfl ?_
                    refine zh_iast (pn := 160) rfl dX5_make_159 rfl h.1 ?_
                    obtain ⟨M130, eM130⟩ : ∃ q : zh_M, q = zh_set M128 41 v6_127.toNatClampNeg a3 := ⟨_, rfl⟩
                    replace h := h.2 M130 eM130
                    rw [← eM130]
                    refine zh_aload_n (pn := 161) rfl dX5_make_160 (i := 0) (v := .ref 39) rfl rfl (Or.inr ⟨_, rfl⟩) ?_
                    refine zh_get (pn := 164) rfl dX5_make_161 (v := .ref 42) (k := 2) rfl rfl (by decide) (by decide) in_X5 mf_X5_16 rfl ?_
                    refine zh_iload (pn := 166) rfl dX5_make_164 (i := 6) (x := v6_127) rfl ?_
                    refine zh_iload (pn := 168) rfl dX5_make_166 (i := 4) (x := a4) rfl ?_
                    refine zh_iast (pn := 169) rfl dX5_make_168 rfl h.1 ?_
                    obtain ⟨M131, eM131⟩ : ∃ q : zh_M, q = zh_set M130 42 v6_127.toNatClampNeg a4 := ⟨_, rfl⟩
                    replace h := h.2 M131 eM131
                    rw [← eM131]
                    refine zh_aload_n (pn := 170) rfl dX5_make_169 (i := 0) (v := .ref 39) rfl rfl (Or.inr ⟨_, rfl⟩) ?_
                    refine zh_get (pn := 173) rfl dX5_make_170 (v := .ref 43) (k := 3) rfl rfl (by decide) (by decide) in_X5 mf_X5_19 rfl ?_
                    refine zh_iload (pn := 175) rfl dX5_make_173 (i := 6) (x := v6_127) rfl ?_
                    refine zh_aload_n (pn := 176) rfl dX5_make_175 (i := 0) (v := .ref 39) rfl rfl (Or.inr ⟨_, rfl⟩) ?_
                    refine zh_get (pn := 179) rfl dX5_make_176 (v := .int (M131 39 23)) (k := 23) rfl rfl (by decide) (by decide) in_X5 mf_X5_103 rfl ?_
                    refine zh_zast (pn := 180) rfl dX5_make_179 (x' := vp_nar .boolean (M131 39 23)) rfl h.1 rfl ?_
                    obtain ⟨M132, eM132⟩ : ∃ q : zh_M, q = zh_set M131 43 v6_127.toNatClampNeg (vp_nar .boolean (M131 39 23)) := ⟨_, rfl⟩
                    replace h := h.2 M132 eM132
                    rw [← eM132]
                    refine zh_iconst (pn := 181) rfl dX5_make_180 (v := (zI 0)) rfl ?_
                    refine zh_istore (pn := 183) rfl dX5_make_181 (i := 7) (lo' := [some (.ref 39), some (.int a1), some (.int a2), some (.int a3), some (.int a4), some (.int r4), some (.int v6_127), some (.int (zI 0))]) (by decide) rfl ?_
                    obtain ⟨n141, h⟩ := h
                    refine wkl_X5_make_183 (fun M133 w3_134 w4_135 w7_136 h => ?_) n141 _ _ h
                    refine zh_aload_n (pn := 218) rfl dX5_make_217 (i := 0) (v := .ref 39) rfl rfl (Or.inr ⟨_, rfl⟩) ?_
                    refine zh_dup (pn := 219) rfl dX5_make_218 (fun _ _ => rfl) ?_
                    refine zh_get (pn := 222) rfl dX5_make_219 (v := .int (M133 39 28)) (k := 28) rfl rfl (by decide) (by decide) in_X5 mf_X5_125 rfl ?_
                    refine zh_iload (pn := 224) rfl dX5_make_222 (i := 5) (x := r4) rfl ?_
                    refine zh_iadd (pn := 225) rfl dX5_make_224 ?_
                    refine zh_put (pn := 228) rfl dX5_make_225 (k := 28) rfl rfl (by decide) (by decide) in_X5 tyX5_ok nmX5 mf_X5_125 rfl rfl rfl rfl ?_
                    obtain ⟨M137, eM137⟩ : ∃ q : zh_M, q = zh_set M133 39 28 ((M133 39 28) + r4) := ⟨_, rfl⟩
                    replace h := h M137 eM137
                    rw [← eM137]
                    refine zh_aload_n (pn := 229) rfl dX5_make_228 (i := 0) (v := .ref 39) rfl rfl (Or.inr ⟨_, rfl⟩) ?_
                    refine zh_get (pn := 232) rfl dX5_make_229 (v := .ref 52) (k := 12) rfl rfl (by decide) (by decide) in_X5 mf_X5_47 rfl ?_
                    refine zh_aload_n (pn := 233) rfl dX5_make_232 (i := 0) (v := .ref 39) rfl rfl (Or.inr ⟨_, rfl⟩) ?_
                    refine zh_iload_n (pn := 234) rfl dX5_make_233 (i := 1) (x := a1) rfl rfl ?_
                    refine zh_iload_n (pn := 235) rfl dX5_make_234 (i := 2) (x := a2) rfl rfl ?_
                    refine ca_X5_place (pn := 238) rfl dX5_make_235 mc_X5_92 (fun _ _ => Nat.le_of_ble_eq_true rfl) h (fun r139 M138 h => ?_)
                    refine zh_iload (pn := 240) rfl dX5_make_238 (i := 6) (x := v6_127) rfl ?_
                    refine zh_iast (pn := 241) rfl dX5_make_240 rfl h.1 ?_
                    obtain ⟨M140, eM140⟩ : ∃ q : zh_M, q = zh_set M138 52 r139.toNatClampNeg v6_127 := ⟨_, rfl⟩
                    replace h := h.2 M140 eM140
                    rw [← eM140]
                    refine zh_iload (pn := 243) rfl dX5_make_241 (i := 6) (x := v6_127) rfl ?_
                    exact zh_iret dX5_make_243 rfl rfl ⟨_, rfl, rfl, h⟩
                  · replace h := h.2 cc1
                    refine zh_bipush (pn := 151) rfl dX5_make_149 (v := (zI (-2))) rfl ?_
                    exact zh_iret dX5_make_151 rfl rfl ⟨_, rfl, rfl, h⟩
          · replace h := h.2 cc1
            refine zh_iconst (pn := 33) rfl dX5_make_32 (v := (zI (-1))) rfl ?_
            exact zh_iret dX5_make_33 rfl rfl ⟨_, rfl, rfl, h⟩
set_option maxRecDepth 100000 in
theorem ca_X5_make {X : Nat × (Nat → Int32)} {d : Nat} {y : MethodName} {cc : ByteArray} {nL : Nat} {rt : Option FieldType} {pc pn idx : Nat} {lo : List (Option Value)} {st : List Value} {M : zh_M} {P : Option Value → List zh_LC → zh_M → Prop} {a1 : Int32} {a2 : Int32} {a3 : Int32} {a4 : Int32} {K : Int32 → zh_M → Prop} (hp : pc + 3 = pn) (hd : decode cc pc = .ok (.invokevirtual idx, 3)) (m1 : Cond.methodLink y.cls idx yX5_make ∈ zh_WS) (hsc : ∀ base b, ((st.map (zh_tr base b)).map fun v => v.category).sum ≤ 8) (h : wp_X5_make M a1 a2 a3 a4 K) (kk : ∀ r M1, K r M1 → zh_W X (d + 4) y cc nL rt pn lo (.int r :: st) zh_LL M1 0 0 P) : zh_W X (d + 4) y cc nL rt pc lo (.int a4 :: .int a3 :: .int a2 :: .int a1 :: .ref 39 :: st) zh_LL M 0 0 P := by
  refine zh_callV (bc := 0) (bs := 0) (bc' := 0) (bs' := 0) (as := [.int a1, .int a2, .int a3, .int a4]) (st := st) hp hd rfl (by decide) rfl rfl m1 me_X5_make.1 me_X5_make.2.1 me_X5_make.2.2.1 me_X5_make.2.2.2 ⟨by decide, by decide, by decide⟩ (by show _ = some 4; decide +kernel) (by intro v hv; simp only [List.mem_cons, List.not_mem_nil, or_false] at hv; rcases hv with rfl | rfl | rfl | rfl <;> (intro _ _; rfl)) hsc (Nat.le_of_ble_eq_true rfl) (by decide) (wk_X5_make  h) (fun r L' M' q => ?_) (fun r L' M' q => ?_)
  · obtain ⟨v, -, rfl, q⟩ := q; rfl
  · obtain ⟨v, rfl, rfl, q⟩ := q; exact kk v M' q
