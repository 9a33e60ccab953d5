set_option maxRecDepth 100000 in
set_option maxHeartbeats 4000000 in
theorem wkl_X3_shortestRun_11 {X : Nat × (Nat → Int32)} {d : Nat} {P : Int32 → zh_M → Prop} {l1 : Int32} : ∀ (n : Nat) (l2 : Int32) (l3 : Int32) (l4 : Int32) (l5 : Int32) (M : zh_M) , wl_X3_shortestRun_11 l1 P n l2 l3 l4 l5 M → zh_W X (d + 1) yX3_shortestRun cX3_shortestRun 6 (some .int) 11 [some (.ref 2), some (.int l1), some (.int l2), some (.int l3), some (.int l4), some (.int l5)] [] zh_LL M 0 0 (zh_pi P) := by
  intro n
  induction n with
  | zero => intro l2 l3 l4 l5 M  h; exact h.elim
  | succ n ih =>
    intro l2 l3 l4 l5 M  h
    unfold wl_X3_shortestRun_11 at h
    refine zh_iload (pn := 13) rfl dX3_shortestRun_11 (i := 5) (x := l5) rfl ?_
    refine zh_bipush (pn := 15) rfl dX3_shortestRun_13 (v := (zI 16)) rfl ?_
    refine zh_icmp_ge (pn := 18) rfl dX3_shortestRun_15 (tgt := 76) rfl (fun cc1 => ?_) (fun cc1 => ?_)
    · replace h := h.1 cc1
      refine zh_iload_n (pn := 77) rfl dX3_shortestRun_76 (i := 2) (x := l2) rfl rfl ?_
      exact zh_iret dX3_shortestRun_77 rfl rfl ⟨_, rfl, rfl, h⟩
    · replace h := h.2 cc1
      refine zh_aload_n (pn := 19) rfl dX3_shortestRun_18 (i := 0) (v := .ref 2) rfl rfl (Or.inr ⟨_, rfl⟩) ?_
      refine zh_get (pn := 22) rfl dX3_shortestRun_19 (v := .ref 4) (k := 1) rfl rfl (by decide) (by decide) in_X3 mf_X3_15 rfl ?_
      refine zh_iload (pn := 24) rfl dX3_shortestRun_22 (i := 5) (x := l5) rfl ?_
      refine zh_iald (pn := 25) rfl dX3_shortestRun_24 rfl h.1 ?_
      replace h := h.2
      refine zh_if_ne (pn := 28) rfl dX3_shortestRun_25 (tgt := 35) rfl (fun cc1 => ?_) (fun cc1 => ?_)
      · replace h := h.1 cc1
        refine zh_iconst (pn := 36) rfl dX3_shortestRun_35 (v := (zI 0)) rfl ?_
        refine zh_istore (pn := 38) rfl dX3_shortestRun_36 (i := 4) (lo' := [some (.ref 2), some (.int l1), some (.int l2), some (.int l3), some (.int (zI 0)), some (.int l5)]) (by decide) rfl ?_
        refine zh_aload_n (pn := 39) rfl dX3_shortestRun_38 (i := 0) (v := .ref 2) rfl rfl (Or.inr ⟨_, rfl⟩) ?_
        refine zh_iload (pn := 41) rfl dX3_shortestRun_39 (i := 5) (x := l5) rfl ?_
        refine ca_X3_endsRun (pn := 44) rfl dX3_shortestRun_41 mc_X3_72 (fun _ _ => Nat.le_of_ble_eq_true rfl) h (fun r2 M1 h => ?_)
        refine zh_if_eq (pn := 47) rfl dX3_shortestRun_44 (tgt := 70) rfl (fun cc1 => ?_) (fun cc1 => ?_)
        · replace h := h.1 cc1
          refine zh_iinc (pn := 73) rfl dX3_shortestRun_70 (i := 5) (x := l5) (v := l5 + (zI 1)) (lo' := [some (.ref 2), some (.int l1), some (.int l2), some (.int l3), some (.int (zI 0)), some (.int (l5 + (zI 1)))]) rfl rfl (by decide) rfl ?_
          refine zh_goto dX3_shortestRun_73 (tgt := 11) rfl ?_
          exact ih _ _ _ _ _ h
        · replace h := h.2 cc1
          refine zh_iload (pn := 49) rfl dX3_shortestRun_47 (i := 4) (x := (zI 0)) rfl ?_
          refine zh_iload_n (pn := 50) rfl dX3_shortestRun_49 (i := 1) (x := l1) rfl rfl ?_
          refine zh_icmp_lt (pn := 53) rfl dX3_shortestRun_50 (tgt := 70) rfl (fun cc1 => ?_) (fun cc1 => ?_)
          · replace h := h.1 cc1
            refine zh_iinc (pn := 73) rfl dX3_shortestRun_70 (i := 5) (x := l5) (v := l5 + (zI 1)) (lo' := [some (.ref 2), some (.int l1), some (.int l2), some (.int l3), some (.int (zI 0)), some (.int (l5 + (zI 1)))]) rfl rfl (by decide) rfl ?_
            refine zh_goto dX3_shortestRun_73 (tgt := 11) rfl ?_
            exact ih _ _ _ _ _ h
          · replace h := h.2 cc1
            refine zh_iload (pn := 55) rfl dX3_shortestRun_53 (i := 4) (x := (zI 0)) rfl ?_
            refine zh_iload_n (pn := 56) rfl dX3_shortestRun_55 (i := 3) (x := l3) rfl rfl ?_
            refine zh_icmp_ge (pn := 59) rfl dX3_shortestRun_56 (tgt := 70) rfl (fun cc1 => ?_) (fun cc1 => ?_)
            · replace h := h.1 cc1
              refine zh_iinc (pn := 73) rfl dX3_shortestRun_70 (i := 5) (x := l5) (v := l5 + (zI 1)) (lo' := [some (.ref 2), some (.int l1), some (.int l2), some (.int l3), some (.int (zI 0)), some (.int (l5 + (zI 1)))]) rfl rfl (by decide) rfl ?_
              refine zh_goto dX3_shortestRun_73 (tgt := 11) rfl ?_
              exact ih _ _ _ _ _ h
            · replace h := h.2 cc1
              refine zh_iload (pn := 61) rfl dX3_shortestRun_59 (i := 5) (x := l5) rfl ?_
              refine zh_iload (pn := 63) rfl dX3_shortestRun_61 (i := 4) (x := (zI 0)) rfl ?_
              refine zh_isub (pn := 64) rfl dX3_shortestRun_63 ?_
              refine zh_iconst (pn := 65) rfl dX3_shortestRun_64 (v := (zI 1)) rfl ?_
              refine zh_iadd (pn := 66) rfl dX3_shortestRun_65 ?_
              refine zh_istore_n (pn := 67) rfl dX3_shortestRun_66 (i := 2) (lo' := [some (.ref 2), some (.int l1), some (.int ((l5 - (zI 0)) + (zI 1))), some (.int l3), some (.int (zI 0)), some (.int l5)]) rfl (by decide) rfl ?_
              refine zh_iload (pn := 69) rfl dX3_shortestRun_67 (i := 4) (x := (zI 0)) rfl ?_
              refine zh_istore_n (pn := 70) rfl dX3_shortestRun_69 (i := 3) (lo' := [some (.ref 2), some (.int l1), some (.int ((l5 - (zI 0)) + (zI 1))), some (.int (zI 0)), some (.int (zI 0)), some (.int l5)]) rfl (by decide) rfl ?_
              refine zh_iinc (pn := 73) rfl dX3_shortestRun_70 (i := 5) (x := l5) (v := l5 + (zI 1)) (lo' := [some (.ref 2), some (.int l1), some (.int ((l5 - (zI 0)) + (zI 1))), some (.int (zI 0)), some (.int (zI 0)), some (.int (l5 + (zI 1)))]) rfl rfl (by decide) rfl ?_
              refine zh_goto dX3_shortestRun_73 (tgt := 11) rfl ?_
              exact ih _ _ _ _ _ h
      · replace h := h.2 cc1
        refine zh_iload (pn := 30) rfl dX3_shortestRun_28 (i := 4) (x := l4) rfl ?_
        refine zh_iconst (pn := 31) rfl dX3_shortestRun_30 (v := (zI 1)) rfl ?_
        refine zh_iadd (pn := 32) rfl dX3_shortestRun_31 ?_
        refine zh_goto dX3_shortestRun_32 (tgt := 36) rfl ?_
        refine zh_istore (pn := 38) rfl dX3_shortestRun_36 (i := 4) (lo' := [some (.ref 2), some (.int l1), some (.int l2), some (.int l3), some (.int (l4 + (zI 1))), some (.int l5)]) (by decide) rfl ?_
        refine zh_aload_n (pn := 39) rfl dX3_shortestRun_38 (i := 0) (v := .ref 2) rfl rfl (Or.inr ⟨_, rfl⟩) ?_
        refine zh_iload (pn := 41) rfl dX3_shortestRun_39 (i := 5) (x := l5) rfl ?_
        refine ca_X3_endsRun (pn := 44) rfl dX3_shortestRun_41 mc_X3_72 (fun _ _ => Nat.le_of_ble_eq_true rfl) h (fun r4 M3 h => ?_)
        refine zh_if_eq (pn := 47) rfl dX3_shortestRun_44 (tgt := 70) rfl (fun cc1 => ?_) (fun cc1 => ?_)
        · replace h := h.1 cc1
          refine zh_iinc (pn := 73) rfl dX3_shortestRun_70 (i := 5) (x := l5) (v := l5 + (zI 1)) (lo' := [some (.ref 2), some (.int l1), some (.int l2), some (.int l3), some (.int (l4 + (zI 1))), some (.int (l5 + (zI 1)))]) rfl rfl (by decide) rfl ?_
          refine zh_goto dX3_shortestRun_73 (tgt := 11) rfl ?_
          exact ih _ _ _ _ _ h
        · replace h := h.2 cc1
          refine zh_iload (pn := 49) rfl dX3_shortestRun_47 (i := 4) (x := l4 + (zI 1)) rfl ?_
          refine zh_iload_n (pn := 50) rfl dX3_shortestRun_49 (i := 1) (x := l1) rfl rfl ?_
          refine zh_icmp_lt (pn := 53) rfl dX3_shortestRun_50 (tgt := 70) rfl (fun cc1 => ?_) (fun cc1 => ?_)
          · replace h := h.1 cc1
            refine zh_iinc (pn := 73) rfl dX3_shortestRun_70 (i := 5) (x := l5) (v := l5 + (zI 1)) (lo' := [some (.ref 2), some (.int l1), some (.int l2), some (.int l3), some (.int (l4 + (zI 1))), some (.int (l5 + (zI 1)))]) rfl rfl (by decide) rfl ?_
            refine zh_goto dX3_shortestRun_73 (tgt := 11) rfl ?_
            exact ih _ _ _ _ _ h
          · replace h := h.2 cc1
            refine zh_iload (pn := 55) rfl dX3_shortestRun_53 (i := 4) (x := l4 + (zI 1)) rfl ?_
            refine zh_iload_n (pn := 56) rfl dX3_shortestRun_55 (i := 3) (x := l3) rfl rfl ?_
            refine zh_icmp_ge (pn := 59) rfl dX3_shortestRun_56 (tgt := 70) rfl (fun cc1 => ?_) (fun cc1 => ?_)
            · replace h := h.1 cc1
              refine zh_iinc (pn := 73) rfl dX3_shortestRun_70 (i := 5) (x := l5) (v := l5 + (zI 1)) (lo' := [some (.ref 2), some (.int l1), some (.int l2), some (.int l3), some (.int (l4 + (zI 1))), some (.int (l5 + (zI 1)))]) rfl rfl (by decide) rfl ?_
              refine zh_goto dX3_shortestRun_73 (tgt := 11) rfl ?_
              exact ih _ _ _ _ _ h
            · replace h := h.2 cc1
              refine zh_iload (pn := 61) rfl dX3_shortestRun_59 (i := 5) (x := l5) rfl ?_
              refine zh_iload (pn := 63) rfl dX3_shortestRun_61 (i := 4) (x := l4 + (zI 1)) rfl ?_
              refine zh_isub (pn := 64) rfl dX3_shortestRun_63 ?_
              refine zh_iconst (pn := 65) rfl dX3_shortestRun_64 (v := (zI 1)) rfl ?_
              refine zh_iadd (pn := 66) rfl dX3_shortestRun_65 ?_
              refine zh_istore_n (pn := 67) rfl dX3_shortestRun_66 (i := 2) (lo' := [some (.ref 2), some (.int l1), some (.int ((l5 - (l4 + (zI 1))) + (zI 1))), some (.int l3), some (.int (l4 + (zI 1))), some (.int l5)]) rfl (by decide) rfl ?_
              refine zh_iload (pn := 69) rfl dX3_shortestRun_67 (i := 4) (x := l4 + (zI 1)) rfl ?_
              refine zh_istore_n (pn := 70) rfl dX3_shortestRun_69 (i := 3) (lo' := [some (.ref 2), some (.int l1), some (.int ((l5 - (l4 + (zI 1))) + (zI 1))), some (.int (l4 + (zI 1))), some (.int (l4 + (zI 1))), some (.int l5)]) rfl (by decide) rfl ?_
              refine zh_iinc (pn := 73) rfl dX3_shortestRun_70 (i := 5) (x := l5) (v := l5 + (zI 1)) (lo' := [some (.ref 2), some (.int l1), some (.int ((l5 - (l4 + (zI 1))) + (zI 1))), some (.int (l4 + (zI 1))), some (.int (l4 + (zI 1))), some (.int (l5 + (zI 1)))]) rfl rfl (by decide) rfl ?_
              refine zh_goto dX3_shortestRun_73 (tgt := 11) rfl ?_
              exact ih _ _ _ _ _ h
set_option maxRecDepth 100000 in
set_option maxHeartbeats 4000000 in
theorem wk_X3_shortestRun {X : Nat × (Nat → Int32)} {d : Nat} {M : zh_M} {a1 : Int32} {P : Int32 → zh_M → Prop} (h : wp_X3_shortestRun M a1 P) : zh_W X (d + 1) yX3_shortestRun cX3_shortestRun 6 (some .int) 0 (zh_en [.ref 2, .int a1] 6) [] zh_LL M 0 0 (zh_pi P) := by
  unfold wp_X3_shortestRun at h
  show zh_W X (d + 1) yX3_shortestRun cX3_shortestRun 6 (some .int) 0 [some (.ref 2), some (.int a1), none, none, none, none] [] zh_LL M 0 0 (zh_pi P)
  refine zh_iconst (pn := 1) rfl dX3_shortestRun_0 (v := (zI (-1))) rfl ?_
  refine zh_istore_n (pn := 2) rfl dX3_shortestRun_1 (i := 2) (lo' := [some (.ref 2), some (.int a1), some (.int (zI (-1))), none, none, none]) rfl (by decide) rfl ?_
  refine zh_bipush (pn := 4) rfl dX3_shortestRun_2 (v := (zI 17)) rfl ?_
  refine zh_istore_n (pn := 5) rfl dX3_shortestRun_4 (i := 3) (lo' := [some (.ref 2), some (.int a1), some (.int (zI (-1))), some (.int (zI 17)), none, none]) rfl (by decide) rfl ?_
  refine zh_iconst (pn := 6) rfl dX3_shortestRun_5 (v := (zI 0)) rfl ?_
  refine zh_istore (pn := 8) rfl dX3_shortestRun_6 (i := 4) (lo' := [some (.ref 2), some (.int a1), some (.int (zI (-1))), some (.int (zI 17)), some (.int (zI 0)), none]) (by decide) rfl ?_
  refine zh_iconst (pn := 9) rfl dX3_shortestRun_8 (v := (zI 0)) rfl ?_
  refine zh_istore (pn := 11) rfl dX3_shortestRun_9 (i := 5) (lo' := [some (.ref 2), some (.int a1), some (.int (zI (-1))), some (.int (zI 17)), some (.int (zI 0)), some (.int (zI 0))]) (by decide) rfl ?_
  obtain ⟨n5, h⟩ := h
  refine wkl_X3_shortestRun_11 n5 _ _ _ _ _ h
set_option maxRecDepth 100000 in
theorem ca_X3_shortestRun {X : Nat × (Nat → Int32)} {d : Nat} {y : MethodName} {cc : ByteArray} {nL : Nat} {rt : Option FieldType} {pc pn idx : Nat} {lo : List (Option Value)} {st : List Value} {M : zh_M} {P : Option Value → List zh_LC → zh_M → Prop} {a1 : Int32} {K : Int32 → zh_M → Prop} (hp : pc + 3 = pn) (hd : decode cc pc = .ok (.invokevirtual idx, 3)) (m1 : Cond.methodLink y.cls idx yX3_shortestRun ∈ zh_WS) (hsc : ∀ base b, ((st.map (zh_tr base b)).map fun v => v.category).sum ≤ 8) (h : wp_X3_shortestRun M a1 K) (kk : ∀ r M1, K r M1 → zh_W X (d + 2) y cc nL rt pn lo (.int r :: st) zh_LL M1 0 0 P) : zh_W X (d + 2) y cc nL rt pc lo (.int a1 :: .ref 2 :: st) zh_LL M 0 0 P := by
  refine zh_callV (bc := 0) (bs := 0) (bc' := 0) (bs' := 0) (as := [.int a1]) (st := st) hp hd rfl (by decide) rfl rfl m1 me_X3_shortestRun.1 me_X3_shortestRun.2.1 me_X3_shortestRun.2.2.1 me_X3_shortestRun.2.2.2 ⟨by decide, by decide, by decide⟩ (by show _ = some 1; decide +kernel) (by intro v hv; simp only [List.mem_cons, List.not_mem_nil, or_false] at hv; rcases hv with rfl <;> (intro _ _; rfl)) hsc (Nat.le_of_ble_eq_true rfl) (by decide) (wk_X3_shortestRun  h) (fun r L' M' q => ?_) (fun r L' M' q => ?_)
  · obtain ⟨v, -, rfl, q⟩ := q; rfl
  · obtain ⟨v, rfl, rfl, q⟩ := q; exact kk v M' q
set_option maxRecDepth 100000 in
set_option maxHeartbeats 4000000 in
theorem wk_X3_slotInNewSpan {X : Nat × (Nat → Int32)} {d : Nat} {M : zh_M} {a1 : Int32} {P : Int32 → zh_M → Prop} (h : wp_X3_slotInNewSpan M a1 P) : zh_W X (d + 2) yX3_slotInNewSpan cX3_slotInNewSpan 4 (some .int) 0 (zh_en [.ref 2, .int a1] 4) [] zh_LL M 0 0 (zh_pi P) := by
  unfold wp_X3_slotInNewSpan at h
  show zh_W X (d + 2) yX3_slotInNewSpan cX3_slotInNewSpan 4 (some .int) 0 [some (.ref 2), some (.int a1), none, none] [] zh_LL M 0 0 (zh_pi P)
  refine zh_iload_n (pn := 1) rfl dX3_slotInNewSpan_0 (i := 1) (x := a1) rfl rfl ?_
  refine ca_X3_pagesOfSpan (pn := 4) rfl dX3_slotInNewSpan_1 mc_X3_62 (fun _ _ => Nat.le_of_ble_eq_true rfl) h (fun r2 M1 h => ?_)
  refine zh_istore_n (pn := 5) rfl dX3_slotInNewSpan_4 (i := 2) (lo' := [some (.ref 2), some (.int a1), some (.int r2), none]) rfl (by decide) rfl ?_
  refine zh_aload_n (pn := 6) rfl dX3_slotInNewSpan_5 (i := 0) (v := .ref 2) rfl rfl (Or.inr ⟨_, rfl⟩) ?_
  refine zh_iload_n (pn := 7) rfl dX3_slotInNewSpan_6 (i := 2) (x := r2) rfl rfl ?_
  refine ca_X3_shortestRun (pn := 10) rfl dX3_slotInNewSpan_7 mc_X3_65 (fun _ _ => Nat.le_of_ble_eq_true rfl) h (fun r4 M3 h => ?_)
  refine zh_istore_n (pn := 11) rfl dX3_slotInNewSpan_10 (i := 3) (lo' := [some (.ref 2), some (.int a1), some (.int r2), some (.int r4)]) rfl (by decide) rfl ?_
  refine zh_iload_n (pn := 12) rfl dX3_slotInNewSpan_11 (i := 3) (x := r4) rfl rfl ?_
  refine zh_iconst (pn := 13) rfl dX3_slotInNewSpan_12 (v := (zI (-1))) rfl ?_
  refine zh_icmp_ne (pn := 16) rfl dX3_slotInNewSpan_13 (tgt := 18) rfl (fun cc1 => ?_) (fun cc1 => ?_)
  · replace h := h.1 cc1
    refine zh_aload_n (pn := 19) rfl dX3_slotInNewSpan_18 (i := 0) (v := .ref 2) rfl rfl (Or.inr ⟨_, rfl⟩) ?_
    refine zh_iload_n (pn := 20) rfl dX3_slotInNewSpan_19 (i := 3) (x := r4) rfl rfl ?_
    refine zh_iload_n (pn := 21) rfl dX3_slotInNewSpan_20 (i := 2) (x := r2) rfl rfl ?_
    refine zh_iconst (pn := 22) rfl dX3_slotInNewSpan_21 (v := (zI 1)) rfl ?_
    refine ca_X3_fillPages (pn := 25) rfl dX3_slotInNewSpan_22 mc_X3_68 (fun _ _ => Nat.le_of_ble_eq_true rfl) h (fun M5 h => ?_)
    refine zh_aload_n (pn := 26) rfl dX3_slotInNewSpan_25 (i := 0) (v := .ref 2) rfl rfl (Or.inr ⟨_, rfl⟩) ?_
    refine zh_get (pn := 29) rfl dX3_slotInNewSpan_26 (v := .ref 4) (k := 1) rfl rfl (by decide) (by decide) in_X3 mf_X3_15 rfl ?_
    refine zh_iload_n (pn := 30) rfl dX3_slotInNewSpan_29 (i := 3) (x := r4) rfl rfl ?_
    refine zh_iload_n (pn := 31) rfl dX3_slotInNewSpan_30 (i := 1) (x := a1) rfl rfl ?_
    refine zh_iast (pn := 32) rfl dX3_slotInNewSpan_31 rfl h.1 ?_
    obtain ⟨M6, eM6⟩ : ∃ q : zh_M, q = zh_set M5 4 r4.toNatClampNeg a1 := ⟨_, rfl⟩
    replace h := h.2 M6 eM6
    rw [← eM6]
    refine zh_iload_n (pn := 33) rfl dX3_slotInNewSpan_32 (i := 3) (x := r4) rfl rfl ?_
    refine zh_bipush (pn := 35) rfl dX3_slotInNewSpan_33 (v := (zI 16)) rfl ?_
    refine zh_imul (pn := 36) rfl dX3_slotInNewSpan_35 ?_
    exact zh_iret dX3_slotInNewSpan_36 rfl rfl ⟨_, rfl, rfl, h⟩
  · replace h := h.2 cc1
    refine zh_iconst (pn := 17) rfl dX3_slotInNewSpan_16 (v := (zI (-1))) rfl ?_
    exact zh_iret dX3_slotInNewSpan_17 rfl rfl ⟨_, rfl, rfl, h⟩
set_option maxRecDepth 100000 in
theorem ca_X3_slotInNewSpan {X : Nat × (Nat → Int32)} {d : Nat} {y : MethodName} {cc : ByteArray} {nL : Nat} {rt : Option FieldType} {pc pn idx : Nat} {lo : List (Option Value)} {st : List Value} {M : zh_M} {P : Option Value → List zh_LC → zh_M → Prop} {a1 : Int32} {K : Int32 → zh_M → Prop} (hp : pc + 3 = pn) (hd : decode cc pc = .ok (.invokevirtual idx, 3)) (m1 : Cond.methodLink y.cls idx yX3_slotInNewSpan ∈ zh_WS) (hsc : ∀ base b, ((st.map (zh_tr base b)).map fun v => v.category).sum ≤ 8) (h : wp_X3_slotInNewSpan M a1 K) (kk : ∀ r M1, K r M1 → zh_W X (d + 3) y cc nL rt pn lo (.int r :: st) zh_LL M1 0 0 P) : zh_W X (d + 3) y cc nL rt pc lo (.int a1 :: .ref 2 :: st) zh_LL M 0 0 P := by
  refine zh_callV (bc := 0) (bs := 0) (bc' := 0) (bs' := 0) (as := [.int a1]) (st := st) hp hd rfl (by decide) rfl rfl m1 me_X3_slotInNewSpan.1 me_X3_slotInNewSpan.2.1 me_X3_slotInNewSpan.2.2.1 me_X3_slotInNewSpan.2.2.2 ⟨by decide, by decide, by decide⟩ (by show _ = some 1; decide +kernel) (by intro v hv; simp only [List.mem_cons, List.not_mem_nil, or_false] at hv; rcases hv with rfl <;> (intro _ _; rfl)) hsc (Nat.le_of_ble_eq_true rfl) (by decide) (wk_X3_slotInNewSpan  h) (fun r L' M' q => ?_) (fun r L' M' q => ?_)
  · obtain ⟨v, -, rfl, q⟩ := q; rfl
  · obtain ⟨v, rfl, rfl, q⟩ := q; exact kk v M' q
set_option maxRecDepth 100000 in
set_option maxHeartbeats 4000000 in
theorem wkl_X3_fillSlot_31 {X : Nat × (Nat → Int32)} {d : Nat} {P : zh_M → Prop} {l1 : Int32} {l2 : Int32} {l3 : Int32} : ∀ (n : Nat) (l5 : Int32) (M : zh_M) (w4 : Option Value), wl_X3_fillSlot_31 l1 l2 l3 P n l5 M → zh_W X (d + 0) yX3_fillSlot cX3_fillSlot 6 none 31 [some (.ref 2), some (.int l1), some (.int l2), some (.int l3), w4, some (.int l5)] [] zh_LL M 0 0 (zh_pv P) := by
  intro n
  induction n with
  | zero => intro l5 M w4 h; exact h.elim
  | succ n ih =>
    intro l5 M w4 h
    unfold wl_X3_fillSlot_31 at h
    refine zh_iload (pn := 33) rfl dX3_fillSlot_31 (i := 5) (x := l5) rfl ?_
    refine zh_iload_n (pn := 34) rfl dX3_fillSlot_33 (i := 2) (x := l2) rfl rfl ?_
    refine zh_icmp_ge (pn := 37) rfl dX3_fillSlot_34 (tgt := 63) rfl (fun cc1 => ?_) (fun cc1 => ?_)
    · replace h := h.1 cc1
      exact zh_vret dX3_fillSlot_63 rfl ⟨rfl, rfl, h⟩
    · replace h := h.2 cc1
      refine zh_aload_n (pn := 38) rfl dX3_fillSlot_37 (i := 0) (v := .ref 2) rfl rfl (Or.inr ⟨_, rfl⟩) ?_
      refine zh_get (pn := 41) rfl dX3_fillSlot_38 (v := .ref 3) (k := 0) rfl rfl (by decide) (by decide) in_X3 mf_X3_9 rfl ?_
      refine zh_iload_n (pn := 42) rfl dX3_fillSlot_41 (i := 1) (x := l1) rfl rfl ?_
      refine zh_iload (pn := 44) rfl dX3_fillSlot_42 (i := 5) (x := l5) rfl ?_
      refine zh_iadd (pn := 45) rfl dX3_fillSlot_44 ?_
      refine zh_iload (pn := 47) rfl dX3_fillSlot_45 (i := 5) (x := l5) rfl ?_
      refine zh_iload_n (pn := 48) rfl dX3_fillSlot_47 (i := 3) (x := l3) rfl rfl ?_
      refine zh_icmp_ge (pn := 51) rfl dX3_fillSlot_48 (tgt := 55) rfl (fun cc1 => ?_) (fun cc1 => ?_)
      · replace h := h.1 cc1
        refine zh_iconst (pn := 56) rfl dX3_fillSlot_55 (v := (zI 0)) rfl ?_
        refine zh_iast (pn := 57) rfl dX3_fillSlot_56 rfl h.1 ?_
        obtain ⟨M4, eM4⟩ : ∃ q : zh_M, q = zh_set M 3 (l1 + l5).toNatClampNeg (zI 0) := ⟨_, rfl⟩
        replace h := h.2 M4 eM4
        rw [← eM4]
        refine zh_iinc (pn := 60) rfl dX3_fillSlot_57 (i := 5) (x := l5) (v := l5 + (zI 1)) (lo' := [some (.ref 2), some (.int l1), some (.int l2), some (.int l3), w4, some (.int (l5 + (zI 1)))]) rfl rfl (by decide) rfl ?_
        refine zh_goto dX3_fillSlot_60 (tgt := 31) rfl ?_
        exact ih _ _ _ h
      · replace h := h.2 cc1
        refine zh_iconst (pn := 52) rfl dX3_fillSlot_51 (v := (zI (-1))) rfl ?_
        refine zh_goto dX3_fillSlot_52 (tgt := 56) rfl ?_
        refine zh_iast (pn := 57) rfl dX3_fillSlot_56 rfl h.1 ?_
        obtain ⟨M5, eM5⟩ : ∃ q : zh_M, q = zh_set M 3 (l1 + l5).toNatClampNeg (zI (-1)) := ⟨_, rfl⟩
        replace h := h.2 M5 eM5
        rw [← eM5]
        refine zh_iinc (pn := 60) rfl dX3_fillSlot_57 (i := 5) (x := l5) (v := l5 + (zI 1)) (lo' := [some (.ref 2), some (.int l1), some (.int l2), some (.int l3), w4, some (.int (l5 + (zI 1)))]) rfl rfl (by decide) rfl ?_
        refine zh_goto dX3_fillSlot_60 (tgt := 31) rfl ?_
        exact ih _ _ _ h
set_option maxRecDepth 100000 in
set_option maxHeartbeats 4000000 in
theorem wk_X3_fillSlot {X : Nat × (Nat → Int32)} {d : Nat} {M : zh_M} {a1 : Int32} {a2 : Int32} {a3 : Int32} {a4 : Int32} {P : zh_M → Prop} (h : wp_X3_fillSlot M a1 a2 a3 a4 P) : zh_W X (d + 0) yX3_fillSlot cX3_fillSlot 6 none 0 (zh_en [.ref 2, .int a1, .int a2, .int a3, .int a4] 6) [] zh_LL M 0 0 (zh_pv P) := by
  unfold wp_X3_fillSlot at h
  show zh_W X (d + 0) yX3_fillSlot cX3_fillSlot 6 none 0 [some (.ref 2), some (.int a1), some (.int a2), some (.int a3), some (.int a4), none] [] zh_LL M 0 0 (zh_pv P)
  refine zh_aload_n (pn := 1) rfl dX3_fillSlot_0 (i := 0) (v := .ref 2) rfl rfl (Or.inr ⟨_, rfl⟩) ?_
  refine zh_get (pn := 4) rfl dX3_fillSlot_1 (v := .ref 6) (k := 3) rfl rfl (by decide) (by decide) in_X3 mf_X3_22 rfl ?_
  refine zh_iload_n (pn := 5) rfl dX3_fillSlot_4 (i := 1) (x := a1) rfl rfl ?_
  refine zh_iconst (pn := 6) rfl dX3_fillSlot_5 (v := (zI 2)) rfl ?_
  refine zh_idiv (pn := 7) rfl dX3_fillSlot_6 (by decide) ?_
  refine zh_iload_n (pn := 8) rfl dX3_fillSlot_7 (i := 2) (x := a2) rfl rfl ?_
  refine zh_iast (pn := 9) rfl dX3_fillSlot_8 rfl h.1 ?_
  obtain ⟨M1, eM1⟩ : ∃ q : zh_M, q = zh_set M 6 (a1 / (zI 2)).toNatClampNeg a2 := ⟨_, rfl⟩
  replace h := h.2 M1 eM1
  rw [← eM1]
  refine zh_aload_n (pn := 10) rfl dX3_fillSlot_9 (i := 0) (v := .ref 2) rfl rfl (Or.inr ⟨_, rfl⟩) ?_
  refine zh_get (pn := 13) rfl dX3_fillSlot_10 (v := .ref 7) (k := 4) rfl rfl (by decide) (by decide) in_X3 mf_X3_25 rfl ?_
  refine zh_iload_n (pn := 14) rfl dX3_fillSlot_13 (i := 1) (x := a1) rfl rfl ?_
  refine zh_iconst (pn := 15) rfl dX3_fillSlot_14 (v := (zI 2)) rfl ?_
  refine zh_idiv (pn := 16) rfl dX3_fillSlot_15 (by decide) ?_
  refine zh_iload_n (pn := 17) rfl dX3_fillSlot_16 (i := 3) (x := a3) rfl rfl ?_
  refine zh_iast (pn := 18) rfl dX3_fillSlot_17 rfl h.1 ?_
  obtain ⟨M2, eM2⟩ : ∃ q : zh_M, q = zh_set M1 7 (a1 / (zI 2)).toNatClampNeg a3 := ⟨_, rfl⟩
  replace h := h.2 M2 eM2
  rw [← eM2]
  refine zh_aload_n (pn := 19) rfl dX3_fillSlot_18 (i := 0) (v := .ref 2) rfl rfl (Or.inr ⟨_, rfl⟩) ?_
  refine zh_get (pn := 22) rfl dX3_fillSlot_19 (v := .ref 8) (k := 5) rfl rfl (by decide) (by decide) in_X3 mf_X3_28 rfl ?_
  refine zh_iload_n (pn := 23) rfl dX3_fillSlot_22 (i := 1) (x := a1) rfl rfl ?_
  refine zh_iconst (pn := 24) rfl dX3_fillSlot_23 (v := (zI 2)) rfl ?_
  refine zh_idiv (pn := 25) rfl dX3_fillSlot_24 (by decide) ?_
  refine zh_iload (pn := 27) rfl dX3_fillSlot_25 (i := 4) (x := a4) rfl ?_
  refine zh_iast (pn := 28) rfl dX3_fillSlot_27 rfl h.1 ?_
  obtain ⟨M3, eM3⟩ : ∃ q : zh_M, q = zh_set M2 8 (a1 / (zI 2)).toNatClampNeg a4 := ⟨_, rfl⟩
  replace h := h.2 M3 eM3
  rw [← eM3]
  refine zh_iconst (pn := 29) rfl dX3_fillSlot_28 (v := (zI 0)) rfl ?_
  refine zh_istore (pn := 31) rfl dX3_fillSlot_29 (i := 5) (lo' := [some (.ref 2), some (.int a1), some (.int a2), some (.int a3), some (.int a4), some (.int (zI 0))]) (by decide) rfl ?_
  obtain ⟨n6, h⟩ := h
  refine wkl_X3_fillSlot_31 n6 _ _ _ h
set_option maxRecDepth 100000 in
theorem ca_X3_fillSlot {X : Nat × (Nat → Int32)} {d : Nat} {y : MethodName} {cc : ByteArray} {nL : Nat} {rt : Option FieldType} {pc pn idx : Nat} {lo : List (Option Value)} {st : List Value} {M : zh_M} {P : Option Value → List zh_LC → zh_M → Prop} {a1 : Int32} {a2 : Int32} {a3 : Int32} {a4 : Int32} {K : zh_M → Prop} (hp : pc + 3 = pn) (hd : decode cc pc = .ok (.invokevirtual idx, 3)) (m1 : Cond.methodLink y.cls idx yX3_fillSlot ∈ zh_WS) (hsc : ∀ base b, ((st.map (zh_tr base b)).map fun v => v.category).sum ≤ 8) (h : wp_X3_fillSlot M a1 a2 a3 a4 K) (kk : ∀ M1, K M1 → zh_W X (d + 1) y cc nL rt pn lo st zh_LL M1 0 0 P) : zh_W X (d + 1) y cc nL rt pc lo (.int a4 :: .int a3 :: .int a2 :: .int a1 :: .ref 2 :: st) zh_LL M 0 0 P := by
  refine zh_callV (bc := 0) (bs := 0) (bc' := 0) (bs' := 0) (as := [.int a1, .int a2, .int a3, .int a4]) (st := st) hp hd rfl (by decide) rfl rfl m1 me_X3_fillSlot.1 me_X3_fillSlot.2.1 me_X3_fillSlot.2.2.1 me_X3_fillSlot.2.2.2 ⟨by decide, by decide, by decide⟩ (by show _ = some 4; decide +kernel) (by intro v hv; simp only [List.mem_cons, List.not_mem_nil, or_false] at hv; rcases hv with rfl | rfl | rfl | rfl <;> (intro _ _; rfl)) hsc (Nat.le_of_ble_eq_true rfl) (by decide) (wk_X3_fillSlot  h) (fun r L' M' q => ?_) (fun r L' M' q => ?_)
  · obtain ⟨-, rfl, q⟩ := q; rfl
  · obtain ⟨rfl, rfl, q⟩ := q; exact kk M' q
set_option maxRecDepth 100000 in
set_option maxHeartbeats 4000000 in
theorem wk_X3_place {X : Nat × (Nat → Int32)} {d : Nat} {M : zh_M} {a1 : Int32} {a2 : Int32} {a3 : Int32} {P : Int32 → zh_M → Prop} (h : wp_X3_place M a1 a2 a3 P) : zh_W X (d + 4) yX3_place cX3_place 6 (some .int) 0 (zh_en [.ref 2, .int a1, .int a2, .int a3] 6) [] zh_LL M 0 0 (zh_pi P) := by
  unfold wp_X3_place at h
  show zh_W X (d + 4) yX3_place cX3_place 6 (some .int) 0 [some (.ref 2), some (.int a1), some (.int a2), some (.int a3), none, none] [] zh_LL M 0 0 (zh_pi P)
  refine zh_iload_n (pn := 1) rfl dX3_place_0 (i := 1) (x := a1) rfl rfl ?_
  refine ca_X3_slotWordsFor (pn := 4) rfl dX3_place_1 mc_X3_41 (fun _ _ => Nat.le_of_ble_eq_true rfl) h (fun r2 M1 h => ?_)
  refine zh_istore (pn := 6) rfl dX3_place_4 (i := 4) (lo' := [some (.ref 2), some (.int a1), some (.int a2), some (.int a3), some (.int r2), none]) (by decide) rfl ?_
  refine zh_iload (pn := 8) rfl dX3_place_6 (i := 4) (x := r2) rfl ?_
  refine zh_bipush (pn := 10) rfl dX3_place_8 (v := (zI 16)) rfl ?_
  refine zh_icmp_ge (pn := 13) rfl dX3_place_10 (tgt := 22) rfl (fun cc1 => ?_) (fun cc1 => ?_)
  · replace h := h.1 cc1
    refine zh_iconst (pn := 23) rfl dX3_place_22 (v := (zI (-1))) rfl ?_
    refine zh_istore (pn := 25) rfl dX3_place_23 (i := 5) (lo' := [some (.ref 2), some (.int a1), some (.int a2), some (.int a3), some (.int r2), some (.int (zI (-1)))]) (by decide) rfl ?_
    refine zh_iload (pn := 27) rfl dX3_place_25 (i := 5) (x := (zI (-1))) rfl ?_
    refine zh_iconst (pn := 28) rfl dX3_place_27 (v := (zI (-1))) rfl ?_
    refine zh_icmp_ne (pn := 31) rfl dX3_place_28 (tgt := 39) rfl (fun cc1 => absurd cc1 (by decide)) (fun _ => ?_)
    refine zh_aload_n (pn := 32) rfl dX3_place_31 (i := 0) (v := .ref 2) rfl rfl (Or.inr ⟨_, rfl⟩) ?_
    refine zh_iload (pn := 34) rfl dX3_place_32 (i := 4) (x := r2) rfl ?_
    refine ca_X3_slotInNewSpan (pn := 37) rfl dX3_place_34 mc_X3_48 (fun _ _ => Nat.le_of_ble_eq_true rfl) h (fun r4 M3 h => ?_)
    refine zh_istore (pn := 39) rfl dX3_place_37 (i := 5) (lo' := [some (.ref 2), some (.int a1), some (.int a2), some (.int a3), some (.int r2), some (.int r4)]) (by decide) rfl ?_
    refine zh_iload (pn := 41) rfl dX3_place_39 (i := 5) (x := r4) rfl ?_
    refine zh_iconst (pn := 42) rfl dX3_place_41 (v := (zI (-1))) rfl ?_
    refine zh_icmp_eq (pn := 45) rfl dX3_place_42 (tgt := 54) rfl (fun cc1 => ?_) (fun cc1 => ?_)
    · replace h := h.1 cc1
      refine zh_iload (pn := 56) rfl dX3_place_54 (i := 5) (x := r4) rfl ?_
      exact zh_iret dX3_place_56 rfl rfl ⟨_, rfl, rfl, h⟩
    · replace h := h.2 cc1
      refine zh_aload_n (pn := 46) rfl dX3_place_45 (i := 0) (v := .ref 2) rfl rfl (Or.inr ⟨_, rfl⟩) ?_
      refine zh_iload (pn := 48) rfl dX3_place_46 (i := 5) (x := r4) rfl ?_
      refine zh_iload_n (pn := 49) rfl dX3_place_48 (i := 1) (x := a1) rfl rfl ?_
      refine zh_iload_n (pn := 50) rfl dX3_place_49 (i := 2) (x := a2) rfl rfl ?_
      refine zh_iload_n (pn := 51) rfl dX3_place_50 (i := 3) (x := a3) rfl rfl ?_
      refine ca_X3_fillSlot (pn := 54) rfl dX3_place_51 mc_X3_51 (fun _ _ => Nat.le_of_ble_eq_true rfl) h (fun M5 h => ?_)
      refine zh_iload (pn := 56) rfl dX3_place_54 (i := 5) (x := r4) rfl ?_
      exact zh_iret dX3_place_56 rfl rfl ⟨_, rfl, rfl, h⟩
  · replace h := h.2 cc1
    refine zh_aload_n (pn := 14) rfl dX3_place_13 (i := 0) (v := .ref 2) rfl rfl (Or.inr ⟨_, rfl⟩) ?_
    refine zh_iload (pn := 16) rfl dX3_place_14 (i := 4) (x := r2) rfl ?_
    refine ca_X3_slotInSpans (pn := 19) rfl dX3_place_16 mc_X3_45 (fun _ _ => Nat.le_of_ble_eq_true rfl) h (fun r7 M6 h => ?_)
    refine zh_goto dX3_place_19 (tgt := 23) rfl ?_
    refine zh_istore (pn := 25) rfl dX3_place_23 (i := 5) (lo' := [some (.ref 2), some (.int a1), some (.int a2), some (.int a3), some (.int r2), some (.int r7)]) (by decide) rfl ?_
    refine zh_iload (pn := 27) rfl dX3_place_25 (i := 5) (x := r7) rfl ?_
    refine zh_iconst (pn := 28) rfl dX3_place_27 (v := (zI (-1))) rfl ?_
    refine zh_icmp_ne (pn := 31) rfl dX3_place_28 (tgt := 39) rfl (fun cc1 => ?_) (fun cc1 => ?_)
    · replace h := h.1 cc1
      refine zh_iload (pn := 41) rfl dX3_place_39 (i := 5) (x := r7) rfl ?_
      refine zh_iconst (pn := 42) rfl dX3_place_41 (v := (zI (-1))) rfl ?_
      refine zh_icmp_eq (pn := 45) rfl dX3_place_42 (tgt := 54) rfl (fun cc1 => ?_) (fun cc1 => ?_)
      · replace h := h.1 cc1
        refine zh_iload (pn := 56) rfl dX3_place_54 (i := 5) (x := r7) rfl ?_
        exact zh_iret dX3_place_56 rfl rfl ⟨_, rfl, rfl, h⟩
      · replace h := h.2 cc1
        refine zh_aload_n (pn := 46) rfl dX3_place_45 (i := 0) (v := .ref 2) rfl rfl (Or.inr ⟨_, rfl⟩) ?_
        refine zh_iload (pn := 48) rfl dX3_place_46 (i := 5) (x := r7) rfl ?_
        refine zh_iload_n (pn := 49) rfl dX3_place_48 (i := 1) (x := a1) rfl rfl ?_
        refine zh_iload_n (pn := 50) rfl dX3_place_49 (i := 2) (x := a2) rfl rfl ?_
        refine zh_iload_n (pn := 51) rfl dX3_place_50 (i := 3) (x := a3) rfl rfl ?_
        refine ca_X3_fillSlot (pn := 54) rfl dX3_place_51 mc_X3_51 (fun _ _ => Nat.le_of_ble_eq_true rfl) h (fun M8 h => ?_)
        refine zh_iload (pn := 56) rfl dX3_place_54 (i := 5) (x := r7) rfl ?_
        exact zh_iret dX3_place_56 rfl rfl ⟨_, rfl, rfl, h⟩
    · replace h := h.2 cc1
      refine zh_aload_n (pn := 32) rfl dX3_place_31 (i := 0) (v := .ref 2) rfl rfl (Or.inr ⟨_, rfl⟩) ?_
      refine zh_iload (pn := 34) rfl dX3_place_32 (i := 4) (x := r2) rfl ?_
      refine ca_X3_slotInNewSpan (pn := 37) rfl dX3_place_34 mc_X3_48 (fun _ _ => Nat.le_of_ble_eq_true rfl) h (fun r10 M9 h => ?_)
      refine zh_istore (pn := 39) rfl dX3_place_37 (i := 5) (lo' := [some (.ref 2), some (.int a1), some (.int a2), some (.int a3), some (.int r2), some (.int r10)]) (by decide) rfl ?_
      refine zh_iload (pn := 41) rfl dX3_place_39 (i := 5) (x := r10) rfl ?_
      refine zh_iconst (pn := 42) rfl dX3_place_41 (v := (zI (-1))) rfl ?_
      refine zh_icmp_eq (pn := 45) rfl dX3_place_42 (tgt := 54) rfl (fun cc1 => ?_) (fun cc1 => ?_)
      · replace h := h.1 cc1
        refine zh_iload (pn := 56) rfl dX3_place_54 (i := 5) (x := r10) rfl ?_
        exact zh_iret dX3_place_56 rfl rfl ⟨_, rfl, rfl, h⟩
      · replace h := h.2 cc1
        refine zh_aload_n (pn := 46) rfl dX3_place_45 (i := 0) (v := .ref 2) rfl rfl (Or.inr ⟨_, rfl⟩) ?_
        refine zh_iload (pn := 48) rfl dX3_place_46 (i := 5) (x := r10) rfl ?_
        refine zh_iload_n (pn := 49) rfl dX3_place_48 (i := 1) (x := a1) rfl rfl ?_
        refine zh_iload_n (pn := 50) rfl dX3_place_49 (i := 2) (x := a2) rfl rfl ?_
        refine zh_iload_n (pn := 51) rfl dX3_place_50 (i := 3) (x := a3) rfl rfl ?_
        refine ca_X3_fillSlot (pn := 54) rfl dX3_place_51 mc_X3_51 (fun _ _ => Nat.le_of_ble_eq_true rfl) h (fun M11 h => ?_)
        refine zh_iload (pn := 56) rfl dX3_place_54 (i := 5) (x := r10) rfl ?_
        exact zh_iret dX3_place_56 rfl rfl ⟨_, rfl, rfl, h⟩
set_option maxRecDepth 100000 in
theorem ca_X3_place {X : Nat × (Nat → Int32)} {d : Nat} {y : MethodName} {cc : ByteArray} {nL : Nat} {rt : Option FieldType} {pc pn idx : Nat} {lo : List (Option Value)} {st : List Value} {M : zh_M} {P : Option Value → List zh_LC → zh_M → Prop} {a1 : Int32} {a2 : Int32} {a3 : Int32} {K : Int32 → zh_M → Prop} (hp : pc + 3 = pn) (hd : decode cc pc = .ok (.invokevirtual idx, 3)) (m1 : Cond.methodLink y.cls idx yX3_place ∈ zh_WS) (hsc : ∀ base b, ((st.map (zh_tr base b)).map fun v => v.category).sum ≤ 8) (h : wp_X3_place M a1 a2 a3 K) (kk : ∀ r M1, K r M1 → zh_W X (d + 5) y cc nL rt pn lo (.int r :: st) zh_LL M1 0 0 P) : zh_W X (d + 5) y cc nL rt pc lo (.int a3 :: .int a2 :: .int a1 :: .ref 2 :: st) zh_LL M 0 0 P := by
  refine zh_callV (bc := 0) (bs := 0) (bc' := 0) (bs' := 0) (as := [.int a1, .int a2, .int a3]) (st := st) hp hd rfl (by decide) rfl rfl m1 me_X3_place.1 me_X3_place.2.1 me_X3_place.2.2.1 me_X3_place.2.2.2 ⟨by decide, by decide, by decide⟩ (by show _ = some 3; decide +kernel) (by intro v hv; simp only [List.mem_cons, List.not_mem_nil, or_false] at hv; rcases hv with rfl | rfl | rfl <;> (intro _ _; rfl)) hsc (Nat.le_of_ble_eq_true rfl) (by decide) (wk_X3_place  h) (fun r L' M' q => ?_) (fun r L' M' q => ?_)
  · obtain ⟨v, -, rfl, q⟩ := q; rfl
  · obtain ⟨v, rfl, rfl, q⟩ := q; exact kk v M' q
set_option maxRecDepth 100000 in
set_option maxHeartbeats 4000000 in
theorem wk_X1_finishMarking {X : Nat × (Nat → Int32)} {d : Nat} {M : zh_M} {P : zh_M → Prop} (h : wp_X1_finishMarking M P) : zh_W X (d + 5) yX1_finishMarking cX1_finishMarking 1 none 0 (zh_en [.ref 37] 1) [] zh_LL M 0 0 (zh_pv P) := by
  unfold wp_X1_finishMarking at h
  show zh_W X (d + 5) yX1_finishMarking cX1_finishMarking 1 none 0 [some (.ref 37)] [] zh_LL M 0 0 (zh_pv P)
  refine zh_aload_n (pn := 1) rfl dX1_finishMarking_0 (i := 0) (v := .ref 37) rfl rfl (Or.inr ⟨_, rfl⟩) ?_
  refine zh_get (pn := 4) rfl dX1_finishMarking_1 (v := .int (M 37 5)) (k := 5) rfl rfl (by decide) (by decide) in_X1 mf_X1_31 rfl ?_
  refine zh_if_eq (pn := 7) rfl dX1_finishMarking_4 (tgt := 15) rfl (fun cc1 => ?_) (fun cc1 => ?_)
  · replace h := h.1 cc1
    exact zh_vret dX1_finishMarking_15 rfl ⟨rfl, rfl, h⟩
  · replace h := h.2 cc1
    refine zh_aload_n (pn := 8) rfl dX1_finishMarking_7 (i := 0) (v := .ref 37) rfl rfl (Or.inr ⟨_, rfl⟩) ?_
    refine zh_sipush (pn := 11) rfl dX1_finishMarking_8 (v := (zI 134)) rfl ?_
    refine ca_X1_work (pn := 14) rfl dX1_finishMarking_11 mc_X1_82 (fun _ _ => Nat.le_of_ble_eq_true rfl) h (fun r2 M1 h => ?_)
    refine zh_pop (pn := 15) rfl dX1_finishMarking_14 (fun _ _ => rfl) ?_
    exact zh_vret dX1_finishMarking_15 rfl ⟨rfl, rfl, h⟩
set_option maxRecDepth 100000 in
theorem ca_X1_finishMarking {X : Nat × (Nat → Int32)} {d : Nat} {y : MethodName} {cc : ByteArray} {nL : Nat} {rt : Option FieldType} {pc pn idx : Nat} {lo : List (Option Value)} {st : List Value} {M : zh_M} {P : Option Value → List zh_LC → zh_M → Prop} {K : zh_M → Prop} (hp : pc + 3 = pn) (hd : decode cc pc = .ok (.invokevirtual idx, 3)) (m1 : Cond.methodLink y.cls idx yX1_finishMarking ∈ zh_WS) (hsc : ∀ base b, ((st.map (zh_tr base b)).map fun v => v.category).sum ≤ 8) (h : wp_X1_finishMarking M K) (kk : ∀ M1, K M1 → zh_W X (d + 6) y cc nL rt pn lo st zh_LL M1 0 0 P) : zh_W X (d + 6) y cc nL rt pc lo (.ref 37 :: st) zh_LL M 0 0 P := by
  refine zh_callV (bc := 0) (bs := 0) (bc' := 0) (bs' := 0) (as := []) (st := st) hp hd rfl (by decide) rfl rfl m1 me_X1_finishMarking.1 me_X1_finishMarking.2.1 me_X1_finishMarking.2.2.1 me_X1_finishMarking.2.2.2 ⟨by decide, by decide, by decide⟩ (by show _ = some 0; decide +kernel) (fun v hv => by cases hv) hsc (Nat.le_of_ble_eq_true rfl) (by decide) (wk_X1_finishMarking  h) (fun r L' M' q => ?_) (fun r L' M' q => ?_)
  · obtain ⟨-, rfl, q⟩ := q; rfl
  · obtain ⟨rfl, rfl, q⟩ := q; exact kk M' q
set_option maxRecDepth 100000 in
set_option maxHeartbeats 4000000 in
theorem wk_X4_placeAtAnyCost {X : Nat × (Nat → Int32)} {d : Nat} {M : zh_M} {a1 : Int32} {a2 : Int32} {P : Int32 → zh_M → Prop} (h : wp_X4_placeAtAnyCost M a1 a2 P) : zh_W X (d + 6) yX4_placeAtAnyCost cX4_placeAtAnyCost 4 (some .int) 0 (zh_en [.ref 1, .int a1, .int a2] 4) [] zh_LL M 0 0 (zh_pi P) := by
  unfold wp_X4_placeAtAnyCost at h
  show zh_W X (d + 6) yX4_placeAtAnyCost cX4_placeAtAnyCost 4 (some .int) 0 [some (.ref 1), some (.int a1), some (.int a2), none] [] zh_LL M 0 0 (zh_pi P)
  refine zh_aload_n (pn := 1) rfl dX4_placeAtAnyCost_0 (i := 0) (v := .ref 1) rfl rfl (Or.inr ⟨_, rfl⟩) ?_
  refine zh_get (pn := 4) rfl dX4_placeAtAnyCost_1 (v := .ref 2) (k := 0) rfl rfl (by decide) (by decide) in_X4 mf_X4_12 rfl ?_
  refine zh_iload_n (pn := 5) rfl dX4_placeAtAnyCost_4 (i := 1) (x := a1) rfl rfl ?_
  refine zh_iload_n (pn := 6) rfl dX4_placeAtAnyCost_5 (i := 2) (x := a2) rfl rfl ?_
  refine zh_aload_n (pn := 7) rfl dX4_placeAtAnyCost_6 (i := 0) (v := .ref 1) rfl rfl (Or.inr ⟨_, rfl⟩) ?_
  refine zh_get (pn := 10) rfl dX4_placeAtAnyCost_7 (v := .ref 37) (k := 3) rfl rfl (by decide) (by decide) in_X4 mf_X4_37 rfl ?_
  refine ca_X1_markOfPlaced (pn := 13) rfl dX4_placeAtAnyCost_10 mc_X4_211 (fun _ _ => Nat.le_of_ble_eq_true rfl) h (fun r2 M1 h => ?_)
  refine ca_X3_place (pn := 16) rfl dX4_placeAtAnyCost_13 mc_X4_214 (fun _ _ => Nat.le_of_ble_eq_true rfl) h (fun r4 M3 h => ?_)
  refine zh_istore_n (pn := 17) rfl dX4_placeAtAnyCost_16 (i := 3) (lo' := [some (.ref 1), some (.int a1), some (.int a2), some (.int r4)]) rfl (by decide) rfl ?_
  refine zh_iload_n (pn := 18) rfl dX4_placeAtAnyCost_17 (i := 3) (x := r4) rfl rfl ?_
  refine zh_iconst (pn := 19) rfl dX4_placeAtAnyCost_18 (v := (zI (-1))) rfl ?_
  refine zh_icmp_ne (pn := 22) rfl dX4_placeAtAnyCost_19 (tgt := 50) rfl (fun cc1 => ?_) (fun cc1 => ?_)
  · replace h := h.1 cc1
    refine zh_iload_n (pn := 51) rfl dX4_placeAtAnyCost_50 (i := 3) (x := r4) rfl rfl ?_
    refine zh_iconst (pn := 52) rfl dX4_placeAtAnyCost_51 (v := (zI (-1))) rfl ?_
    refine zh_icmp_ne (pn := 55) rfl dX4_placeAtAnyCost_52 (tgt := 90) rfl (fun cc1 => ?_) (fun cc1 => ?_)
    · replace h := h.1 cc1
      refine zh_iload_n (pn := 91) rfl dX4_placeAtAnyCost_90 (i := 3) (x := r4) rfl rfl ?_
      exact zh_iret dX4_placeAtAnyCost_91 rfl rfl ⟨_, rfl, rfl, h⟩
    · replace h := h.2 cc1
      refine zh_aload_n (pn := 56) rfl dX4_placeAtAnyCost_55 (i := 0) (v := .ref 1) rfl rfl (Or.inr ⟨_, rfl⟩) ?_
      refine zh_get (pn := 59) rfl dX4_placeAtAnyCost_56 (v := .ref 37) (k := 3) rfl rfl (by decide) (by decide) in_X4 mf_X4_37 rfl ?_
      refine ca_X1_beginCycle (pn := 62) rfl dX4_placeAtAnyCost_59 mc_X4_166 (fun _ _ => Nat.le_of_ble_eq_true rfl) h (fun M5 h => ?_)
      refine zh_aload_n (pn := 63) rfl dX4_placeAtAnyCost_62 (i := 0) (v := .ref 1) rfl rfl (Or.inr ⟨_, rfl⟩) ?_
      refine zh_get (pn := 66) rfl dX4_placeAtAnyCost_63 (v := .ref 37) (k := 3) rfl rfl (by decide) (by decide) in_X4 mf_X4_37 rfl ?_
      refine ca_X1_finishMarking (pn := 69) rfl dX4_placeAtAnyCost_66 mc_X4_217 (fun _ _ => Nat.le_of_ble_eq_true rfl) h (fun M6 h => ?_)
      refine zh_aload_n (pn := 70) rfl dX4_placeAtAnyCost_69 (i := 0) (v := .ref 1) rfl rfl (Or.inr ⟨_, rfl⟩) ?_
      refine zh_get (pn := 73) rfl dX4_placeAtAnyCost_70 (v := .ref 2) (k := 0) rfl rfl (by decide) (by decide) in_X4 mf_X4_12 rfl ?_
      refine zh_bipush (pn := 75) rfl dX4_placeAtAnyCost_73 (v := (zI 16)) rfl ?_
      refine ca_X3_sweepSpans (pn := 78) rfl dX4_placeAtAnyCost_75 mc_X4_163 (fun _ _ => Nat.le_of_ble_eq_true rfl) h (fun r8 M7 h => ?_)
      refine zh_pop (pn := 79) rfl dX4_placeAtAnyCost_78 (fun _ _ => rfl) ?_
      refine zh_aload_n (pn := 80) rfl dX4_placeAtAnyCost_79 (i := 0) (v := .ref 1) rfl rfl (Or.inr ⟨_, rfl⟩) ?_
      refine zh_get (pn := 83) rfl dX4_placeAtAnyCost_80 (v := .ref 2) (k := 0) rfl rfl (by decide) (by decide) in_X4 mf_X4_12 rfl ?_
      refine zh_iload_n (pn := 84) rfl dX4_placeAtAnyCost_83 (i := 1) (x := a1) rfl rfl ?_
      refine zh_iload_n (pn := 85) rfl dX4_placeAtAnyCost_84 (i := 2) (x := a2) rfl rfl ?_
      refine zh_iconst (pn := 86) rfl dX4_placeAtAnyCost_85 (v := (zI 0)) rfl ?_
      refine ca_X3_place (pn := 89) rfl dX4_placeAtAnyCost_86 mc_X4_214 (fun _ _ => Nat.le_of_ble_eq_true rfl) h (fun r10 M9 h => ?_)
      refine zh_istore_n (pn := 90) rfl dX4_placeAtAnyCost_89 (i := 3) (lo' := [some (.ref 1), some (.int a1), some (.int a2), some (.int r10)]) rfl (by decide) rfl ?_
      refine zh_iload_n (pn := 91) rfl dX4_placeAtAnyCost_90 (i := 3) (x := r10) rfl rfl ?_
      exact zh_iret dX4_placeAtAnyCost_91 rfl rfl ⟨_, rfl, rfl, h⟩
  · replace h := h.2 cc1
    refine zh_aload_n (pn := 23) rfl dX4_placeAtAnyCost_22 (i := 0) (v := .ref 1) rfl rfl (Or.inr ⟨_, rfl⟩) ?_
    refine zh_get (pn := 26) rfl dX4_placeAtAnyCost_23 (v := .ref 37) (k := 3) rfl rfl (by decide) (by decide) in_X4 mf_X4_37 rfl ?_
    refine ca_X1_finishMarking (pn := 29) rfl dX4_placeAtAnyCost_26 mc_X4_217 (fun _ _ => Nat.le_of_ble_eq_true rfl) h (fun M11 h => ?_)
    refine zh_aload_n (pn := 30) rfl dX4_placeAtAnyCost_29 (i := 0) (v := .ref 1) rfl rfl (Or.inr ⟨_, rfl⟩) ?_
    refine zh_get (pn := 33) rfl dX4_placeAtAnyCost_30 (v := .ref 2) (k := 0) rfl rfl (by decide) (by decide) in_X4 mf_X4_12 rfl ?_
    refine zh_bipush (pn := 35) rfl dX4_placeAtAnyCost_33 (v := (zI 16)) rfl ?_
    refine ca_X3_sweepSpans (pn := 38) rfl dX4_placeAtAnyCost_35 mc_X4_163 (fun _ _ => Nat.le_of_ble_eq_true rfl) h (fun r13 M12 h => ?_)
    refine zh_pop (pn := 39) rfl dX4_placeAtAnyCost_38 (fun _ _ => rfl) ?_
    refine zh_aload_n (pn := 40) rfl dX4_placeAtAnyCost_39 (i := 0) (v := .ref 1) rfl rfl (Or.inr ⟨_, rfl⟩) ?_
    refine zh_get (pn := 43) rfl dX4_placeAtAnyCost_40 (v := .ref 2) (k := 0) rfl rfl (by decide) (by decide) in_X4 mf_X4_12 rfl ?_
    refine zh_iload_n (pn := 44) rfl dX4_placeAtAnyCost_43 (i := 1) (x := a1) rfl rfl ?_
    refine zh_iload_n (pn := 45) rfl dX4_placeAtAnyCost_44 (i := 2) (x := a2) rfl rfl ?_
    refine zh_iconst (pn := 46) rfl dX4_placeAtAnyCost_45 (v := (zI 0)) rfl ?_
    refine ca_X3_place (pn := 49) rfl dX4_placeAtAnyCost_46 mc_X4_214 (fun _ _ => Nat.le_of_ble_eq_true rfl) h (fun r15 M14 h => ?_)
    refine zh_istore_n (pn := 50) rfl dX4_placeAtAnyCost_49 (i := 3) (lo' := [some (.ref 1), some (.int a1), some (.int a2), some (.int r15)]) rfl (by decide) rfl ?_
    refine zh_iload_n (pn := 51) rfl dX4_placeAtAnyCost_50 (i := 3) (x := r15) rfl rfl ?_
    refine zh_iconst (pn := 52) rfl dX4_placeAtAnyCost_51 (v := (zI (-1))) rfl ?_
    refine zh_icmp_ne (pn := 55) rfl dX4_placeAtAnyCost_52 (tgt := 90) rfl (fun cc1 => ?_) (fun cc1 => ?_)
    · replace h := h.1 cc1
      refine zh_iload_n (pn := 91) rfl dX4_placeAtAnyCost_90 (i := 3) (x := r15) rfl rfl ?_
      exact zh_iret dX4_placeAtAnyCost_91 rfl rfl ⟨_, rfl, rfl, h⟩
    · replace h := h.2 cc1
      refine zh_aload_n (pn := 56) rfl dX4_placeAtAnyCost_55 (i := 0) (v := .ref 1) rfl rfl (Or.inr ⟨_, rfl⟩) ?_
      refine zh_get (pn := 59) rfl dX4_placeAtAnyCost_56 (v := .ref 37) (k := 3) rfl rfl (by decide) (by decide) in_X4 mf_X4_37 rfl ?_
      refine ca_X1_beginCycle (pn := 62) rfl dX4_placeAtAnyCost_59 mc_X4_166 (fun _ _ => Nat.le_of_ble_eq_true rfl) h (fun M16 h => ?_)
      refine zh_aload_n (pn := 63) rfl dX4_placeAtAnyCost_62 (i := 0) (v := .ref 1) rfl rfl (Or.inr ⟨_, rfl⟩) ?_
      refine zh_get (pn := 66) rfl dX4_placeAtAnyCost_63 (v := .ref 37) (k := 3) rfl rfl (by decide) (by decide) in_X4 mf_X4_37 rfl ?_
      refine ca_X1_finishMarking (pn := 69) rfl dX4_placeAtAnyCost_66 mc_X4_217 (fun _ _ => Nat.le_of_ble_eq_true rfl) h (fun M17 h => ?_)
      refine zh_aload_n (pn := 70) rfl dX4_placeAtAnyCost_69 (i := 0) (v := .ref 1) rfl rfl (Or.inr ⟨_, rfl⟩) ?_
      refine zh_get (pn := 73) rfl dX4_placeAtAnyCost_70 (v := .ref 2) (k := 0) rfl rfl (by decide) (by decide) in_X4 mf_X4_12 rfl ?_
      refine zh_bipush (pn := 75) rfl dX4_placeAtAnyCost_73 (v := (zI 16)) rfl ?_
      refine ca_X3_sweepSpans (pn := 78) rfl dX4_placeAtAnyCost_75 mc_X4_163 (fun _ _ => Nat.le_of_ble_eq_true rfl) h (fun r19 M18 h => ?_)
      refine zh_pop (pn := 79) rfl dX4_placeAtAnyCost_78 (fun _ _ => rfl) ?_
      refine zh_aload_n (pn := 80) rfl dX4_placeAtAnyCost_79 (i := 0) (v := .ref 1) rfl rfl (Or.inr ⟨_, rfl⟩) ?_
      refine zh_get (pn := 83) rfl dX4_placeAtAnyCost_80 (v := .ref 2) (k := 0) rfl rfl (by decide) (by decide) in_X4 mf_X4_12 rfl ?_
      refine zh_iload_n (pn := 84) rfl dX4_placeAtAnyCost_83 (i := 1) (x := a1) rfl rfl ?_
      refine zh_iload_n (pn := 85) rfl dX4_placeAtAnyCost_84 (i := 2) (x := a2) rfl rfl ?_
      refine zh_iconst (pn := 86) rfl dX4_placeAtAnyCost_85 (v := (zI 0)) rfl ?_
      refine ca_X3_place (pn := 89) rfl dX4_placeAtAnyCost_86 mc_X4_214 (fun _ _ => Nat.le_of_ble_eq_true rfl) h (fun r21 M20 h => ?_)
      refine zh_istore_n (pn := 90) rfl dX4_placeAtAnyCost_89 (i := 3) (lo' := [some (.ref 1), some (.int a1), some (.int a2), some (.int r21)]) rfl (by decide) rfl ?_
      refine zh_iload_n (pn := 91) rfl dX4_placeAtAnyCost_90 (i := 3) (x := r21) rfl rfl ?_
      exact zh_iret dX4_placeAtAnyCost_91 rfl rfl ⟨_, rfl, rfl, h⟩
set_option maxRecDepth 100000 in
theorem ca_X4_placeAtAnyCost {X : Nat × (Nat → Int32)} {d : Nat} {y : MethodName} {cc : ByteArray} {nL : Nat} {rt : Option FieldType} {pc pn idx : Nat} {lo : List (Option Value)} {st : List Value} {M : zh_M} {P : Option Value → List zh_LC → zh_M → Prop} {a1 : Int32} {a2 : Int32} {K : Int32 → zh_M → Prop} (hp : pc + 3 = pn) (hd : decode cc pc = .ok (.invokevirtual idx, 3)) (m1 : Cond.methodLink y.cls idx yX4_placeAtAnyCost ∈ zh_WS) (hsc : ∀ base b, ((st.map (zh_tr base b)).map fun v => v.category).sum ≤ 8) (h : wp_X4_placeAtAnyCost M a1 a2 K) (kk : ∀ r M1, K r M1 → zh_W X (d + 7) y cc nL rt pn lo (.int r :: st) zh_LL M1 0 0 P) : zh_W X (d + 7) y cc nL rt pc lo (.int a2 :: .int a1 :: .ref 1 :: st) zh_LL M 0 0 P := by
  refine zh_callV (bc := 0) (bs := 0) (bc' := 0) (bs' := 0) (as := [.int a1, .int a2]) (st := st) hp hd rfl (by decide) rfl rfl m1 me_X4_placeAtAnyCost.1 me_X4_placeAtAnyCost.2.1 me_X4_placeAtAnyCost.2.2.1 me_X4_placeAtAnyCost.2.2.2 ⟨by decide, by decide, by decide⟩ (by show _ = some 2; decide +kernel) (by intro v hv; simp only [List.mem_cons, List.not_mem_nil, or_false] at hv; rcases hv with rfl | rfl <;> (intro _ _; rfl)) hsc (Nat.le_of_ble_eq_true rfl) (by decide) (wk_X4_placeAtAnyCost  h) (fun r L' M' q => ?_) (fun r L' M' q => ?_)
  · obtain ⟨v, -, rfl, q⟩ := q; rfl
  · obtain ⟨v, rfl, rfl, q⟩ := q; exact kk v M' q
set_option maxRecDepth 100000 in
set_option maxHeartbeats 4000000 in
theorem wk_X4_make {X : Nat × (Nat → Int32)} {d : Nat} {M : zh_M} {a1 : Int32} {a2 : Int32} {a3 : Int32} {a4 : Int32} {P : Int32 → zh_M → Prop} (h : wp_X4_make M a1 a2 a3 a4 P) : zh_W X (d + 7) yX4_make cX4_make 7 (some .int) 0 (zh_en [.ref 1, .int a1, .int a2, .int a3, .int a4] 7) [] zh_LL M 0 0 (zh_pi P) := by
  unfold wp_X4_make at h
  show zh_W X (d + 7) yX4_make cX4_make 7 (some .int) 0 [some (.ref 1), some (.int a1), some (.int a2), some (.int a3), some (.int a4), none, none] [] zh_LL M 0 0 (zh_pi P)
  refine zh_aload_n (pn := 1) rfl dX4_make_0 (i := 0) (v := .ref 1) rfl rfl (Or.inr ⟨_, rfl⟩) ?_
  refine zh_iload_n (pn := 2) rfl dX4_make_1 (i := 1) (x := a1) rfl rfl ?_
  refine ca_X4_readyFiber (pn := 5) rfl dX4_make_2 mc_X4_48 (fun _ _ => Nat.le_of_ble_eq_true rfl) h (fun r2 M1 h => ?_)
  refine zh_astore (pn := 7) rfl dX4_make_5 (i := 5) (lo' := [some (.ref 1), some (.int a1), some (.int a2), some (.int a3), some (.int a4), some (va_rf r2), none]) (by decide) (zh_rfor r2) rfl ?_
  refine zh_aload (pn := 9) rfl dX4_make_7 (i := 5) (v := va_rf r2) rfl (zh_rfor r2) ?_
  refine zh_ifnull (pn := 12) rfl dX4_make_9 (tgt := 21) rfl (fun cc1 => ?_) (fun o3 cc1 => ?_)
  · subst cc1
    replace h := h.1 rfl
    refine zh_iconst (pn := 22) rfl dX4_make_21 (v := (zI (-1))) rfl ?_
    exact zh_iret dX4_make_22 rfl rfl ⟨_, rfl, rfl, h⟩
  · subst cc1
    obtain ⟨zo3, h⟩ := h.2 o3 rfl
    refine zh_aload (pn := 14) rfl dX4_make_12 (i := 5) (v := .ref o3) rfl (Or.inr ⟨_, rfl⟩) ?_
    refine zh_iload_n (pn := 15) rfl dX4_make_14 (i := 2) (x := a2) rfl rfl ?_
    refine ca_X2_isCell (pn := 18) rfl dX4_make_15 mc_X4_89 zo3 (fun _ _ => Nat.le_of_ble_eq_true rfl) h (fun r5 M4 h => ?_)
    refine zh_if_ne (pn := 21) rfl dX4_make_18 (tgt := 23) rfl (fun cc1 => ?_) (fun cc1 => ?_)
    · replace h := h.1 cc1
      refine zh_iload_n (pn := 24) rfl dX4_make_23 (i := 3) (x := a3) rfl rfl ?_
      refine zh_iconst (pn := 25) rfl dX4_make_24 (v := (zI 1)) rfl ?_
      refine zh_icmp_lt (pn := 28) rfl dX4_make_25 (tgt := 45) rfl (fun cc1 => ?_) (fun cc1 => ?_)
      · replace h := h.1 cc1
        refine zh_iconst (pn := 46) rfl dX4_make_45 (v := (zI (-1))) rfl ?_
        exact zh_iret dX4_make_46 rfl rfl ⟨_, rfl, rfl, h⟩
      · replace h := h.2 cc1
        refine zh_iload_n (pn := 29) rfl dX4_make_28 (i := 3) (x := a3) rfl rfl ?_
        refine zh_bipush (pn := 31) rfl dX4_make_29 (v := (zI 64)) rfl ?_
        refine zh_icmp_gt (pn := 34) rfl dX4_make_31 (tgt := 45) rfl (fun cc1 => ?_) (fun cc1 => ?_)
        · replace h := h.1 cc1
          refine zh_iconst (pn := 46) rfl dX4_make_45 (v := (zI (-1))) rfl ?_
          exact zh_iret dX4_make_46 rfl rfl ⟨_, rfl, rfl, h⟩
        · replace h := h.2 cc1
          refine zh_iload (pn := 36) rfl dX4_make_34 (i := 4) (x := a4) rfl ?_
          refine zh_if_lt (pn := 39) rfl dX4_make_36 (tgt := 45) rfl (fun cc1 => ?_) (fun cc1 => ?_)
          · replace h := h.1 cc1
            refine zh_iconst (pn := 46) rfl dX4_make_45 (v := (zI (-1))) rfl ?_
            exact zh_iret dX4_make_46 rfl rfl ⟨_, rfl, rfl, h⟩
          · replace h := h.2 cc1
            refine zh_iload (pn := 41) rfl dX4_make_39 (i := 4) (x := a4) rfl ?_
            refine zh_iload_n (pn := 42) rfl dX4_make_41 (i := 3) (x := a3) rfl rfl ?_
            refine zh_icmp_le (pn := 45) rfl dX4_make_42 (tgt := 47) rfl (fun cc1 => ?_) (fun cc1 => ?_)
            · replace h := h.1 cc1
              refine zh_aload_n (pn := 48) rfl dX4_make_47 (i := 0) (v := .ref 1) rfl rfl (Or.inr ⟨_, rfl⟩) ?_
              refine zh_get (pn := 51) rfl dX4_make_48 (v := .ref 37) (k := 3) rfl rfl (by decide) (by decide) in_X4 mf_X4_37 rfl ?_
              refine zh_iload_n (pn := 52) rfl dX4_make_51 (i := 3) (x := a3) rfl rfl ?_
              refine ca_X3_slotWordsFor (pn := 55) rfl dX4_make_52 mc_X4_96 (fun _ _ => Nat.le_of_ble_eq_true rfl) h (fun r7 M6 h => ?_)
              refine ca_X1_workBeforePlacing (pn := 58) rfl dX4_make_55 mc_X4_99 (fun _ _ => Nat.le_of_ble_eq_true rfl) h (fun M8 h => ?_)
              refine zh_aload_n (pn := 59) rfl dX4_make_58 (i := 0) (v := .ref 1) rfl rfl (Or.inr ⟨_, rfl⟩) ?_
              refine zh_iload_n (pn := 60) rfl dX4_make_59 (i := 3) (x := a3) rfl rfl ?_
              refine zh_iload (pn := 62) rfl dX4_make_60 (i := 4) (x := a4) rfl ?_
              refine ca_X4_placeAtAnyCost (pn := 65) rfl dX4_make_62 mc_X4_102 (fun _ _ => Nat.le_of_ble_eq_true rfl) h (fun r10 M9 h => ?_)
              refine zh_istore (pn := 67) rfl dX4_make_65 (i := 6) (lo' := [some (.ref 1), some (.int a1), some (.int a2), some (.int a3), some (.int a4), some (.ref o3), some (.int r10)]) (by decide) rfl ?_
              refine zh_iload (pn := 69) rfl dX4_make_67 (i := 6) (x := r10) rfl ?_
              refine zh_iconst (pn := 70) rfl dX4_make_69 (v := (zI (-1))) rfl ?_
              refine zh_icmp_ne (pn := 73) rfl dX4_make_70 (tgt := 76) rfl (fun cc1 => ?_) (fun cc1 => ?_)
              · replace h := h.1 cc1
                refine zh_aload_n (pn := 77) rfl dX4_make_76 (i := 0) (v := .ref 1) rfl rfl (Or.inr ⟨_, rfl⟩) ?_
                refine zh_get (pn := 80) rfl dX4_make_77 (v := .ref 37) (k := 3) rfl rfl (by decide) (by decide) in_X4 mf_X4_37 rfl ?_
                refine zh_dup (pn := 81) rfl dX4_make_80 (fun _ _ => rfl) ?_
                refine zh_get (pn := 84) rfl dX4_make_81 (v := .int (M9 37 8)) (k := 8) rfl rfl (by decide) (by decide) in_X1 mf_X4_106 rfl ?_
                refine zh_iload_n (pn := 85) rfl dX4_make_84 (i := 3) (x := a3) rfl rfl ?_
                refine ca_X3_slotWordsFor (pn := 88) rfl dX4_make_85 mc_X4_96 (fun _ _ => Nat.le_of_ble_eq_true rfl) h (fun r12 M11 h => ?_)
                refine zh_iadd (pn := 89) rfl dX4_make_88 ?_
                refine zh_put (pn := 92) rfl dX4_make_89 (k := 8) rfl rfl (by decide) (by decide) in_X1 tyX1_ok nmX1 mf_X4_106 rfl rfl rfl rfl ?_
                obtain ⟨M13, eM13⟩ : ∃ q : zh_M, q = zh_set M11 37 8 ((M9 37 8) + r12) := ⟨_, rfl⟩
                replace h := h M13 eM13
                rw [← eM13]
                refine zh_aload (pn := 94) rfl dX4_make_92 (i := 5) (v := .ref o3) rfl (Or.inr ⟨_, rfl⟩) ?_
                refine zh_iload_n (pn := 95) rfl dX4_make_94 (i := 2) (x := a2) rfl rfl ?_
                refine zh_iload (pn := 97) rfl dX4_make_95 (i := 6) (x := r10) rfl ?_
                refine ca_X2_fillCell (pn := 100) rfl dX4_make_97 mc_X4_92 zo3 (fun _ _ => Nat.le_of_ble_eq_true rfl) h (fun M14 h => ?_)
                refine zh_iload (pn := 102) rfl dX4_make_100 (i := 6) (x := r10) rfl ?_
                exact zh_iret dX4_make_102 rfl rfl ⟨_, rfl, rfl, h⟩
              · replace h := h.2 cc1
                refine zh_bipush (pn := 75) rfl dX4_make_73 (v := (zI (-2))) rfl ?_
                exact zh_iret dX4_make_75 rfl rfl ⟨_, rfl, rfl, h⟩
            · replace h := h.2 cc1
              refine zh_iconst (pn := 46) rfl dX4_make_45 (v := (zI (-1))) rfl ?_
              exact zh_iret dX4_make_46 rfl rfl ⟨_, rfl, rfl, h⟩
    · replace h := h.2 cc1
      refine zh_iconst (pn := 22) rfl dX4_make_21 (v := (zI (-1))) rfl ?_
      exact zh_iret dX4_make_22 rfl rfl ⟨_, rfl, rfl, h⟩
set_option maxRecDepth 100000 in
theorem ca_X4_make {X : Nat × (Nat → Int32)} {d : Nat} {y : MethodName} {cc : ByteArray} {nL : Nat} {rt : Option FieldType} {pc pn idx : Nat} {lo : List (Option Value)} {st : List Value} {M : zh_M} {P : Option Value → List zh_LC → zh_M → Prop} {a1 : Int32} {a2 : Int32} {a3 : Int32} {a4 : Int32} {K : Int32 → zh_M → Prop} (hp : pc + 3 = pn) (hd : decode cc pc = .ok (.invokevirtual idx, 3)) (m1 : Cond.methodLink y.cls idx yX4_make ∈ zh_WS) (hsc : ∀ base b, ((st.map (zh_tr base b)).map fun v => v.category).sum ≤ 8) (h : wp_X4_make M a1 a2 a3 a4 K) (kk : ∀ r M1, K r M1 → zh_W X (d + 8) y cc nL rt pn lo (.int r :: st) zh_LL M1 0 0 P) : zh_W X (d + 8) y cc nL rt pc lo (.int a4 :: .int a3 :: .int a2 :: .int a1 :: .ref 1 :: st) zh_LL M 0 0 P := by
  refine zh_callV (bc := 0) (bs := 0) (bc' := 0) (bs' := 0) (as := [.int a1, .int a2, .int a3, .int a4]) (st := st) hp hd rfl (by decide) rfl rfl m1 me_X4_make.1 me_X4_make.2.1 me_X4_make.2.2.1 me_X4_make.2.2.2 ⟨by decide, by decide, by decide⟩ (by show _ = some 4; decide +kernel) (by intro v hv; simp only [List.mem_cons, List.not_mem_nil, or_false] at hv; rcases hv with rfl | rfl | rfl | rfl <;> (intro _ _; rfl)) hsc (Nat.le_of_ble_eq_true rfl) (by decide) (wk_X4_make  h) (fun r L' M' q => ?_) (fun r L' M' q => ?_)
  · obtain ⟨v, -, rfl, q⟩ := q; rfl
  · obtain ⟨v, rfl, rfl, q⟩ := q; exact kk v M' q
set_option maxRecDepth 100000 in
set_option maxHeartbeats 4000000 in
theorem wk_X3_isPointerWord {X : Nat × (Nat → Int32)} {d : Nat} {M : zh_M} {a1 : Int32} {a2 : Int32} {P : Int32 → zh_M → Prop} (h : wp_X3_isPointerWord M a1 a2 P) : zh_W X (d + 0) yX3_isPointerWord cX3_isPointerWord 3 (some .boolean) 0 (zh_en [.ref 2, .int a1, .int a2] 3) [] zh_LL M 0 0 (zh_pi P) := by
  unfold wp_X3_isPointerWord at h
  show zh_W X (d + 0) yX3_isPointerWord cX3_isPointerWord 3 (some .boolean) 0 [some (.ref 2), some (.int a1), some (.int a2)] [] zh_LL M 0 0 (zh_pi P)
  refine zh_iload_n (pn := 1) rfl dX3_isPointerWord_0 (i := 1) (x := a1) rfl rfl ?_
  refine zh_if_lt (pn := 4) rfl dX3_isPointerWord_1 (tgt := 31) rfl (fun cc1 => ?_) (fun cc1 => ?_)
  · replace h := h.1 cc1
    refine zh_iconst (pn := 32) rfl dX3_isPointerWord_31 (v := (zI 0)) rfl ?_
    exact zh_iret dX3_isPointerWord_32 rfl rfl ⟨_, rfl, rfl, h⟩
  · replace h := h.2 cc1
    refine zh_iload_n (pn := 5) rfl dX3_isPointerWord_4 (i := 1) (x := a1) rfl rfl ?_
    refine zh_sipush (pn := 8) rfl dX3_isPointerWord_5 (v := (zI 256)) rfl ?_
    refine zh_icmp_ge (pn := 11) rfl dX3_isPointerWord_8 (tgt := 31) rfl (fun cc1 => ?_) (fun cc1 => ?_)
    · replace h := h.1 cc1
      refine zh_iconst (pn := 32) rfl dX3_isPointerWord_31 (v := (zI 0)) rfl ?_
      exact zh_iret dX3_isPointerWord_32 rfl rfl ⟨_, rfl, rfl, h⟩
    · replace h := h.2 cc1
      refine zh_iload_n (pn := 12) rfl dX3_isPointerWord_11 (i := 2) (x := a2) rfl rfl ?_
      refine zh_if_lt (pn := 15) rfl dX3_isPointerWord_12 (tgt := 31) rfl (fun cc1 => ?_) (fun cc1 => ?_)
      · replace h := h.1 cc1
        refine zh_iconst (pn := 32) rfl dX3_isPointerWord_31 (v := (zI 0)) rfl ?_
        exact zh_iret dX3_isPointerWord_32 rfl rfl ⟨_, rfl, rfl, h⟩
      · replace h := h.2 cc1
        refine zh_iload_n (pn := 16) rfl dX3_isPointerWord_15 (i := 2) (x := a2) rfl rfl ?_
        refine zh_aload_n (pn := 17) rfl dX3_isPointerWord_16 (i := 0) (v := .ref 2) rfl rfl (Or.inr ⟨_, rfl⟩) ?_
        refine zh_get (pn := 20) rfl dX3_isPointerWord_17 (v := .ref 7) (k := 4) rfl rfl (by decide) (by decide) in_X3 mf_X3_25 rfl ?_
        refine zh_iload_n (pn := 21) rfl dX3_isPointerWord_20 (i := 1) (x := a1) rfl rfl ?_
        refine zh_iconst (pn := 22) rfl dX3_isPointerWord_21 (v := (zI 2)) rfl ?_
        refine zh_idiv (pn := 23) rfl dX3_isPointerWord_22 (by decide) ?_
        refine zh_iald (pn := 24) rfl dX3_isPointerWord_23 rfl h.1 ?_
        replace h := h.2
        refine zh_icmp_ge (pn := 27) rfl dX3_isPointerWord_24 (tgt := 31) rfl (fun cc1 => ?_) (fun cc1 => ?_)
        · replace h := h.1 cc1
          refine zh_iconst (pn := 32) rfl dX3_isPointerWord_31 (v := (zI 0)) rfl ?_
          exact zh_iret dX3_isPointerWord_32 rfl rfl ⟨_, rfl, rfl, h⟩
        · replace h := h.2 cc1
          refine zh_iconst (pn := 28) rfl dX3_isPointerWord_27 (v := (zI 1)) rfl ?_
          refine zh_goto dX3_isPointerWord_28 (tgt := 32) rfl ?_
          exact zh_iret dX3_isPointerWord_32 rfl rfl ⟨_, rfl, rfl, h⟩
set_option maxRecDepth 100000 in
theorem ca_X3_isPointerWord {X : Nat × (Nat → Int32)} {d : Nat} {y : MethodName} {cc : ByteArray} {nL : Nat} {rt : Option FieldType} {pc pn idx : Nat} {lo : List (Option Value)} {st : List Value} {M : zh_M} {P : Option Value → List zh_LC → zh_M → Prop} {a1 : Int32} {a2 : Int32} {K : Int32 → zh_M → Prop} (hp : pc + 3 = pn) (hd : decode cc pc = .ok (.invokevirtual idx, 3)) (m1 : Cond.methodLink y.cls idx yX3_isPointerWord ∈ zh_WS) (hsc : ∀ base b, ((st.map (zh_tr base b)).map fun v => v.category).sum ≤ 8) (h : wp_X3_isPointerWord M a1 a2 K) (kk : ∀ r M1, K r M1 → zh_W X (d + 1) y cc nL rt pn lo (.int r :: st) zh_LL M1 0 0 P) : zh_W X (d + 1) y cc nL rt pc lo (.int a2 :: .int a1 :: .ref 2 :: st) zh_LL M 0 0 P := by
  refine zh_callV (bc := 0) (bs := 0) (bc' := 0) (bs' := 0) (as := [.int a1, .int a2]) (st := st) hp hd rfl (by decide) rfl rfl m1 me_X3_isPointerWord.1 me_X3_isPointerWord.2.1 me_X3_isPointerWord.2.2.1 me_X3_isPointerWord.2.2.2 ⟨by decide, by decide, by decide⟩ (by show _ = some 2; decide +kernel) (by intro v hv; simp only [List.mem_cons, List.not_mem_nil, or_false] at hv; rcases hv with rfl | rfl <;> (intro _ _; rfl)) hsc (Nat.le_of_ble_eq_true rfl) (by decide) (wk_X3_isPointerWord  h) (fun r L' M' q => ?_) (fun r L' M' q => ?_)
  · obtain ⟨v, -, rfl, q⟩ := q; rfl
  · obtain ⟨v, rfl, rfl, q⟩ := q; exact kk v M' q
set_option maxRecDepth 100000 in
set_option maxHeartbeats 4000000 in
theorem wk_X4_set {X : Nat × (Nat → Int32)} {d : Nat} {M : zh_M} {a1 : Int32} {a2 : Int32} {a3 : Int32} {a4 : Int32} {P : Int32 → zh_M → Prop} (h : wp_X4_set M a1 a2 a3 a4 P) : zh_W X (d + 3) yX4_set cX4_set 8 (some .boolean) 0 (zh_en [.ref 1, .int a1, .int a2, .int a3, .int a4] 8) [] zh_LL M 0 0 (zh_pi P) := by
  unfold wp_X4_set at h
  show zh_W X (d + 3) yX4_set cX4_set 8 (some .boolean) 0 [some (.ref 1), some (.int a1), some (.int a2), some (.int a3), some (.int a4), none, none, none] [] zh_LL M 0 0 (zh_pi P)
  refine zh_aload_n (pn := 1) rfl dX4_set_0 (i := 0) (v := .ref 1) rfl rfl (Or.inr ⟨_, rfl⟩) ?_
  refine zh_iload_n (pn := 2) rfl dX4_set_1 (i := 1) (x := a1) rfl rfl ?_
  refine ca_X4_readyFiber (pn := 5) rfl dX4_set_2 mc_X4_48 (fun _ _ => Nat.le_of_ble_eq_true rfl) h (fun r2 M1 h => ?_)
  refine zh_astore (pn := 7) rfl dX4_set_5 (i := 5) (lo' := [some (.ref 1), some (.int a1), some (.int a2), some (.int a3), some (.int a4), some (va_rf r2), none, none]) (by decide) (zh_rfor r2) rfl ?_
  refine zh_aload (pn := 9) rfl dX4_set_7 (i := 5) (v := va_rf r2) rfl (zh_rfor r2) ?_
  refine zh_ifnull (pn := 12) rfl dX4_set_9 (tgt := 31) rfl (fun cc1 => ?_) (fun o3 cc1 => ?_)
  · subst cc1
    replace h := h.1 rfl
    refine zh_iconst (pn := 32) rfl dX4_set_31 (v := (zI 0)) rfl ?_
    exact zh_iret dX4_set_32 rfl rfl ⟨_, rfl, rfl, h⟩
  · subst cc1
    obtain ⟨zo3, h⟩ := h.2 o3 rfl
    refine zh_aload (pn := 14) rfl dX4_set_12 (i := 5) (v := .ref o3) rfl (Or.inr ⟨_, rfl⟩) ?_
    refine zh_iload_n (pn := 15) rfl dX4_set_14 (i := 2) (x := a2) rfl rfl ?_
    refine ca_X2_isCell (pn := 18) rfl dX4_set_15 mc_X4_89 zo3 (fun _ _ => Nat.le_of_ble_eq_true rfl) h (fun r5 M4 h => ?_)
    refine zh_if_eq (pn := 21) rfl dX4_set_18 (tgt := 31) rfl (fun cc1 => ?_) (fun cc1 => ?_)
    · replace h := h.1 cc1
      refine zh_iconst (pn := 32) rfl dX4_set_31 (v := (zI 0)) rfl ?_
      exact zh_iret dX4_set_32 rfl rfl ⟨_, rfl, rfl, h⟩
    · replace h := h.2 cc1
      refine zh_aload (pn := 23) rfl dX4_set_21 (i := 5) (v := .ref o3) rfl (Or.inr ⟨_, rfl⟩) ?_
      refine zh_iload (pn := 25) rfl dX4_set_23 (i := 4) (x := a4) rfl ?_
      refine ca_X2_isSource (pn := 28) rfl dX4_set_25 mc_X4_56 zo3 (fun _ _ => Nat.le_of_ble_eq_true rfl) h (fun r7 M6 h => ?_)
      refine zh_if_ne (pn := 31) rfl dX4_set_28 (tgt := 33) rfl (fun cc1 => ?_) (fun cc1 => ?_)
      · replace h := h.1 cc1
        refine zh_aload (pn := 35) rfl dX4_set_33 (i := 5) (v := .ref o3) rfl (Or.inr ⟨_, rfl⟩) ?_
        refine zh_iload_n (pn := 36) rfl dX4_set_35 (i := 2) (x := a2) rfl rfl ?_
        refine ca_X2_pointerFrom (pn := 39) rfl dX4_set_36 mc_X4_60 zo3 (fun _ _ => Nat.le_of_ble_eq_true rfl) h (fun r9 M8 h => ?_)
        refine zh_istore (pn := 41) rfl dX4_set_39 (i := 6) (lo' := [some (.ref 1), some (.int a1), some (.int a2), some (.int a3), some (.int a4), some (.ref o3), some (.int r9), none]) (by decide) rfl ?_
        refine zh_aload_n (pn := 42) rfl dX4_set_41 (i := 0) (v := .ref 1) rfl rfl (Or.inr ⟨_, rfl⟩) ?_
        refine zh_get (pn := 45) rfl dX4_set_42 (v := .ref 2) (k := 0) rfl rfl (by decide) (by decide) in_X4 mf_X4_12 rfl ?_
        refine zh_iload (pn := 47) rfl dX4_set_45 (i := 6) (x := r9) rfl ?_
        refine zh_iload_n (pn := 48) rfl dX4_set_47 (i := 3) (x := a3) rfl rfl ?_
        refine ca_X3_isPointerWord (pn := 51) rfl dX4_set_48 mc_X4_109 (fun _ _ => Nat.le_of_ble_eq_true rfl) h (fun r11 M10 h => ?_)
        refine zh_if_ne (pn := 54) rfl dX4_set_51 (tgt := 56) rfl (fun cc1 => ?_) (fun cc1 => ?_)
        · replace h := h.1 cc1
          refine zh_aload (pn := 58) rfl dX4_set_56 (i := 5) (v := .ref o3) rfl (Or.inr ⟨_, rfl⟩) ?_
          refine zh_iload (pn := 60) rfl dX4_set_58 (i := 4) (x := a4) rfl ?_
          refine ca_X2_pointerFrom (pn := 63) rfl dX4_set_60 mc_X4_60 zo3 (fun _ _ => Nat.le_of_ble_eq_true rfl) h (fun r13 M12 h => ?_)
          refine zh_istore (pn := 65) rfl dX4_set_63 (i := 7) (lo' := [some (.ref 1), some (.int a1), some (.int a2), some (.int a3), some (.int a4), some (.ref o3), some (.int r9), some (.int r13)]) (by decide) rfl ?_
          refine zh_aload_n (pn := 66) rfl dX4_set_65 (i := 0) (v := .ref 1) rfl rfl (Or.inr ⟨_, rfl⟩) ?_
          refine zh_get (pn := 69) rfl dX4_set_66 (v := .ref 37) (k := 3) rfl rfl (by decide) (by decide) in_X4 mf_X4_37 rfl ?_
          refine zh_aload_n (pn := 70) rfl dX4_set_69 (i := 0) (v := .ref 1) rfl rfl (Or.inr ⟨_, rfl⟩) ?_
          refine zh_get (pn := 73) rfl dX4_set_70 (v := .ref 2) (k := 0) rfl rfl (by decide) (by decide) in_X4 mf_X4_12 rfl ?_
          refine zh_get (pn := 76) rfl dX4_set_73 (v := .ref 3) (k := 0) rfl rfl (by decide) (by decide) in_X3 mf_X4_113 rfl ?_
          refine zh_iload (pn := 78) rfl dX4_set_76 (i := 6) (x := r9) rfl ?_
          refine zh_iload_n (pn := 79) rfl dX4_set_78 (i := 3) (x := a3) rfl rfl ?_
          refine zh_iadd (pn := 80) rfl dX4_set_79 ?_
          refine zh_iald (pn := 81) rfl dX4_set_80 rfl h.1 ?_
          replace h := h.2
          refine ca_X1_note (pn := 84) rfl dX4_set_81 mc_X4_116 (fun _ _ => Nat.le_of_ble_eq_true rfl) h (fun M14 h => ?_)
          refine zh_aload_n (pn := 85) rfl dX4_set_84 (i := 0) (v := .ref 1) rfl rfl (Or.inr ⟨_, rfl⟩) ?_
          refine zh_get (pn := 88) rfl dX4_set_85 (v := .ref 37) (k := 3) rfl rfl (by decide) (by decide) in_X4 mf_X4_37 rfl ?_
          refine zh_iload (pn := 90) rfl dX4_set_88 (i := 7) (x := r13) rfl ?_
          refine ca_X1_note (pn := 93) rfl dX4_set_90 mc_X4_116 (fun _ _ => Nat.le_of_ble_eq_true rfl) h (fun M15 h => ?_)
          refine zh_aload_n (pn := 94) rfl dX4_set_93 (i := 0) (v := .ref 1) rfl rfl (Or.inr ⟨_, rfl⟩) ?_
          refine zh_get (pn := 97) rfl dX4_set_94 (v := .ref 2) (k := 0) rfl rfl (by decide) (by decide) in_X4 mf_X4_12 rfl ?_
          refine zh_get (pn := 100) rfl dX4_set_97 (v := .ref 3) (k := 0) rfl rfl (by decide) (by decide) in_X3 mf_X4_113 rfl ?_
          refine zh_iload (pn := 102) rfl dX4_set_100 (i := 6) (x := r9) rfl ?_
          refine zh_iload_n (pn := 103) rfl dX4_set_102 (i := 3) (x := a3) rfl rfl ?_
          refine zh_iadd (pn := 104) rfl dX4_set_103 ?_
          refine zh_iload (pn := 106) rfl dX4_set_104 (i := 7) (x := r13) rfl ?_
          refine zh_iast (pn := 107) rfl dX4_set_106 rfl h.1 ?_
          obtain ⟨M16, eM16⟩ : ∃ q : zh_M, q = zh_set M15 3 (r9 + a3).toNatClampNeg r13 := ⟨_, rfl⟩
          replace h := h.2 M16 eM16
          rw [← eM16]
          refine zh_iconst (pn := 108) rfl dX4_set_107 (v := (zI 1)) rfl ?_
          exact zh_iret dX4_set_108 rfl rfl ⟨_, rfl, rfl, h⟩
        · replace h := h.2 cc1
          refine zh_iconst (pn := 55) rfl dX4_set_54 (v := (zI 0)) rfl ?_
          exact zh_iret dX4_set_55 rfl rfl ⟨_, rfl, rfl, h⟩
      · replace h := h.2 cc1
        refine zh_iconst (pn := 32) rfl dX4_set_31 (v := (zI 0)) rfl ?_
        exact zh_iret dX4_set_32 rfl rfl ⟨_, rfl, rfl, h⟩
set_option maxRecDepth 100000 in
theorem ca_X4_set {X : Nat × (Nat → Int32)} {d : Nat} {y : MethodName} {cc : ByteArray} {nL : Nat} {rt : Option FieldType} {pc pn idx : Nat} {lo : List (Option Value)} {st : List Value} {M : zh_M} {P : Option Value → List zh_LC → zh_M → Prop} {a1 : Int32} {a2 : Int32} {a3 : Int32} {a4 : Int32} {K : Int32 → zh_M → Prop} (hp : pc + 3 = pn) (hd : decode cc pc = .ok (.invokevirtual idx, 3)) (m1 : Cond.methodLink y.cls idx yX4_set ∈ zh_WS) (hsc : ∀ base b, ((st.map (zh_tr base b)).map fun v => v.category).sum ≤ 8) (h : wp_X4_set M a1 a2 a3 a4 K) (kk : ∀ r M1, K r M1 → zh_W X (d + 4) y cc nL rt pn lo (.int r :: st) zh_LL M1 0 0 P) : zh_W X (d + 4) y cc nL rt pc lo (.int a4 :: .int a3 :: .int a2 :: .int a1 :: .ref 1 :: st) zh_LL M 0 0 P := by
  refine zh_callV (bc := 0) (bs := 0) (bc' := 0) (bs' := 0) (as := [.int a1, .int a2, .int a3, .int a4]) (st := st) hp hd rfl (by decide) rfl rfl m1 me_X4_set.1 me_X4_set.2.1 me_X4_set.2.2.1 me_X4_set.2.2.2 ⟨by decide, by decide, by decide⟩ (by show _ = some 4; decide +kernel) (by intro v hv; simp only [List.mem_cons, List.not_mem_nil, or_false] at hv; rcases hv with rfl | rfl | rfl | rfl <;> (intro _ _; rfl)) hsc (Nat.le_of_ble_eq_true rfl) (by decide) (wk_X4_set  h) (fun r L' M' q => ?_) (fun r L' M' q => ?_)
  · obtain ⟨v, -, rfl, q⟩ := q; rfl
  · obtain ⟨v, rfl, rfl, q⟩ := q; exact kk v M' q
set_option maxRecDepth 100000 in
set_option maxHeartbeats 4000000 in
theorem wk_X4_get {X : Nat × (Nat → Int32)} {d : Nat} {M : zh_M} {a1 : Int32} {a2 : Int32} {a3 : Int32} {a4 : Int32} {P : Int32 → zh_M → Prop} (h : wp_X4_get M a1 a2 a3 a4 P) : zh_W X (d + 2) yX4_get cX4_get 7 (some .boolean) 0 (zh_en [.ref 1, .int a1, .int a2, .int a3, .int a4] 7) [] zh_LL M 0 0 (zh_pi P) := by
  unfold wp_X4_get at h
  show zh_W X (d + 2) yX4_get cX4_get 7 (some .boolean) 0 [some (.ref 1), some (.int a1), some (.int a2), some (.int a3), some (.int a4), none, none] [] zh_LL M 0 0 (zh_pi P)
  refine zh_aload_n (pn := 1) rfl dX4_get_0 (i := 0) (v := .ref 1) rfl rfl (Or.inr ⟨_, rfl⟩) ?_
  refine zh_iload_n (pn := 2) rfl dX4_get_1 (i := 1) (x := a1) rfl rfl ?_
  refine ca_X4_readyFiber (pn := 5) rfl dX4_get_2 mc_X4_48 (fun _ _ => Nat.le_of_ble_eq_true rfl) h (fun r2 M1 h => ?_)
  refine zh_astore (pn := 7) rfl dX4_get_5 (i := 5) (lo' := [some (.ref 1), some (.int a1), some (.int a2), some (.int a3), some (.int a4), some (va_rf r2), none]) (by decide) (zh_rfor r2) rfl ?_
  refine zh_aload (pn := 9) rfl dX4_get_7 (i := 5) (v := va_rf r2) rfl (zh_rfor r2) ?_
  refine zh_ifnull (pn := 12) rfl dX4_get_9 (tgt := 30) rfl (fun cc1 => ?_) (fun o3 cc1 => ?_)
  · subst cc1
    replace h := h.1 rfl
    refine zh_iconst (pn := 31) rfl dX4_get_30 (v := (zI 0)) rfl ?_
    exact zh_iret dX4_get_31 rfl rfl ⟨_, rfl, rfl, h⟩
  · subst cc1
    obtain ⟨zo3, h⟩ := h.2 o3 rfl
    refine zh_aload (pn := 14) rfl dX4_get_12 (i := 5) (v := .ref o3) rfl (Or.inr ⟨_, rfl⟩) ?_
    refine zh_iload_n (pn := 15) rfl dX4_get_14 (i := 2) (x := a2) rfl rfl ?_
    refine ca_X2_isCell (pn := 18) rfl dX4_get_15 mc_X4_89 zo3 (fun _ _ => Nat.le_of_ble_eq_true rfl) h (fun r5 M4 h => ?_)
    refine zh_if_eq (pn := 21) rfl dX4_get_18 (tgt := 30) rfl (fun cc1 => ?_) (fun cc1 => ?_)
    · replace h := h.1 cc1
      refine zh_iconst (pn := 31) rfl dX4_get_30 (v := (zI 0)) rfl ?_
      exact zh_iret dX4_get_31 rfl rfl ⟨_, rfl, rfl, h⟩
    · replace h := h.2 cc1
      refine zh_aload (pn := 23) rfl dX4_get_21 (i := 5) (v := .ref o3) rfl (Or.inr ⟨_, rfl⟩) ?_
      refine zh_iload_n (pn := 24) rfl dX4_get_23 (i := 3) (x := a3) rfl rfl ?_
      refine ca_X2_isCell (pn := 27) rfl dX4_get_24 mc_X4_89 zo3 (fun _ _ => Nat.le_of_ble_eq_true rfl) h (fun r7 M6 h => ?_)
      refine zh_if_ne (pn := 30) rfl dX4_get_27 (tgt := 32) rfl (fun cc1 => ?_) (fun cc1 => ?_)
      · replace h := h.1 cc1
        refine zh_aload (pn := 34) rfl dX4_get_32 (i := 5) (v := .ref o3) rfl (Or.inr ⟨_, rfl⟩) ?_
        refine zh_iload_n (pn := 35) rfl dX4_get_34 (i := 3) (x := a3) rfl rfl ?_
        refine ca_X2_pointerFrom (pn := 38) rfl dX4_get_35 mc_X4_60 zo3 (fun _ _ => Nat.le_of_ble_eq_true rfl) h (fun r9 M8 h => ?_)
        refine zh_istore (pn := 40) rfl dX4_get_38 (i := 6) (lo' := [some (.ref 1), some (.int a1), some (.int a2), some (.int a3), some (.int a4), some (.ref o3), some (.int r9)]) (by decide) rfl ?_
        refine zh_aload_n (pn := 41) rfl dX4_get_40 (i := 0) (v := .ref 1) rfl rfl (Or.inr ⟨_, rfl⟩) ?_
        refine zh_get (pn := 44) rfl dX4_get_41 (v := .ref 2) (k := 0) rfl rfl (by decide) (by decide) in_X4 mf_X4_12 rfl ?_
        refine zh_iload (pn := 46) rfl dX4_get_44 (i := 6) (x := r9) rfl ?_
        refine zh_iload (pn := 48) rfl dX4_get_46 (i := 4) (x := a4) rfl ?_
        refine ca_X3_isPointerWord (pn := 51) rfl dX4_get_48 mc_X4_109 (fun _ _ => Nat.le_of_ble_eq_true rfl) h (fun r11 M10 h => ?_)
        refine zh_if_ne (pn := 54) rfl dX4_get_51 (tgt := 56) rfl (fun cc1 => ?_) (fun cc1 => ?_)
        · replace h := h.1 cc1
          refine zh_aload (pn := 58) rfl dX4_get_56 (i := 5) (v := .ref o3) rfl (Or.inr ⟨_, rfl⟩) ?_
          refine zh_iload_n (pn := 59) rfl dX4_get_58 (i := 2) (x := a2) rfl rfl ?_
          refine zh_aload_n (pn := 60) rfl dX4_get_59 (i := 0) (v := .ref 1) rfl rfl (Or.inr ⟨_, rfl⟩) ?_
          refine zh_get (pn := 63) rfl dX4_get_60 (v := .ref 2) (k := 0) rfl rfl (by decide) (by decide) in_X4 mf_X4_12 rfl ?_
          refine zh_get (pn := 66) rfl dX4_get_63 (v := .ref 3) (k := 0) rfl rfl (by decide) (by decide) in_X3 mf_X4_113 rfl ?_
          refine zh_iload (pn := 68) rfl dX4_get_66 (i := 6) (x := r9) rfl ?_
          refine zh_iload (pn := 70) rfl dX4_get_68 (i := 4) (x := a4) rfl ?_
          refine zh_iadd (pn := 71) rfl dX4_get_70 ?_
          refine zh_iald (pn := 72) rfl dX4_get_71 rfl h.1 ?_
          replace h := h.2
          refine ca_X2_fillCell (pn := 75) rfl dX4_get_72 mc_X4_92 zo3 (fun _ _ => Nat.le_of_ble_eq_true rfl) h (fun M12 h => ?_)
          refine zh_iconst (pn := 76) rfl dX4_get_75 (v := (zI 1)) rfl ?_
          exact zh_iret dX4_get_76 rfl rfl ⟨_, rfl, rfl, h⟩
        · replace h := h.2 cc1
          refine zh_iconst (pn := 55) rfl dX4_get_54 (v := (zI 0)) rfl ?_
          exact zh_iret dX4_get_55 rfl rfl ⟨_, rfl, rfl, h⟩
      · replace h := h.2 cc1
        refine zh_iconst (pn := 31) rfl dX4_get_30 (v := (zI 0)) rfl ?_
        exact zh_iret dX4_get_31 rfl rfl ⟨_, rfl, rfl, h⟩
set_option maxRecDepth 100000 in
theorem ca_X4_get {X : Nat × (Nat → Int32)} {d : Nat} {y : MethodName} {cc : ByteArray} {nL : Nat} {rt : Option FieldType} {pc pn idx : Nat} {lo : List (Option Value)} {st : List Value} {M : zh_M} {P : Option Value → List zh_LC → zh_M → Prop} {a1 : Int32} {a2 : Int32} {a3 : Int32} {a4 : Int32} {K : Int32 → zh_M → Prop} (hp : pc + 3 = pn) (hd : decode cc pc = .ok (.invokevirtual idx, 3)) (m1 : Cond.methodLink y.cls idx yX4_get ∈ zh_WS) (hsc : ∀ base b, ((st.map (zh_tr base b)).map fun v => v.category).sum ≤ 8) (h : wp_X4_get M a1 a2 a3 a4 K) (kk : ∀ r M1, K r M1 → zh_W X (d + 3) y cc nL rt pn lo (.int r :: st) zh_LL M1 0 0 P) : zh_W X (d + 3) y cc nL rt pc lo (.int a4 :: .int a3 :: .int a2 :: .int a1 :: .ref 1 :: st) zh_LL M 0 0 P := by
  refine zh_callV (bc := 0) (bs := 0) (bc' := 0) (bs' := 0) (as := [.int a1, .int a2, .int a3, .int a4]) (st := st) hp hd rfl (by decide) rfl rfl m1 me_X4_get.1 me_X4_get.2.1 me_X4_get.2.2.1 me_X4_get.2.2.2 ⟨by decide, by decide, by decide⟩ (by show _ = some 4; decide +kernel) (by intro v hv; simp only [List.mem_cons, List.not_mem_nil, or_false] at hv; rcases hv with rfl | rfl | rfl | rfl <;> (intro _ _; rfl)) hsc (Nat.le_of_ble_eq_true rfl) (by decide) (wk_X4_get  h) (fun r L' M' q => ?_) (fun r L' M' q => ?_)
  · obtain ⟨v, -, rfl, q⟩ := q; rfl
  · obtain ⟨v, rfl, rfl, q⟩ := q; exact kk v M' q
