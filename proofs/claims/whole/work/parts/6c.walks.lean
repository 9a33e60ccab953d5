set_option maxRecDepth 100000 in
set_option maxHeartbeats 4000000 in
theorem wk_X1_workIsLeft {X : Nat × (Nat → Int32)} {d : Nat} {M : zh_M} {P : Int32 → zh_M → Prop} (h : wp_X1_workIsLeft M P) : zh_W X (d + 1) yX1_workIsLeft cX1_workIsLeft 1 (some .boolean) 0 (zh_en [.ref 37] 1) [] zh_LL M 0 0 (zh_pi P) := by
  unfold wp_X1_workIsLeft at h
  show zh_W X (d + 1) yX1_workIsLeft cX1_workIsLeft 1 (some .boolean) 0 [some (.ref 37)] [] zh_LL M 0 0 (zh_pi P)
  refine zh_aload_n (pn := 1) rfl dX1_workIsLeft_0 (i := 0) (v := .ref 37) rfl rfl (Or.inr ⟨_, rfl⟩) ?_
  refine zh_get (pn := 4) rfl dX1_workIsLeft_1 (v := .int (M 37 4)) (k := 4) rfl rfl (by decide) (by decide) in_X1 mf_X1_27 rfl ?_
  refine zh_if_gt (pn := 7) rfl dX1_workIsLeft_4 (tgt := 14) rfl (fun cc1 => ?_) (fun cc1 => ?_)
  · replace h := h.1 cc1
    refine zh_iconst (pn := 15) rfl dX1_workIsLeft_14 (v := (zI 1)) rfl ?_
    refine zh_goto dX1_workIsLeft_15 (tgt := 19) rfl ?_
    exact zh_iret dX1_workIsLeft_19 rfl rfl ⟨_, rfl, rfl, h⟩
  · replace h := h.2 cc1
    refine zh_aload_n (pn := 8) rfl dX1_workIsLeft_7 (i := 0) (v := .ref 37) rfl rfl (Or.inr ⟨_, rfl⟩) ?_
    refine ca_X1_nextToScan (pn := 11) rfl dX1_workIsLeft_8 mc_X1_101 (fun _ _ => Nat.le_of_ble_eq_true rfl) h (fun r2 M1 h => ?_)
    refine zh_ifnull (pn := 14) rfl dX1_workIsLeft_11 (tgt := 18) rfl (fun cc1 => ?_) (fun o3 cc1 => ?_)
    · subst cc1
      replace h := h.1 rfl
      refine zh_iconst (pn := 19) rfl dX1_workIsLeft_18 (v := (zI 0)) rfl ?_
      exact zh_iret dX1_workIsLeft_19 rfl rfl ⟨_, rfl, rfl, h⟩
    · subst cc1
      obtain ⟨zo3, h⟩ := h.2 o3 rfl
      refine zh_iconst (pn := 15) rfl dX1_workIsLeft_14 (v := (zI 1)) rfl ?_
      refine zh_goto dX1_workIsLeft_15 (tgt := 19) rfl ?_
      exact zh_iret dX1_workIsLeft_19 rfl rfl ⟨_, rfl, rfl, h⟩
set_option maxRecDepth 100000 in
theorem ca_X1_workIsLeft {X : Nat × (Nat → Int32)} {d : Nat} {y : MethodName} {cc : ByteArray} {nL : Nat} {rt : Option FieldType} {pc pn idx : Nat} {lo : List (Option Value)} {st : List Value} {M : zh_M} {P : Option Value → List zh_LC → zh_M → Prop} {K : Int32 → zh_M → Prop} (hp : pc + 3 = pn) (hd : decode cc pc = .ok (.invokevirtual idx, 3)) (m1 : Cond.methodLink y.cls idx yX1_workIsLeft ∈ zh_WS) (hsc : ∀ base b, ((st.map (zh_tr base b)).map fun v => v.category).sum ≤ 8) (h : wp_X1_workIsLeft M K) (kk : ∀ r M1, K r M1 → zh_W X (d + 2) y cc nL rt pn lo (.int r :: st) zh_LL M1 0 0 P) : zh_W X (d + 2) y cc nL rt pc lo (.ref 37 :: st) zh_LL M 0 0 P := by
  refine zh_callV (bc := 0) (bs := 0) (bc' := 0) (bs' := 0) (as := []) (st := st) hp hd rfl (by decide) rfl rfl m1 me_X1_workIsLeft.1 me_X1_workIsLeft.2.1 me_X1_workIsLeft.2.2.1 me_X1_workIsLeft.2.2.2 ⟨by decide, by decide, by decide⟩ (by show _ = some 0; decide +kernel) (fun v hv => by cases hv) hsc (Nat.le_of_ble_eq_true rfl) (by decide) (wk_X1_workIsLeft  h) (fun r L' M' q => ?_) (fun r L' M' q => ?_)
  · obtain ⟨v, -, rfl, q⟩ := q; rfl
  · obtain ⟨v, rfl, rfl, q⟩ := q; exact kk v M' q
set_option maxRecDepth 100000 in
set_option maxHeartbeats 4000000 in
theorem wk_X2_shrinkRoom {X : Nat × (Nat → Int32)} {d : Nat} {M : zh_M} {o : Nat} {P : zh_M → Prop} (zo : zf_Fiber o) (h : wp_X2_shrinkRoom M o P) : zh_W X (d + 1) yX2_shrinkRoom cX2_shrinkRoom 1 none 0 (zh_en [.ref o] 1) [] zh_LL M 0 0 (zh_pv P) := by
  unfold wp_X2_shrinkRoom at h
  show zh_W X (d + 1) yX2_shrinkRoom cX2_shrinkRoom 1 none 0 [some (.ref o)] [] zh_LL M 0 0 (zh_pv P)
  refine zh_aload_n (pn := 1) rfl dX2_shrinkRoom_0 (i := 0) (v := .ref o) rfl rfl (Or.inr ⟨_, rfl⟩) ?_
  refine zh_get (pn := 4) rfl dX2_shrinkRoom_1 (v := .int (M o 4)) (k := 4) (at_Fiber zo) rfl (by decide) (by decide) in_X2 mf_X2_25 rfl ?_
  refine zh_iconst (pn := 5) rfl dX2_shrinkRoom_4 (v := (zI 2)) rfl ?_
  refine zh_icmp_le (pn := 8) rfl dX2_shrinkRoom_5 (tgt := 31) rfl (fun cc1 => ?_) (fun cc1 => ?_)
  · replace h := h.1 cc1
    exact zh_vret dX2_shrinkRoom_31 rfl ⟨rfl, rfl, h⟩
  · replace h := h.2 cc1
    refine zh_aload_n (pn := 9) rfl dX2_shrinkRoom_8 (i := 0) (v := .ref o) rfl rfl (Or.inr ⟨_, rfl⟩) ?_
    refine zh_get (pn := 12) rfl dX2_shrinkRoom_9 (v := .int (M o 3)) (k := 3) (at_Fiber zo) rfl (by decide) (by decide) in_X2 mf_X2_22 rfl ?_
    refine zh_iconst (pn := 13) rfl dX2_shrinkRoom_12 (v := (zI 4)) rfl ?_
    refine zh_imul (pn := 14) rfl dX2_shrinkRoom_13 ?_
    refine zh_aload_n (pn := 15) rfl dX2_shrinkRoom_14 (i := 0) (v := .ref o) rfl rfl (Or.inr ⟨_, rfl⟩) ?_
    refine zh_get (pn := 18) rfl dX2_shrinkRoom_15 (v := .int (M o 4)) (k := 4) (at_Fiber zo) rfl (by decide) (by decide) in_X2 mf_X2_25 rfl ?_
    refine zh_icmp_gt (pn := 21) rfl dX2_shrinkRoom_18 (tgt := 31) rfl (fun cc1 => ?_) (fun cc1 => ?_)
    · replace h := h.1 cc1
      exact zh_vret dX2_shrinkRoom_31 rfl ⟨rfl, rfl, h⟩
    · replace h := h.2 cc1
      refine zh_aload_n (pn := 22) rfl dX2_shrinkRoom_21 (i := 0) (v := .ref o) rfl rfl (Or.inr ⟨_, rfl⟩) ?_
      refine zh_aload_n (pn := 23) rfl dX2_shrinkRoom_22 (i := 0) (v := .ref o) rfl rfl (Or.inr ⟨_, rfl⟩) ?_
      refine zh_get (pn := 26) rfl dX2_shrinkRoom_23 (v := .int (M o 4)) (k := 4) (at_Fiber zo) rfl (by decide) (by decide) in_X2 mf_X2_25 rfl ?_
      refine zh_iconst (pn := 27) rfl dX2_shrinkRoom_26 (v := (zI 2)) rfl ?_
      refine zh_idiv (pn := 28) rfl dX2_shrinkRoom_27 (by decide) ?_
      refine ca_X2_moveTo (pn := 31) rfl dX2_shrinkRoom_28 mc_X2_43 zo (fun _ _ => Nat.le_of_ble_eq_true rfl) h (fun M1 h => ?_)
      exact zh_vret dX2_shrinkRoom_31 rfl ⟨rfl, rfl, h⟩
set_option maxRecDepth 100000 in
theorem ca_X2_shrinkRoom {X : Nat × (Nat → Int32)} {d : Nat} {y : MethodName} {cc : ByteArray} {nL : Nat} {rt : Option FieldType} {pc pn idx : Nat} {lo : List (Option Value)} {st : List Value} {M : zh_M} {P : Option Value → List zh_LC → zh_M → Prop} {o : Nat} {K : zh_M → Prop} (hp : pc + 3 = pn) (hd : decode cc pc = .ok (.invokevirtual idx, 3)) (m1 : Cond.methodLink y.cls idx yX2_shrinkRoom ∈ zh_WS) (zo : zf_Fiber o) (hsc : ∀ base b, ((st.map (zh_tr base b)).map fun v => v.category).sum ≤ 8) (h : wp_X2_shrinkRoom M o K) (kk : ∀ M1, K M1 → zh_W X (d + 2) y cc nL rt pn lo st zh_LL M1 0 0 P) : zh_W X (d + 2) y cc nL rt pc lo (.ref o :: st) zh_LL M 0 0 P := by
  refine zh_callV (bc := 0) (bs := 0) (bc' := 0) (bs' := 0) (as := []) (st := st) hp hd (at_Fiber zo) (by decide) rfl rfl m1 me_X2_shrinkRoom.1 me_X2_shrinkRoom.2.1 me_X2_shrinkRoom.2.2.1 me_X2_shrinkRoom.2.2.2 ⟨by decide, by decide, by decide⟩ (by show _ = some 0; decide +kernel) (fun v hv => by cases hv) hsc (Nat.le_of_ble_eq_true rfl) (by decide) (wk_X2_shrinkRoom zo h) (fun r L' M' q => ?_) (fun r L' M' q => ?_)
  · obtain ⟨-, rfl, q⟩ := q; rfl
  · obtain ⟨rfl, rfl, q⟩ := q; exact kk M' q
set_option maxRecDepth 100000 in
set_option maxHeartbeats 4000000 in
theorem wkl_X1_scan_2 {X : Nat × (Nat → Int32)} {d : Nat} {P : zh_M → Prop} {l1 : Nat} {K28 : zh_M → Prop} (z1 : zf_Fiber l1) (hK28 : ∀ (M : zh_M) (w0 : Option Value) (w2 : Option Value), K28 M → zh_W X (d + 2) yX1_scan cX1_scan 3 none 28 [w0, some (.ref l1), w2] [] zh_LL M 0 0 (zh_pv P)) : ∀ (n : Nat) (l2 : Int32) (M : zh_M) , wl_X1_scan_2 l1 K28 P n l2 M → zh_W X (d + 2) yX1_scan cX1_scan 3 none 2 [some (.ref 37), some (.ref l1), some (.int l2)] [] zh_LL M 0 0 (zh_pv P) := by
  intro n
  induction n with
  | zero => intro l2 M  h; exact h.elim
  | succ n ih =>
    intro l2 M  h
    unfold wl_X1_scan_2 at h
    refine zh_iload_n (pn := 3) rfl dX1_scan_2 (i := 2) (x := l2) rfl rfl ?_
    refine zh_aload_n (pn := 4) rfl dX1_scan_3 (i := 1) (v := .ref l1) rfl rfl (Or.inr ⟨_, rfl⟩) ?_
    refine zh_get (pn := 7) rfl dX1_scan_4 (v := .int (M l1 3)) (k := 3) (at_Fiber z1) rfl (by decide) (by decide) in_X2 mf_X1_115 rfl ?_
    refine zh_iconst (pn := 8) rfl dX1_scan_7 (v := (zI 4)) rfl ?_
    refine zh_imul (pn := 9) rfl dX1_scan_8 ?_
    refine zh_icmp_ge (pn := 12) rfl dX1_scan_9 (tgt := 28) rfl (fun cc1 => ?_) (fun cc1 => ?_)
    · replace h := h.1 cc1
      exact hK28 _ _ _ h
    · replace h := h.2 cc1
      refine zh_aload_n (pn := 13) rfl dX1_scan_12 (i := 0) (v := .ref 37) rfl rfl (Or.inr ⟨_, rfl⟩) ?_
      refine zh_aload_n (pn := 14) rfl dX1_scan_13 (i := 1) (v := .ref l1) rfl rfl (Or.inr ⟨_, rfl⟩) ?_
      refine zh_get (pn := 17) rfl dX1_scan_14 (v := .ref (l1 + 1)) (k := 0) (at_Fiber z1) rfl (by decide) (by decide) in_X2 mf_X1_118 rfl ?_
      refine zh_iload_n (pn := 18) rfl dX1_scan_17 (i := 2) (x := l2) rfl rfl ?_
      refine zh_iald (pn := 19) rfl dX1_scan_18 (at_Fiber_1 z1) h.1 ?_
      replace h := h.2
      refine ca_X1_note (pn := 22) rfl dX1_scan_19 mc_X1_75 (fun _ _ => Nat.le_of_ble_eq_true rfl) h (fun M1 h => ?_)
      refine zh_iinc (pn := 25) rfl dX1_scan_22 (i := 2) (x := l2) (v := l2 + (zI 1)) (lo' := [some (.ref 37), some (.ref l1), some (.int (l2 + (zI 1)))]) rfl rfl (by decide) rfl ?_
      refine zh_goto dX1_scan_25 (tgt := 2) rfl ?_
      exact ih _ _ h
set_option maxRecDepth 100000 in
set_option maxHeartbeats 4000000 in
theorem wk_X1_scan {X : Nat × (Nat → Int32)} {d : Nat} {M : zh_M} {a1 : Nat} {P : zh_M → Prop} (za1 : zf_Fiber a1) (h : wp_X1_scan M a1 P) : zh_W X (d + 2) yX1_scan cX1_scan 3 none 0 (zh_en [.ref 37, .ref a1] 3) [] zh_LL M 0 0 (zh_pv P) := by
  unfold wp_X1_scan at h
  show zh_W X (d + 2) yX1_scan cX1_scan 3 none 0 [some (.ref 37), some (.ref a1), none] [] zh_LL M 0 0 (zh_pv P)
  refine zh_iconst (pn := 1) rfl dX1_scan_0 (v := (zI 0)) rfl ?_
  refine zh_istore_n (pn := 2) rfl dX1_scan_1 (i := 2) (lo' := [some (.ref 37), some (.ref a1), some (.int (zI 0))]) rfl (by decide) rfl ?_
  obtain ⟨n7, h⟩ := h
  refine wkl_X1_scan_2 za1 (fun M2 w0_3 w2_4 h => ?_) n7 _ _ h
  refine zh_aload_n (pn := 29) rfl dX1_scan_28 (i := 1) (v := .ref a1) rfl rfl (Or.inr ⟨_, rfl⟩) ?_
  refine zh_iconst (pn := 30) rfl dX1_scan_29 (v := (zI 1)) rfl ?_
  refine zh_put (pn := 33) rfl dX1_scan_30 (k := 6) (at_Fiber za1) rfl (by decide) (by decide) in_X2 tyX2_ok nmX2 mf_X1_62 rfl rfl rfl rfl ?_
  obtain ⟨M5, eM5⟩ : ∃ q : zh_M, q = zh_set M2 a1 6 (zI 1) := ⟨_, rfl⟩
  replace h := h M5 eM5
  rw [← eM5]
  refine zh_aload_n (pn := 34) rfl dX1_scan_33 (i := 1) (v := .ref a1) rfl rfl (Or.inr ⟨_, rfl⟩) ?_
  refine ca_X2_shrinkRoom (pn := 37) rfl dX1_scan_34 mc_X1_121 za1 (fun _ _ => Nat.le_of_ble_eq_true rfl) h (fun M6 h => ?_)
  exact zh_vret dX1_scan_37 rfl ⟨rfl, rfl, h⟩
set_option maxRecDepth 100000 in
theorem ca_X1_scan {X : Nat × (Nat → Int32)} {d : Nat} {y : MethodName} {cc : ByteArray} {nL : Nat} {rt : Option FieldType} {pc pn idx : Nat} {lo : List (Option Value)} {st : List Value} {M : zh_M} {P : Option Value → List zh_LC → zh_M → Prop} {a1 : Nat} {K : zh_M → Prop} (hp : pc + 3 = pn) (hd : decode cc pc = .ok (.invokevirtual idx, 3)) (m1 : Cond.methodLink y.cls idx yX1_scan ∈ zh_WS) (za1 : zf_Fiber a1) (hsc : ∀ base b, ((st.map (zh_tr base b)).map fun v => v.category).sum ≤ 8) (h : wp_X1_scan M a1 K) (kk : ∀ M1, K M1 → zh_W X (d + 3) y cc nL rt pn lo st zh_LL M1 0 0 P) : zh_W X (d + 3) y cc nL rt pc lo (.ref a1 :: .ref 37 :: st) zh_LL M 0 0 P := by
  refine zh_callV (bc := 0) (bs := 0) (bc' := 0) (bs' := 0) (as := [.ref a1]) (st := st) hp hd rfl (by decide) rfl rfl m1 me_X1_scan.1 me_X1_scan.2.1 me_X1_scan.2.2.1 me_X1_scan.2.2.2 ⟨by decide, by decide, by decide⟩ (by show _ = some 1; decide +kernel) (by intro v hv; simp only [List.mem_cons, List.not_mem_nil, or_false] at hv; rcases hv with rfl <;> (intro _ _; rfl)) hsc (Nat.le_of_ble_eq_true rfl) (by decide) (wk_X1_scan za1 h) (fun r L' M' q => ?_) (fun r L' M' q => ?_)
  · obtain ⟨-, rfl, q⟩ := q; rfl
  · obtain ⟨rfl, rfl, q⟩ := q; exact kk M' q
set_option maxRecDepth 100000 in
set_option maxHeartbeats 4000000 in
theorem wkl_X1_lookAt_14 {X : Nat × (Nat → Int32)} {d : Nat} {P : zh_M → Prop} {l1 : Int32} {l2 : Int32} : ∀ (n : Nat) (l3 : Int32) (M : zh_M) , wl_X1_lookAt_14 l1 l2 P n l3 M → zh_W X (d + 1) yX1_lookAt cX1_lookAt 4 none 14 [some (.ref 37), some (.int l1), some (.int l2), some (.int l3)] [] zh_LL M 0 0 (zh_pv P) := by
  intro n
  induction n with
  | zero => intro l3 M  h; exact h.elim
  | succ n ih =>
    intro l3 M  h
    unfold wl_X1_lookAt_14 at h
    refine zh_iload_n (pn := 15) rfl dX1_lookAt_14 (i := 3) (x := l3) rfl rfl ?_
    refine zh_iload_n (pn := 16) rfl dX1_lookAt_15 (i := 2) (x := l2) rfl rfl ?_
    refine zh_icmp_ge (pn := 19) rfl dX1_lookAt_16 (tgt := 40) rfl (fun cc1 => ?_) (fun cc1 => ?_)
    · replace h := h.1 cc1
      exact zh_vret dX1_lookAt_40 rfl ⟨rfl, rfl, h⟩
    · replace h := h.2 cc1
      refine zh_aload_n (pn := 20) rfl dX1_lookAt_19 (i := 0) (v := .ref 37) rfl rfl (Or.inr ⟨_, rfl⟩) ?_
      refine zh_aload_n (pn := 21) rfl dX1_lookAt_20 (i := 0) (v := .ref 37) rfl rfl (Or.inr ⟨_, rfl⟩) ?_
      refine zh_get (pn := 24) rfl dX1_lookAt_21 (v := .ref 2) (k := 0) rfl rfl (by decide) (by decide) in_X1 mf_X1_9 rfl ?_
      refine zh_get (pn := 27) rfl dX1_lookAt_24 (v := .ref 3) (k := 0) rfl rfl (by decide) (by decide) in_X3 mf_X1_127 rfl ?_
      refine zh_iload_n (pn := 28) rfl dX1_lookAt_27 (i := 1) (x := l1) rfl rfl ?_
      refine zh_iload_n (pn := 29) rfl dX1_lookAt_28 (i := 3) (x := l3) rfl rfl ?_
      refine zh_iadd (pn := 30) rfl dX1_lookAt_29 ?_
      refine zh_iald (pn := 31) rfl dX1_lookAt_30 rfl h.1 ?_
      replace h := h.2
      refine ca_X1_note (pn := 34) rfl dX1_lookAt_31 mc_X1_75 (fun _ _ => Nat.le_of_ble_eq_true rfl) h (fun M1 h => ?_)
      refine zh_iinc (pn := 37) rfl dX1_lookAt_34 (i := 3) (x := l3) (v := l3 + (zI 1)) (lo' := [some (.ref 37), some (.int l1), some (.int l2), some (.int (l3 + (zI 1)))]) rfl rfl (by decide) rfl ?_
      refine zh_goto dX1_lookAt_37 (tgt := 14) rfl ?_
      exact ih _ _ h
set_option maxRecDepth 100000 in
set_option maxHeartbeats 4000000 in
theorem wk_X1_lookAt {X : Nat × (Nat → Int32)} {d : Nat} {M : zh_M} {a1 : Int32} {P : zh_M → Prop} (h : wp_X1_lookAt M a1 P) : zh_W X (d + 1) yX1_lookAt cX1_lookAt 4 none 0 (zh_en [.ref 37, .int a1] 4) [] zh_LL M 0 0 (zh_pv P) := by
  unfold wp_X1_lookAt at h
  show zh_W X (d + 1) yX1_lookAt cX1_lookAt 4 none 0 [some (.ref 37), some (.int a1), none, none] [] zh_LL M 0 0 (zh_pv P)
  refine zh_aload_n (pn := 1) rfl dX1_lookAt_0 (i := 0) (v := .ref 37) rfl rfl (Or.inr ⟨_, rfl⟩) ?_
  refine zh_get (pn := 4) rfl dX1_lookAt_1 (v := .ref 2) (k := 0) rfl rfl (by decide) (by decide) in_X1 mf_X1_9 rfl ?_
  refine zh_get (pn := 7) rfl dX1_lookAt_4 (v := .ref 7) (k := 4) rfl rfl (by decide) (by decide) in_X3 mf_X1_124 rfl ?_
  refine zh_iload_n (pn := 8) rfl dX1_lookAt_7 (i := 1) (x := a1) rfl rfl ?_
  refine zh_iconst (pn := 9) rfl dX1_lookAt_8 (v := (zI 2)) rfl ?_
  refine zh_idiv (pn := 10) rfl dX1_lookAt_9 (by decide) ?_
  refine zh_iald (pn := 11) rfl dX1_lookAt_10 rfl h.1 ?_
  replace h := h.2
  refine zh_istore_n (pn := 12) rfl dX1_lookAt_11 (i := 2) (lo' := [some (.ref 37), some (.int a1), some (.int (M 7 (a1 / (zI 2)).toNatClampNeg)), none]) rfl (by decide) rfl ?_
  refine zh_iconst (pn := 13) rfl dX1_lookAt_12 (v := (zI 0)) rfl ?_
  refine zh_istore_n (pn := 14) rfl dX1_lookAt_13 (i := 3) (lo' := [some (.ref 37), some (.int a1), some (.int (M 7 (a1 / (zI 2)).toNatClampNeg)), some (.int (zI 0))]) rfl (by decide) rfl ?_
  obtain ⟨n2, h⟩ := h
  refine wkl_X1_lookAt_14 n2 _ _ h
set_option maxRecDepth 100000 in
theorem ca_X1_lookAt {X : Nat × (Nat → Int32)} {d : Nat} {y : MethodName} {cc : ByteArray} {nL : Nat} {rt : Option FieldType} {pc pn idx : Nat} {lo : List (Option Value)} {st : List Value} {M : zh_M} {P : Option Value → List zh_LC → zh_M → Prop} {a1 : Int32} {K : zh_M → Prop} (hp : pc + 3 = pn) (hd : decode cc pc = .ok (.invokevirtual idx, 3)) (m1 : Cond.methodLink y.cls idx yX1_lookAt ∈ zh_WS) (hsc : ∀ base b, ((st.map (zh_tr base b)).map fun v => v.category).sum ≤ 8) (h : wp_X1_lookAt M a1 K) (kk : ∀ M1, K M1 → zh_W X (d + 2) y cc nL rt pn lo st zh_LL M1 0 0 P) : zh_W X (d + 2) y cc nL rt pc lo (.int a1 :: .ref 37 :: st) zh_LL M 0 0 P := by
  refine zh_callV (bc := 0) (bs := 0) (bc' := 0) (bs' := 0) (as := [.int a1]) (st := st) hp hd rfl (by decide) rfl rfl m1 me_X1_lookAt.1 me_X1_lookAt.2.1 me_X1_lookAt.2.2.1 me_X1_lookAt.2.2.2 ⟨by decide, by decide, by decide⟩ (by show _ = some 1; decide +kernel) (by intro v hv; simp only [List.mem_cons, List.not_mem_nil, or_false] at hv; rcases hv with rfl <;> (intro _ _; rfl)) hsc (Nat.le_of_ble_eq_true rfl) (by decide) (wk_X1_lookAt  h) (fun r L' M' q => ?_) (fun r L' M' q => ?_)
  · obtain ⟨-, rfl, q⟩ := q; rfl
  · obtain ⟨rfl, rfl, q⟩ := q; exact kk M' q
set_option maxRecDepth 100000 in
set_option maxHeartbeats 4000000 in
theorem wk_X1_doPiece {X : Nat × (Nat → Int32)} {d : Nat} {M : zh_M} {P : zh_M → Prop} (h : wp_X1_doPiece M P) : zh_W X (d + 3) yX1_doPiece cX1_doPiece 2 none 0 (zh_en [.ref 37] 2) [] zh_LL M 0 0 (zh_pv P) := by
  unfold wp_X1_doPiece at h
  show zh_W X (d + 3) yX1_doPiece cX1_doPiece 2 none 0 [some (.ref 37), none] [] zh_LL M 0 0 (zh_pv P)
  refine zh_aload_n (pn := 1) rfl dX1_doPiece_0 (i := 0) (v := .ref 37) rfl rfl (Or.inr ⟨_, rfl⟩) ?_
  refine ca_X1_nextToScan (pn := 4) rfl dX1_doPiece_1 mc_X1_101 (fun _ _ => Nat.le_of_ble_eq_true rfl) h (fun r2 M1 h => ?_)
  refine zh_astore_n (pn := 5) rfl dX1_doPiece_4 (i := 1) (lo' := [some (.ref 37), some (va_rf r2)]) rfl (by decide) (zh_rfor r2) rfl ?_
  refine zh_aload_n (pn := 6) rfl dX1_doPiece_5 (i := 1) (v := va_rf r2) rfl rfl (zh_rfor r2) ?_
  refine zh_ifnull (pn := 9) rfl dX1_doPiece_6 (tgt := 17) rfl (fun cc1 => ?_) (fun o3 cc1 => ?_)
  · subst cc1
    replace h := h.1 rfl
    refine zh_aload_n (pn := 18) rfl dX1_doPiece_17 (i := 0) (v := .ref 37) rfl rfl (Or.inr ⟨_, rfl⟩) ?_
    refine zh_get (pn := 21) rfl dX1_doPiece_18 (v := .int (M1 37 4)) (k := 4) rfl rfl (by decide) (by decide) in_X1 mf_X1_27 rfl ?_
    refine zh_if_le (pn := 24) rfl dX1_doPiece_21 (tgt := 47) rfl (fun cc1 => ?_) (fun cc1 => ?_)
    · replace h := h.1 cc1
      exact zh_vret dX1_doPiece_47 rfl ⟨rfl, rfl, h⟩
    · replace h := h.2 cc1
      refine zh_aload_n (pn := 25) rfl dX1_doPiece_24 (i := 0) (v := .ref 37) rfl rfl (Or.inr ⟨_, rfl⟩) ?_
      refine zh_dup (pn := 26) rfl dX1_doPiece_25 (fun _ _ => rfl) ?_
      refine zh_get (pn := 29) rfl dX1_doPiece_26 (v := .int (M1 37 4)) (k := 4) rfl rfl (by decide) (by decide) in_X1 mf_X1_27 rfl ?_
      refine zh_iconst (pn := 30) rfl dX1_doPiece_29 (v := (zI 1)) rfl ?_
      refine zh_isub (pn := 31) rfl dX1_doPiece_30 ?_
      refine zh_put (pn := 34) rfl dX1_doPiece_31 (k := 4) rfl rfl (by decide) (by decide) in_X1 tyX1_ok nmX1 mf_X1_27 rfl rfl rfl rfl ?_
      obtain ⟨M4, eM4⟩ : ∃ q : zh_M, q = zh_set M1 37 4 ((M1 37 4) - (zI 1)) := ⟨_, rfl⟩
      replace h := h M4 eM4
      rw [← eM4]
      refine zh_aload_n (pn := 35) rfl dX1_doPiece_34 (i := 0) (v := .ref 37) rfl rfl (Or.inr ⟨_, rfl⟩) ?_
      refine zh_aload_n (pn := 36) rfl dX1_doPiece_35 (i := 0) (v := .ref 37) rfl rfl (Or.inr ⟨_, rfl⟩) ?_
      refine zh_get (pn := 39) rfl dX1_doPiece_36 (v := .ref 38) (k := 3) rfl rfl (by decide) (by decide) in_X1 mf_X1_23 rfl ?_
      refine zh_aload_n (pn := 40) rfl dX1_doPiece_39 (i := 0) (v := .ref 37) rfl rfl (Or.inr ⟨_, rfl⟩) ?_
      refine zh_get (pn := 43) rfl dX1_doPiece_40 (v := .int (M4 37 4)) (k := 4) rfl rfl (by decide) (by decide) in_X1 mf_X1_27 rfl ?_
      refine zh_iald (pn := 44) rfl dX1_doPiece_43 rfl h.1 ?_
      replace h := h.2
      refine ca_X1_lookAt (pn := 47) rfl dX1_doPiece_44 mc_X1_112 (fun _ _ => Nat.le_of_ble_eq_true rfl) h (fun M5 h => ?_)
      exact zh_vret dX1_doPiece_47 rfl ⟨rfl, rfl, h⟩
  · subst cc1
    obtain ⟨zo3, h⟩ := h.2 o3 rfl
    refine zh_aload_n (pn := 10) rfl dX1_doPiece_9 (i := 0) (v := .ref 37) rfl rfl (Or.inr ⟨_, rfl⟩) ?_
    refine zh_aload_n (pn := 11) rfl dX1_doPiece_10 (i := 1) (v := .ref o3) rfl rfl (Or.inr ⟨_, rfl⟩) ?_
    refine ca_X1_scan (pn := 14) rfl dX1_doPiece_11 mc_X1_108 zo3 (fun _ _ => Nat.le_of_ble_eq_true rfl) h (fun M6 h => ?_)
    refine zh_goto dX1_doPiece_14 (tgt := 47) rfl ?_
    exact zh_vret dX1_doPiece_47 rfl ⟨rfl, rfl, h⟩
set_option maxRecDepth 100000 in
theorem ca_X1_doPiece {X : Nat × (Nat → Int32)} {d : Nat} {y : MethodName} {cc : ByteArray} {nL : Nat} {rt : Option FieldType} {pc pn idx : Nat} {lo : List (Option Value)} {st : List Value} {M : zh_M} {P : Option Value → List zh_LC → zh_M → Prop} {K : zh_M → Prop} (hp : pc + 3 = pn) (hd : decode cc pc = .ok (.invokevirtual idx, 3)) (m1 : Cond.methodLink y.cls idx yX1_doPiece ∈ zh_WS) (hsc : ∀ base b, ((st.map (zh_tr base b)).map fun v => v.category).sum ≤ 8) (h : wp_X1_doPiece M K) (kk : ∀ M1, K M1 → zh_W X (d + 4) y cc nL rt pn lo st zh_LL M1 0 0 P) : zh_W X (d + 4) y cc nL rt pc lo (.ref 37 :: st) zh_LL M 0 0 P := by
  refine zh_callV (bc := 0) (bs := 0) (bc' := 0) (bs' := 0) (as := []) (st := st) hp hd rfl (by decide) rfl rfl m1 me_X1_doPiece.1 me_X1_doPiece.2.1 me_X1_doPiece.2.2.1 me_X1_doPiece.2.2.2 ⟨by decide, by decide, by decide⟩ (by show _ = some 0; decide +kernel) (fun v hv => by cases hv) hsc (Nat.le_of_ble_eq_true rfl) (by decide) (wk_X1_doPiece  h) (fun r L' M' q => ?_) (fun r L' M' q => ?_)
  · obtain ⟨-, rfl, q⟩ := q; rfl
  · obtain ⟨rfl, rfl, q⟩ := q; exact kk M' q
set_option maxRecDepth 100000 in
set_option maxHeartbeats 4000000 in
theorem wkl_X3_leaveAllUnswept_2 {X : Nat × (Nat → Int32)} {d : Nat} {P : zh_M → Prop} : ∀ (n : Nat) (l1 : Int32) (M : zh_M) , wl_X3_leaveAllUnswept_2 P n l1 M → zh_W X (d + 0) yX3_leaveAllUnswept cX3_leaveAllUnswept 2 none 2 [some (.ref 2), some (.int l1)] [] zh_LL M 0 0 (zh_pv P) := by
  intro n
  induction n with
  | zero => intro l1 M  h; exact h.elim
  | succ n ih =>
    intro l1 M  h
    unfold wl_X3_leaveAllUnswept_2 at h
    refine zh_iload_n (pn := 3) rfl dX3_leaveAllUnswept_2 (i := 1) (x := l1) rfl rfl ?_
    refine zh_bipush (pn := 5) rfl dX3_leaveAllUnswept_3 (v := (zI 16)) rfl ?_
    refine zh_icmp_ge (pn := 8) rfl dX3_leaveAllUnswept_5 (tgt := 35) rfl (fun cc1 => ?_) (fun cc1 => ?_)
    · replace h := h.1 cc1
      exact zh_vret dX3_leaveAllUnswept_35 rfl ⟨rfl, rfl, h⟩
    · replace h := h.2 cc1
      refine zh_aload_n (pn := 9) rfl dX3_leaveAllUnswept_8 (i := 0) (v := .ref 2) rfl rfl (Or.inr ⟨_, rfl⟩) ?_
      refine zh_get (pn := 12) rfl dX3_leaveAllUnswept_9 (v := .ref 5) (k := 2) rfl rfl (by decide) (by decide) in_X3 mf_X3_18 rfl ?_
      refine zh_iload_n (pn := 13) rfl dX3_leaveAllUnswept_12 (i := 1) (x := l1) rfl rfl ?_
      refine zh_aload_n (pn := 14) rfl dX3_leaveAllUnswept_13 (i := 0) (v := .ref 2) rfl rfl (Or.inr ⟨_, rfl⟩) ?_
      refine zh_get (pn := 17) rfl dX3_leaveAllUnswept_14 (v := .ref 4) (k := 1) rfl rfl (by decide) (by decide) in_X3 mf_X3_15 rfl ?_
      refine zh_iload_n (pn := 18) rfl dX3_leaveAllUnswept_17 (i := 1) (x := l1) rfl rfl ?_
      refine zh_iald (pn := 19) rfl dX3_leaveAllUnswept_18 rfl h.1 ?_
      replace h := h.2
      refine zh_iconst (pn := 20) rfl dX3_leaveAllUnswept_19 (v := (zI 2)) rfl ?_
      refine zh_icmp_lt (pn := 23) rfl dX3_leaveAllUnswept_20 (tgt := 27) rfl (fun cc1 => ?_) (fun cc1 => ?_)
      · replace h := h.1 cc1
        refine zh_iconst (pn := 28) rfl dX3_leaveAllUnswept_27 (v := (zI 0)) rfl ?_
        refine zh_zast (pn := 29) rfl dX3_leaveAllUnswept_28 (x' := (zI 0)) rfl h.1 rfl ?_
        obtain ⟨M1, eM1⟩ : ∃ q : zh_M, q = zh_set M 5 l1.toNatClampNeg (zI 0) := ⟨_, rfl⟩
        replace h := h.2 M1 eM1
        rw [← eM1]
        refine zh_iinc (pn := 32) rfl dX3_leaveAllUnswept_29 (i := 1) (x := l1) (v := l1 + (zI 1)) (lo' := [some (.ref 2), some (.int (l1 + (zI 1)))]) rfl rfl (by decide) rfl ?_
        refine zh_goto dX3_leaveAllUnswept_32 (tgt := 2) rfl ?_
        exact ih _ _ h
      · replace h := h.2 cc1
        refine zh_iconst (pn := 24) rfl dX3_leaveAllUnswept_23 (v := (zI 1)) rfl ?_
        refine zh_goto dX3_leaveAllUnswept_24 (tgt := 28) rfl ?_
        refine zh_zast (pn := 29) rfl dX3_leaveAllUnswept_28 (x' := (zI 1)) rfl h.1 rfl ?_
        obtain ⟨M2, eM2⟩ : ∃ q : zh_M, q = zh_set M 5 l1.toNatClampNeg (zI 1) := ⟨_, rfl⟩
        replace h := h.2 M2 eM2
        rw [← eM2]
        refine zh_iinc (pn := 32) rfl dX3_leaveAllUnswept_29 (i := 1) (x := l1) (v := l1 + (zI 1)) (lo' := [some (.ref 2), some (.int (l1 + (zI 1)))]) rfl rfl (by decide) rfl ?_
        refine zh_goto dX3_leaveAllUnswept_32 (tgt := 2) rfl ?_
        exact ih _ _ h
set_option maxRecDepth 100000 in
set_option maxHeartbeats 4000000 in
theorem wk_X3_leaveAllUnswept {X : Nat × (Nat → Int32)} {d : Nat} {M : zh_M} {P : zh_M → Prop} (h : wp_X3_leaveAllUnswept M P) : zh_W X (d + 0) yX3_leaveAllUnswept cX3_leaveAllUnswept 2 none 0 (zh_en [.ref 2] 2) [] zh_LL M 0 0 (zh_pv P) := by
  unfold wp_X3_leaveAllUnswept at h
  show zh_W X (d + 0) yX3_leaveAllUnswept cX3_leaveAllUnswept 2 none 0 [some (.ref 2), none] [] zh_LL M 0 0 (zh_pv P)
  refine zh_iconst (pn := 1) rfl dX3_leaveAllUnswept_0 (v := (zI 0)) rfl ?_
  refine zh_istore_n (pn := 2) rfl dX3_leaveAllUnswept_1 (i := 1) (lo' := [some (.ref 2), some (.int (zI 0))]) rfl (by decide) rfl ?_
  obtain ⟨n3, h⟩ := h
  refine wkl_X3_leaveAllUnswept_2 n3 _ _ h
set_option maxRecDepth 100000 in
theorem ca_X3_leaveAllUnswept {X : Nat × (Nat → Int32)} {d : Nat} {y : MethodName} {cc : ByteArray} {nL : Nat} {rt : Option FieldType} {pc pn idx : Nat} {lo : List (Option Value)} {st : List Value} {M : zh_M} {P : Option Value → List zh_LC → zh_M → Prop} {K : zh_M → Prop} (hp : pc + 3 = pn) (hd : decode cc pc = .ok (.invokevirtual idx, 3)) (m1 : Cond.methodLink y.cls idx yX3_leaveAllUnswept ∈ zh_WS) (hsc : ∀ base b, ((st.map (zh_tr base b)).map fun v => v.category).sum ≤ 8) (h : wp_X3_leaveAllUnswept M K) (kk : ∀ M1, K M1 → zh_W X (d + 1) y cc nL rt pn lo st zh_LL M1 0 0 P) : zh_W X (d + 1) y cc nL rt pc lo (.ref 2 :: st) zh_LL M 0 0 P := by
  refine zh_callV (bc := 0) (bs := 0) (bc' := 0) (bs' := 0) (as := []) (st := st) hp hd rfl (by decide) rfl rfl m1 me_X3_leaveAllUnswept.1 me_X3_leaveAllUnswept.2.1 me_X3_leaveAllUnswept.2.2.1 me_X3_leaveAllUnswept.2.2.2 ⟨by decide, by decide, by decide⟩ (by show _ = some 0; decide +kernel) (fun v hv => by cases hv) hsc (Nat.le_of_ble_eq_true rfl) (by decide) (wk_X3_leaveAllUnswept  h) (fun r L' M' q => ?_) (fun r L' M' q => ?_)
  · obtain ⟨-, rfl, q⟩ := q; rfl
  · obtain ⟨rfl, rfl, q⟩ := q; exact kk M' q
set_option maxRecDepth 100000 in
set_option maxHeartbeats 4000000 in
theorem wkl_X3_keptWords_4 {X : Nat × (Nat → Int32)} {d : Nat} {P : Int32 → zh_M → Prop} : ∀ (n : Nat) (l1 : Int32) (l2 : Int32) (M : zh_M) , wl_X3_keptWords_4 P n l1 l2 M → zh_W X (d + 1) yX3_keptWords cX3_keptWords 3 (some .int) 4 [some (.ref 2), some (.int l1), some (.int l2)] [] zh_LL M 0 0 (zh_pi P) := by
  intro n
  induction n with
  | zero => intro l1 l2 M  h; exact h.elim
  | succ n ih =>
    intro l1 l2 M  h
    unfold wl_X3_keptWords_4 at h
    refine zh_iload_n (pn := 5) rfl dX3_keptWords_4 (i := 2) (x := l2) rfl rfl ?_
    refine zh_sipush (pn := 8) rfl dX3_keptWords_5 (v := (zI 128)) rfl ?_
    refine zh_icmp_ge (pn := 11) rfl dX3_keptWords_8 (tgt := 47) rfl (fun cc1 => ?_) (fun cc1 => ?_)
    · replace h := h.1 cc1
      refine zh_iload_n (pn := 48) rfl dX3_keptWords_47 (i := 1) (x := l1) rfl rfl ?_
      exact zh_iret dX3_keptWords_48 rfl rfl ⟨_, rfl, rfl, h⟩
    · replace h := h.2 cc1
      refine zh_aload_n (pn := 12) rfl dX3_keptWords_11 (i := 0) (v := .ref 2) rfl rfl (Or.inr ⟨_, rfl⟩) ?_
      refine zh_get (pn := 15) rfl dX3_keptWords_12 (v := .ref 6) (k := 3) rfl rfl (by decide) (by decide) in_X3 mf_X3_22 rfl ?_
      refine zh_iload_n (pn := 16) rfl dX3_keptWords_15 (i := 2) (x := l2) rfl rfl ?_
      refine zh_iald (pn := 17) rfl dX3_keptWords_16 rfl h.1 ?_
      replace h := h.2
      refine zh_if_eq (pn := 20) rfl dX3_keptWords_17 (tgt := 41) rfl (fun cc1 => ?_) (fun cc1 => ?_)
      · replace h := h.1 cc1
        refine zh_iinc (pn := 44) rfl dX3_keptWords_41 (i := 2) (x := l2) (v := l2 + (zI 1)) (lo' := [some (.ref 2), some (.int l1), some (.int (l2 + (zI 1)))]) rfl rfl (by decide) rfl ?_
        refine zh_goto dX3_keptWords_44 (tgt := 4) rfl ?_
        exact ih _ _ _ h
      · replace h := h.2 cc1
        refine zh_aload_n (pn := 21) rfl dX3_keptWords_20 (i := 0) (v := .ref 2) rfl rfl (Or.inr ⟨_, rfl⟩) ?_
        refine zh_get (pn := 24) rfl dX3_keptWords_21 (v := .ref 8) (k := 5) rfl rfl (by decide) (by decide) in_X3 mf_X3_28 rfl ?_
        refine zh_iload_n (pn := 25) rfl dX3_keptWords_24 (i := 2) (x := l2) rfl rfl ?_
        refine zh_iald (pn := 26) rfl dX3_keptWords_25 rfl h.1 ?_
        replace h := h.2
        refine zh_if_eq (pn := 29) rfl dX3_keptWords_26 (tgt := 41) rfl (fun cc1 => ?_) (fun cc1 => ?_)
        · replace h := h.1 cc1
          refine zh_iinc (pn := 44) rfl dX3_keptWords_41 (i := 2) (x := l2) (v := l2 + (zI 1)) (lo' := [some (.ref 2), some (.int l1), some (.int (l2 + (zI 1)))]) rfl rfl (by decide) rfl ?_
          refine zh_goto dX3_keptWords_44 (tgt := 4) rfl ?_
          exact ih _ _ _ h
        · replace h := h.2 cc1
          refine zh_iload_n (pn := 30) rfl dX3_keptWords_29 (i := 1) (x := l1) rfl rfl ?_
          refine zh_aload_n (pn := 31) rfl dX3_keptWords_30 (i := 0) (v := .ref 2) rfl rfl (Or.inr ⟨_, rfl⟩) ?_
          refine zh_get (pn := 34) rfl dX3_keptWords_31 (v := .ref 6) (k := 3) rfl rfl (by decide) (by decide) in_X3 mf_X3_22 rfl ?_
          refine zh_iload_n (pn := 35) rfl dX3_keptWords_34 (i := 2) (x := l2) rfl rfl ?_
          refine zh_iald (pn := 36) rfl dX3_keptWords_35 rfl h.1 ?_
          replace h := h.2
          refine ca_X3_slotWordsFor (pn := 39) rfl dX3_keptWords_36 mc_X3_41 (fun _ _ => Nat.le_of_ble_eq_true rfl) h (fun r2 M1 h => ?_)
          refine zh_iadd (pn := 40) rfl dX3_keptWords_39 ?_
          refine zh_istore_n (pn := 41) rfl dX3_keptWords_40 (i := 1) (lo' := [some (.ref 2), some (.int (l1 + r2)), some (.int l2)]) rfl (by decide) rfl ?_
          refine zh_iinc (pn := 44) rfl dX3_keptWords_41 (i := 2) (x := l2) (v := l2 + (zI 1)) (lo' := [some (.ref 2), some (.int (l1 + r2)), some (.int (l2 + (zI 1)))]) rfl rfl (by decide) rfl ?_
          refine zh_goto dX3_keptWords_44 (tgt := 4) rfl ?_
          exact ih _ _ _ h
set_option maxRecDepth 100000 in
set_option maxHeartbeats 4000000 in
theorem wk_X3_keptWords {X : Nat × (Nat → Int32)} {d : Nat} {M : zh_M} {P : Int32 → zh_M → Prop} (h : wp_X3_keptWords M P) : zh_W X (d + 1) yX3_keptWords cX3_keptWords 3 (some .int) 0 (zh_en [.ref 2] 3) [] zh_LL M 0 0 (zh_pi P) := by
  unfold wp_X3_keptWords at h
  show zh_W X (d + 1) yX3_keptWords cX3_keptWords 3 (some .int) 0 [some (.ref 2), none, none] [] zh_LL M 0 0 (zh_pi P)
  refine zh_iconst (pn := 1) rfl dX3_keptWords_0 (v := (zI 0)) rfl ?_
  refine zh_istore_n (pn := 2) rfl dX3_keptWords_1 (i := 1) (lo' := [some (.ref 2), some (.int (zI 0)), none]) rfl (by decide) rfl ?_
  refine zh_iconst (pn := 3) rfl dX3_keptWords_2 (v := (zI 0)) rfl ?_
  refine zh_istore_n (pn := 4) rfl dX3_keptWords_3 (i := 2) (lo' := [some (.ref 2), some (.int (zI 0)), some (.int (zI 0))]) rfl (by decide) rfl ?_
  obtain ⟨n3, h⟩ := h
  refine wkl_X3_keptWords_4 n3 _ _ _ h
set_option maxRecDepth 100000 in
theorem ca_X3_keptWords {X : Nat × (Nat → Int32)} {d : Nat} {y : MethodName} {cc : ByteArray} {nL : Nat} {rt : Option FieldType} {pc pn idx : Nat} {lo : List (Option Value)} {st : List Value} {M : zh_M} {P : Option Value → List zh_LC → zh_M → Prop} {K : Int32 → zh_M → Prop} (hp : pc + 3 = pn) (hd : decode cc pc = .ok (.invokevirtual idx, 3)) (m1 : Cond.methodLink y.cls idx yX3_keptWords ∈ zh_WS) (hsc : ∀ base b, ((st.map (zh_tr base b)).map fun v => v.category).sum ≤ 8) (h : wp_X3_keptWords M K) (kk : ∀ r M1, K r M1 → zh_W X (d + 2) y cc nL rt pn lo (.int r :: st) zh_LL M1 0 0 P) : zh_W X (d + 2) y cc nL rt pc lo (.ref 2 :: st) zh_LL M 0 0 P := by
  refine zh_callV (bc := 0) (bs := 0) (bc' := 0) (bs' := 0) (as := []) (st := st) hp hd rfl (by decide) rfl rfl m1 me_X3_keptWords.1 me_X3_keptWords.2.1 me_X3_keptWords.2.2.1 me_X3_keptWords.2.2.2 ⟨by decide, by decide, by decide⟩ (by show _ = some 0; decide +kernel) (fun v hv => by cases hv) hsc (Nat.le_of_ble_eq_true rfl) (by decide) (wk_X3_keptWords  h) (fun r L' M' q => ?_) (fun r L' M' q => ?_)
  · obtain ⟨v, -, rfl, q⟩ := q; rfl
  · obtain ⟨v, rfl, rfl, q⟩ := q; exact kk v M' q
set_option maxRecDepth 100000 in
set_option maxHeartbeats 4000000 in
theorem wk_X1_endMarking {X : Nat × (Nat → Int32)} {d : Nat} {M : zh_M} {P : zh_M → Prop} (h : wp_X1_endMarking M P) : zh_W X (d + 2) yX1_endMarking cX1_endMarking 1 none 0 (zh_en [.ref 37] 1) [] zh_LL M 0 0 (zh_pv P) := by
  unfold wp_X1_endMarking at h
  show zh_W X (d + 2) yX1_endMarking cX1_endMarking 1 none 0 [some (.ref 37)] [] zh_LL M 0 0 (zh_pv P)
  refine zh_aload_n (pn := 1) rfl dX1_endMarking_0 (i := 0) (v := .ref 37) rfl rfl (Or.inr ⟨_, rfl⟩) ?_
  refine zh_iconst (pn := 2) rfl dX1_endMarking_1 (v := (zI 0)) rfl ?_
  refine zh_put (pn := 5) rfl dX1_endMarking_2 (k := 5) rfl rfl (by decide) (by decide) in_X1 tyX1_ok nmX1 mf_X1_31 rfl rfl rfl rfl ?_
  obtain ⟨M1, eM1⟩ : ∃ q : zh_M, q = zh_set M 37 5 (zI 0) := ⟨_, rfl⟩
  replace h := h M1 eM1
  rw [← eM1]
  refine zh_aload_n (pn := 6) rfl dX1_endMarking_5 (i := 0) (v := .ref 37) rfl rfl (Or.inr ⟨_, rfl⟩) ?_
  refine zh_get (pn := 9) rfl dX1_endMarking_6 (v := .ref 2) (k := 0) rfl rfl (by decide) (by decide) in_X1 mf_X1_9 rfl ?_
  refine ca_X3_leaveAllUnswept (pn := 12) rfl dX1_endMarking_9 mc_X1_130 (fun _ _ => Nat.le_of_ble_eq_true rfl) h (fun M2 h => ?_)
  refine zh_aload_n (pn := 13) rfl dX1_endMarking_12 (i := 0) (v := .ref 37) rfl rfl (Or.inr ⟨_, rfl⟩) ?_
  refine zh_iconst (pn := 14) rfl dX1_endMarking_13 (v := (zI 0)) rfl ?_
  refine zh_put (pn := 17) rfl dX1_endMarking_14 (k := 8) rfl rfl (by decide) (by decide) in_X1 tyX1_ok nmX1 mf_X1_41 rfl rfl rfl rfl ?_
  obtain ⟨M3, eM3⟩ : ∃ q : zh_M, q = zh_set M2 37 8 (zI 0) := ⟨_, rfl⟩
  replace h := h M3 eM3
  rw [← eM3]
  refine zh_aload_n (pn := 18) rfl dX1_endMarking_17 (i := 0) (v := .ref 37) rfl rfl (Or.inr ⟨_, rfl⟩) ?_
  refine zh_bipush (pn := 20) rfl dX1_endMarking_18 (v := (zI 64)) rfl ?_
  refine zh_aload_n (pn := 21) rfl dX1_endMarking_20 (i := 0) (v := .ref 37) rfl rfl (Or.inr ⟨_, rfl⟩) ?_
  refine zh_get (pn := 24) rfl dX1_endMarking_21 (v := .ref 2) (k := 0) rfl rfl (by decide) (by decide) in_X1 mf_X1_9 rfl ?_
  refine ca_X3_keptWords (pn := 27) rfl dX1_endMarking_24 mc_X1_133 (fun _ _ => Nat.le_of_ble_eq_true rfl) h (fun r5 M4 h => ?_)
  refine zh_iconst (pn := 28) rfl dX1_endMarking_27 (v := (zI 2)) rfl ?_
  refine zh_idiv (pn := 29) rfl dX1_endMarking_28 (by decide) ?_
  refine zh_max (pn := 32) rfl dX1_endMarking_29 mc_X1_137 me_max.1 me_max.2.1 me_max.2.2 (fun _ _ => Nat.le_of_ble_eq_true rfl) ?_
  refine zh_put (pn := 35) rfl dX1_endMarking_32 (k := 9) rfl rfl (by decide) (by decide) in_X1 tyX1_ok nmX1 mf_X1_44 rfl rfl rfl rfl ?_
  obtain ⟨M6, eM6⟩ : ∃ q : zh_M, q = zh_set M4 37 9 (if (zI 64) < (r5 / (zI 2)) then (r5 / (zI 2)) else (zI 64)) := ⟨_, rfl⟩
  replace h := h M6 eM6
  rw [← eM6]
  exact zh_vret dX1_endMarking_35 rfl ⟨rfl, rfl, h⟩
set_option maxRecDepth 100000 in
theorem ca_X1_endMarking {X : Nat × (Nat → Int32)} {d : Nat} {y : MethodName} {cc : ByteArray} {nL : Nat} {rt : Option FieldType} {pc pn idx : Nat} {lo : List (Option Value)} {st : List Value} {M : zh_M} {P : Option Value → List zh_LC → zh_M → Prop} {K : zh_M → Prop} (hp : pc + 3 = pn) (hd : decode cc pc = .ok (.invokevirtual idx, 3)) (m1 : Cond.methodLink y.cls idx yX1_endMarking ∈ zh_WS) (hsc : ∀ base b, ((st.map (zh_tr base b)).map fun v => v.category).sum ≤ 8) (h : wp_X1_endMarking M K) (kk : ∀ M1, K M1 → zh_W X (d + 3) y cc nL rt pn lo st zh_LL M1 0 0 P) : zh_W X (d + 3) y cc nL rt pc lo (.ref 37 :: st) zh_LL M 0 0 P := by
  refine zh_callV (bc := 0) (bs := 0) (bc' := 0) (bs' := 0) (as := []) (st := st) hp hd rfl (by decide) rfl rfl m1 me_X1_endMarking.1 me_X1_endMarking.2.1 me_X1_endMarking.2.2.1 me_X1_endMarking.2.2.2 ⟨by decide, by decide, by decide⟩ (by show _ = some 0; decide +kernel) (fun v hv => by cases hv) hsc (Nat.le_of_ble_eq_true rfl) (by decide) (wk_X1_endMarking  h) (fun r L' M' q => ?_) (fun r L' M' q => ?_)
  · obtain ⟨-, rfl, q⟩ := q; rfl
  · obtain ⟨rfl, rfl, q⟩ := q; exact kk M' q
set_option maxRecDepth 100000 in
set_option maxHeartbeats 4000000 in
theorem wkl_X1_work_10 {X : Nat × (Nat → Int32)} {d : Nat} {P : Int32 → zh_M → Prop} {l2 : Int32} {K32 : Int32 → zh_M → Prop} (hK32 : ∀ (l3 : Int32) (M : zh_M) (w1 : Option Value) (w2 : Option Value), K32 l3 M → zh_W X (d + 4) yX1_work cX1_work 4 (some .int) 32 [some (.ref 37), w1, w2, some (.int l3)] [] zh_LL M 0 0 (zh_pi P)) : ∀ (n : Nat) (l3 : Int32) (M : zh_M) (w1 : Option Value), wl_X1_work_10 l2 K32 P n l3 M → zh_W X (d + 4) yX1_work cX1_work 4 (some .int) 10 [some (.ref 37), w1, some (.int l2), some (.int l3)] [] zh_LL M 0 0 (zh_pi P) := by
  intro n
  induction n with
  | zero => intro l3 M w1 h; exact h.elim
  | succ n ih =>
    intro l3 M w1 h
    unfold wl_X1_work_10 at h
    refine zh_iload_n (pn := 11) rfl dX1_work_10 (i := 3) (x := l3) rfl rfl ?_
    refine zh_iload_n (pn := 12) rfl dX1_work_11 (i := 2) (x := l2) rfl rfl ?_
    refine zh_icmp_ge (pn := 15) rfl dX1_work_12 (tgt := 32) rfl (fun cc1 => ?_) (fun cc1 => ?_)
    · replace h := h.1 cc1
      exact hK32 _ _ _ _ h
    · replace h := h.2 cc1
      refine zh_aload_n (pn := 16) rfl dX1_work_15 (i := 0) (v := .ref 37) rfl rfl (Or.inr ⟨_, rfl⟩) ?_
      refine ca_X1_workIsLeft (pn := 19) rfl dX1_work_16 mc_X1_91 (fun _ _ => Nat.le_of_ble_eq_true rfl) h (fun r2 M1 h => ?_)
      refine zh_if_eq (pn := 22) rfl dX1_work_19 (tgt := 32) rfl (fun cc1 => ?_) (fun cc1 => ?_)
      · replace h := h.1 cc1
        exact hK32 _ _ _ _ h
      · replace h := h.2 cc1
        refine zh_aload_n (pn := 23) rfl dX1_work_22 (i := 0) (v := .ref 37) rfl rfl (Or.inr ⟨_, rfl⟩) ?_
        refine ca_X1_doPiece (pn := 26) rfl dX1_work_23 mc_X1_95 (fun _ _ => Nat.le_of_ble_eq_true rfl) h (fun M3 h => ?_)
        refine zh_iinc (pn := 29) rfl dX1_work_26 (i := 3) (x := l3) (v := l3 + (zI 1)) (lo' := [some (.ref 37), w1, some (.int l2), some (.int (l3 + (zI 1)))]) rfl rfl (by decide) rfl ?_
        refine zh_goto dX1_work_29 (tgt := 10) rfl ?_
        exact ih _ _ _ h
set_option maxRecDepth 100000 in
set_option maxHeartbeats 4000000 in
theorem wk_X1_work {X : Nat × (Nat → Int32)} {d : Nat} {M : zh_M} {a1 : Int32} {P : Int32 → zh_M → Prop} (h : wp_X1_work M a1 P) : zh_W X (d + 4) yX1_work cX1_work 4 (some .int) 0 (zh_en [.ref 37, .int a1] 4) [] zh_LL M 0 0 (zh_pi P) := by
  unfold wp_X1_work at h
  show zh_W X (d + 4) yX1_work cX1_work 4 (some .int) 0 [some (.ref 37), some (.int a1), none, none] [] zh_LL M 0 0 (zh_pi P)
  refine zh_iload_n (pn := 1) rfl dX1_work_0 (i := 1) (x := a1) rfl rfl ?_
  refine zh_sipush (pn := 4) rfl dX1_work_1 (v := (zI 134)) rfl ?_
  refine zh_min (pn := 7) rfl dX1_work_4 mc_X1_85 me_min.1 me_min.2.1 me_min.2.2 (fun _ _ => Nat.le_of_ble_eq_true rfl) ?_
  refine zh_istore_n (pn := 8) rfl dX1_work_7 (i := 2) (lo' := [some (.ref 37), some (.int a1), some (.int (if (zI 134) < a1 then (zI 134) else a1)), none]) rfl (by decide) rfl ?_
  refine zh_iconst (pn := 9) rfl dX1_work_8 (v := (zI 0)) rfl ?_
  refine zh_istore_n (pn := 10) rfl dX1_work_9 (i := 3) (lo' := [some (.ref 37), some (.int a1), some (.int (if (zI 134) < a1 then (zI 134) else a1)), some (.int (zI 0))]) rfl (by decide) rfl ?_
  obtain ⟨n12, h⟩ := h
  refine wkl_X1_work_10 (fun v3_4 M5 w1_6 w2_7 h => ?_) n12 _ _ _ h
  refine zh_aload_n (pn := 33) rfl dX1_work_32 (i := 0) (v := .ref 37) rfl rfl (Or.inr ⟨_, rfl⟩) ?_
  refine zh_dup (pn := 34) rfl dX1_work_33 (fun _ _ => rfl) ?_
  refine zh_get (pn := 37) rfl dX1_work_34 (v := .int (M5 37 7)) (k := 7) rfl rfl (by decide) (by decide) in_X1 mf_X1_38 rfl ?_
  refine zh_iload_n (pn := 38) rfl dX1_work_37 (i := 3) (x := v3_4) rfl rfl ?_
  refine zh_iadd (pn := 39) rfl dX1_work_38 ?_
  refine zh_put (pn := 42) rfl dX1_work_39 (k := 7) rfl rfl (by decide) (by decide) in_X1 tyX1_ok nmX1 mf_X1_38 rfl rfl rfl rfl ?_
  obtain ⟨M8, eM8⟩ : ∃ q : zh_M, q = zh_set M5 37 7 ((M5 37 7) + v3_4) := ⟨_, rfl⟩
  replace h := h M8 eM8
  rw [← eM8]
  refine zh_aload_n (pn := 43) rfl dX1_work_42 (i := 0) (v := .ref 37) rfl rfl (Or.inr ⟨_, rfl⟩) ?_
  refine ca_X1_workIsLeft (pn := 46) rfl dX1_work_43 mc_X1_91 (fun _ _ => Nat.le_of_ble_eq_true rfl) h (fun r10 M9 h => ?_)
  refine zh_if_ne (pn := 49) rfl dX1_work_46 (tgt := 53) rfl (fun cc1 => ?_) (fun cc1 => ?_)
  · replace h := h.1 cc1
    refine zh_iload_n (pn := 54) rfl dX1_work_53 (i := 3) (x := v3_4) rfl rfl ?_
    exact zh_iret dX1_work_54 rfl rfl ⟨_, rfl, rfl, h⟩
  · replace h := h.2 cc1
    refine zh_aload_n (pn := 50) rfl dX1_work_49 (i := 0) (v := .ref 37) rfl rfl (Or.inr ⟨_, rfl⟩) ?_
    refine ca_X1_endMarking (pn := 53) rfl dX1_work_50 mc_X1_98 (fun _ _ => Nat.le_of_ble_eq_true rfl) h (fun M11 h => ?_)
    refine zh_iload_n (pn := 54) rfl dX1_work_53 (i := 3) (x := v3_4) rfl rfl ?_
    exact zh_iret dX1_work_54 rfl rfl ⟨_, rfl, rfl, h⟩
set_option maxRecDepth 100000 in
theorem ca_X1_work {X : Nat × (Nat → Int32)} {d : Nat} {y : MethodName} {cc : ByteArray} {nL : Nat} {rt : Option FieldType} {pc pn idx : Nat} {lo : List (Option Value)} {st : List Value} {M : zh_M} {P : Option Value → List zh_LC → zh_M → Prop} {a1 : Int32} {K : Int32 → zh_M → Prop} (hp : pc + 3 = pn) (hd : decode cc pc = .ok (.invokevirtual idx, 3)) (m1 : Cond.methodLink y.cls idx yX1_work ∈ zh_WS) (hsc : ∀ base b, ((st.map (zh_tr base b)).map fun v => v.category).sum ≤ 8) (h : wp_X1_work M a1 K) (kk : ∀ r M1, K r M1 → zh_W X (d + 5) y cc nL rt pn lo (.int r :: st) zh_LL M1 0 0 P) : zh_W X (d + 5) y cc nL rt pc lo (.int a1 :: .ref 37 :: st) zh_LL M 0 0 P := by
  refine zh_callV (bc := 0) (bs := 0) (bc' := 0) (bs' := 0) (as := [.int a1]) (st := st) hp hd rfl (by decide) rfl rfl m1 me_X1_work.1 me_X1_work.2.1 me_X1_work.2.2.1 me_X1_work.2.2.2 ⟨by decide, by decide, by decide⟩ (by show _ = some 1; decide +kernel) (by intro v hv; simp only [List.mem_cons, List.not_mem_nil, or_false] at hv; rcases hv with rfl <;> (intro _ _; rfl)) hsc (Nat.le_of_ble_eq_true rfl) (by decide) (wk_X1_work  h) (fun r L' M' q => ?_) (fun r L' M' q => ?_)
  · obtain ⟨v, -, rfl, q⟩ := q; rfl
  · obtain ⟨v, rfl, rfl, q⟩ := q; exact kk v M' q
set_option maxRecDepth 100000 in
set_option maxHeartbeats 4000000 in
theorem wk_X1_workBeforePlacing {X : Nat × (Nat → Int32)} {d : Nat} {M : zh_M} {a1 : Int32} {P : zh_M → Prop} (h : wp_X1_workBeforePlacing M a1 P) : zh_W X (d + 5) yX1_workBeforePlacing cX1_workBeforePlacing 2 none 0 (zh_en [.ref 37, .int a1] 2) [] zh_LL M 0 0 (zh_pv P) := by
  unfold wp_X1_workBeforePlacing at h
  show zh_W X (d + 5) yX1_workBeforePlacing cX1_workBeforePlacing 2 none 0 [some (.ref 37), some (.int a1)] [] zh_LL M 0 0 (zh_pv P)
  refine zh_aload_n (pn := 1) rfl dX1_workBeforePlacing_0 (i := 0) (v := .ref 37) rfl rfl (Or.inr ⟨_, rfl⟩) ?_
  refine zh_get (pn := 4) rfl dX1_workBeforePlacing_1 (v := .int (M 37 5)) (k := 5) rfl rfl (by decide) (by decide) in_X1 mf_X1_31 rfl ?_
  refine zh_if_ne (pn := 7) rfl dX1_workBeforePlacing_4 (tgt := 22) rfl (fun cc1 => ?_) (fun cc1 => ?_)
  · replace h := h.1 cc1
    refine zh_aload_n (pn := 23) rfl dX1_workBeforePlacing_22 (i := 0) (v := .ref 37) rfl rfl (Or.inr ⟨_, rfl⟩) ?_
    refine zh_get (pn := 26) rfl dX1_workBeforePlacing_23 (v := .int (M 37 5)) (k := 5) rfl rfl (by decide) (by decide) in_X1 mf_X1_31 rfl ?_
    refine zh_if_eq (pn := 29) rfl dX1_workBeforePlacing_26 (tgt := 35) rfl (fun cc1 => ?_) (fun cc1 => ?_)
    · replace h := h.1 cc1
      exact zh_vret dX1_workBeforePlacing_35 rfl ⟨rfl, rfl, h⟩
    · replace h := h.2 cc1
      refine zh_aload_n (pn := 30) rfl dX1_workBeforePlacing_29 (i := 0) (v := .ref 37) rfl rfl (Or.inr ⟨_, rfl⟩) ?_
      refine zh_iload_n (pn := 31) rfl dX1_workBeforePlacing_30 (i := 1) (x := a1) rfl rfl ?_
      refine ca_X1_work (pn := 34) rfl dX1_workBeforePlacing_31 mc_X1_82 (fun _ _ => Nat.le_of_ble_eq_true rfl) h (fun r2 M1 h => ?_)
      refine zh_pop (pn := 35) rfl dX1_workBeforePlacing_34 (fun _ _ => rfl) ?_
      exact zh_vret dX1_workBeforePlacing_35 rfl ⟨rfl, rfl, h⟩
  · replace h := h.2 cc1
    refine zh_aload_n (pn := 8) rfl dX1_workBeforePlacing_7 (i := 0) (v := .ref 37) rfl rfl (Or.inr ⟨_, rfl⟩) ?_
    refine zh_get (pn := 11) rfl dX1_workBeforePlacing_8 (v := .int (M 37 8)) (k := 8) rfl rfl (by decide) (by decide) in_X1 mf_X1_41 rfl ?_
    refine zh_aload_n (pn := 12) rfl dX1_workBeforePlacing_11 (i := 0) (v := .ref 37) rfl rfl (Or.inr ⟨_, rfl⟩) ?_
    refine zh_get (pn := 15) rfl dX1_workBeforePlacing_12 (v := .int (M 37 9)) (k := 9) rfl rfl (by decide) (by decide) in_X1 mf_X1_44 rfl ?_
    refine zh_icmp_lt (pn := 18) rfl dX1_workBeforePlacing_15 (tgt := 22) rfl (fun cc1 => ?_) (fun cc1 => ?_)
    · replace h := h.1 cc1
      refine zh_aload_n (pn := 23) rfl dX1_workBeforePlacing_22 (i := 0) (v := .ref 37) rfl rfl (Or.inr ⟨_, rfl⟩) ?_
      refine zh_get (pn := 26) rfl dX1_workBeforePlacing_23 (v := .int (M 37 5)) (k := 5) rfl rfl (by decide) (by decide) in_X1 mf_X1_31 rfl ?_
      refine zh_if_eq (pn := 29) rfl dX1_workBeforePlacing_26 (tgt := 35) rfl (fun cc1 => ?_) (fun cc1 => ?_)
      · replace h := h.1 cc1
        exact zh_vret dX1_workBeforePlacing_35 rfl ⟨rfl, rfl, h⟩
      · replace h := h.2 cc1
        refine zh_aload_n (pn := 30) rfl dX1_workBeforePlacing_29 (i := 0) (v := .ref 37) rfl rfl (Or.inr ⟨_, rfl⟩) ?_
        refine zh_iload_n (pn := 31) rfl dX1_workBeforePlacing_30 (i := 1) (x := a1) rfl rfl ?_
        refine ca_X1_work (pn := 34) rfl dX1_workBeforePlacing_31 mc_X1_82 (fun _ _ => Nat.le_of_ble_eq_true rfl) h (fun r4 M3 h => ?_)
        refine zh_pop (pn := 35) rfl dX1_workBeforePlacing_34 (fun _ _ => rfl) ?_
        exact zh_vret dX1_workBeforePlacing_35 rfl ⟨rfl, rfl, h⟩
    · replace h := h.2 cc1
      refine zh_aload_n (pn := 19) rfl dX1_workBeforePlacing_18 (i := 0) (v := .ref 37) rfl rfl (Or.inr ⟨_, rfl⟩) ?_
      refine ca_X1_beginCycle (pn := 22) rfl dX1_workBeforePlacing_19 mc_X1_79 (fun _ _ => Nat.le_of_ble_eq_true rfl) h (fun M5 h => ?_)
      refine zh_aload_n (pn := 23) rfl dX1_workBeforePlacing_22 (i := 0) (v := .ref 37) rfl rfl (Or.inr ⟨_, rfl⟩) ?_
      refine zh_get (pn := 26) rfl dX1_workBeforePlacing_23 (v := .int (M5 37 5)) (k := 5) rfl rfl (by decide) (by decide) in_X1 mf_X1_31 rfl ?_
      refine zh_if_eq (pn := 29) rfl dX1_workBeforePlacing_26 (tgt := 35) rfl (fun cc1 => ?_) (fun cc1 => ?_)
      · replace h := h.1 cc1
        exact zh_vret dX1_workBeforePlacing_35 rfl ⟨rfl, rfl, h⟩
      · replace h := h.2 cc1
        refine zh_aload_n (pn := 30) rfl dX1_workBeforePlacing_29 (i := 0) (v := .ref 37) rfl rfl (Or.inr ⟨_, rfl⟩) ?_
        refine zh_iload_n (pn := 31) rfl dX1_workBeforePlacing_30 (i := 1) (x := a1) rfl rfl ?_
        refine ca_X1_work (pn := 34) rfl dX1_workBeforePlacing_31 mc_X1_82 (fun _ _ => Nat.le_of_ble_eq_true rfl) h (fun r7 M6 h => ?_)
        refine zh_pop (pn := 35) rfl dX1_workBeforePlacing_34 (fun _ _ => rfl) ?_
        exact zh_vret dX1_workBeforePlacing_35 rfl ⟨rfl, rfl, h⟩
set_option maxRecDepth 100000 in
theorem ca_X1_workBeforePlacing {X : Nat × (Nat → Int32)} {d : Nat} {y : MethodName} {cc : ByteArray} {nL : Nat} {rt : Option FieldType} {pc pn idx : Nat} {lo : List (Option Value)} {st : List Value} {M : zh_M} {P : Option Value → List zh_LC → zh_M → Prop} {a1 : Int32} {K : zh_M → Prop} (hp : pc + 3 = pn) (hd : decode cc pc = .ok (.invokevirtual idx, 3)) (m1 : Cond.methodLink y.cls idx yX1_workBeforePlacing ∈ zh_WS) (hsc : ∀ base b, ((st.map (zh_tr base b)).map fun v => v.category).sum ≤ 8) (h : wp_X1_workBeforePlacing M a1 K) (kk : ∀ M1, K M1 → zh_W X (d + 6) y cc nL rt pn lo st zh_LL M1 0 0 P) : zh_W X (d + 6) y cc nL rt pc lo (.int a1 :: .ref 37 :: st) zh_LL M 0 0 P := by
  refine zh_callV (bc := 0) (bs := 0) (bc' := 0) (bs' := 0) (as := [.int a1]) (st := st) hp hd rfl (by decide) rfl rfl m1 me_X1_workBeforePlacing.1 me_X1_workBeforePlacing.2.1 me_X1_workBeforePlacing.2.2.1 me_X1_workBeforePlacing.2.2.2 ⟨by decide, by decide, by decide⟩ (by show _ = some 1; decide +kernel) (by intro v hv; simp only [List.mem_cons, List.not_mem_nil, or_false] at hv; rcases hv with rfl <;> (intro _ _; rfl)) hsc (Nat.le_of_ble_eq_true rfl) (by decide) (wk_X1_workBeforePlacing  h) (fun r L' M' q => ?_) (fun r L' M' q => ?_)
  · obtain ⟨-, rfl, q⟩ := q; rfl
  · obtain ⟨rfl, rfl, q⟩ := q; exact kk M' q
set_option maxRecDepth 100000 in
set_option maxHeartbeats 4000000 in
theorem wk_X1_markOfPlaced {X : Nat × (Nat → Int32)} {d : Nat} {M : zh_M} {P : Int32 → zh_M → Prop} (h : wp_X1_markOfPlaced M P) : zh_W X (d + 0) yX1_markOfPlaced cX1_markOfPlaced 1 (some .int) 0 (zh_en [.ref 37] 1) [] zh_LL M 0 0 (zh_pi P) := by
  unfold wp_X1_markOfPlaced at h
  show zh_W X (d + 0) yX1_markOfPlaced cX1_markOfPlaced 1 (some .int) 0 [some (.ref 37)] [] zh_LL M 0 0 (zh_pi P)
  refine zh_aload_n (pn := 1) rfl dX1_markOfPlaced_0 (i := 0) (v := .ref 37) rfl rfl (Or.inr ⟨_, rfl⟩) ?_
  refine zh_get (pn := 4) rfl dX1_markOfPlaced_1 (v := .int (M 37 5)) (k := 5) rfl rfl (by decide) (by decide) in_X1 mf_X1_31 rfl ?_
  refine zh_if_eq (pn := 7) rfl dX1_markOfPlaced_4 (tgt := 11) rfl (fun cc1 => ?_) (fun cc1 => ?_)
  · replace h := h.1 cc1
    refine zh_iconst (pn := 12) rfl dX1_markOfPlaced_11 (v := (zI 0)) rfl ?_
    exact zh_iret dX1_markOfPlaced_12 rfl rfl ⟨_, rfl, rfl, h⟩
  · replace h := h.2 cc1
    refine zh_iconst (pn := 8) rfl dX1_markOfPlaced_7 (v := (zI 1)) rfl ?_
    refine zh_goto dX1_markOfPlaced_8 (tgt := 12) rfl ?_
    exact zh_iret dX1_markOfPlaced_12 rfl rfl ⟨_, rfl, rfl, h⟩
set_option maxRecDepth 100000 in
theorem ca_X1_markOfPlaced {X : Nat × (Nat → Int32)} {d : Nat} {y : MethodName} {cc : ByteArray} {nL : Nat} {rt : Option FieldType} {pc pn idx : Nat} {lo : List (Option Value)} {st : List Value} {M : zh_M} {P : Option Value → List zh_LC → zh_M → Prop} {K : Int32 → zh_M → Prop} (hp : pc + 3 = pn) (hd : decode cc pc = .ok (.invokevirtual idx, 3)) (m1 : Cond.methodLink y.cls idx yX1_markOfPlaced ∈ zh_WS) (hsc : ∀ base b, ((st.map (zh_tr base b)).map fun v => v.category).sum ≤ 8) (h : wp_X1_markOfPlaced M K) (kk : ∀ r M1, K r M1 → zh_W X (d + 1) y cc nL rt pn lo (.int r :: st) zh_LL M1 0 0 P) : zh_W X (d + 1) y cc nL rt pc lo (.ref 37 :: st) zh_LL M 0 0 P := by
  refine zh_callV (bc := 0) (bs := 0) (bc' := 0) (bs' := 0) (as := []) (st := st) hp hd rfl (by decide) rfl rfl m1 me_X1_markOfPlaced.1 me_X1_markOfPlaced.2.1 me_X1_markOfPlaced.2.2.1 me_X1_markOfPlaced.2.2.2 ⟨by decide, by decide, by decide⟩ (by show _ = some 0; decide +kernel) (fun v hv => by cases hv) hsc (Nat.le_of_ble_eq_true rfl) (by decide) (wk_X1_markOfPlaced  h) (fun r L' M' q => ?_) (fun r L' M' q => ?_)
  · obtain ⟨v, -, rfl, q⟩ := q; rfl
  · obtain ⟨v, rfl, rfl, q⟩ := q; exact kk v M' q
set_option maxRecDepth 100000 in
set_option maxHeartbeats 4000000 in
theorem wkl_X3_openSlot_25 {X : Nat × (Nat → Int32)} {d : Nat} {P : Int32 → zh_M → Prop} {l2 : Int32} {l3 : Int32} : ∀ (n : Nat) (l4 : Int32) (M : zh_M) (w1 : Option Value), wl_X3_openSlot_25 l2 l3 P n l4 M → zh_W X (d + 0) yX3_openSlot cX3_openSlot 5 (some .int) 25 [some (.ref 2), w1, some (.int l2), some (.int l3), some (.int l4)] [] zh_LL M 0 0 (zh_pi P) := by
  intro n
  induction n with
  | zero => intro l4 M w1 h; exact h.elim
  | succ n ih =>
    intro l4 M w1 h
    unfold wl_X3_openSlot_25 at h
    refine zh_iload (pn := 27) rfl dX3_openSlot_25 (i := 4) (x := l4) rfl ?_
    refine zh_bipush (pn := 29) rfl dX3_openSlot_27 (v := (zI 16)) rfl ?_
    refine zh_icmp_ge (pn := 32) rfl dX3_openSlot_29 (tgt := 60) rfl (fun cc1 => ?_) (fun cc1 => ?_)
    · replace h := h.1 cc1
      refine zh_iconst (pn := 61) rfl dX3_openSlot_60 (v := (zI (-1))) rfl ?_
      exact zh_iret dX3_openSlot_61 rfl rfl ⟨_, rfl, rfl, h⟩
    · replace h := h.2 cc1
      refine zh_aload_n (pn := 33) rfl dX3_openSlot_32 (i := 0) (v := .ref 2) rfl rfl (Or.inr ⟨_, rfl⟩) ?_
      refine zh_get (pn := 36) rfl dX3_openSlot_33 (v := .ref 6) (k := 3) rfl rfl (by decide) (by decide) in_X3 mf_X3_22 rfl ?_
      refine zh_iload_n (pn := 37) rfl dX3_openSlot_36 (i := 3) (x := l3) rfl rfl ?_
      refine zh_iload (pn := 39) rfl dX3_openSlot_37 (i := 4) (x := l4) rfl ?_
      refine zh_iadd (pn := 40) rfl dX3_openSlot_39 ?_
      refine zh_iconst (pn := 41) rfl dX3_openSlot_40 (v := (zI 2)) rfl ?_
      refine zh_idiv (pn := 42) rfl dX3_openSlot_41 (by decide) ?_
      refine zh_iald (pn := 43) rfl dX3_openSlot_42 rfl h.1 ?_
      replace h := h.2
      refine zh_if_ne (pn := 46) rfl dX3_openSlot_43 (tgt := 51) rfl (fun cc1 => ?_) (fun cc1 => ?_)
      · replace h := h.1 cc1
        refine zh_iload (pn := 53) rfl dX3_openSlot_51 (i := 4) (x := l4) rfl ?_
        refine zh_iload_n (pn := 54) rfl dX3_openSlot_53 (i := 2) (x := l2) rfl rfl ?_
        refine zh_iadd (pn := 55) rfl dX3_openSlot_54 ?_
        refine zh_istore (pn := 57) rfl dX3_openSlot_55 (i := 4) (lo' := [some (.ref 2), w1, some (.int l2), some (.int l3), some (.int (l4 + l2))]) (by decide) rfl ?_
        refine zh_goto dX3_openSlot_57 (tgt := 25) rfl ?_
        exact ih _ _ _ h
      · replace h := h.2 cc1
        refine zh_iload_n (pn := 47) rfl dX3_openSlot_46 (i := 3) (x := l3) rfl rfl ?_
        refine zh_iload (pn := 49) rfl dX3_openSlot_47 (i := 4) (x := l4) rfl ?_
        refine zh_iadd (pn := 50) rfl dX3_openSlot_49 ?_
        exact zh_iret dX3_openSlot_50 rfl rfl ⟨_, rfl, rfl, h⟩
set_option maxRecDepth 100000 in
set_option maxHeartbeats 4000000 in
theorem wk_X3_openSlot {X : Nat × (Nat → Int32)} {d : Nat} {M : zh_M} {a1 : Int32} {a2 : Int32} {P : Int32 → zh_M → Prop} (h : wp_X3_openSlot M a1 a2 P) : zh_W X (d + 0) yX3_openSlot cX3_openSlot 5 (some .int) 0 (zh_en [.ref 2, .int a1, .int a2] 5) [] zh_LL M 0 0 (zh_pi P) := by
  unfold wp_X3_openSlot at h
  show zh_W X (d + 0) yX3_openSlot cX3_openSlot 5 (some .int) 0 [some (.ref 2), some (.int a1), some (.int a2), none, none] [] zh_LL M 0 0 (zh_pi P)
  refine zh_aload_n (pn := 1) rfl dX3_openSlot_0 (i := 0) (v := .ref 2) rfl rfl (Or.inr ⟨_, rfl⟩) ?_
  refine zh_get (pn := 4) rfl dX3_openSlot_1 (v := .ref 4) (k := 1) rfl rfl (by decide) (by decide) in_X3 mf_X3_15 rfl ?_
  refine zh_iload_n (pn := 5) rfl dX3_openSlot_4 (i := 1) (x := a1) rfl rfl ?_
  refine zh_iald (pn := 6) rfl dX3_openSlot_5 rfl h.1 ?_
  replace h := h.2
  refine zh_iload_n (pn := 7) rfl dX3_openSlot_6 (i := 2) (x := a2) rfl rfl ?_
  refine zh_icmp_ne (pn := 10) rfl dX3_openSlot_7 (tgt := 15) rfl (fun cc1 => ?_) (fun cc1 => ?_)
  · replace h := h.1 cc1
    refine zh_iconst (pn := 16) rfl dX3_openSlot_15 (v := (zI (-1))) rfl ?_
    exact zh_iret dX3_openSlot_16 rfl rfl ⟨_, rfl, rfl, h⟩
  · replace h := h.2 cc1
    refine zh_iload_n (pn := 11) rfl dX3_openSlot_10 (i := 2) (x := a2) rfl rfl ?_
    refine zh_iconst (pn := 12) rfl dX3_openSlot_11 (v := (zI 2)) rfl ?_
    refine zh_icmp_ge (pn := 15) rfl dX3_openSlot_12 (tgt := 17) rfl (fun cc1 => ?_) (fun cc1 => ?_)
    · replace h := h.1 cc1
      refine zh_iload_n (pn := 18) rfl dX3_openSlot_17 (i := 1) (x := a1) rfl rfl ?_
      refine zh_bipush (pn := 20) rfl dX3_openSlot_18 (v := (zI 16)) rfl ?_
      refine zh_imul (pn := 21) rfl dX3_openSlot_20 ?_
      refine zh_istore_n (pn := 22) rfl dX3_openSlot_21 (i := 3) (lo' := [some (.ref 2), some (.int a1), some (.int a2), some (.int (a1 * (zI 16))), none]) rfl (by decide) rfl ?_
      refine zh_iconst (pn := 23) rfl dX3_openSlot_22 (v := (zI 0)) rfl ?_
      refine zh_istore (pn := 25) rfl dX3_openSlot_23 (i := 4) (lo' := [some (.ref 2), some (.int a1), some (.int a2), some (.int (a1 * (zI 16))), some (.int (zI 0))]) (by decide) rfl ?_
      obtain ⟨n1, h⟩ := h
      refine wkl_X3_openSlot_25 n1 _ _ _ h
    · replace h := h.2 cc1
      refine zh_iconst (pn := 16) rfl dX3_openSlot_15 (v := (zI (-1))) rfl ?_
      exact zh_iret dX3_openSlot_16 rfl rfl ⟨_, rfl, rfl, h⟩
set_option maxRecDepth 100000 in
theorem ca_X3_openSlot {X : Nat × (Nat → Int32)} {d : Nat} {y : MethodName} {cc : ByteArray} {nL : Nat} {rt : Option FieldType} {pc pn idx : Nat} {lo : List (Option Value)} {st : List Value} {M : zh_M} {P : Option Value → List zh_LC → zh_M → Prop} {a1 : Int32} {a2 : Int32} {K : Int32 → zh_M → Prop} (hp : pc + 3 = pn) (hd : decode cc pc = .ok (.invokevirtual idx, 3)) (m1 : Cond.methodLink y.cls idx yX3_openSlot ∈ zh_WS) (hsc : ∀ base b, ((st.map (zh_tr base b)).map fun v => v.category).sum ≤ 8) (h : wp_X3_openSlot M a1 a2 K) (kk : ∀ r M1, K r M1 → zh_W X (d + 1) y cc nL rt pn lo (.int r :: st) zh_LL M1 0 0 P) : zh_W X (d + 1) y cc nL rt pc lo (.int a2 :: .int a1 :: .ref 2 :: st) zh_LL M 0 0 P := by
  refine zh_callV (bc := 0) (bs := 0) (bc' := 0) (bs' := 0) (as := [.int a1, .int a2]) (st := st) hp hd rfl (by decide) rfl rfl m1 me_X3_openSlot.1 me_X3_openSlot.2.1 me_X3_openSlot.2.2.1 me_X3_openSlot.2.2.2 ⟨by decide, by decide, by decide⟩ (by show _ = some 2; decide +kernel) (by intro v hv; simp only [List.mem_cons, List.not_mem_nil, or_false] at hv; rcases hv with rfl | rfl <;> (intro _ _; rfl)) hsc (Nat.le_of_ble_eq_true rfl) (by decide) (wk_X3_openSlot  h) (fun r L' M' q => ?_) (fun r L' M' q => ?_)
  · obtain ⟨v, -, rfl, q⟩ := q; rfl
  · obtain ⟨v, rfl, rfl, q⟩ := q; exact kk v M' q
set_option maxRecDepth 100000 in
set_option maxHeartbeats 4000000 in
theorem wkl_X3_slotInSpans_2 {X : Nat × (Nat → Int32)} {d : Nat} {P : Int32 → zh_M → Prop} {l1 : Int32} : ∀ (n : Nat) (l2 : Int32) (M : zh_M) (w3 : Option Value), wl_X3_slotInSpans_2 l1 P n l2 M → zh_W X (d + 3) yX3_slotInSpans cX3_slotInSpans 4 (some .int) 2 [some (.ref 2), some (.int l1), some (.int l2), w3] [] zh_LL M 0 0 (zh_pi P) := by
  intro n
  induction n with
  | zero => intro l2 M w3 h; exact h.elim
  | succ n ih =>
    intro l2 M w3 h
    unfold wl_X3_slotInSpans_2 at h
    refine zh_iload_n (pn := 3) rfl dX3_slotInSpans_2 (i := 2) (x := l2) rfl rfl ?_
    refine zh_bipush (pn := 5) rfl dX3_slotInSpans_3 (v := (zI 16)) rfl ?_
    refine zh_icmp_ge (pn := 8) rfl dX3_slotInSpans_5 (tgt := 52) rfl (fun cc1 => ?_) (fun cc1 => ?_)
    · replace h := h.1 cc1
      refine zh_iconst (pn := 53) rfl dX3_slotInSpans_52 (v := (zI (-1))) rfl ?_
      exact zh_iret dX3_slotInSpans_53 rfl rfl ⟨_, rfl, rfl, h⟩
    · replace h := h.2 cc1
      refine zh_aload_n (pn := 9) rfl dX3_slotInSpans_8 (i := 0) (v := .ref 2) rfl rfl (Or.inr ⟨_, rfl⟩) ?_
      refine zh_get (pn := 12) rfl dX3_slotInSpans_9 (v := .ref 4) (k := 1) rfl rfl (by decide) (by decide) in_X3 mf_X3_15 rfl ?_
      refine zh_iload_n (pn := 13) rfl dX3_slotInSpans_12 (i := 2) (x := l2) rfl rfl ?_
      refine zh_iald (pn := 14) rfl dX3_slotInSpans_13 rfl h.1 ?_
      replace h := h.2
      refine zh_iload_n (pn := 15) rfl dX3_slotInSpans_14 (i := 1) (x := l1) rfl rfl ?_
      refine zh_icmp_ne (pn := 18) rfl dX3_slotInSpans_15 (tgt := 46) rfl (fun cc1 => ?_) (fun cc1 => ?_)
      · replace h := h.1 cc1
        refine zh_iinc (pn := 49) rfl dX3_slotInSpans_46 (i := 2) (x := l2) (v := l2 + (zI 1)) (lo' := [some (.ref 2), some (.int l1), some (.int (l2 + (zI 1))), w3]) rfl rfl (by decide) rfl ?_
        refine zh_goto dX3_slotInSpans_49 (tgt := 2) rfl ?_
        exact ih _ _ _ h
      · replace h := h.2 cc1
        refine zh_aload_n (pn := 19) rfl dX3_slotInSpans_18 (i := 0) (v := .ref 2) rfl rfl (Or.inr ⟨_, rfl⟩) ?_
        refine zh_get (pn := 22) rfl dX3_slotInSpans_19 (v := .ref 5) (k := 2) rfl rfl (by decide) (by decide) in_X3 mf_X3_18 rfl ?_
        refine zh_iload_n (pn := 23) rfl dX3_slotInSpans_22 (i := 2) (x := l2) rfl rfl ?_
        refine zh_zald (pn := 24) rfl dX3_slotInSpans_23 rfl h.1 ?_
        replace h := h.2
        refine zh_if_eq (pn := 27) rfl dX3_slotInSpans_24 (tgt := 32) rfl (fun cc1 => ?_) (fun cc1 => ?_)
        · replace h := h.1 cc1
          refine zh_aload_n (pn := 33) rfl dX3_slotInSpans_32 (i := 0) (v := .ref 2) rfl rfl (Or.inr ⟨_, rfl⟩) ?_
          refine zh_iload_n (pn := 34) rfl dX3_slotInSpans_33 (i := 2) (x := l2) rfl rfl ?_
          refine zh_iload_n (pn := 35) rfl dX3_slotInSpans_34 (i := 1) (x := l1) rfl rfl ?_
          refine ca_X3_openSlot (pn := 38) rfl dX3_slotInSpans_35 mc_X3_59 (fun _ _ => Nat.le_of_ble_eq_true rfl) h (fun r2 M1 h => ?_)
          refine zh_istore_n (pn := 39) rfl dX3_slotInSpans_38 (i := 3) (lo' := [some (.ref 2), some (.int l1), some (.int l2), some (.int r2)]) rfl (by decide) rfl ?_
          refine zh_iload_n (pn := 40) rfl dX3_slotInSpans_39 (i := 3) (x := r2) rfl rfl ?_
          refine zh_iconst (pn := 41) rfl dX3_slotInSpans_40 (v := (zI (-1))) rfl ?_
          refine zh_icmp_eq (pn := 44) rfl dX3_slotInSpans_41 (tgt := 46) rfl (fun cc1 => ?_) (fun cc1 => ?_)
          · replace h := h.1 cc1
            refine zh_iinc (pn := 49) rfl dX3_slotInSpans_46 (i := 2) (x := l2) (v := l2 + (zI 1)) (lo' := [some (.ref 2), some (.int l1), some (.int (l2 + (zI 1))), some (.int r2)]) rfl rfl (by decide) rfl ?_
            refine zh_goto dX3_slotInSpans_49 (tgt := 2) rfl ?_
            exact ih _ _ _ h
          · replace h := h.2 cc1
            refine zh_iload_n (pn := 45) rfl dX3_slotInSpans_44 (i := 3) (x := r2) rfl rfl ?_
            exact zh_iret dX3_slotInSpans_45 rfl rfl ⟨_, rfl, rfl, h⟩
        · replace h := h.2 cc1
          refine zh_aload_n (pn := 28) rfl dX3_slotInSpans_27 (i := 0) (v := .ref 2) rfl rfl (Or.inr ⟨_, rfl⟩) ?_
          refine zh_iload_n (pn := 29) rfl dX3_slotInSpans_28 (i := 2) (x := l2) rfl rfl ?_
          refine ca_X3_sweepSpan (pn := 32) rfl dX3_slotInSpans_29 mc_X3_55 (fun _ _ => Nat.le_of_ble_eq_true rfl) h (fun M3 h => ?_)
          refine zh_aload_n (pn := 33) rfl dX3_slotInSpans_32 (i := 0) (v := .ref 2) rfl rfl (Or.inr ⟨_, rfl⟩) ?_
          refine zh_iload_n (pn := 34) rfl dX3_slotInSpans_33 (i := 2) (x := l2) rfl rfl ?_
          refine zh_iload_n (pn := 35) rfl dX3_slotInSpans_34 (i := 1) (x := l1) rfl rfl ?_
          refine ca_X3_openSlot (pn := 38) rfl dX3_slotInSpans_35 mc_X3_59 (fun _ _ => Nat.le_of_ble_eq_true rfl) h (fun r5 M4 h => ?_)
          refine zh_istore_n (pn := 39) rfl dX3_slotInSpans_38 (i := 3) (lo' := [some (.ref 2), some (.int l1), some (.int l2), some (.int r5)]) rfl (by decide) rfl ?_
          refine zh_iload_n (pn := 40) rfl dX3_slotInSpans_39 (i := 3) (x := r5) rfl rfl ?_
          refine zh_iconst (pn := 41) rfl dX3_slotInSpans_40 (v := (zI (-1))) rfl ?_
          refine zh_icmp_eq (pn := 44) rfl dX3_slotInSpans_41 (tgt := 46) rfl (fun cc1 => ?_) (fun cc1 => ?_)
          · replace h := h.1 cc1
            refine zh_iinc (pn := 49) rfl dX3_slotInSpans_46 (i := 2) (x := l2) (v := l2 + (zI 1)) (lo' := [some (.ref 2), some (.int l1), some (.int (l2 + (zI 1))), some (.int r5)]) rfl rfl (by decide) rfl ?_
            refine zh_goto dX3_slotInSpans_49 (tgt := 2) rfl ?_
            exact ih _ _ _ h
          · replace h := h.2 cc1
            refine zh_iload_n (pn := 45) rfl dX3_slotInSpans_44 (i := 3) (x := r5) rfl rfl ?_
            exact zh_iret dX3_slotInSpans_45 rfl rfl ⟨_, rfl, rfl, h⟩
set_option maxRecDepth 100000 in
set_option maxHeartbeats 4000000 in
theorem wk_X3_slotInSpans {X : Nat × (Nat → Int32)} {d : Nat} {M : zh_M} {a1 : Int32} {P : Int32 → zh_M → Prop} (h : wp_X3_slotInSpans M a1 P) : zh_W X (d + 3) yX3_slotInSpans cX3_slotInSpans 4 (some .int) 0 (zh_en [.ref 2, .int a1] 4) [] zh_LL M 0 0 (zh_pi P) := by
  unfold wp_X3_slotInSpans at h
  show zh_W X (d + 3) yX3_slotInSpans cX3_slotInSpans 4 (some .int) 0 [some (.ref 2), some (.int a1), none, none] [] zh_LL M 0 0 (zh_pi P)
  refine zh_iconst (pn := 1) rfl dX3_slotInSpans_0 (v := (zI 0)) rfl ?_
  refine zh_istore_n (pn := 2) rfl dX3_slotInSpans_1 (i := 2) (lo' := [some (.ref 2), some (.int a1), some (.int (zI 0)), none]) rfl (by decide) rfl ?_
  obtain ⟨n6, h⟩ := h
  refine wkl_X3_slotInSpans_2 n6 _ _ _ h
set_option maxRecDepth 100000 in
theorem ca_X3_slotInSpans {X : Nat × (Nat → Int32)} {d : Nat} {y : MethodName} {cc : ByteArray} {nL : Nat} {rt : Option FieldType} {pc pn idx : Nat} {lo : List (Option Value)} {st : List Value} {M : zh_M} {P : Option Value → List zh_LC → zh_M → Prop} {a1 : Int32} {K : Int32 → zh_M → Prop} (hp : pc + 3 = pn) (hd : decode cc pc = .ok (.invokevirtual idx, 3)) (m1 : Cond.methodLink y.cls idx yX3_slotInSpans ∈ zh_WS) (hsc : ∀ base b, ((st.map (zh_tr base b)).map fun v => v.category).sum ≤ 8) (h : wp_X3_slotInSpans M a1 K) (kk : ∀ r M1, K r M1 → zh_W X (d + 4) y cc nL rt pn lo (.int r :: st) zh_LL M1 0 0 P) : zh_W X (d + 4) y cc nL rt pc lo (.int a1 :: .ref 2 :: st) zh_LL M 0 0 P := by
  refine zh_callV (bc := 0) (bs := 0) (bc' := 0) (bs' := 0) (as := [.int a1]) (st := st) hp hd rfl (by decide) rfl rfl m1 me_X3_slotInSpans.1 me_X3_slotInSpans.2.1 me_X3_slotInSpans.2.2.1 me_X3_slotInSpans.2.2.2 ⟨by decide, by decide, by decide⟩ (by show _ = some 1; decide +kernel) (by intro v hv; simp only [List.mem_cons, List.not_mem_nil, or_false] at hv; rcases hv with rfl <;> (intro _ _; rfl)) hsc (Nat.le_of_ble_eq_true rfl) (by decide) (wk_X3_slotInSpans  h) (fun r L' M' q => ?_) (fun r L' M' q => ?_)
  · obtain ⟨v, -, rfl, q⟩ := q; rfl
  · obtain ⟨v, rfl, rfl, q⟩ := q; exact kk v M' q
set_option maxRecDepth 100000 in
set_option maxHeartbeats 4000000 in
theorem wk_X3_endsRun {X : Nat × (Nat → Int32)} {d : Nat} {M : zh_M} {a1 : Int32} {P : Int32 → zh_M → Prop} (h : wp_X3_endsRun M a1 P) : zh_W X (d + 0) yX3_endsRun cX3_endsRun 2 (some .boolean) 0 (zh_en [.ref 2, .int a1] 2) [] zh_LL M 0 0 (zh_pi P) := by
  unfold wp_X3_endsRun at h
  show zh_W X (d + 0) yX3_endsRun cX3_endsRun 2 (some .boolean) 0 [some (.ref 2), some (.int a1)] [] zh_LL M 0 0 (zh_pi P)
  refine zh_aload_n (pn := 1) rfl dX3_endsRun_0 (i := 0) (v := .ref 2) rfl rfl (Or.inr ⟨_, rfl⟩) ?_
  refine zh_get (pn := 4) rfl dX3_endsRun_1 (v := .ref 4) (k := 1) rfl rfl (by decide) (by decide) in_X3 mf_X3_15 rfl ?_
  refine zh_iload_n (pn := 5) rfl dX3_endsRun_4 (i := 1) (x := a1) rfl rfl ?_
  refine zh_iald (pn := 6) rfl dX3_endsRun_5 rfl h.1 ?_
  replace h := h.2
  refine zh_if_ne (pn := 9) rfl dX3_endsRun_6 (tgt := 32) rfl (fun cc1 => ?_) (fun cc1 => ?_)
  · replace h := h.1 cc1
    refine zh_iconst (pn := 33) rfl dX3_endsRun_32 (v := (zI 0)) rfl ?_
    exact zh_iret dX3_endsRun_33 rfl rfl ⟨_, rfl, rfl, h⟩
  · replace h := h.2 cc1
    refine zh_iload_n (pn := 10) rfl dX3_endsRun_9 (i := 1) (x := a1) rfl rfl ?_
    refine zh_iconst (pn := 11) rfl dX3_endsRun_10 (v := (zI 1)) rfl ?_
    refine zh_iadd (pn := 12) rfl dX3_endsRun_11 ?_
    refine zh_bipush (pn := 14) rfl dX3_endsRun_12 (v := (zI 16)) rfl ?_
    refine zh_icmp_eq (pn := 17) rfl dX3_endsRun_14 (tgt := 28) rfl (fun cc1 => ?_) (fun cc1 => ?_)
    · replace h := h.1 cc1
      refine zh_iconst (pn := 29) rfl dX3_endsRun_28 (v := (zI 1)) rfl ?_
      refine zh_goto dX3_endsRun_29 (tgt := 33) rfl ?_
      exact zh_iret dX3_endsRun_33 rfl rfl ⟨_, rfl, rfl, h⟩
    · replace h := h.2 cc1
      refine zh_aload_n (pn := 18) rfl dX3_endsRun_17 (i := 0) (v := .ref 2) rfl rfl (Or.inr ⟨_, rfl⟩) ?_
      refine zh_get (pn := 21) rfl dX3_endsRun_18 (v := .ref 4) (k := 1) rfl rfl (by decide) (by decide) in_X3 mf_X3_15 rfl ?_
      refine zh_iload_n (pn := 22) rfl dX3_endsRun_21 (i := 1) (x := a1) rfl rfl ?_
      refine zh_iconst (pn := 23) rfl dX3_endsRun_22 (v := (zI 1)) rfl ?_
      refine zh_iadd (pn := 24) rfl dX3_endsRun_23 ?_
      refine zh_iald (pn := 25) rfl dX3_endsRun_24 rfl h.1 ?_
      replace h := h.2
      refine zh_if_eq (pn := 28) rfl dX3_endsRun_25 (tgt := 32) rfl (fun cc1 => ?_) (fun cc1 => ?_)
      · replace h := h.1 cc1
        refine zh_iconst (pn := 33) rfl dX3_endsRun_32 (v := (zI 0)) rfl ?_
        exact zh_iret dX3_endsRun_33 rfl rfl ⟨_, rfl, rfl, h⟩
      · replace h := h.2 cc1
        refine zh_iconst (pn := 29) rfl dX3_endsRun_28 (v := (zI 1)) rfl ?_
        refine zh_goto dX3_endsRun_29 (tgt := 33) rfl ?_
        exact zh_iret dX3_endsRun_33 rfl rfl ⟨_, rfl, rfl, h⟩
set_option maxRecDepth 100000 in
theorem ca_X3_endsRun {X : Nat × (Nat → Int32)} {d : Nat} {y : MethodName} {cc : ByteArray} {nL : Nat} {rt : Option FieldType} {pc pn idx : Nat} {lo : List (Option Value)} {st : List Value} {M : zh_M} {P : Option Value → List zh_LC → zh_M → Prop} {a1 : Int32} {K : Int32 → zh_M → Prop} (hp : pc + 3 = pn) (hd : decode cc pc = .ok (.invokevirtual idx, 3)) (m1 : Cond.methodLink y.cls idx yX3_endsRun ∈ zh_WS) (hsc : ∀ base b, ((st.map (zh_tr base b)).map fun v => v.category).sum ≤ 8) (h : wp_X3_endsRun M a1 K) (kk : ∀ r M1, K r M1 → zh_W X (d + 1) y cc nL rt pn lo (.int r :: st) zh_LL M1 0 0 P) : zh_W X (d + 1) y cc nL rt pc lo (.int a1 :: .ref 2 :: st) zh_LL M 0 0 P := by
  refine zh_callV (bc := 0) (bs := 0) (bc' := 0) (bs' := 0) (as := [.int a1]) (st := st) hp hd rfl (by decide) rfl rfl m1 me_X3_endsRun.1 me_X3_endsRun.2.1 me_X3_endsRun.2.2.1 me_X3_endsRun.2.2.2 ⟨by decide, by decide, by decide⟩ (by show _ = some 1; decide +kernel) (by intro v hv; simp only [List.mem_cons, List.not_mem_nil, or_false] at hv; rcases hv with rfl <;> (intro _ _; rfl)) hsc (Nat.le_of_ble_eq_true rfl) (by decide) (wk_X3_endsRun  h) (fun r L' M' q => ?_) (fun r L' M' q => ?_)
  · obtain ⟨v, -, rfl, q⟩ := q; rfl
  · obtain ⟨v, rfl, rfl, q⟩ := q; exact kk v M' q
