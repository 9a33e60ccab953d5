theorem zh_known {s : State} {args : Array Value} (hts : ∀ w ∈ zh_WS, w.before args s = true) (ho1 : va_AO "FiberHeap$Fiber" s) (ho2 : va_AO "FiberHeap$Channel" s) : ∃ (D : va_G) (cA : Nat → ClassId), va_K D vwCl (zh_tys cA) s := by
  obtain ⟨c0, i0, k0⟩ := u_known hts in_X0 (hts _ in2_X0.1)
  obtain ⟨c1, i1, k1⟩ := u_known hts in_X1 (hts _ in2_X1.1)
  obtain ⟨c2, i2, k2⟩ := u_known hts in_X2 (hts _ in2_X2.1)
  obtain ⟨c3, i3, k3⟩ := u_known hts in_X3 (hts _ in2_X3.1)
  obtain ⟨c4, i4, k4⟩ := u_known hts in_X4 (hts _ in2_X4.1)
  obtain ⟨c5, i5, k5⟩ := u_known hts in_X5 (hts _ in2_X5.1)
  obtain ⟨a0, ka0, p0, f0, g0, h0⟩ := Cond.arrayClass_spec (hts _ me_arr_int)
  obtain ⟨a1, ka1, p1, f1, g1, h1⟩ := Cond.arrayClass_spec (hts _ me_arr_boolean)
  obtain ⟨p2, a2, ka2, e2, _, g2, h2, f2⟩ := Cond.arrayOver_spec ho1
  obtain ⟨p3, a3, ka3, e3, _, g3, h3, f3⟩ := Cond.arrayOver_spec ho2
  refine ⟨(fun c => match c with | 0 => c0 | 1 => c1 | 2 => c2 | 3 => c3 | 4 => c4 | _ => c5, fun c => match c with | 0 => i0 | 1 => i1 | 2 => i2 | 3 => i3 | 4 => i4 | _ => i5), fun t => match t with | 0 => a0 | 1 => a1 | 2 => a2 | _ => a3, fun c q hq => ?_, fun k q hq => ?_⟩
  · match c, hq with
    | 0, hq => obtain rfl := Option.some.inj hq; exact k0
    | 1, hq => obtain rfl := Option.some.inj hq; exact k1
    | 2, hq => obtain rfl := Option.some.inj hq; exact k2
    | 3, hq => obtain rfl := Option.some.inj hq; exact k3
    | 4, hq => obtain rfl := Option.some.inj hq; exact k4
    | 5, hq => obtain rfl := Option.some.inj hq; exact k5
    | n + 6, hq => cases hq
  · match k, hq with
    | 0, hq => obtain rfl := Option.some.inj hq; exact ⟨fun n z => ⟨fun k h => (by cases h), ka0, g0, p0, h0⟩, f0⟩
    | 1, hq => obtain rfl := Option.some.inj hq; exact ⟨fun n z => ⟨fun k h => (by cases h), ka1, g1, p1, h1⟩, f1⟩
    | 2, hq => obtain rfl := Option.some.inj hq; exact ⟨fun n z => ⟨fun k h => (by cases h), ka2, g2, p2, h2⟩, ka2, p2, g2, h2, e2, f2⟩
    | 3, hq => obtain rfl := Option.some.inj hq; exact ⟨fun n z => ⟨fun k h => (by cases h), ka3, g3, p3, h3⟩, ka3, p3, g3, h3, e3, f3⟩
    | n + 4, hq => cases hq

theorem zh_sift {s s' : State} {L : List Loc} {k n : Nat} (h : s.sameButNew s' L k n) (hL : ∀ x ∈ L, s.heap.size ≤ x.base) : s.sameButNew s' [] k n := by
  obtain ⟨h1, h2, h3, h4, h5, h6⟩ := h
  refine ⟨h1, h2, h3, h4, h5, fun a c hc => ?_⟩
  obtain ⟨c', g1, g2, g3, g4⟩ := h6 a c hc
  have ha : a < s.heap.size := (Array.getElem?_eq_some_iff.mp hc).1
  exact ⟨c', g1, g2, g3, fun i _ => g4 i (fun hm => Nat.not_le.mpr ha (hL _ hm))⟩
set_option maxRecDepth 100000 in
theorem zL_end : zL_123 = zh_LL := rfl
set_option maxRecDepth 100000 in
theorem zh_law {X : Nat × (Nat → Int32)} {d : Nat} {P : Int32 → zh_M → Prop} (h : ∃ n, wl_L_law_18 X P n (zI 0) zM_118) : zh_W X (d + 8) yL_law cL_law 4 (some .boolean) 0 [some (.ref 0), none, none, none] [] zL_0 zM_0 61 3807 (zh_pi P) := by
  refine zh_new (pn := 3) (bc := 60) (bs := 3802) rfl dL_law_0 rfl (by decide) in_X4 tyX4_ok mk_L_7 in2_X4.1 in2_X4.2 df_X4 ?_
  show zh_W X (d + 8) yL_law cL_law 4 (some .boolean) 3 [some (.ref 0), none, none, none] [.ref 1] zL_1 zM_1 60 3802 (zh_pi P)
  refine zh_dup (pn := 4) rfl dL_law_3 (fun _ _ => rfl) ?_
  refine zh_callI (pn := 7) (bc := 23) (bs := 2409) (bc' := 37) (bs' := 1393) (as := []) (st := [.ref 1]) rfl dL_law_4 rfl mc_L_9 me_X4_init.1 me_X4_init.2.1 me_X4_init.2.2 ⟨by decide, by decide, by decide⟩ (by decide +kernel) (fun v hv => by cases hv) (fun _ _ => Nat.le_of_ble_eq_true rfl) (by decide) (by decide) kt_X4_init_14 (fun r L' M' q => by obtain ⟨-, rfl, -⟩ := q; rfl) (fun r L' M' q => ?_)
  obtain ⟨rfl, rfl, rfl⟩ := q
  show zh_W X (d + 8) yL_law cL_law 4 (some .boolean) 7 [some (.ref 0), none, none, none] [.ref 1] zL_78 zM_84 23 2409 (zh_pi P)
  refine zh_astore_n (pn := 8) rfl dL_law_7 (i := 1) (lo' := [some (.ref 0), some (.ref 1), none, none]) rfl (by decide) (Or.inr ⟨_, rfl⟩) rfl ?_
  refine zh_new (pn := 11) (bc := 22) (bs := 2378) rfl dL_law_8 rfl (by decide) in_X5 tyX5_ok mk_L_10 in2_X5.1 in2_X5.2 df_X5 ?_
  show zh_W X (d + 8) yL_law cL_law 4 (some .boolean) 11 [some (.ref 0), some (.ref 1), none, none] [.ref 39] zL_79 zM_85 22 2378 (zh_pi P)
  refine zh_dup (pn := 12) rfl dL_law_11 (fun _ _ => rfl) ?_
  refine zh_callI (pn := 15) (bc := 0) (bs := 0) (bc' := 22) (bs' := 2378) (as := []) (st := [.ref 39]) rfl dL_law_12 rfl mc_L_12 me_X5_init.1 me_X5_init.2.1 me_X5_init.2.2 ⟨by decide, by decide, by decide⟩ (by decide +kernel) (fun v hv => by cases hv) (fun _ _ => Nat.le_of_ble_eq_true rfl) (by decide) (by decide) kt_X5_init_16 (fun r L' M' q => by obtain ⟨-, rfl, -⟩ := q; rfl) (fun r L' M' q => ?_)
  obtain ⟨rfl, rfl, rfl⟩ := q
  show zh_W X (d + 8) yL_law cL_law 4 (some .boolean) 15 [some (.ref 0), some (.ref 1), none, none] [.ref 39] zL_123 zM_118 0 0 (zh_pi P)
  refine zh_astore_n (pn := 16) rfl dL_law_15 (i := 2) (lo' := [some (.ref 0), some (.ref 1), some (.ref 39), none]) rfl (by decide) (Or.inr ⟨_, rfl⟩) rfl ?_
  refine zh_iconst (pn := 17) rfl dL_law_16 (v := (zI 0)) rfl ?_
  refine zh_istore_n (pn := 18) rfl dL_law_17 (i := 3) (lo' := [some (.ref 0), some (.ref 1), some (.ref 39), some (.int (zI 0))]) rfl (by decide) rfl ?_
  rw [zL_end]
  obtain ⟨n, h⟩ := h
  exact wkl_L_law_18 n _ _ h
