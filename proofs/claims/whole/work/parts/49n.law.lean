section LAW
variable {N : Int} {A A' : zA} {M M1 M3 : zh_M}
theorem RR_go (hr : RR M A M) (h1 : RC M1 A' M) : RR M1 A M1 := ⟨fun a k ha => by rw [h1.2 _ (zr_ge ha).1]; exact hr.1 a k ha, fun u hu => by rw [h1.2 41 (by omega)]; exact hr.2.1 u hu, fun _ _ => rfl⟩
theorem RC_go (h1 : RC M1 A' M) (h3 : RR M3 A' M1) : RC M3 A' M3 ∧ RR M3 A' M3 := ⟨⟨fun a k ha => by rw [h3.2.2 _ (zc_lt ha)]; exact h1.1 a k ha, fun _ _ => rfl⟩, h3.1, h3.2.1, fun _ _ => rfl⟩
theorem J_pfz (hJ : JJ N A) : ∀ i k, i < 6 → A 2 i ≠ 0 → zb (a_pf A i k) := fun i k hi hl => by
  have := okf_rg (J_pf hJ.2.2.1 hJ.2.2.2.2.2.1 hi hl k)
  exact ⟨by omega, by omega⟩
theorem J_rms (hJ : JJ N A) : ∀ i, i < 6 → A 2 i ≠ 0 → 0 ≤ A 4 i ∧ A 4 i ≤ 16 := fun i hi hl => by
  have := hJ.2.2.1.rm hi hl
  omega
theorem J_wdm (hJ : JJ N A) {k w : Int} : ∀ i, i < 6 → A 2 i ≠ 0 → a_pw A (a_pf A i k) w → -1 ≤ A 15 (a_pf A i k + w).toNat ∧ A 15 (a_pf A i k + w).toNat < 256 := fun i hi hl hw => okf_rg (J_word hJ hi hl hw).1
theorem J_iwd (hJ : JJ N A) {k w : Int} : ∀ i, i < 6 → A 2 i ≠ 0 → a_iw A (a_pf A i k) w → a_pf A i k + w < 256 := fun i hi hl hw => by
  rcases J_pf hJ.2.2.1 hJ.2.2.2.2.2.1 hi hl k with e | ⟨p1, p2, p3, p4⟩
  · obtain ⟨w1, -⟩ := hw; omega
  · have := (hJ.2.2.2.2.1.ext (by omega) p4.1).1
    obtain ⟨-, -, -, w4⟩ := hw
    omega
theorem J_wc (hJ : JJ N A) : ∀ i, i < 6 → (A 2 i = 2 ∨ A 2 i = 3) → (0 ≤ A 8 i ∧ A 8 i < 64) ∧ zb (A 12 (64 * i + (A 8 i).toNat)) := fun i hi hs => by
  have hF := hJ.2.2.1
  have hl : A 2 i ≠ 0 := by omega
  obtain ⟨g1, g2, g3, g4⟩ := hF.2.2.2.2.2.1 i hi hs
  obtain ⟨f1, f2⟩ := hF.fs.2 i hi hl
  have hg := a_ci_rg (k := A 30 i) f1 f2
  have g2 : a_ci A i (A 30 i) = A 8 i := g2
  have g3 : 0 ≤ A 8 i := g3
  have f3 := f1.2
  rw [g2] at hg
  have hw : A 8 i < 4 * A 3 i := by omega
  refine ⟨⟨g3, by omega⟩, ?_⟩
  have := okf_rg (hJ.2.2.2.2.2.1.1 i hi hl (A 8 i).toNat (by omega))
  exact ⟨by omega, by omega⟩
theorem J_pwd (hJ : JJ N A) {k w : Int} : ∀ i, i < 6 → A 2 i ≠ 0 → a_pw A (a_pf A i k) w → a_pf A i k + w < 256 := fun i hi hl hw => by
  obtain ⟨-, -, u, u1, u2, u3, u4, u5, u6⟩ := J_word hJ hi hl hw
  have h1 := (hJ.2.2.2.2.1.ext u1 u3.1).1
  have h2 := (hJ.2.2.2.2.1.2.2.2.2.2.2 u u1 u3.1).2.2.1
  have h2 : A 19 u ≤ A 18 u := h2
  omega
theorem J_load {f k w : Int} (hJ : JJ N A) : JJ N (a_load A f k w).2 := by
  unfold a_load
  split
  · exact hJ
  · exact hJ
theorem law_loop {X : Nat × (Nat → Int32)} (hL : X.1 ≤ 2560) : ∀ (n i : Nat) (N : Int) (M : zh_M) (A : zA), (X.1 : Int) - 5 < i + 5 * n → i ≤ 2565 → 5 * N = i → JJ N A → RC M A M → RR M A M → wl_L_law_18 X (fun v _ => v = zI 1) (n + 1) (zI (i : Int)) M := by
  intro n
  induction n with
  | zero =>
    intro i N M A hi hi2 hN hJ h hr
    unfold wl_L_law_18
    rw [zI_ofNat, zI_sub]
    exact zk_l (fun _ => rfl) (fun q => by omega)
  | succ n ih =>
    intro i N M A hi hi2 hN hJ h hr
    have next : ∀ M3 A', RC M3 A' M3 ∧ RR M3 A' M3 → JJ (N + 1) A' → i ≤ 2560 → wl_L_law_18 X (fun v _ => v = zI 1) (n + 1) (zI ((i : Int) + 5)) M3 := fun M3 A' hh hj hi3 => ih (i + 5) (N + 1) M3 A' (by omega) (by omega) (by omega) hj hh.1 hh.2
    clear ih
    unfold wl_L_law_18
    rw [zI_ofNat, zI_sub, zI_add (i : Int) 1, zI_add (i : Int) 2, zI_add (i : Int) 3, zI_add (i : Int) 4, zI_add (i : Int) 5, zI_cl (a := (i : Int)) (by omega) (by omega), zI_cl (a := (i : Int) + 1) (by omega) (by omega), zI_cl (a := (i : Int) + 2) (by omega) (by omega), zI_cl (a := (i : Int) + 3) (by omega) (by omega), zI_cl (a := (i : Int) + 4) (by omega) (by omega)]
    obtain ⟨x1, l1, k1, e1⟩ := zI_ex (X.2 ((i : Int) + 1).toNat)
    obtain ⟨x2, l2, k2, e2⟩ := zI_ex (X.2 ((i : Int) + 2).toNat)
    obtain ⟨x3, l3, k3, e3⟩ := zI_ex (X.2 ((i : Int) + 3).toNat)
    obtain ⟨x4, l4, k4, e4⟩ := zI_ex (X.2 ((i : Int) + 4).toNat)
    rw [e1, e2, e3, e4]
    generalize (X.2 (i : Int).toNat &&& zI 31).toInt = c
    refine zk_l (fun _ => rfl) (fun q => ?_)
    have z1 : zb x1 := ⟨l1, k1⟩
    have z2 : zb x2 := ⟨l2, k2⟩
    have z3 : zb x3 := ⟨l3, k3⟩
    have z4 : zb x4 := ⟨l4, k4⟩
    have v0 : vp_in (zI (i : Int)) X.1 := zk_i
    have v1 : vp_in (zI ((i : Int) + 1)) X.1 := zk_i
    have v2 : vp_in (zI ((i : Int) + 2)) X.1 := zk_i
    have v3 : vp_in (zI ((i : Int) + 3)) X.1 := zk_i
    have v4 : vp_in (zI ((i : Int) + 4)) X.1 := zk_i
    have hN1 : N + 1 ≤ 1000 := by omega
    have hN0 : N ≤ 1000 := hJ.2.1
    have fin : ∀ {A' : zA} {r : Int} {M1 M3 : zh_M}, RC M1 A' M → RR M3 A' M1 → JJ (N + 1) A' → ((zI r = zI r → wl_L_law_18 X (fun v _ => v = zI 1) (n + 1) (zI ((i : Int) + 5)) M3) ∧ (¬ zI r = zI r → zI 0 = zI 1)) := fun h1 h3 hj => ⟨fun _ => next _ _ (RC_go h1 h3) hj (by omega), fun z => absurd rfl z⟩
    have hF := hJ.2.2.1.fs
    have hLk := hJ.2.2.1.lk
    have hV := hJ.2.2.2.2.2.1
    have hOk := J_ok hJ.2.2.1 hV
    have hPl := hJ.2.2.2.2.1.pl
    have hEx := hJ.2.2.2.2.1.ex
    have hWa := hJ.2.2.1.wa hN0
    have hWt := hJ.2.2.1.wt hN0
    have hSc := hJ.2.2.1.2.2.2.1
    have hpz := J_pfz hJ
    refine ⟨v0, fun _ => next M A ⟨h, hr⟩ (hJ.up hN1) (by omega), fun _ => ?_, fun _ => ?_, fun _ => ?_, fun _ => ?_, fun _ => ?_, fun _ => ?_, fun _ => ?_, fun _ => ?_, fun _ => ?_, fun _ => ?_, fun _ => ?_, fun _ => ?_, fun _ => ?_, fun _ => ?_, fun _ => ?_, fun _ => ?_, fun _ => ?_, fun _ => ?_, fun _ => ?_, fun _ => ?_⟩
    · exact ⟨v1, v2, cs_spawn h z1 z2 hF.1 hF.2 (fun M1 h1 => ⟨v1, v2, rs_spawn (RR_go hr h1) z1 z2 hF hLk (fun M3 h3 => fin h1 h3 ((J_spawn hJ).up hN1))⟩)⟩
    · exact ⟨v1, cs_end h z1 hF.1 (fun M1 h1 => ⟨v1, rs_end (RR_go hr h1) z1 hF.1 (fun M3 h3 => fin h1 h3 ((J_end hJ).up hN1))⟩)⟩
    · exact ⟨v1, cs_wake h z1 hF.1 (fun M1 h1 => ⟨v1, rs_wake (RR_go hr h1) z1 hF.1 (fun M3 h3 => fin h1 h3 ((J_wake hJ).up hN1))⟩)⟩
    · exact ⟨v1, cs_call h z1 hF.1 (fun i hi hl => ⟨(hF.2 i hi hl).1, J_rms hJ i hi hl⟩) (fun M1 h1 => ⟨v1, rs_call (RR_go hr h1) z1 hF hLk (J_rms hJ) (fun M3 h3 => fin h1 h3 ((J_call hJ).up hN1))⟩)⟩
    · exact ⟨v1, cs_leave h z1 hF.1 hF.2 (fun M1 h1 => ⟨v1, rs_leave (RR_go hr h1) z1 hF hLk (fun M3 h3 => fin h1 h3 ((J_leave hJ).up hN1))⟩)⟩
    · exact ⟨v1, v2, cs_aim h z1 z2 hF.1 hF.2 (fun M1 h1 => ⟨v1, v2, rs_aim (RR_go hr h1) z1 z2 hF hLk (fun M3 h3 => fin h1 h3 ((J_aim hJ).up hN1))⟩)⟩
    · exact ⟨v1, v2, v3, cs_copy h z1 z2 z3 hF.1 hF.2 (fun M1 h1 => ⟨v1, v2, v3, rs_copy (RR_go hr h1) z1 z2 z3 hF hLk (fun M3 h3 => fin h1 h3 ((J_copy hJ).up hN1))⟩)⟩
    · exact ⟨v1, v2, v3, v4, cs_make h hJ z1 z2 z3 z4 (fun M1 h1 => ⟨v1, v2, v3, v4, rs_make (RR_go hr h1) hJ hN1 z1 z2 z3 z4 (fun M3 h3 => fin h1 h3 (J_make hJ hN1))⟩)⟩
    · exact ⟨v1, v2, v3, v4, cs_set h z1 z2 z3 z4 hF hJ.hp hJ.co hpz (J_pwd hJ) (fun i hi hl hw => ⟨by have := J_wdm hJ i hi hl hw; omega, by have := J_wdm hJ i hi hl hw; omega⟩) (fun M1 h1 => ⟨v1, v2, v3, v4, rs_set (RR_go hr h1) z1 z2 z3 z4 hF hLk hJ.hp hJ.co hPl hEx hOk (J_wdm hJ) (fun M3 h3 => fin h1 h3 ((J_set hJ).up hN1))⟩)⟩
    · exact ⟨v1, v2, v3, v4, cs_get h z1 z2 z3 z4 hF hJ.hp (fun i hi hl => hpz i _ hi hl) (J_pwd hJ) (fun M1 h1 => ⟨v1, v2, v3, v4, rs_get (RR_go hr h1) z1 z2 z3 z4 hF hLk hJ.hp hPl hEx hOk (fun M3 h3 => fin h1 h3 ((J_get hJ).up hN1))⟩)⟩
    · exact ⟨v1, v2, v3, v4, cs_store h z1 z2 z3 hF hJ.hp (fun i hi hl => hpz i _ hi hl) (J_iwd hJ) (fun M1 h1 => ⟨v1, v2, v3, v4, rs_store (RR_go hr h1) z1 z2 z3 hF hLk hJ.hp hPl hEx hOk (fun M3 h3 => fin h1 h3 ((J_store hJ).up hN1))⟩)⟩
    · exact ⟨v1, v2, v3, cs_load h z1 z2 z3 hF hJ.hp (fun i hi hl => hpz i _ hi hl) (J_iwd hJ) (fun M1 h1 => ⟨v1, v2, v3, rs_load (RR_go hr h1) z1 z2 z3 hF hLk hJ.hp hPl hEx hOk (fun M3 h3 => fin h1 h3 ((J_load hJ).up hN1))⟩)⟩
    · exact ⟨v1, v2, v3, cs_send h z1 z2 z3 hF hWa hJ.hp hJ.co hJ.ch (fun i hi hl => hpz i _ hi hl) (fun i hi hs => (J_wc hJ i hi (Or.inr hs)).1) (fun M1 h1 => ⟨v1, v2, v3, rs_send (RR_go hr h1) z1 z2 z3 hF hLk hWa hWt hJ.co hJ.ch hOk (fun M3 h3 => fin h1 h3 (J_send hJ hN1 z2))⟩)⟩
    · exact ⟨v1, v2, v3, v4, cs_take h z1 z2 z3 z4 hF hWa hJ.hp hJ.co hJ.ch (fun i hi hs => J_wc hJ i hi (Or.inl hs)) (fun M1 h1 => ⟨v1, v2, v3, v4, rs_take (RR_go hr h1) z1 z2 z3 z4 hF hLk hWa hWt hJ.co hJ.ch hOk (fun M3 h3 => fin h1 h3 (J_take hJ hN1 z2))⟩)⟩
    · exact ⟨v1, cs_mark (I := JJm N) JJm_pc JJm_st z1 h hJ.co (fun e => ⟨hJ, e⟩) (fun M1 h1 => ⟨v1, rs_mark z1 (RR_go hr h1) hJ (fun M3 h3 => fin h1 h3 ((J_mrk hJ).up hN1))⟩)⟩
    · exact ⟨v1, cs_sweepc z1 h hJ.hp (fun M1 h1 => ⟨v1, rs_sweeps JG JGs z1 (RR_go hr h1) hJ (fun M3 h3 => fin h1 h3 ((J_sweeps hJ).up hN1))⟩)⟩
    · exact cs_collect h hJ.hp hJ.co hJ.ch (fun M1 h1 => rs_collect2 (RR_go hr h1) hJ (fun M3 h3 => fin h1 h3 ((J_collect hJ).up hN1)))
    · exact ⟨v1, v2, cs_fiber h z1 z2 hF hJ.co hSc ⟨v1, v2, rs_fiber hr z1 z2 hF hLk hJ.co hSc (fin h hr (hJ.up hN1))⟩⟩
    · exact ⟨v1, cs_count h z1 hJ.hp hJ.co ⟨v1, rs_count hr z1 hJ.hp hJ.co hJ.2.2.1.2.2.2.2.2.2.1 (fin h hr (hJ.up hN1))⟩⟩
    · exact ⟨v1, cs_page h z1 ⟨v1, rs_page hr z1 (fin h hr (hJ.up hN1))⟩⟩
end LAW
