theorem c_scn_J {most : Int} {N : Int} : ∀ (k i : Nat) (n : Int) (A : zA), i + k = 6 → JJ N A → JJ N (c_scn most k i n A).2 ∧ (c_scn most k i n A).2 14 5 = A 14 5 := by
  intro k
  induction k with
  | zero => intro i n A hi hJ; exact ⟨hJ, rfl⟩
  | succ k ih =>
    intro i n A hi hJ
    rw [c_scn]
    split
    · split
      · rename_i w
        obtain ⟨x1, x2⟩ := J_scan hJ (show i < 6 by omega) w.1
        obtain ⟨y1, y2⟩ := ih (i + 1) (n + 1) _ (by omega) x1
        exact ⟨y1, y2.trans x2⟩
      · exact ih _ _ _ (by omega) hJ
    · exact ⟨hJ, rfl⟩
section RW2
variable {M M0 : zh_M} {A : zA} {N : Int}
theorem J_qok (hJ : JJ N A) (hm : A 14 5 ≠ 0) : q_ok A := by
  have hH := hJ.2.2.2.2.1
  obtain ⟨⟨-, m1⟩, -⟩ := hJ.2.2.2.2.2.2.2.1 hm
  refine ⟨fun u hu => ⟨(hH.2.2.1 u hu).1, (hH.2.2.1 u hu).2.1⟩, m1, fun u hu hz => ?_⟩
  obtain ⟨-, -, y3, y4⟩ := hH.2.2.2.2.2.2 u hu hz
  have y3 : A 19 u ≤ A 18 u := y3
  have y4 : A 28 u = A 19 u := y4
  have x := hH.2.2.1 u hu
  have x1 : 0 ≤ A 19 u := x.2.2.1
  have x2 : A 19 u ≤ 64 := x.2.2.2.1
  have ex := (hH.ex u hu hz).1
  rw [y4]
  refine ⟨x1, x2, by omega, fun w hw => hJ.2.2.2.2.2.1.ok _ (hJ.2.2.2.2.2.1.2.2 u hu ⟨hz, Or.inl (J_un hH hm (by omega))⟩ w hw)⟩
theorem rs_wtail {P : Int32 → zh_M → Prop} {S : zA} {q : Int × zA} {d : Nat → Int} {n1 t : Int} (h9 : RR M S M0) (hd : q_du M d) (hi : q_inv S d) (hs : ∀ a, a < 256 → q_sat S d a) (hJ : JJ N q.2) (hm : q.2 14 5 ≠ 0) (q1 : q.1 = n1 + t) (q31 : q.2 31 0 = S 31 0 + t) (qr : ∀ a, a ≠ 20 → a ≠ 23 → a ≠ 14 → a ≠ 31 → q.2 a = S a) (q14 : ∀ k, k ≠ 4 → q.2 14 k = S 14 k) (hP : ∀ M', RR M' (if a_left (aset q.2 14 7 (q.2 14 7 + q.1)) then aset q.2 14 7 (q.2 14 7 + q.1) else a_endM (aset q.2 14 7 (q.2 14 7 + q.1))) M0 → P (zI (n1 + t)) M') : ∀ M11 : zh_M, M11 = zh_set M 39 24 ((M 39 24) + zI t) → ∀ M12 : zh_M, M12 = zh_set M11 39 26 ((M11 39 26) + (zI n1 + zI t)) → (zI (zsum d 256 0) ≤ (M12 39 24) → ∃ n21 : Nat, wl_X5_work_126 (zI n1 + zI t) (fun v6_13 M14 => (¬ v6_13 = zI 0 → P (zI n1 + zI t) M14) ∧ (v6_13 = zI 0 → wp_X5_finish M14 (fun M20 => P (zI n1 + zI t) M20))) P n21 (zI 0) (zI 0) M12) ∧ (¬ zI (zsum d 256 0) ≤ (M12 39 24) → ∃ n30 : Nat, wl_X5_work_126 (zI n1 + zI t) (fun v6_22 M23 => (¬ v6_22 = zI 0 → P (zI n1 + zI t) M23) ∧ (v6_22 = zI 0 → wp_X5_finish M23 (fun M29 => P (zI n1 + zI t) M29))) P n30 (zI 1) (zI 0) M12) := by
  intro M11 e11 M12 e12
  rw [h9.lk, zI_add] at e11
  subst e11
  have h11 := h9.lk_ (v := S 31 0 + t)
  rw [h11.pi, as_id (by decide), zI_add, zI_add] at e12
  subst e12
  have h12 := h11.pi_ (v := S 14 7 + (n1 + t))
  have h13 : RR (zh_set (zh_set M 39 24 (zI (S 31 0 + t))) 39 26 (zI (S 14 7 + (n1 + t)))) (aset q.2 14 7 (q.2 14 7 + q.1)) M0 := by
    refine h12.congr (fun a k ha => ?_)
    have hrow := zr_row_of ha
    have n20 : a ≠ 20 := fun e => by rw [e] at hrow; cases hrow
    have n23 : a ≠ 23 := fun e => by rw [e] at hrow; cases hrow
    have n4 : ¬ (a = 14 ∧ k = 4) := by
      rintro ⟨rfl, rfl⟩
      unfold zr_in at ha
      omega
    have n31 : a = 31 → k = 0 := by
      rintro rfl
      unfold zr_in at ha
      simp at ha
      exact ha
    unfold aset
    by_cases c1 : a = 14 ∧ k = 7
    · rw [if_pos c1, if_pos c1, q14 7 (by decide), q1]
    · rw [if_neg c1, if_neg c1]
      by_cases c2 : a = 31 ∧ k = 0
      · rw [if_pos c2, c2.1, c2.2, q31]
      · rw [if_neg c2]
        by_cases c3 : a = 14
        · subst c3
          rw [q14 k (fun e => n4 ⟨rfl, e⟩)]
        · rw [qr a n20 n23 c3 (fun e => c2 ⟨e, n31 e⟩)]
  have hdM : q_du (zh_set (zh_set M 39 24 (zI (S 31 0 + t))) 39 26 (zI (S 14 7 + (n1 + t)))) d := fun j hj => by rw [zs_id (by decide), zs_id (by decide)]; exact hd j hj
  have hlk := h13.lk
  rw [as_id (by decide), q31] at hlk
  generalize zh_set (zh_set M 39 24 (zI (S 31 0 + t))) 39 26 (zI (S 14 7 + (n1 + t))) = M12 at *
  have hJB := J_147 (v := q.2 14 7 + q.1) hJ
  have hmB : aset q.2 14 7 (q.2 14 7 + q.1) 14 5 ≠ 0 := by rw [as_ix (by decide)]; exact hm
  have hB31 : aset q.2 14 7 (q.2 14 7 + q.1) 31 0 = S 31 0 + t := by rw [as_id (by decide)]; exact q31
  have rB : ∀ a, a ≠ 20 → a ≠ 23 → a ≠ 14 → a ≠ 31 → aset q.2 14 7 (q.2 14 7 + q.1) a = S a := fun a a1 a2 a3 a4 => (as_rne a3).trans (qr a a1 a2 a3 a4)
  generalize aset q.2 14 7 (q.2 14 7 + q.1) = B at *
  obtain ⟨i2, s2⟩ := q_inv_c (rB 18 (by decide) (by decide) (by decide) (by decide)) (rB 24 (by decide) (by decide) (by decide) (by decide)) (rB 33 (by decide) (by decide) (by decide) (by decide)) (rB 28 (by decide) (by decide) (by decide) (by decide)) (rB 15 (by decide) (by decide) (by decide) (by decide)) hi hs
  obtain ⟨d1, d2, d3, d4⟩ := J_due hJB hmB i2 s2
  have hco := hJB.co
  have hlk0 : 0 ≤ B 31 0 := (hJB.2.2.2.2.2.2.2.1 hmB).2.2.2.2.2.2.2.2
  rw [hlk]
  rw [zI_add]
  rw [hB31] at d1 d2 hlk0
  refine zk_m (fun c => ⟨7, rs_w126 hJB.2.2.1.st hJB.2.2.1.2.2.2.1 h13 6 0 0 (by omega) (Or.inl rfl) ?_⟩) (fun c => ⟨7, rs_w126 hJB.2.2.1.st hJB.2.2.1.2.2.2.1 h13 6 0 1 (by omega) (Or.inr rfl) ?_⟩)
  · have hpn : B 14 4 = 0 := d2.1 (by omega)
    by_cases e : a_nextF B 6 0 = -1
    · rw [if_neg (fun w => w.elim (fun w => w rfl) (fun w => w e))]
      have hL : ¬ a_left B := fun w => w.elim (fun w => by omega) (fun w => w e)
      rw [if_neg hL] at hP
      exact ⟨fun z => absurd rfl z, fun _ => rs_finish h13 hdM i2.1 (fun a ha hh => (i2.2.1 a ha hh).1) (d4 hpn) hJB hmB hP⟩
    · rw [if_pos (Or.inr e)]
      have hL : a_left B := Or.inr e
      rw [if_pos hL] at hP
      exact zk_n (fun _ => hP _ h13) (fun z => by omega)
  · rw [if_pos (Or.inl (by decide))]
    have hpn : B 14 4 ≠ 0 := fun w => by have := d2.2 w; omega
    have hL : a_left B := Or.inl (by omega)
    rw [if_pos hL] at hP
    exact zk_n (fun _ => hP _ h13) (fun z => by omega)
theorem rs_work {P : Int32 → zh_M → Prop} {most : Int} (b1 : 0 ≤ most) (b2 : most < 2147483648) (h : RR M A M0) (hJ : JJ N A) (hm : A 14 5 ≠ 0) (hP : ∀ M', RR M' (a_work A most).2 M0 → P (zI (a_work A most).1) M') : wp_X5_work M (zI most) P := by
  generalize hb : (if most < 134 then most else 134) = b
  have hbb : (most < 134 ∧ b = most) ∨ (134 ≤ most ∧ b = 134) := by
    by_cases e : most < 134
    · rw [if_pos e] at hb; exact Or.inl ⟨e, hb.symm⟩
    · rw [if_neg e] at hb; exact Or.inr ⟨by omega, hb.symm⟩
  rw [a_work_eq hb] at hP
  have hq : c_scn most 6 0 0 A = c_scn b 6 0 0 A := by
    rcases hbb with ⟨_, e⟩ | ⟨e1, e2⟩
    · rw [e]
    · exact c_scn_big 6 0 0 A (by omega) (by omega)
  obtain ⟨m', a1, a2, a3, a4, a5⟩ := loop_scn (b := b) 6 0 0 A b.toNat (by omega) (fun j hj => by omega) (by omega)
  obtain ⟨sJ, s5⟩ := c_scn_J (most := b) 6 0 0 A (by omega) hJ
  have hqm : JJ N (a_loop b b.toNat 0 A).2 ∧ (a_loop b b.toNat 0 A).2 14 5 ≠ 0 := J_loop b.toNat 0 hJ hm
  unfold wp_X5_work
  refine ⟨7, rs_scn ⟨by omega, b2⟩ 6 0 0 M A (by omega) (by omega) (by omega) hJ h (fun M3 h3 => ?_)⟩
  rw [hq] at h3 ⊢
  rw [a2] at hP hqm
  generalize c_scn b 6 0 0 A = s at *
  have hms : s.2 14 5 ≠ 0 := by rw [s5]; exact hm
  refine rs_due h3 (J_qok sJ hms) (fun M9 d h9 hd hi hs => ?_)
  obtain ⟨d1, d2, d3, -⟩ := J_due sJ hms hi hs
  have hlk0 : 0 ≤ s.2 31 0 := (sJ.2.2.2.2.2.2.2.1 hms).2.2.2.2.2.2.2.2
  have hlook : ∃ t : Int, (t = m' ∨ t = zsum d 256 0 - s.2 31 0) ∧ 0 ≤ t ∧ t ≤ m' ∧ t ≤ zsum d 256 0 - s.2 31 0 ∧ (a_loop b m' s.1 s.2).1 = s.1 + t ∧ (a_loop b m' s.1 s.2).2 31 0 = s.2 31 0 + t ∧ (∀ a, a ≠ 20 → a ≠ 23 → a ≠ 14 → a ≠ 31 → (a_loop b m' s.1 s.2).2 a = s.2 a) ∧ ∀ k, k ≠ 4 → (a_loop b m' s.1 s.2).2 14 k = s.2 14 k := by
    rcases a3 with e | e
    · subst e
      exact ⟨0, Or.inl rfl, by omega, by omega, by omega, by show s.1 = s.1 + 0; omega, by show s.2 31 0 = s.2 31 0 + 0; omega, fun a _ _ _ _ => rfl, fun k _ => rfl⟩
    · refine loop_looks (A0 := s.2) (D := zsum d 256 0) (fun B jB mB rB => ?_) m' s.1 s.2 a1 sJ hms e (fun a _ _ _ _ => rfl)
      obtain ⟨i2, s2⟩ := q_inv_c (rB 18 (by decide) (by decide) (by decide) (by decide)) (rB 24 (by decide) (by decide) (by decide) (by decide)) (rB 33 (by decide) (by decide) (by decide) (by decide)) (rB 28 (by decide) (by decide) (by decide) (by decide)) (rB 15 (by decide) (by decide) (by decide) (by decide)) hi hs
      obtain ⟨x1, x2, -, -⟩ := J_due jB mB i2 s2
      exact ⟨x1, x2⟩
  obtain ⟨t, t0, t1, t2, t3, t4, t5, t6, t7⟩ := hlook
  generalize a_loop b m' s.1 s.2 = q at *
  have hP2 : ∀ M', RR M' (if a_left (aset q.2 14 7 (q.2 14 7 + q.1)) then aset q.2 14 7 (q.2 14 7 + q.1) else a_endM (aset q.2 14 7 (q.2 14 7 + q.1))) M0 → P (zI (s.1 + t)) M' := by
    intro M' hM
    by_cases e : a_left (aset q.2 14 7 (q.2 14 7 + q.1))
    · rw [if_pos e] at hP hM
      rw [← t4]
      exact hP M' hM
    · rw [if_neg e] at hP hM
      rw [← t4]
      exact hP M' hM
  have tail := rs_wtail h9 hd hi hs hqm.1 hqm.2 t4 t5 t6 t7 hP2
  rw [h9.lk, zI_sub, zI_sub]
  rw [h9.lk] at tail
  refine zk_m (fun c => ?_) (fun c => ?_)
  · rw [show most - s.1 = t by omega]
    exact tail
  · rw [show zsum d 256 0 - s.2 31 0 = t by omega]
    exact tail
theorem rs_mark {P : Int32 → zh_M → Prop} {n : Int} (hn : zb n) (h : RR M A M0) (hJ : JJ N A) (hP : ∀ M', RR M' (a_mark A n).2 M0 → P (zI (a_mark A n).1) M') : wp_X5_mark M (zI n) P := by
  obtain ⟨n1, n2⟩ := hn
  have hco := hJ.co.1
  unfold wp_X5_mark
  rw [h.mk]
  refine zk_l (fun q => ?_) (fun q => zk_n (fun q1 => ?_) (fun q1 => ?_))
  · rw [a_mark, if_neg (by omega)] at hP
    exact hP _ h
  · rw [a_mark, if_pos ⟨q, q1⟩] at hP
    exact rs_work (by omega) n2 h hJ q1 hP
  · rw [a_mark, if_neg (fun w => w.2 q1)] at hP
    exact hP _ h
end RW2
