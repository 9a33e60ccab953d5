section RTK
variable {M M0 : zh_M} {A : zA}
theorem rs_shift_loop {K : zh_M → Prop} {P : Int32 → zh_M → Prop} {c : Int} (c1 : 0 ≤ c) (c2 : c < 4) {x2 x3 x4 x5 x6 : Int32} {n : Int} (n2 : n ≤ c) : ∀ (k r : Nat) (M : zh_M) (A : zA), RR M A M0 → A 22 c.toNat = n → (r : Int) + 1 + k = n → (∀ M', RR M' (a_shift c.toNat k r A) M0 → K M') → wl_X5_gives_70 (zI c) x2 x3 x4 x5 x6 K P (k + 1) (zI ((r : Int) + 1)) M := by
  intro k
  induction k with
  | zero =>
    intro r M A h hn hr hK
    unfold wl_X5_gives_70
    rw [zI_cl c1 (by omega), h.le (by omega), hn]
    exact ⟨zk_i, zk_m (fun _ => hK _ h) (fun q => by omega)⟩
  | succ k ih =>
    intro r M A h hn hr hK
    unfold wl_X5_gives_70
    rw [zI_cl c1 (by omega), h.le (by omega), hn, zI_mul, zI_add, zI_sub, zI_add, zI_cl (a := 4 * c + ((r : Int) + 1)) (by omega) (by omega), zI_cl (a := 4 * c + ((r : Int) + 1) - 1) (by omega) (by omega), h.qu (by omega), show (4 * c + ((r : Int) + 1)).toNat = 4 * c.toNat + r + 1 by omega, show (4 * c + ((r : Int) + 1) - 1).toNat = 4 * c.toNat + r by omega]
    refine ⟨zk_i, zk_m (fun q => by omega) (fun _ => ⟨zk_i, zk_i, fun M9 e9 => ?_⟩)⟩
    subst e9
    have := ih (r + 1) _ _ (h.qu_ (i := 4 * c.toNat + r) (v := A 21 (4 * c.toNat + r + 1)) (by omega)) (by rw [as_id (by decide)]; exact hn) (by omega) hK
    exact this
theorem rs_handf {P : zh_M → Prop} {f k p c : Int} {B : zA} (h : RR M B M0) (g1 : 0 ≤ f) (g2 : f < 6) (hk : zb k) (hf : iFr A f.toNat) (hr : iRf A f.toNat) (hl : A 25 f.toNat = A 3 f.toNat) (hc : a_ci A f.toNat k ≠ -1) (e3 : ∀ j, B 3 j = A 3 j) (e13 : ∀ j, B 13 j = A 13 j) (e25 : ∀ j, B 25 j = A 25 j) (e2 : B 2 f.toNat = 1) (hP : ∀ M', RR M' (gset (a_fc B f.toNat k p) 7 27 f.toNat c) M0 → P M') : wp_X5_hand M (zI f) (zI k) (zI p) (zI c) P := by
  have eci : a_ci B f.toNat k = a_ci A f.toNat k := by
    unfold a_ci
    rw [e3, e13]
  refine rs_hand h g1 g2 hk ?_ ?_ ?_ ?_ ?_
  · unfold iFr
    rw [e3]
    exact hf
  · intro j j1 j2
    rw [e3] at j2
    rw [e13]
    exact hr j j1 j2
  · rw [e25, e3]
    exact hl
  · rw [eci]
    exact hc
  · rw [as_self e2]
    rw [a_fc, if_neg (by rw [eci]; exact hc)] at hP
    exact hP
theorem rs_gives {P : Int32 → zh_M → Prop} {f k c : Int} (h : RR M A M0) (g1 : 0 ≤ f) (g2 : f < 6) (g3 : A 2 f.toNat = 1) (hk : zb k) (hci : a_ci A f.toNat k ≠ -1) (c1 : 0 ≤ c) (c2 : c < 4) (hF : iFs A) (hL : iLk A) (hW : iWa A) (hT : iWt A) (hC : iCo A) (hch : iCh A) (hok : iOk A) (h0 : ¬ a_gives A c → P (zI 0) M) (h1 : a_gives A c → ∀ M', RR M' (gset (a_fc (a_out A c.toNat).2 f.toNat k (a_out A c.toNat).1) 7 27 f.toNat c) M0 → P (zI 1) M') : wp_X5_gives M (zI c) (zI f) (zI k) P := by
  have hi : f.toNat < 6 := by omega
  have hl : A 2 f.toNat ≠ 0 := by rw [g3]; decide
  obtain ⟨f1, f2⟩ := hF.2 _ hi hl
  have hlf := (hL _ hi hl).1
  have hc4 : c.toNat < 4 := by omega
  have hcc : (c.toNat : Int) = c := by omega
  obtain ⟨d1, d2, -⟩ := hch _ hc4
  unfold wp_X5_gives
  refine rs_first h hF.1 hW hT (Or.inl rfl) ⟨by omega, by omega⟩ ?_
  have hg := a_first_rg A 2 c
  have hg2 : -1 ≤ a_first A 2 c ∧ a_first A 2 c < 6 := by omega
  have eL : M 61 (zI c).toNatClampNeg = zI (A 22 c.toNat) := by rw [zI_cl c1 (by omega), h.le hc4]
  have eQ : M 60 (zI 4 * zI c).toNatClampNeg = zI (A 21 (4 * c.toNat)) := by
    rw [zI_mul, zI_cl (by omega) (by omega), h.qu (by omega), show (4 * c).toNat = 4 * c.toNat by omega]
  rw [eL]
  by_cases e : a_first A 2 c = -1
  · by_cases e0 : A 22 c.toNat = 0
    · refine ⟨zk_i, zk_n (fun q => absurd e0 q) (fun _ => zk_m (fun q => by omega) (fun _ => h0 (fun w => w.elim (fun w => by omega) (fun w => w e))))⟩
    · have ho : a_out A c.toNat = (A 21 (4 * c.toNat), a_rem A c.toNat) := by
        unfold a_out
        rw [hcc]
        simp only [if_pos e, if_neg e0]
      have h1' := h1 (Or.inl (by omega))
      rw [ho] at h1'
      refine ⟨zk_i, zk_n (fun _ => zk_m (fun q => by omega) (fun _ => ⟨zk_i, zk_m (fun q => by omega) (fun _ => ⟨?_, (A 22 c.toNat - 1).toNat + 1, ?_⟩)⟩)) (fun q => absurd q e0)⟩
      · rw [zI_mul]
        exact zk_i
      · rw [eQ]
        refine rs_shift_loop c1 c2 (n := A 22 c.toNat) (by omega) (A 22 c.toNat - 1).toNat 0 M A h rfl (by omega) (fun M25 h25 => ?_)
        rw [zI_cl c1 (by omega), h25.le hc4, a_shift_at (by decide), zI_sub]
        refine ⟨zk_i, zk_i, fun M27 e27 => zk_l (fun _ => zk_l (fun _ => ?_) (fun q => by omega)) (fun q => by omega)⟩
        subst e27
        have h27 : RR (zh_set M25 61 c.toNat (zI (A 22 c.toNat - 1))) (a_rem A c.toNat) M0 := by
          have := h25.le_ (v := A 22 c.toNat - 1) hc4
          rw [← a_shift_as (by decide)] at this
          exact this
        exact rs_handf h27 g1 g2 hk f1 f2 hlf hci (fun j => a_rem_at (by decide) (by decide)) (fun j => a_rem_at (by decide) (by decide)) (fun j => a_rem_at (by decide) (by decide)) (by rw [a_rem_at (by decide) (by decide)]; exact g3) h1'
  · obtain ⟨x1, x2, x3, x4⟩ := hg.resolve_left e
    have hgi : (a_first A 2 c).toNat < 6 := by omega
    have hgl : A 2 (a_first A 2 c).toNat ≠ 0 := by rw [x3]; decide
    have hne : f.toNat ≠ (a_first A 2 c).toNat := fun e9 => by rw [← e9, g3] at x3; omega
    obtain ⟨y1, y2⟩ := hF.2 _ hgi hgl
    obtain ⟨t1, t2, t3, t4, t5, t6⟩ := hT _ hgi (Or.inl x3)
    have ep : a_pf A (a_first A 2 c).toNat (A 30 (a_first A 2 c).toNat) = A 12 (64 * (a_first A 2 c).toNat + (A 8 (a_first A 2 c).toNat).toNat) := by
      rw [a_pf, if_neg (by omega), t4]
    have hbz : -1 ≤ A 12 (64 * (a_first A 2 c).toNat + (A 8 (a_first A 2 c).toNat).toNat) ∧ A 12 (64 * (a_first A 2 c).toNat + (A 8 (a_first A 2 c).toNat).toNat) < 256 := by
      have := hok _ hgi hgl (A 30 (a_first A 2 c).toNat)
      rw [ep] at this
      omega
    have h1' := h1 (Or.inr e)
    have eI : M 58 (zI (a_first A 2 c)).toNatClampNeg = zI (A 30 (a_first A 2 c).toNat) := by rw [zI_cl x1 (by omega), h.inn hgi]
    have hlg := (hL _ hgi hgl).1
    by_cases e0 : A 22 c.toNat = 0
    · have ho : a_out A c.toNat = (A 12 (64 * (a_first A 2 c).toNat + (A 8 (a_first A 2 c).toNat).toNat), a_note (aset A 2 (a_first A 2 c).toNat 1) (A 12 (64 * (a_first A 2 c).toNat + (A 8 (a_first A 2 c).toNat).toNat))) := by
        unfold a_out
        rw [hcc]
        simp only [if_neg e]
        rw [if_pos (by rw [a_note_m, as_id (by decide)]; exact e0)]
      rw [ho] at h1'
      rw [eI]
      refine ⟨zk_i, zk_n (fun q => absurd e0 q) (fun _ => zk_m (fun _ => zk_m (fun _ => ⟨zk_i, rs_value h x1 x2 t6 y1 y2 hlg ?_⟩) (fun q => by omega)) (fun q => by omega))⟩
      rw [eL, ep]
      refine ⟨zk_i, zk_m (fun _ => rs_note h hC hbz (fun M38 h38 => zk_l (fun q => by omega) (fun _ => ⟨zk_i, fun M40 e40 => ?_⟩))) (fun q => by omega)⟩
      rw [zI_cl x1 (by omega)] at e40
      subst e40
      have h40 := h38.st_ (v := 1) hgi
      rw [← a_note_as (by decide) (by decide) (by decide) (by decide)] at h40
      exact rs_handf h40 g1 g2 hk f1 f2 hlf hci (fun j => by rw [a_note_m, as_id (by decide)]) (fun j => by rw [a_note_m, as_id (by decide)]) (fun j => by rw [a_note_m, as_id (by decide)]) (by rw [a_note_m, as_ix hne]; exact g3) h1'
    · have ho : a_out A c.toNat = (A 21 (4 * c.toNat), aset (a_addL (a_note (a_rem A c.toNat) (A 12 (64 * (a_first A 2 c).toNat + (A 8 (a_first A 2 c).toNat).toNat))) c.toNat (A 12 (64 * (a_first A 2 c).toNat + (A 8 (a_first A 2 c).toNat).toNat))) 2 (a_first A 2 c).toNat 1) := by
        unfold a_out
        rw [hcc]
        simp only [if_neg e]
        rw [if_neg (by rw [a_note_m, as_id (by decide)]; exact e0), a_note_m, as_id (by decide), a_rem_note, a_rem_as (by decide) (by decide), a_note_as (by decide) (by decide) (by decide) (by decide), a_addL_as (by decide) (by decide)]
      rw [ho] at h1'
      rw [eI]
      refine ⟨zk_i, zk_n (fun _ => zk_m (fun _ => ⟨zk_i, rs_value h x1 x2 t6 y1 y2 hlg ?_⟩) (fun q => by omega)) (fun q => absurd q e0)⟩
      rw [eL, ep, eQ]
      refine ⟨zk_i, zk_m (fun q => by omega) (fun _ => ⟨?_, (A 22 c.toNat - 1).toNat + 1, ?_⟩)⟩
      · rw [zI_mul]
        exact zk_i
      · refine rs_shift_loop c1 c2 (n := A 22 c.toNat) (by omega) (A 22 c.toNat - 1).toNat 0 M A h rfl (by omega) (fun M10 h10 => ?_)
        rw [zI_cl c1 (by omega), h10.le hc4, a_shift_at (by decide), zI_sub]
        refine ⟨zk_i, zk_i, fun M12 e12 => zk_l (fun q => by omega) (fun _ => ?_)⟩
        subst e12
        have h12 : RR (zh_set M10 61 c.toNat (zI (A 22 c.toNat - 1))) (a_rem A c.toNat) M0 := by
          have := h10.le_ (v := A 22 c.toNat - 1) hc4
          rw [← a_shift_as (by decide)] at this
          exact this
        have e22 : a_rem A c.toNat 22 c.toNat = A 22 c.toNat - 1 := by
          unfold a_rem
          rw [a_shift_at (by decide), as_same]
        have hC2 : iCo (a_rem A c.toNat) := by
          unfold iCo
          rw [a_rem_at (by decide) (by decide), a_rem_at (by decide) (by decide)]
          exact hC
        refine rs_enter h12 c1 c2 hC2 hbz (by omega) (by omega) (fun M16 h16 => zk_l (fun q => by omega) (fun _ => ⟨zk_i, fun M18 e18 => ?_⟩))
        rw [zI_cl x1 (by omega)] at e18
        subst e18
        have ee : ∀ a j, a ≠ 21 → a ≠ 22 → a ≠ 2 → a ≠ 20 → a ≠ 23 → a ≠ 14 → a ≠ 24 → aset (a_addL (a_note (a_rem A c.toNat) (A 12 (64 * (a_first A 2 c).toNat + (A 8 (a_first A 2 c).toNat).toNat))) c.toNat (A 12 (64 * (a_first A 2 c).toNat + (A 8 (a_first A 2 c).toNat).toNat))) 2 (a_first A 2 c).toNat 1 a j = A a j := fun a j z1 z2 z3 z4 z5 z6 z7 => by rw [as_id z3, a_addL_at z1 z2, a_note_m z4 z5 z6 z7, a_rem_at z1 z2]
        refine rs_handf (h16.st_ (v := 1) hgi) g1 g2 hk f1 f2 hlf hci (fun j => ?_) (fun j => ?_) (fun j => ?_) ?_ h1'
        · exact ee 3 j (by decide) (by decide) (by decide) (by decide) (by decide) (by decide) (by decide)
        · exact ee 13 j (by decide) (by decide) (by decide) (by decide) (by decide) (by decide) (by decide)
        · exact ee 25 j (by decide) (by decide) (by decide) (by decide) (by decide) (by decide) (by decide)
        · rw [as_ix hne, a_addL_at (by decide) (by decide), a_note_m, a_rem_at (by decide) (by decide)]
          exact g3
theorem rs_take {P : Int32 → zh_M → Prop} {f k c d : Int} (h : RR M A M0) (hb : zb f) (hk : zb k) (hc : zb c) (hd : zb d) (hF : iFs A) (hL : iLk A) (hW : iWa A) (hT : iWt A) (hC : iCo A) (hch : iCh A) (hok : iOk A) (hP : ∀ M', RR M' (a_take A f k c d).2 M0 → P (zI (a_take A f k c d).1) M') : wp_X5_take M (zI f) (zI k) (zI c) (zI d) P := by
  obtain ⟨b1, b2⟩ := hc
  obtain ⟨b3, b4⟩ := hd
  unfold wp_X5_take
  refine rs_cell h hb hk hF hL (fun v => zk_e (fun q => by omega) (fun _ => zk_l (fun q => ?_) (fun q => zk_l (fun q1 => ?_) (fun q1 => zk_l (fun q2 => ?_) (fun q2 => zk_m (fun q3 => ?_) (fun q3 => ?_)))))) (fun v => zk_e (fun _ => ?_) (fun q => absurd rfl q))
  · rw [a_take, if_neg (fun e => by have := e.2.2.1; omega)] at hP
    exact hP _ h
  · rw [a_take, if_neg (fun e => by have := e.2.2.2.1; omega)] at hP
    exact hP _ h
  · rw [a_take, if_neg (fun e => by have := e.2.2.2.2.1; omega)] at hP
    exact hP _ h
  · unfold a_take at hP
    rw [if_pos ⟨v.1, v.2, q, by omega, q2, by omega⟩] at hP
    simp only at hP
    refine rs_gives h v.1.1 v.1.2.1 v.1.2.2 hk v.2 q (by omega) hF hL hW hT hC hch hok (fun w => zk_e (fun _ => rs_gives h v.1.1 v.1.2.1 v.1.2.2 hk v.2 q2 (by omega) hF hL hW hT hC hch hok (fun w2 => zk_e (fun _ => ?_) (fun e => absurd rfl e)) (fun w2 M' hM => zk_e (fun e => by omega) (fun _ => ?_))) (fun e => absurd rfl e)) (fun w M' hM => zk_e (fun e => by omega) (fun _ => ?_))
    · rw [if_neg w, if_neg w2] at hP
      exact rs_wait h v.1.1 v.1.2.1 hP
    · rw [if_neg w, if_pos w2] at hP
      exact hP _ hM
    · rw [if_pos w, if_pos w] at hP
      exact hP _ hM
  · rw [a_take, if_neg (fun e => by have := e.2.2.2.2.2; omega)] at hP
    exact hP _ h
  · rw [a_take, if_neg (fun e => v ⟨e.1, e.2.1⟩)] at hP
    exact hP _ h
end RTK
