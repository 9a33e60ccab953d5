section RMA
variable {M M0 : zh_M} {A : zA} {N : Int}
theorem rs_wds {K : zh_M → Prop} {P : Int32 → zh_M → Prop} {x1 x2 x5 : Int32} {a : Nat} {size ptrs : Int} (h3 : size ≤ 64) (h4 : (a : Int) + size ≤ 256) (h5 : 0 ≤ ptrs) (h6 : ptrs ≤ 64) : ∀ (k w : Nat) (M : zh_M) (B : zA), RR M B M0 → (w : Int) + k = size → (∀ M', RR M' (a_wds a ptrs k w B) M0 → K M') → wl_X5_make_183 x1 x2 (zI size) (zI ptrs) x5 (zI (a : Int)) K P (k + 1) (zI (w : Int)) M := by
  intro k
  induction k with
  | zero =>
    intro w M B h hw hK
    unfold wl_X5_make_183
    exact zk_m (fun _ => hK _ h) (fun q => by omega)
  | succ k ih =>
    intro w M B h hw hK
    rw [a_wds] at hK
    unfold wl_X5_make_183
    rw [zI_add, zI_add, zI_cl (by omega) (by omega), show ((a : Int) + (w : Int)).toNat = a + w by omega]
    refine zk_m (fun q => by omega) (fun _ => zk_m (fun q => ⟨zk_i, fun M2 e2 => ?_⟩) (fun q => ⟨zk_i, fun M2 e2 => ?_⟩))
    · subst e2
      rw [if_neg (by omega)] at hK
      exact ih (w + 1) _ _ (h.mem_ (v := 0) (by omega)) (by omega) hK
    · subst e2
      rw [if_pos q] at hK
      exact ih (w + 1) _ _ (h.mem_ (v := -1) (by omega)) (by omega) hK
theorem rs_mtail {P : Int32 → zh_M → Prop} {f k size ptrs : Int} (hN : N + 1 ≤ 1000) (g1 : 0 ≤ f) (g2 : f < 6) (hk : zb k) (s1 : 1 ≤ size) (s2 : size ≤ 64) (p1 : 0 ≤ ptrs) (p2 : ptrs ≤ size) (h : RR M A M0) (hJ : JJ N A) (hl : A 2 f.toNat ≠ 0) (hc : a_ci A f.toNat k ≠ -1) (hP : ∀ M', RR M' (if (a_any A size ptrs).1 = -1 then (-2, (a_any A size ptrs).2) else ((a_any A size ptrs).1, a_fc (aset (a_any A size ptrs).2 14 8 ((a_any A size ptrs).2 14 8 + a_slot size)) f.toNat k (a_any A size ptrs).1)).2 M0 → P (zI (if (a_any A size ptrs).1 = -1 then (-2, (a_any A size ptrs).2) else ((a_any A size ptrs).1, a_fc (aset (a_any A size ptrs).2 14 8 ((a_any A size ptrs).2 14 8 + a_slot size)) f.toNat k (a_any A size ptrs).1)).1) M') : wp_X5_seat M (zI (a_slot size)) (fun r6 M5 => ∃ n45 : Nat, wl_X5_make_88 (zI f) (zI k) (zI size) (zI ptrs) (zI (a_slot size)) (fun v6_28 M29 => (zI 0 ≤ v6_28 → vp_in v6_28 256 ∧ (∀ M31 : zh_M, M31 = zh_set M29 41 v6_28.toNatClampNeg (zI size) → vp_in v6_28 256 ∧ (∀ M32 : zh_M, M32 = zh_set M31 42 v6_28.toNatClampNeg (zI ptrs) → vp_in v6_28 256 ∧ (∀ M33 : zh_M, M33 = zh_set M32 43 v6_28.toNatClampNeg (vp_nar .boolean (M32 39 23)) → ∃ n44 : Nat, wl_X5_make_183 (zI f) (zI k) (zI size) (zI ptrs) (zI (a_slot size)) (v6_28) (fun M36 => ∀ M40 : zh_M, M40 = zh_set M36 39 28 ((M36 39 28) + zI (a_slot size)) → wp_X5_place M40 (zI f) (zI k) (fun r42 M41 => vp_in r42 384 ∧ (∀ M43 : zh_M, M43 = zh_set M41 52 r42.toNatClampNeg v6_28 → P v6_28 M43))) P n44 (zI 0) M33)))) ∧ (¬ zI 0 ≤ v6_28 → P (zI (-2)) M29)) P n45 r6 (zI 0) M5) := by
  have g := a_slot_rg (n := size) (by omega) s2
  refine rs_retry s1 s2 h hJ (fun M29 h29 => ?_)
  have hany := J_any hJ s1 s2 p1 p2
  have e2 := k2_any (A := A) (size := size) (ptrs := ptrs)
  have e3 := k3_any (A := A) (size := size) (ptrs := ptrs)
  have e13 := k13_any (A := A) (size := size) (ptrs := ptrs)
  have ea := a_any_seat (A := A) (ptrs := ptrs) hJ s1 s2
  obtain ⟨c1, c2⟩ := c_seat_J hJ s1 s2
  rw [ea] at hP hany e2 e3 e13
  clear ea
  generalize c_seat A (a_slot size) = c at *
  by_cases e : c.1 = -1
  · simp only [if_pos e] at hP
    rw [e]
    exact zk_m (fun z => by omega) (fun _ => hP _ h29)
  simp only [if_neg e] at hP hany e2 e3 e13
  obtain ⟨u, u1, u2, u3, u4, u5, u6⟩ := c2 e
  have hJ2 := J_148 (v := a_slot size) hany.1 hN (by omega) (by omega)
  have ext : 2 * (u : Int) + size ≤ 256 := by
    obtain ⟨fJ, -⟩ := J_fillS c1 u1 u3 u4 u5 u6 s1 s2 p1 p2
    have hz : a_fillS c.2 (2 * u) size ptrs (if c.2 14 5 = 0 then 0 else 1) 18 u = size := by
      unfold a_fillS
      rw [a_wds_pt, if_neg (by omega), show 2 * u / 2 = u by omega]
      exact (as_id (by decide)).trans ((as_id (by decide)).trans (as_same _ 18 u size))
    have := (fJ.2.2.2.2.1.ext u1 (by rw [hz]; omega)).1
    rw [hz] at this
    exact this
  rw [u2, show (2 * (u : Int)).toNat = 2 * u by omega] at hP hany hJ2 e2 e3 e13
  rw [u2]
  rw [zI_cl (a := 2 * (u : Int)) (by omega) (by omega), show (2 * (u : Int)).toNat = 2 * u by omega]
  refine zk_m (fun _ => ⟨zk_i, fun M31 e31 => ⟨zk_i, fun M32 e32 => ⟨zk_i, fun M33 e33 => ⟨size.toNat + 1, ?_⟩⟩⟩⟩) (fun z => by omega)
  subst e31
  subst e32
  have h32 := (h29.sz_ (v := size) u1).pc_ (v := ptrs) u1
  rw [h32.mk, as_id (by decide), as_id (by decide), zI_nar c1.co.1] at e33
  subst e33
  have h33 := h32.yo_ (i := 2 * u) (v := c.2 14 5) (by omega)
  have h34 : RR _ (aset (aset (aset c.2 28 u ptrs) 33 (2 * u) (c.2 14 5)) 18 u size) M0 := h33.congr (fun a j _ => by
    unfold aset
    by_cases z1 : a = 33 ∧ j = 2 * u
    · rw [if_pos z1, if_neg (by omega), if_pos z1]
    · rw [if_neg z1]
      by_cases z2 : a = 28 ∧ j = u
      · rw [if_pos z2, if_neg (by omega), if_neg z1, if_pos z2]
      · rw [if_neg z2, if_neg z1, if_neg z2])
  have h35 := (h34.skp (a := 19) (k := u) (v := ptrs) rfl).skp (a := 20) (k := u) (v := if c.2 14 5 = 0 then 0 else 1) rfl
  refine rs_wds (a := 2 * u) s2 (by omega) p1 (by omega) size.toNat 0 _ _ h35 (by omega) (fun M36 h36 M40 e40 => ?_)
  have h37 : RR M36 (a_fillS c.2 (2 * u) size ptrs (if c.2 14 5 = 0 then 0 else 1)) M0 := by
    unfold a_fillS
    rw [show 2 * u / 2 = u by omega]
    exact h36
  generalize a_fillS c.2 (2 * u) size ptrs (if c.2 14 5 = 0 then 0 else 1) = F at *
  rw [h37.fh, zI_add] at e40
  subst e40
  have h40 := h37.fh_ (v := F 14 8 + a_slot size)
  have hi : f.toNat < 6 := by omega
  have z2 : aset F 14 8 (F 14 8 + a_slot size) 2 f.toNat ≠ 0 := by rw [as_id (by decide)]; show F 2 f.toNat ≠ 0; rw [e2]; exact hl
  have zc : a_ci (aset F 14 8 (F 14 8 + a_slot size)) f.toNat k ≠ -1 := by
    have : a_ci (aset F 14 8 (F 14 8 + a_slot size)) f.toNat k = a_ci A f.toNat k := by
      unfold a_ci
      rw [as_rne (by decide), as_rne (by decide), e3, e13]
    rw [this]
    exact hc
  have hF := hJ2.2.2.1
  obtain ⟨f1, f2⟩ := hF.fs.2 _ hi z2
  obtain ⟨y1, y2, y3⟩ := (b_pl_rg (k := k) g1 f1 f2).2 zc
  refine rs_place h40 g1 g2 hk f1 f2 (hF.lk _ hi z2).1 ?_
  rw [zI_cl y1 (by omega), y3]
  refine ⟨zk_i, fun M43 e43 => ?_⟩
  subst e43
  rw [a_fc, if_neg zc] at hP
  exact hP _ (h40.ce_ (by omega))
theorem rs_make {P : Int32 → zh_M → Prop} {f k size ptrs : Int} (h : RR M A M0) (hJ : JJ N A) (hN : N + 1 ≤ 1000) (hb : zb f) (hk : zb k) (hz : zb size) (hp : zb ptrs) (hP : ∀ M', RR M' (a_make A f k size ptrs).2 M0 → P (zI (a_make A f k size ptrs).1) M') : wp_X5_make M (zI f) (zI k) (zI size) (zI ptrs) P := by
  obtain ⟨z1, z2⟩ := hz
  obtain ⟨y1, y2⟩ := hp
  have hF := hJ.2.2.1
  have hco := hJ.co.1
  unfold wp_X5_make
  refine rs_cell h hb hk hF.fs hF.lk (fun w => zk_e (fun z => by omega) (fun _ => ?_)) (fun w => zk_e (fun _ => ?_) (fun z => absurd rfl z))
  · refine zk_l (fun q1 => ?_) (fun q1 => zk_l (fun q2 => ?_) (fun q2 => zk_l (fun q3 => ?_) (fun q3 => zk_m (fun q4 => ?_) (fun q4 => ?_))))
    · rw [a_make, if_neg (by omega)] at hP
      exact hP _ h
    · rw [a_make, if_neg (by omega)] at hP
      exact hP _ h
    · rw [a_make, if_neg (by omega)] at hP
      exact hP _ h
    · rw [a_make, if_pos ⟨w.1, w.2, q1, q2, q3, q4⟩] at hP
      obtain ⟨⟨w1, w2, w3⟩, w4⟩ := w
      have g := a_slot_rg (n := size) (by omega) q2
      have hpj := J_pre (slot := a_slot size) hJ
      have e2 := k2_pre (A := A) (slot := a_slot size)
      have e3 := k3_pre (A := A) (slot := a_slot size)
      have e13 := k13_pre (A := A) (slot := a_slot size)
      have hl : a_pre A (a_slot size) 2 f.toNat ≠ 0 := by rw [e2, w3]; decide
      have hc : a_ci (a_pre A (a_slot size)) f.toNat k ≠ -1 := by
        have : a_ci (a_pre A (a_slot size)) f.toNat k = a_ci A f.toNat k := by
          unfold a_ci
          rw [e3, e13]
        rw [this]
        exact w4
      have tail : ∀ M', RR M' (a_pre A (a_slot size)) M0 → _ := fun M' hM => rs_mtail (P := P) hN w1 w2 hk q1 q2 q3 q4 hM hpj hl hc hP
      have hn := hJ.2.2.2.2.2.2.2.2
      have hN2 := hJ.2.1
      obtain ⟨n1, n2, n3, n4⟩ := hn
      unfold a_pre at tail
      refine rs_slot (by omega) q2 ?_
      rw [h.mk, h.fh, h.tg]
      refine zk_n (fun c => zk_e (fun z => absurd z c) (fun _ => ?_)) (fun c => zk_l (fun c2 => zk_e (fun _ => ?_) (fun z => absurd c z)) (fun c2 => ?_))
      · simp only [if_neg (show ¬ (A 14 5 = 0 ∧ A 14 9 ≤ A 14 8) from fun w => c w.1), if_neg c] at tail
        exact rs_work (by omega) (by omega) h hJ c (fun M' hM => tail M' hM)
      · simp only [if_neg (show ¬ (A 14 5 = 0 ∧ A 14 9 ≤ A 14 8) from fun w => by have := w.2; omega), if_pos c] at tail
        exact tail _ h
      · obtain ⟨cj, c5⟩ := J_cycle hJ
        have q3 : ¬ a_cycle A 14 5 = 0 := by rw [c5]; decide
        simp only [if_pos (show A 14 5 = 0 ∧ A 14 9 ≤ A 14 8 from ⟨c, c2⟩), if_neg q3] at tail
        refine rs_cycle JG JGs h hJ hJ.chr (fun M' hM => ?_)
        rw [hM.mk, c5]
        exact zk_e (fun z => by omega) (fun _ => rs_work (by omega) (by omega) hM cj q3 (fun M'' hM2 => tail M'' hM2))
    · rw [a_make, if_neg (by omega)] at hP
      exact hP _ h
  · rw [a_make, if_neg (fun w2 => w ⟨w2.1, w2.2.1⟩)] at hP
    exact hP _ h
theorem rs_collect2 {P : Int32 → zh_M → Prop} (h : RR M A M0) (hJ : JJ N A) (hP : ∀ M', RR M' (a_collect A).2 M0 → P (zI (a_collect A).1) M') : wp_X5_collect M P := by
  have c1 := hJ.co.1
  unfold wp_X5_collect
  rw [h.mk]
  refine zk_e (fun q => ?_) (fun q => ?_)
  · rw [a_collect, if_pos q] at hP
    exact rs_cycle JG JGs h hJ hJ.chr hP
  · rw [a_collect, if_neg q] at hP
    exact hP _ h
end RMA
