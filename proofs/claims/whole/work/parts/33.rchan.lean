theorem as_self {A : zA} {a k : Nat} {v : Int} (h : A a k = v) : aset A a k v = A := by
  funext x y
  unfold aset
  split
  · rename_i e
    rw [e.1, e.2, h]
  · rfl
theorem a_mk_as {A : zA} {a k : Nat} {v p : Int} (h1 : a ≠ 14) (h2 : a ≠ 20) (h3 : a ≠ 23) : a_mk (aset A a k v) p = aset (a_mk A p) a k v := by
  unfold a_mk
  rw [as_id (Ne.symm h1), as_id (Ne.symm h2), as_id (Ne.symm h1)]
  split
  · rfl
  · rw [as_comm h2, as_comm h3, as_comm h1]
theorem a_note_as {A : zA} {a k : Nat} {v p : Int} (h1 : a ≠ 14) (h2 : a ≠ 20) (h3 : a ≠ 23) (h4 : a ≠ 24) : a_note (aset A a k v) p = aset (a_note A p) a k v := by
  unfold a_note
  rw [as_id (Ne.symm h1)]
  split
  · rfl
  · rw [a_mk_as h1 h2 h3, as_comm h4]
theorem a_shift_note {c : Nat} {p : Int} : ∀ (n r : Nat) (A : zA), a_shift c n r (a_note A p) = a_note (a_shift c n r A) p := by
  intro n
  induction n with
  | zero => intro r A; rfl
  | succ n ih =>
    intro r A
    rw [a_shift, a_shift, a_note_m, ← a_note_as (by decide) (by decide) (by decide) (by decide), ih]
theorem a_shift_as {c a k : Nat} {v : Int} (h : a ≠ 21) : ∀ (n r : Nat) (A : zA), a_shift c n r (aset A a k v) = aset (a_shift c n r A) a k v := by
  intro n
  induction n with
  | zero => intro r A; rfl
  | succ n ih =>
    intro r A
    rw [a_shift, a_shift, as_id (Ne.symm h), as_comm h, ih]
theorem a_rem_note {A : zA} {c : Nat} {p : Int} : a_rem (a_note A p) c = a_note (a_rem A c) p := by
  unfold a_rem
  rw [a_note_m, ← a_note_as (by decide) (by decide) (by decide) (by decide), a_shift_note]
theorem a_rem_as {A : zA} {c a k : Nat} {v : Int} (h1 : a ≠ 21) (h2 : a ≠ 22) : a_rem (aset A a k v) c = aset (a_rem A c) a k v := by
  unfold a_rem
  rw [as_id (Ne.symm h2), as_comm h2, a_shift_as h1]
theorem a_addL_as {A : zA} {c a k : Nat} {v p : Int} (h1 : a ≠ 21) (h2 : a ≠ 22) : a_addL (aset A a k v) c p = aset (a_addL A c p) a k v := by
  unfold a_addL
  rw [as_id (Ne.symm h2)]
  split
  · rw [as_comm h1, as_comm h2]
  · rfl
abbrev iWt (A : zA) : Prop := ∀ i, i < 6 → (A 2 i = 2 ∨ A 2 i = 3) → A 29 i = A 11 i + 1 ∧ 0 ≤ A 11 i ∧ A 11 i < 1000000 ∧ a_ci A i (A 30 i) = A 8 i ∧ 0 ≤ A 8 i ∧ zb (A 30 i)
section RCH
variable {M M0 : zh_M} {A : zA}
theorem rs_first_loop {P : Int32 → zh_M → Prop} {s c : Int} (h : RR M A M0) (hs : iSt A) (hw : iWa A) (ht : iWt A) (hs0 : s = 2 ∨ s = 3) (hc : zb c) : ∀ (k i : Nat) (b : Int), i + k = 6 → (b = -1 ∨ (0 ≤ b ∧ b < 6 ∧ A 2 b.toNat = s)) → P (zI (a_firstF A s c k i b)) M → wl_X5_firstAt_5 (zI c) (zI s) P (k + 1) (zI b) (zI (i : Int)) M := by
  obtain ⟨c1, c2⟩ := hc
  intro k
  induction k with
  | zero =>
    intro i b hi hb hP
    unfold wl_X5_firstAt_5
    exact zk_m (fun _ => hP) (fun q => by omega)
  | succ k ih =>
    intro i b hi hb hP
    have hi2 : i < 6 := by omega
    have hsi := hs i hi2
    obtain ⟨⟨x1, x2⟩, ⟨x3, x4⟩, -⟩ := hw i hi2
    have hbb : -1 ≤ b ∧ b < 6 := by omega
    unfold wl_X5_firstAt_5
    rw [zI_cl (a := (i : Int)) (by omega) (by omega), show ((i : Int)).toNat = i by omega, h.st hi2, h.aw hi2, h.oa hi2, zI_add]
    have tail : A 2 i = s → (A 9 i = c ∨ A 10 i = c) → (zI b < zI 0 → wl_X5_firstAt_5 (zI c) (zI s) P (k + 1) (zI (i : Int)) (zI ((i : Int) + 1)) M) ∧ (¬ zI b < zI 0 → vp_in (zI (i : Int)) 6 ∧ (vp_in (zI b) 6 ∧ (((M 55 (zI b).toNatClampNeg) ≤ (M 55 i) → wl_X5_firstAt_5 (zI c) (zI s) P (k + 1) (zI b) (zI ((i : Int) + 1)) M) ∧ (¬ (M 55 (zI b).toNatClampNeg) ≤ (M 55 i) → wl_X5_firstAt_5 (zI c) (zI s) P (k + 1) (zI (i : Int)) (zI ((i : Int) + 1)) M)))) := by
      intro e1 e2
      refine zk_l (fun q => ?_) (fun q => ?_)
      · rw [a_firstF, if_pos ⟨e1, e2, Or.inl (by omega)⟩] at hP
        exact ih (i + 1) i (by omega) (Or.inr ⟨by omega, by omega, by rw [Int.toNat_natCast]; exact e1⟩) hP
      · have hb2 := hb.resolve_left (by omega)
        have hb3 : b.toNat < 6 := by omega
        obtain ⟨t1, t2, t3, -⟩ := ht i hi2 (by omega)
        obtain ⟨t4, t5, t6, -⟩ := ht b.toNat hb3 (by have := hb2.2.2; omega)
        rw [zI_cl (a := b) q (by omega), h.si hb3, h.si hi2, t1, t4]
        refine ⟨zk_i, zk_i, zk_m (fun q2 => ?_) (fun q2 => ?_)⟩
        · rw [a_firstF, if_neg (fun w => w.2.2.elim (fun e => by omega) (fun e => by omega))] at hP
          exact ih (i + 1) b (by omega) hb hP
        · rw [a_firstF, if_pos ⟨e1, e2, Or.inr (by omega)⟩] at hP
          exact ih (i + 1) i (by omega) (Or.inr ⟨by omega, by omega, by rw [Int.toNat_natCast]; exact e1⟩) hP
    refine zk_m (fun q => by omega) (fun _ => ⟨zk_i, zk_n (fun q => ?_) (fun q => ⟨zk_i, zk_e (fun q1 => tail q (Or.inl q1)) (fun q1 => ⟨zk_i, zk_n (fun q2 => ?_) (fun q2 => tail q (Or.inr q2))⟩)⟩)⟩)
    · rw [a_firstF, if_neg (fun w => q w.1)] at hP
      exact ih (i + 1) b (by omega) hb hP
    · rw [a_firstF, if_neg (fun w => w.2.1.elim q1 q2)] at hP
      exact ih (i + 1) b (by omega) hb hP
theorem rs_first {P : Int32 → zh_M → Prop} {s c : Int} (h : RR M A M0) (hs : iSt A) (hw : iWa A) (ht : iWt A) (hs0 : s = 2 ∨ s = 3) (hc : zb c) (hP : P (zI (a_first A s c)) M) : wp_X5_firstAt M (zI c) (zI s) P := ⟨7, rs_first_loop h hs hw ht hs0 hc 6 0 (-1) (by omega) (Or.inl rfl) hP⟩
theorem rs_wait {P : zh_M → Prop} {f s k c d : Int} (h : RR M A M0) (g1 : 0 ≤ f) (g2 : f < 6) (hP : ∀ M', RR M' (a_wait A f.toNat s k c d) M0 → P M') : wp_X5_waitFor M (zI f) (zI s) (zI k) (zI c) (zI d) P := by
  have hi : f.toNat < 6 := by omega
  unfold wp_X5_waitFor
  intro M1 e1
  rw [h.clock, zI_add] at e1
  subst e1
  have h1 := h.clock_ (v := A 14 0 + 1)
  rw [zI_cl g1 (by omega)]
  refine ⟨zk_i, fun M2 e2 => ⟨zk_i, fun M3 e3 => ⟨zk_i, fun M4 e4 => ⟨zk_i, fun M5 e5 => ⟨zk_i, fun M6 e6 => ?_⟩⟩⟩⟩⟩
  subst e2
  have h2 := h1.st_ (v := s) hi
  rw [h2.clock, as_id (by decide), as_same] at e3
  subst e3; subst e4; subst e5; subst e6
  have h4 := (h2.si_ (v := A 14 0 + 1) hi).inn_ (v := k) hi
  rw [as_comm (a := 2) (b := 29) (by decide), as_comm (a := 2) (b := 30) (by decide)] at h4
  exact hP _ ((((h4.skp (a := 8) (k := f.toNat) (v := a_ci A f.toNat k) rfl).aw_ hi).oa_ hi).skp rfl)
theorem rs_hand {P : zh_M → Prop} {g k p c : Int} (h : RR M A M0) (g1 : 0 ≤ g) (g2 : g < 6) (hk : zb k) (hf : iFr A g.toNat) (hr : iRf A g.toNat) (hl : A 25 g.toNat = A 3 g.toNat) (hc : a_ci A g.toNat k ≠ -1) (hP : ∀ M', RR M' (gset (aset (aset A 2 g.toNat 1) 12 (64 * g.toNat + (a_ci A g.toNat k).toNat) p) 7 27 g.toNat c) M0 → P M') : wp_X5_hand M (zI g) (zI k) (zI p) (zI c) P := by
  have hi : g.toNat < 6 := by omega
  obtain ⟨x1, x2, x3⟩ := (b_pl_rg (k := k) g1 hf hr).2 hc
  unfold wp_X5_hand
  refine rs_place h g1 g2 hk hf hr hl ?_
  rw [zI_cl x1 (by omega), x3, zI_cl g1 (by omega)]
  refine ⟨zk_i, fun M3 e3 => ⟨zk_i, fun M4 e4 => ⟨zk_i, fun M5 e5 => ?_⟩⟩⟩
  subst e3; subst e4; subst e5
  have h5 := (((h.ce_ (i := 64 * g.toNat + (a_ci A g.toNat k).toNat) (v := p) (by omega)).tk_ (v := c) hi).st_ (v := 1) hi).skp (a := 7) (k := g.toNat) (v := c) rfl
  rw [as_comm (a := 27) (b := 2) (by decide), as_comm (a := 12) (b := 2) (by decide)] at h5
  exact hP _ h5
theorem rs_enter {P : zh_M → Prop} {c p : Int} (h : RR M A M0) (c1 : 0 ≤ c) (c2 : c < 4) (hC : iCo A) (hp : -1 ≤ p ∧ p < 256) (hl : 0 ≤ A 22 c.toNat) (hl2 : A 22 c.toNat < c) (hP : ∀ M', RR M' (a_addL (a_note A p) c.toNat p) M0 → P M') : wp_X5_enter M (zI c) (zI p) P := by
  have hc4 : c.toNat < 4 := by omega
  unfold wp_X5_enter
  refine rs_note h hC hp (fun M1 h1 => ?_)
  rw [zI_cl c1 (by omega), h1.le hc4, a_note_m, zI_mul, zI_add, zI_cl (a := 4 * c + A 22 c.toNat) (by omega) (by omega)]
  refine ⟨zk_i, zk_i, fun M2 e2 => ⟨zk_i, zk_i, fun M3 e3 => ?_⟩⟩
  subst e2
  have h2 := h1.qu_ (i := (4 * c + A 22 c.toNat).toNat) (v := p) (by omega)
  rw [h2.le hc4, as_id (by decide), a_note_m, zI_add] at e3
  subst e3
  rw [a_addL, a_note_m, if_pos (by omega), show 4 * c.toNat + (A 22 c.toNat).toNat = (4 * c + A 22 c.toNat).toNat by omega] at hP
  exact hP _ (h2.le_ hc4)
theorem rs_send {P : Int32 → zh_M → Prop} {f k c : Int} (h : RR M A M0) (hb : zb f) (hk : zb k) (hc : zb c) (hF : iFs A) (hL : iLk A) (hW : iWa A) (hT : iWt A) (hC : iCo A) (hch : iCh A) (hok : iOk A) (hP : ∀ M', RR M' (a_send A f k c).2 M0 → P (zI (a_send A f k c).1) M') : wp_X5_send M (zI f) (zI k) (zI c) P := by
  obtain ⟨b1, b2⟩ := hc
  unfold wp_X5_send
  refine rs_cell h hb hk hF hL (fun v => zk_e (fun q => by omega) (fun _ => zk_l (fun q => ?_) (fun q => zk_m (fun q1 => ?_) (fun q1 => ?_)))) (fun v => zk_e (fun _ => ?_) (fun q => absurd rfl q))
  · rw [a_send, if_neg (fun e => by have := e.2.2.1; omega)] at hP
    exact hP _ h
  · have g1 := v.1.1
    have g2 := v.1.2.1
    have hl : A 2 f.toNat ≠ 0 := by rw [v.1.2.2]; decide
    have hi : f.toNat < 6 := by omega
    obtain ⟨f1, f2⟩ := hF.2 _ hi hl
    have ho := hok _ hi hl k
    have hbz : -1 ≤ a_pf A f.toNat k ∧ a_pf A f.toNat k < 256 := by omega
    have hc4 : c.toNat < 4 := by omega
    obtain ⟨d1, d2, -⟩ := hch _ hc4
    unfold a_send at hP
    rw [if_pos ⟨v.1, v.2, q, by omega⟩] at hP
    simp only at hP
    refine rs_value h g1 g2 hk f1 f2 (hL _ hi hl).1 (rs_first h hF.1 hW hT (Or.inr rfl) ⟨b1, b2⟩ ?_)
    have hg := a_first_rg A 3 c
    have hg2 : -1 ≤ a_first A 3 c ∧ a_first A 3 c < 6 := by omega
    refine zk_l (fun q2 => ?_) (fun q2 => ?_)
    · rw [if_pos (by omega)] at hP
      rw [zI_cl q (by omega), h.le hc4]
      refine ⟨zk_i, zk_m (fun q3 => ?_) (fun q3 => ?_)⟩
      · rw [if_neg (by omega)] at hP
        exact rs_wait h g1 g2 hP
      · rw [if_pos q3] at hP
        exact rs_enter h q (by omega) hC hbz d1 q3 hP
    · rw [if_neg (by omega)] at hP
      obtain ⟨x1, x2, x3, x4⟩ := hg.resolve_left (by omega)
      have hgi : (a_first A 3 c).toNat < 6 := by omega
      have hgl : A 2 (a_first A 3 c).toNat ≠ 0 := by rw [x3]; decide
      obtain ⟨y1, y2⟩ := hF.2 _ hgi hgl
      obtain ⟨t1, t2, t3, t4, t5, t6⟩ := hT _ hgi (Or.inr x3)
      refine rs_note h hC hbz (fun M9 h9 => ⟨zk_i, ?_⟩)
      rw [zI_cl q2 (by omega), h9.inn hgi, a_note_m]
      have eci : a_ci (a_note A (a_pf A f.toNat k)) (a_first A 3 c).toNat (A 30 (a_first A 3 c).toNat) = A 8 (a_first A 3 c).toNat := by
        rw [← t4]
        unfold a_ci
        rw [a_note_m, a_note_m]
      refine rs_hand h9 x1 x2 t6 ?_ ?_ ?_ ?_ ?_
      · unfold iFr
        rw [a_note_m]
        exact y1
      · intro j j1 j2
        rw [a_note_m] at j2
        rw [a_note_m]
        exact y2 j j1 j2
      · rw [a_note_m, a_note_m]
        exact (hL _ hgi hgl).1
      · rw [eci]
        omega
      · rw [eci]
        exact hP
  · rw [a_send, if_neg (fun e => by have := e.2.2.2; omega)] at hP
    exact hP _ h
  · rw [a_send, if_neg (fun e => v ⟨e.1, e.2.1⟩)] at hP
    exact hP _ h
end RCH
