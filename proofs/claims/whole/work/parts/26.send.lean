theorem a_note_m {A : zA} {p : Int} {a k : Nat} (h1 : a ≠ 20 := by decide) (h2 : a ≠ 23 := by decide) (h3 : a ≠ 14 := by decide) (h4 : a ≠ 24 := by decide) : a_note A p a k = A a k := a_note_at h1 h2 (fun e => h3 e.1) h4
theorem iCh_note {A : zA} {p : Int} (h : iCh A) : iCh (a_note A p) := fun c hc => by
  have := h c hc
  rw [a_note_m]
  exact ⟨this.1, this.2.1, fun r hr => by rw [a_note_m]; exact this.2.2 r hr⟩
section SND
variable {M M0 : zh_M} {A : zA}
theorem cs_send {P : Int32 → zh_M → Prop} {f k c : Int} (h : RC M A M0) (hb : zb f) (hk : zb k) (hc : zb c) (hF : iFs A) (hW : iWa A) (hA : iHp A) (hC : iCo A) (hch : iCh A) (hcp : ∀ i, i < 6 → A 2 i ≠ 0 → zb (a_pf A i k)) (hwc : ∀ i, i < 6 → A 2 i = 3 → 0 ≤ A 8 i ∧ A 8 i < 64) (hP : ∀ M', RC M' (a_send A f k c).2 M0 → P (zI (a_send A f k c).1) M') : wp_X4_send M (zI f) (zI k) (zI c) P := by
  obtain ⟨hs, hf⟩ := hF
  unfold wp_X4_send
  refine cs_ready h hb hs (fun w0 => zk_o (fun q => by cases q) (fun o q => ?_)) (fun w0 => zk_o (fun _ => ?_) (fun o q => by cases q))
  · cases q
    obtain ⟨w1, w2, w3⟩ := w0
    have hi : f.toNat < 6 := by omega
    have hl : A 2 f.toNat ≠ 0 := by rw [w3]; decide
    obtain ⟨f1, f2⟩ := hf f.toNat hi hl
    have hcz := hcp f.toNat hi hl
    refine ⟨zf_Fiber_of hi, cs_isCell h hi hk f1 f2 (fun w4 => zk_e (fun q => by omega) (fun _ => cs_isch hc (fun w5 => zk_n (fun _ => cs_pointerFrom h hi hk f1 f2 (cs_first h hs hW ⟨by omega, by omega⟩ hc ?_)) (fun q => by omega)) (fun w5 => zk_n (fun q => absurd rfl q) (fun _ => ?_)))) (fun w4 => zk_e (fun _ => ?_) (fun q => absurd rfl q))⟩
    · obtain ⟨c1, c2⟩ := w5
      have hc4 : c.toNat < 4 := by omega
      have hcc : (c.toNat : Int) = c := by omega
      unfold a_send at hP
      rw [if_pos ⟨⟨w1, w2, w3⟩, w4, c1, c2⟩] at hP
      simp only at hP
      refine zob_k (fun e => ?_) (fun e => ?_)
      · rw [if_pos e] at hP
        rw [zi_Channel_n c c1 c2]
        refine ⟨zk_i, cs_space h hc4 ⟨(hch _ hc4).1, (hch _ hc4).2.1⟩ (fun w6 => zk_e (fun q => by omega) (fun _ => cs_note h hA hC hcz (fun M1 h1 => ⟨zk_i, cs_addL h1 hc4 (by rw [a_note_m]; exact ⟨(hch _ hc4).1, (hch _ hc4).2.1⟩) (fun M2 h2 => ?_)⟩))) (fun w6 => zk_e (fun _ => cs_wait h hi hk f1 (fun M2 h2 => ?_)) (fun q => absurd rfl q))⟩
        · rw [hcc] at w6
          rw [if_pos w6] at hP
          exact hP _ h2
        · rw [hcc] at w6
          rw [if_neg w6] at hP
          exact hP _ h2
      · rw [if_neg e] at hP
        obtain ⟨g1, g2, g3, g4⟩ := (a_first_rg A 3 c).resolve_left e
        have hg : (a_first A 3 c).toNat < 6 := by omega
        obtain ⟨v1, v2⟩ := hwc _ hg g3
        refine ⟨zf_Fiber_of hg, cs_note h hA hC hcz (fun M1 h1 => ?_)⟩
        unfold wp_X2_endTaking
        intro M2 e2
        subst e2
        have h2 := h1.st_ (v := 1) hg
        rw [h2.wc hg, as_id (by decide), a_note_m, zI_cl (by omega) (by omega)]
        refine ⟨zk_i, fun M3 e3 M4 e4 => ?_⟩
        subst e3; subst e4
        exact hP _ (((h2.ce_ hg (by omega)).ghost (by decide)).tk_ hg)
    · rw [a_send, if_neg (fun e => w5 ⟨e.2.2.1, e.2.2.2⟩)] at hP
      exact hP _ h
    · rw [a_send, if_neg (fun e => e.2.1 w4)] at hP
      exact hP _ h
  · rw [a_send, if_neg (fun e => w0 e.1)] at hP
    exact hP _ h
theorem cs_gives {P : Int32 → zh_M → Prop} {c : Int} (h : RC M A M0) (hs : iSt A) (hW : iWa A) (hch : iCh A) (c1 : 0 ≤ c) (c2 : c < 4) (h1 : a_gives A c → P (zI 1) M) (h0 : ¬ a_gives A c → P (zI 0) M) : wp_X4_canGive M (zI c) P := by
  have hc4 : c.toNat < 4 := by omega
  obtain ⟨g1, g2, -⟩ := hch c.toNat hc4
  unfold wp_X4_canGive
  rw [zi_Channel_n c c1 c2, h.le hc4]
  refine ⟨zk_i, zk_l (fun q => h1 (Or.inl q)) (fun q => cs_first h hs hW ⟨by omega, by omega⟩ ⟨by omega, by omega⟩ (zob_k (fun e => h0 (fun w => w.elim (fun w => by omega) (fun w => w e))) (fun e => ?_)))⟩
  obtain ⟨g3, g4, -⟩ := (a_first_rg A 2 c).resolve_left e
  exact ⟨zf_Fiber_of (by omega), h1 (Or.inr e)⟩
theorem cs_shift_loop {P : Int32 → zh_M → Prop} {c : Nat} (hc : c < 4) {v : Int32} {n : Int} (n2 : n < (c : Int)) : ∀ (k r : Nat) (M : zh_M) (A : zA), RC M A M0 → A 22 c = n → (r : Int) + k = n → (∀ M', RC M' (a_shift c k r A) M0 → P v M') → wl_X0_removeFirst_28 (29 + 2 * c) v P (k + 1) (zI (r : Int)) M := by
  intro k
  induction k with
  | zero =>
    intro r M A h hn hr hP
    unfold wl_X0_removeFirst_28
    rw [h.le hc, hn]
    exact zk_m (fun _ => hP _ h) (fun q => by omega)
  | succ k ih =>
    intro r M A h hn hr hP
    unfold wl_X0_removeFirst_28
    rw [h.le hc, hn, zl_Ch, zI_add, zI_cl (a := (r : Int) + 1) (by omega) (by omega), zI_cl (a := (r : Int)) (by omega) (by omega), show ((r : Int) + 1).toNat = r + 1 by omega, show ((r : Int)).toNat = r by omega, h.qu hc (by omega)]
    refine zk_m (fun q => by omega) (fun _ => ⟨zk_i, zk_i, fun M2 e2 => ?_⟩)
    subst e2
    exact ih (r + 1) _ _ (h.qu_ hc (by omega)) (by rw [as_id (by decide)]; exact hn) (by omega) hP
theorem cs_rem {P : Int32 → zh_M → Prop} {c : Nat} (h : RC M A M0) (hc : c < 4) (hch : iCh A) (hn : A 22 c ≠ 0) (hP : ∀ M', RC M' (a_rem A c) M0 → P (zI (A 21 (4 * c))) M') : wp_X0_removeFirst M (29 + 2 * c) P := by
  obtain ⟨g1, g2, -⟩ := hch c hc
  unfold wp_X0_removeFirst
  rw [h.le hc, zl_Ch, zI_sub, zI_cl (a := 0) (by omega) (by omega), h.qu hc (by omega)]
  refine zk_n (fun _ => ⟨zk_i, fun M1 e1 => ⟨(A 22 c - 1).toNat + 1, ?_⟩⟩) (fun q => absurd q hn)
  subst e1
  exact cs_shift_loop hc (n := A 22 c - 1) (by omega) (A 22 c - 1).toNat 0 _ _ (h.le_ hc) (as_same _ _ _ _) (by omega) hP
theorem a_shift_at {c a k : Nat} (h1 : a ≠ 21) : ∀ (n r : Nat) (A : zA), a_shift c n r A a k = A a k := by
  intro n
  induction n with
  | zero => intro r A; rfl
  | succ n ih => intro r A; rw [a_shift, ih, as_id h1]
theorem cs_out {P : Int32 → zh_M → Prop} {c : Int} (h : RC M A M0) (hs : iSt A) (hW : iWa A) (hA : iHp A) (hC : iCo A) (hch : iCh A) (c1 : 0 ≤ c) (c2 : c < 4) (hwc : ∀ i, i < 6 → A 2 i = 2 → (0 ≤ A 8 i ∧ A 8 i < 64) ∧ zb (A 12 (64 * i + (A 8 i).toNat))) (hP : ∀ M', RC M' (a_out A c.toNat).2 M0 → P (zI (a_out A c.toNat).1) M') : wp_X4_pointerOutOf M (zI c) P := by
  have hc4 : c.toNat < 4 := by omega
  have hcc : (c.toNat : Int) = c := by omega
  obtain ⟨g1, g2, g0⟩ := hch c.toNat hc4
  unfold wp_X4_pointerOutOf
  unfold a_out at hP
  simp only at hP
  rw [hcc] at hP
  rw [zi_Channel_n c c1 c2]
  refine cs_first h hs hW ⟨by omega, by omega⟩ ⟨by omega, by omega⟩ (zob_k (fun e => ?_) (fun e => ?_))
  · simp only [if_pos e] at hP
    refine cs_note h hA hC ⟨by omega, by omega⟩ (fun M1 h1 => ⟨zk_i, ?_⟩)
    have en : a_note A (-1) = A := by rw [a_note, if_pos (Or.inr (Or.inl (by omega)))]
    rw [en] at h1
    rw [h1.le hc4]
    refine zk_n (fun q => ?_) (fun q => ?_)
    · rw [if_neg q] at hP
      exact cs_rem h1 hc4 hch q hP
    · rw [if_pos q] at hP
      exact hP _ h1
  · simp only [if_neg e] at hP
    obtain ⟨g3, g4, g5, g6⟩ := (a_first_rg A 2 c).resolve_left e
    have hg : (a_first A 2 c).toNat < 6 := by omega
    obtain ⟨⟨v1, v2⟩, v3⟩ := hwc _ hg g5
    refine ⟨zf_Fiber_of hg, ?_⟩
    unfold wp_X2_endSending
    intro M1 e1
    subst e1
    have h1 := h.st_ (v := 1) hg
    have hA1 : iHp (aset A 2 (a_first A 2 c).toNat 1) := iHp_ hA (fun e => by omega) (fun e => by omega) (fun e => by omega) (fun e => by omega)
    have hC1 : iCo (aset A 2 (a_first A 2 c).toNat 1) := by
      unfold iCo
      rw [as_id (by decide), as_id (by decide)]
      exact hC
    have hch1 : iCh (aset A 2 (a_first A 2 c).toNat 1) := fun d hd => by
      have := hch d hd
      rw [as_id (by decide)]
      exact ⟨this.1, this.2.1, fun r hr => by rw [as_id (by decide)]; exact this.2.2 r hr⟩
    rw [h1.wc hg, as_id (by decide), zI_cl (by omega) (by omega), h1.ce hg (by omega), as_id (by decide)]
    refine ⟨zk_i, cs_note h1 hA1 hC1 v3 (fun M2 h2 => ⟨zk_i, ?_⟩)⟩
    have en : ∀ p, a_note (aset A 2 (a_first A 2 c).toNat 1) p 22 c.toNat = A 22 c.toNat := fun p => by rw [a_note_m, as_id (by decide)]
    rw [h2.le hc4]
    have hch2 := iCh_note (p := A 12 (64 * (a_first A 2 c).toNat + (A 8 (a_first A 2 c).toNat).toNat)) hch1
    generalize hB : a_note (aset A 2 (a_first A 2 c).toNat 1) (A 12 (64 * (a_first A 2 c).toNat + (A 8 (a_first A 2 c).toNat).toNat)) = B at *
    have enB : B 22 c.toNat = A 22 c.toNat := by rw [← hB]; exact en _
    refine zk_n (fun q => ?_) (fun q => ?_)
    · rw [if_neg q] at hP
      refine cs_rem h2 hc4 hch2 q (fun M3 h3 => cs_addL h3 hc4 ?_ hP)
      unfold a_rem
      rw [a_shift_at (by decide), as_same]
      omega
    · rw [if_pos q] at hP
      exact hP _ h2
end SND
