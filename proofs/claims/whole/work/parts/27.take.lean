section TAK
variable {M M0 : zh_M} {A : zA}
theorem cs_takeone {P : Int32 → zh_M → Prop} {i : Nat} {k g : Int} (h : RC M A M0) (hi : i < 6) (hk : zb k) (hf : iFr A i) (hr : iRf A i) (hs : iSt A) (hW : iWa A) (hA : iHp A) (hC : iCo A) (hch : iCh A) (c1 : 0 ≤ g) (c2 : g < 4) (hwc : ∀ i, i < 6 → A 2 i = 2 → (0 ≤ A 8 i ∧ A 8 i < 64) ∧ zb (A 12 (64 * i + (A 8 i).toNat))) (he : ∀ a b, (a = 3 ∨ a = 13) → (a_out A g.toNat).2 a b = A a b) (hP : ∀ M', RC M' (gset (a_fc (a_out A g.toNat).2 i k (a_out A g.toNat).1) 7 27 i g) M0 → P (zI g) M') : wp_X4_pointerOutOf M (zI g) (fun r15 M14 => wp_X2_fillCell M14 (10 + 3 * i) (zI k) r15 (fun M16 => ∀ M17 : zh_M, M17 = zh_set M16 (10 + 3 * i) 7 (zI g) → P (zI g) M17)) := by
  refine cs_out h hs hW hA hC hch c1 c2 hwc (fun M1 h1 => cs_fillCell h1 hi hk ?_ ?_ (fun M2 h2 M3 e3 => ?_))
  · unfold iFr
    rw [he 3 i (Or.inl rfl)]
    exact hf
  · intro j j1 j2
    rw [he 3 i (Or.inl rfl)] at j2
    rw [he 13 _ (Or.inr rfl)]
    exact hr j j1 j2
  · subst e3
    exact hP _ ((h2.ghost (by decide)).tk_ hi)
theorem a_addL_at {c a k : Nat} {p : Int} (h1 : a ≠ 21) (h2 : a ≠ 22) : a_addL A c p a k = A a k := by
  unfold a_addL
  split
  · rw [as_id h2, as_id h1]
  · rfl
theorem a_rem_at {c a k : Nat} (h1 : a ≠ 21) (h2 : a ≠ 22) : a_rem A c a k = A a k := by
  unfold a_rem
  rw [a_shift_at h1, as_id h2]
theorem a_out_at {c a k : Nat} (h1 : a ≠ 21) (h2 : a ≠ 22) (h3 : a ≠ 2) (h4 : a ≠ 20) (h5 : a ≠ 23) (h6 : a ≠ 14) (h7 : a ≠ 24) : (a_out A c).2 a k = A a k := by
  have hB : ∀ B : zA, (if a_first A 2 c = -1 then A else a_note (aset A 2 (a_first A 2 c).toNat 1) (if a_first A 2 c = -1 then -1 else A 12 (64 * (a_first A 2 c).toNat + (A 8 (a_first A 2 c).toNat).toNat))) = B → B a k = A a k := by
    intro B e
    rw [← e]
    split
    · rfl
    · rw [a_note_m h4 h5 h6 h7, as_id h3]
  unfold a_out
  simp only
  generalize e : (if a_first A 2 c = -1 then A else a_note (aset A 2 (a_first A 2 c).toNat 1) (if a_first A 2 c = -1 then -1 else A 12 (64 * (a_first A 2 c).toNat + (A 8 (a_first A 2 c).toNat).toNat))) = B
  have hb := hB B e
  split
  · exact hb
  · show (if a_first A 2 c = -1 then a_rem B c else a_addL (a_rem B c) c _) a k = A a k
    split
    · rw [a_rem_at h1 h2]; exact hb
    · rw [a_addL_at h1 h2, a_rem_at h1 h2]; exact hb
theorem cs_take {P : Int32 → zh_M → Prop} {f k c d : Int} (h : RC M A M0) (hb : zb f) (hk : zb k) (hc : zb c) (hd : zb d) (hF : iFs A) (hW : iWa A) (hA : iHp A) (hC : iCo A) (hch : iCh A) (hwc : ∀ i, i < 6 → A 2 i = 2 → (0 ≤ A 8 i ∧ A 8 i < 64) ∧ zb (A 12 (64 * i + (A 8 i).toNat))) (hP : ∀ M', RC M' (a_take A f k c d).2 M0 → P (zI (a_take A f k c d).1) M') : wp_X4_take M (zI f) (zI k) (zI c) (zI d) P := by
  obtain ⟨hs, hf⟩ := hF
  unfold wp_X4_take
  refine cs_ready h hb hs (fun w0 => zk_o (fun q => by cases q) (fun o q => ?_)) (fun w0 => zk_o (fun _ => ?_) (fun o q => by cases q))
  · cases q
    obtain ⟨w1, w2, w3⟩ := w0
    have hi : f.toNat < 6 := by omega
    have hl : A 2 f.toNat ≠ 0 := by rw [w3]; decide
    obtain ⟨f1, f2⟩ := hf f.toNat hi hl
    have he : ∀ (g : Nat) a b, (a = 3 ∨ a = 13) → (a_out A g).2 a b = A a b := by
      rintro g a b (rfl | rfl)
      · exact a_out_at (by decide) (by decide) (by decide) (by decide) (by decide) (by decide) (by decide)
      · exact a_out_at (by decide) (by decide) (by decide) (by decide) (by decide) (by decide) (by decide)
    refine ⟨zf_Fiber_of hi, cs_isCell h hi hk f1 f2 (fun w4 => zk_e (fun q => by omega) (fun _ => cs_isch hc (fun w5 => zk_e (fun q => by omega) (fun _ => cs_isch hd (fun w6 => zk_n (fun _ => ?_) (fun q => by omega)) (fun w6 => zk_n (fun q => absurd rfl q) (fun _ => ?_)))) (fun w5 => zk_e (fun _ => ?_) (fun q => absurd rfl q)))) (fun w4 => zk_e (fun _ => ?_) (fun q => absurd rfl q))⟩
    · obtain ⟨c1, c2⟩ := w5
      obtain ⟨d1, d2⟩ := w6
      unfold a_take at hP
      rw [if_pos ⟨⟨w1, w2, w3⟩, w4, c1, c2, d1, d2⟩] at hP
      simp only at hP
      refine cs_gives h hs hW hch c1 c2 (fun w7 => zk_e (fun q => by omega) (fun _ => cs_gives h hs hW hch c1 c2 (fun _ => zk_n (fun _ => ?_) (fun q => by omega)) (fun w8 => absurd w7 w8))) (fun w7 => zk_e (fun _ => cs_gives h hs hW hch d1 d2 (fun w8 => zk_n (fun _ => ?_) (fun q => by omega)) (fun w8 => zk_n (fun q => absurd rfl q) (fun _ => cs_wait h hi hk f1 (fun M2 h2 => ?_)))) (fun q => absurd rfl q))
      · rw [if_pos w7, if_pos w7] at hP
        exact cs_takeone h hi hk f1 f2 hs hW hA hC hch c1 c2 hwc (he _) hP
      · rw [if_neg w7, if_pos w8] at hP
        exact cs_takeone h hi hk f1 f2 hs hW hA hC hch d1 d2 hwc (he _) hP
      · rw [if_neg w7, if_neg w8] at hP
        exact hP _ h2
    · rw [a_take, if_neg (fun e => w6 ⟨e.2.2.2.2.1, e.2.2.2.2.2⟩)] at hP
      exact hP _ h
    · rw [a_take, if_neg (fun e => w5 ⟨e.2.2.1, e.2.2.2.1⟩)] at hP
      exact hP _ h
    · rw [a_take, if_neg (fun e => e.2.1 w4)] at hP
      exact hP _ h
  · rw [a_take, if_neg (fun e => w0 e.1)] at hP
    exact hP _ h
theorem cs_page {P : Int32 → zh_M → Prop} {p : Int} (h : RC M A M0) (hp : zb p) (hP : P (zI (a_page A p)) M) : wp_X4_page M (zI p) P := by
  obtain ⟨p1, p2⟩ := hp
  unfold wp_X4_page
  refine zk_l (fun q => ?_) (fun q => zk_l (fun q1 => ?_) (fun q1 => ?_))
  · rwa [a_page, if_neg (by omega)] at hP
  · rw [a_page, if_pos ⟨q, q1⟩] at hP
    rw [zI_cl (by omega) (by omega), h.kd (by omega)]
    exact ⟨zk_i, hP⟩
  · rwa [a_page, if_neg (by omega)] at hP
theorem cs_mark {I : zA → Prop} {P : Int32 → zh_M → Prop} (hI : ∀ A, I A → iPc A) (hs : ∀ A, I A → a_left A → I (a_piece A)) {n : Int} (hm : zb n) (h : RC M A M0) (hC : iCo A) (h0 : A 14 5 ≠ 0 → I A) (hP : ∀ M', RC M' (a_mark A n).2 M0 → P (zI (a_mark A n).1) M') : wp_X4_mark M (zI n) P := by
  have hm' := hm
  obtain ⟨m1, m2⟩ := hm
  have c1 := hC.1
  unfold wp_X4_mark
  rw [h.mk]
  refine zk_l (fun q => ?_) (fun q => zk_n (fun q1 => ?_) (fun q1 => ?_))
  · rw [a_mark, if_neg (fun w => by have := w.1; omega)] at hP
    exact hP _ h
  · rw [a_mark, if_pos ⟨q, q1⟩] at hP
    exact cs_work hI hs hm' h (h0 q1) hP
  · rw [a_mark, if_neg (fun w => w.2 q1)] at hP
    exact hP _ h
theorem cs_sweepc {P : Int32 → zh_M → Prop} {n : Int} (hm : zb n) (h : RC M A M0) (hA : iHp A) (hP : ∀ M', RC M' (a_sweeps A n).2 M0 → P (zI (a_sweeps A n).1) M') : wp_X4_sweep M (zI n) P := cs_sweeps hm h hA hP
theorem cs_collect {P : Int32 → zh_M → Prop} (h : RC M A M0) (hA : iHp A) (hC : iCo A) (hch : iCh A) (hP : ∀ M', RC M' (a_collect A).2 M0 → P (zI (a_collect A).1) M') : wp_X4_collect M P := by
  have c1 := hC.1
  unfold wp_X4_collect
  rw [h.mk]
  refine zk_e (fun q => ?_) (fun q => ?_)
  · rw [a_collect, if_pos q] at hP
    exact cs_cycle h hA hch hP
  · rw [a_collect, if_neg q] at hP
    exact hP _ h
theorem cs_fiber {P : Int32 → zh_M → Prop} {f w : Int} (h : RC M A M0) (hb : zb f) (hw : zb w) (hF : iFs A) (hC : iCo A) (hc : ∀ i, i < 6 → A 6 i = 0 ∨ A 6 i = 1) (hP : P (zI (a_fiber A f w)) M) : wp_X4_fiber M (zI f) (zI w) P := by
  obtain ⟨hs, hf⟩ := hF
  obtain ⟨b1, b2⟩ := hb
  obtain ⟨w1, w2⟩ := hw
  have c1 := hC.1
  unfold wp_X4_fiber
  rw [zI_ti w1 w2]
  refine zk_l (fun q => ?_) (fun q => zk_l (fun q1 => ?_) (fun q1 => ?_))
  · rwa [a_fiber, if_pos (Or.inl q)] at hP
  · have hi : f.toNat < 6 := by omega
    have hsi := hs _ hi
    have hci := hc _ hi
    rw [a_fiber, if_neg (by omega)] at hP
    rw [zi_Fiber_n f q q1, h.st hi, h.fr hi, h.rm hi, h.mk, h.sc hi, h.tk hi, zI_sub, zI_sub]
    refine ⟨zk_i, zk_n (fun q2 => zk_n (fun q3 => ?_) (fun q3 => ?_)) (fun q2 => ?_)⟩
    · rw [if_neg q2, if_neg q3] at hP
      obtain ⟨f1, f2⟩ := hf _ hi q3
      have f3 := f1.1
      have f4 := f1.2
      refine ⟨fun e => ?_, fun e => ?_, fun e => ?_, fun e => ?_, fun e => ?_, fun e => ?_, fun e => ?_, fun e => ?_, fun e => ?_, fun e => ?_⟩
      · rwa [if_neg (by omega), if_neg (by omega), if_neg (by omega), if_neg (by omega), if_neg (by omega), if_neg (by omega)] at hP
      · rwa [if_pos e] at hP
      · rwa [if_neg (by omega), if_pos e] at hP
      · rw [if_neg (by omega), if_neg (by omega), if_pos e] at hP
        refine zk_e (fun q4 => ?_) (fun q4 => zk_e (fun q5 => ?_) (fun q5 => ?_))
        · rwa [if_neg (fun w => w.1 q4)] at hP
        · rwa [if_neg (fun w => w.2 q5)] at hP
        · rwa [if_pos ⟨q4, q5⟩] at hP
      · rw [if_neg (by omega), if_neg (by omega), if_neg (by omega), if_pos (by omega)] at hP
        exact cs_pointerFrom h hi ⟨by omega, by omega⟩ f1 f2 hP
      · rw [if_neg (by omega), if_neg (by omega), if_neg (by omega), if_pos (by omega)] at hP
        exact cs_pointerFrom h hi ⟨by omega, by omega⟩ f1 f2 hP
      · rw [if_neg (by omega), if_neg (by omega), if_neg (by omega), if_pos (by omega)] at hP
        exact cs_pointerFrom h hi ⟨by omega, by omega⟩ f1 f2 hP
      · rw [if_neg (by omega), if_neg (by omega), if_neg (by omega), if_pos (by omega)] at hP
        exact cs_pointerFrom h hi ⟨by omega, by omega⟩ f1 f2 hP
      · rw [if_neg (by omega), if_neg (by omega), if_neg (by omega), if_neg (by omega), if_pos e] at hP
        rw [zI_cl (by omega) (by omega), h.re hi (by omega)]
        exact ⟨zk_i, hP⟩
      · rwa [if_neg (by omega), if_neg (by omega), if_neg (by omega), if_neg (by omega), if_neg (by omega), if_pos e] at hP
    · rwa [if_neg q2, if_pos q3] at hP
    · rwa [if_pos q2] at hP
  · rwa [a_fiber, if_pos (Or.inr q1)] at hP
end TAK
