abbrev iFs (A : zA) : Prop := iSt A ∧ ∀ i, i < 6 → A 2 i ≠ 0 → iFr A i ∧ iRf A i
section WDS
variable {M M0 : zh_M} {A : zA}
theorem cs_pw {P : Int32 → zh_M → Prop} {a w : Int} (h : RC M A M0) (hA : iHp A) (ha : zb a) (hw : zb w) (h1 : a_pw A a w → P (zI 1) M) (h0 : ¬ a_pw A a w → P (zI 0) M) : wp_X3_isPointerWord M (zI a) (zI w) P := by
  obtain ⟨a1, a2⟩ := ha
  obtain ⟨w1, w2⟩ := hw
  unfold wp_X3_isPointerWord
  refine zk_l (fun q => h0 (fun e => ?_)) (fun q => zk_m (fun q1 => h0 (fun e => ?_)) (fun q1 => zk_l (fun q2 => h0 (fun e => ?_)) (fun q2 => ?_)))
  · have := e.1; omega
  · have := e.2.1; omega
  · have := e.2.2.1; omega
  · have hu : (a / 2).toNat < 128 := by omega
    obtain ⟨x1, x2, x3, x4, x5, x6⟩ := hA.2.2 _ hu
    rw [zI_div (by omega) (by omega) (by omega) (by omega), zI_cl (by omega) (by omega), h.pc hu]
    refine ⟨zk_i, zk_m (fun q3 => h0 (fun e => ?_)) (fun q3 => h1 ⟨q, q1, q2, q3⟩)⟩
    have := e.2.2.2; omega
theorem cs_iw {P : Int32 → zh_M → Prop} {a w : Int} (h : RC M A M0) (hA : iHp A) (ha : zb a) (hw : zb w) (h1 : a_iw A a w → P (zI 1) M) (h0 : ¬ a_iw A a w → P (zI 0) M) : wp_X3_isIntWord M (zI a) (zI w) P := by
  obtain ⟨a1, a2⟩ := ha
  obtain ⟨w1, w2⟩ := hw
  unfold wp_X3_isIntWord
  refine zk_l (fun q => h0 (fun e => ?_)) (fun q => zk_m (fun q1 => h0 (fun e => ?_)) (fun q1 => ?_))
  · have := e.1; omega
  · have := e.2.1; omega
  · have hu : (a / 2).toNat < 128 := by omega
    obtain ⟨x1, x2, x3, x4, x5, x6⟩ := hA.2.2 _ hu
    rw [zI_div (by omega) (by omega) (by omega) (by omega), zI_cl (by omega) (by omega), h.pc hu, h.sz hu]
    refine ⟨zk_i, zk_l (fun q3 => h0 (fun e => ?_)) (fun q3 => ⟨zk_i, zk_m (fun q4 => h0 (fun e => ?_)) (fun q4 => h1 ⟨q, q1, q3, q4⟩)⟩)⟩
    · have := e.2.2.1; omega
    · have := e.2.2.2; omega
theorem cs_get {P : Int32 → zh_M → Prop} {f t k w : Int} (h : RC M A M0) (hb : zb f) (ht : zb t) (hk : zb k) (hw : zb w) (hF : iFs A) (hA : iHp A) (hc : ∀ i, i < 6 → A 2 i ≠ 0 → zb (a_pf A i k)) (hn : ∀ i, i < 6 → A 2 i ≠ 0 → a_pw A (a_pf A i k) w → a_pf A i k + w < 256) (hP : ∀ M', RC M' (a_get A f t k w).2 M0 → P (zI (a_get A f t k w).1) M') : wp_X4_get M (zI f) (zI t) (zI k) (zI w) P := by
  obtain ⟨hs, hf⟩ := hF
  unfold wp_X4_get
  refine cs_ready h hb hs (fun w0 => zk_o (fun q => by cases q) (fun o q => ?_)) (fun w0 => zk_o (fun _ => ?_) (fun o q => by cases q))
  · cases q
    obtain ⟨w1, w2, w3⟩ := w0
    have hi : f.toNat < 6 := by omega
    obtain ⟨f1, f2⟩ := hf f.toNat hi (by rw [w3]; decide)
    have hcz := hc f.toNat hi (by rw [w3]; decide)
    refine ⟨zf_Fiber_of hi, cs_isCell h hi ht f1 f2 (fun w4 => zk_e (fun q => by omega) (fun _ => cs_isCell h hi hk f1 f2 (fun w5 => zk_n (fun _ => cs_pointerFrom h hi hk f1 f2 (cs_pw h hA hcz hw (fun w6 => zk_n (fun _ => ?_) (fun q => by omega)) (fun w6 => zk_n (fun q => absurd rfl q) (fun _ => ?_)))) (fun q => by omega)) (fun w5 => zk_n (fun q => absurd rfl q) (fun _ => ?_)))) (fun w4 => zk_e (fun _ => ?_) (fun q => absurd rfl q))⟩
    · have hn2 := hn f.toNat hi (by rw [w3]; decide) w6
      have h60 := w6.1
      have h61 := w6.2.2.1
      rw [zI_add, zI_cl (by omega) (by omega), h.mem (by omega)]
      refine ⟨zk_i, cs_fillCell h hi ht f1 f2 (fun M' hM => ?_)⟩
      rw [a_get, if_pos ⟨⟨w1, w2, w3⟩, w4, w5, w6⟩] at hP
      exact hP _ hM
    · rw [a_get, if_neg (fun e => w6 e.2.2.2)] at hP
      exact hP _ h
    · rw [a_get, if_neg (fun e => e.2.2.1 w5)] at hP
      exact hP _ h
    · rw [a_get, if_neg (fun e => e.2.1 w4)] at hP
      exact hP _ h
  · rw [a_get, if_neg (fun e => w0 e.1)] at hP
    exact hP _ h
theorem cs_set {P : Int32 → zh_M → Prop} {f k w s : Int} (h : RC M A M0) (hb : zb f) (hk : zb k) (hw : zb w) (hs0 : zb s) (hF : iFs A) (hA : iHp A) (hC : iCo A) (hc : ∀ i k, i < 6 → A 2 i ≠ 0 → zb (a_pf A i k)) (hn : ∀ i, i < 6 → A 2 i ≠ 0 → a_pw A (a_pf A i k) w → a_pf A i k + w < 256) (hm : ∀ i, i < 6 → A 2 i ≠ 0 → a_pw A (a_pf A i k) w → zb (A 15 (a_pf A i k + w).toNat)) (hP : ∀ M', RC M' (a_setw A f k w s).2 M0 → P (zI (a_setw A f k w s).1) M') : wp_X4_set M (zI f) (zI k) (zI w) (zI s) P := by
  obtain ⟨hs, hf⟩ := hF
  unfold wp_X4_set
  refine cs_ready h hb hs (fun w0 => zk_o (fun q => by cases q) (fun o q => ?_)) (fun w0 => zk_o (fun _ => ?_) (fun o q => by cases q))
  · cases q
    obtain ⟨w1, w2, w3⟩ := w0
    have hi : f.toNat < 6 := by omega
    have hl : A 2 f.toNat ≠ 0 := by rw [w3]; decide
    obtain ⟨f1, f2⟩ := hf f.toNat hi hl
    refine ⟨zf_Fiber_of hi, cs_isCell h hi hk f1 f2 (fun w4 => zk_e (fun q => by omega) (fun _ => cs_isSource h hi hs0 f1 f2 (fun w5 => zk_n (fun _ => cs_pointerFrom h hi hk f1 f2 (cs_pw h hA (hc _ _ hi hl) hw (fun w6 => zk_n (fun _ => cs_pointerFrom h hi hs0 f1 f2 ?_) (fun q => by omega)) (fun w6 => zk_n (fun q => absurd rfl q) (fun _ => ?_)))) (fun q => by omega)) (fun w5 => zk_n (fun q => absurd rfl q) (fun _ => ?_)))) (fun w4 => zk_e (fun _ => ?_) (fun q => absurd rfl q))⟩
    · have hn2 := hn _ hi hl w6
      have h60 := w6.1
      have h61 := w6.2.2.1
      rw [zI_add, zI_cl (by omega) (by omega), h.mem (by omega)]
      refine ⟨zk_i, cs_note h hA hC (hm _ hi hl w6) (fun M1 h1 => cs_note h1 (iHp_note hA) (iCo_note hC) (hc _ _ hi hl) (fun M2 h2 => ⟨zk_i, fun M3 e3 => ?_⟩))⟩
      rw [a_setw, if_pos ⟨⟨w1, w2, w3⟩, w4, w5, w6⟩] at hP
      subst e3
      exact hP _ (h2.mem_ (by omega))
    · rw [a_setw, if_neg (fun e => w6 e.2.2.2)] at hP
      exact hP _ h
    · rw [a_setw, if_neg (fun e => w5 e.2.2.1)] at hP
      exact hP _ h
    · rw [a_setw, if_neg (fun e => e.2.1 w4)] at hP
      exact hP _ h
  · rw [a_setw, if_neg (fun e => w0 e.1)] at hP
    exact hP _ h
theorem cs_intw {P : Int32 → zh_M → Prop} {f k w : Int} (h : RC M A M0) (hb : zb f) (hk : zb k) (hw : zb w) (hF : iFs A) (hA : iHp A) (hc : ∀ i, i < 6 → A 2 i ≠ 0 → zb (a_pf A i k)) (h1 : a_int A f k w → P (zI (a_pf A f.toNat k + w)) M) (h0 : ¬ a_int A f k w → P (zI (-1)) M) : wp_X4_intWordIndex M (zI f) (zI k) (zI w) P := by
  obtain ⟨hs, hf⟩ := hF
  unfold wp_X4_intWordIndex
  refine cs_ready h hb hs (fun w0 => zk_o (fun q => by cases q) (fun o q => ?_)) (fun w0 => zk_o (fun _ => h0 (fun e => w0 e.1)) (fun o q => by cases q))
  cases q
  obtain ⟨w1, w2, w3⟩ := w0
  have hi : f.toNat < 6 := by omega
  obtain ⟨f1, f2⟩ := hf f.toNat hi (by rw [w3]; decide)
  have hcz := hc f.toNat hi (by rw [w3]; decide)
  refine ⟨zf_Fiber_of hi, cs_isCell h hi hk f1 f2 (fun w4 => zk_n (fun _ => cs_pointerFrom h hi hk f1 f2 (cs_iw h hA hcz hw (fun w6 => zk_e (fun q => by omega) (fun _ => ?_)) (fun w6 => zk_e (fun _ => h0 (fun e => w6 e.2.2)) (fun q => absurd rfl q)))) (fun q => by omega)) (fun w4 => zk_n (fun q => absurd rfl q) (fun _ => h0 (fun e => e.2.1 w4)))⟩
  rw [zI_add]
  exact h1 ⟨⟨w1, w2, w3⟩, w4, w6⟩
theorem cs_store {P : Int32 → zh_M → Prop} {f k w v : Int} (h : RC M A M0) (hb : zb f) (hk : zb k) (hw : zb w) (hF : iFs A) (hA : iHp A) (hc : ∀ i, i < 6 → A 2 i ≠ 0 → zb (a_pf A i k)) (hn : ∀ i, i < 6 → A 2 i ≠ 0 → a_iw A (a_pf A i k) w → a_pf A i k + w < 256) (hP : ∀ M', RC M' (a_store A f k w v).2 M0 → P (zI (a_store A f k w v).1) M') : wp_X4_store M (zI f) (zI k) (zI w) (zI v) P := by
  unfold wp_X4_store
  refine cs_intw h hb hk hw hF hA hc (fun w0 => ?_) (fun w0 => zk_n (fun q => absurd rfl q) (fun _ => ?_))
  · have g := hn f.toNat (by have := w0.1.1; have := w0.1.2.1; omega) (by rw [w0.1.2.2]; decide) w0.2.2
    have g1 := w0.2.2.1
    have g2 := w0.2.2.2.1
    have g3 := (hA.2.2 (a_pf A f.toNat k / 2).toNat (by have := w0.2.2.2.1; omega)).2.2.1
    have g4 := w0.2.2.2.2.1
    refine zk_n (fun _ => ?_) (fun q => by omega)
    rw [zI_cl (by omega) (by omega)]
    refine ⟨zk_i, fun M3 e3 => ?_⟩
    subst e3
    rw [a_store, if_pos w0] at hP
    exact hP _ (h.mem_ (by omega))
  · rw [a_store, if_neg w0] at hP
    exact hP _ h
theorem cs_load {P : Int32 → zh_M → Prop} {f k w : Int} (h : RC M A M0) (hb : zb f) (hk : zb k) (hw : zb w) (hF : iFs A) (hA : iHp A) (hc : ∀ i, i < 6 → A 2 i ≠ 0 → zb (a_pf A i k)) (hn : ∀ i, i < 6 → A 2 i ≠ 0 → a_iw A (a_pf A i k) w → a_pf A i k + w < 256) (hP : ∀ M', RC M' (a_load A f k w).2 M0 → P (zI (a_load A f k w).1) M') : wp_X4_load M (zI f) (zI k) (zI w) P := by
  unfold wp_X4_load
  refine cs_intw h hb hk hw hF hA hc (fun w0 => ?_) (fun w0 => zk_n (fun q => absurd rfl q) (fun _ => ?_))
  · have g := hn f.toNat (by have := w0.1.1; have := w0.1.2.1; omega) (by rw [w0.1.2.2]; decide) w0.2.2
    have g1 := w0.2.2.1
    have g3 := (hA.2.2 (a_pf A f.toNat k / 2).toNat (by have := w0.2.2.2.1; omega)).2.2.1
    have g4 := w0.2.2.2.2.1
    refine zk_n (fun _ => ?_) (fun q => by omega)
    rw [zI_cl (by omega) (by omega), h.mem (by omega)]
    rw [a_load, if_pos w0] at hP
    exact ⟨zk_i, hP _ h⟩
  · rw [a_load, if_neg w0] at hP
    exact hP _ h
end WDS
