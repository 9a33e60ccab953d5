abbrev iEx (A : zA) : Prop := ∀ u : Nat, u < 128 → A 18 u ≠ 0 → 2 * (u : Int) + A 18 u ≤ 256 ∧ A 19 u ≤ A 18 u
abbrev iOk (A : zA) : Prop := ∀ i, i < 6 → A 2 i ≠ 0 → ∀ k, okp A (a_pf A i k)
section RWD
variable {M M0 : zh_M} {A : zA}
theorem okp_at {a : Int} (h : RR M A M0) (ho : okp A a) (hp : iPl A) (h0 : 0 ≤ a) : (zI a).toNatClampNeg = 2 * (a / 2).toNat ∧ (a / 2).toNat < 128 ∧ A 18 (a / 2).toNat ≠ 0 ∧ M 42 (2 * (a / 2).toNat) = zI (A 19 (a / 2).toNat) ∧ M 41 (2 * (a / 2).toNat) = zI (A 18 (a / 2).toNat) ∧ a < 256 ∧ a = 2 * ((a / 2).toNat : Int) := by
  rcases ho with e | ⟨a1, a2, a3, a4⟩
  · omega
  · have hu : (a / 2).toNat < 128 := by omega
    refine ⟨?_, hu, a4, ?_, h.sz hu, a2, by omega⟩
    · rw [zI_cl h0 (by omega)]
      omega
    · rw [h.pc hu, hp _ hu a4]
theorem rs_get {P : Int32 → zh_M → Prop} {f t k w : Int} (h : RR M A M0) (hb : zb f) (ht : zb t) (hk : zb k) (hw : zb w) (hF : iFs A) (hL : iLk A) (hA : iHp A) (hp : iPl A) (hx : iEx A) (hok : iOk A) (hP : ∀ M', RR M' (a_get A f t k w).2 M0 → P (zI (a_get A f t k w).1) M') : wp_X5_get M (zI f) (zI t) (zI k) (zI w) P := by
  obtain ⟨w1, w2⟩ := hw
  unfold wp_X5_get
  refine rs_object h hb hk hF hL (fun v => ?_) (fun v => zk_l (fun _ => ?_) (fun q => by omega))
  · have g1 := v.1.1
    have g2 := v.1.2.1
    have hl : A 2 f.toNat ≠ 0 := by rw [v.1.2.2]; decide
    have hi : f.toNat < 6 := by omega
    obtain ⟨f1, f2⟩ := hF.2 _ hi hl
    have ho := hok _ hi hl k
    have hbz : -1 ≤ a_pf A f.toNat k ∧ a_pf A f.toNat k < 256 := by omega
    refine zk_l (fun q => ?_) (fun q => zk_l (fun q1 => ?_) (fun q1 => ?_))
    · rw [a_get, if_neg (fun e => by have := e.2.2.2.1; omega)] at hP
      exact hP _ h
    · rw [a_get, if_neg (fun e => by have := e.2.2.2.2.2.1; omega)] at hP
      exact hP _ h
    · obtain ⟨x1, x2, x3, x4, x5, x6, x7⟩ := okp_at h ho hp q
      obtain ⟨y1, y2, y3, y4, y5, y6⟩ := hA.2.2 _ x2
      obtain ⟨z1, z2⟩ := hx _ x2 x3
      rw [x1, x4]
      refine ⟨zk_i, zk_m (fun q2 => ?_) (fun q2 => rs_cell h hb ht hF hL (fun v2 => zk_n (fun _ => rs_place h g1 g2 ht f1 f2 (hL _ hi hl).1 ?_) (fun q => by omega)) (fun v2 => zk_n (fun q => absurd rfl q) (fun _ => ?_)))⟩
      · rw [a_get, if_neg (fun e => by have := e.2.2.2.2.2.2; omega)] at hP
        exact hP _ h
      · obtain ⟨b1, b2, b3⟩ := (b_pl_rg (k := t) g1 f1 f2).2 v2.2
        rw [zI_add, zI_cl (a := a_pf A f.toNat k + w) (by omega) (by omega), zI_cl b1 (by omega), b3, h.mem (by omega)]
        refine ⟨zk_i, zk_i, fun M7 e7 => ?_⟩
        subst e7
        rw [a_get, if_pos ⟨v.1, v2.2, v.2, q, by omega, q1, q2⟩, a_fc, if_neg v2.2] at hP
        exact hP _ (h.ce_ (by omega))
      · rw [a_get, if_neg (fun e => v2 ⟨e.1, e.2.1⟩)] at hP
        exact hP _ h
  · rw [a_get, if_neg (fun e => v ⟨e.1, e.2.2.1⟩)] at hP
    exact hP _ h
theorem rs_set {P : Int32 → zh_M → Prop} {f k w s : Int} (h : RR M A M0) (hb : zb f) (hk : zb k) (hw : zb w) (hs0 : zb s) (hF : iFs A) (hL : iLk A) (hA : iHp A) (hC : iCo A) (hp : iPl A) (hx : iEx A) (hok : iOk A) (hm : ∀ i, i < 6 → A 2 i ≠ 0 → a_pw A (a_pf A i k) w → -1 ≤ A 15 (a_pf A i k + w).toNat ∧ A 15 (a_pf A i k + w).toNat < 256) (hP : ∀ M', RR M' (a_setw A f k w s).2 M0 → P (zI (a_setw A f k w s).1) M') : wp_X5_set M (zI f) (zI k) (zI w) (zI s) P := by
  obtain ⟨w1, w2⟩ := hw
  unfold wp_X5_set
  refine rs_object h hb hk hF hL (fun v => ?_) (fun v => zk_l (fun _ => ?_) (fun q => by omega))
  · have g1 := v.1.1
    have g2 := v.1.2.1
    have hl : A 2 f.toNat ≠ 0 := by rw [v.1.2.2]; decide
    have hi : f.toNat < 6 := by omega
    obtain ⟨f1, f2⟩ := hF.2 _ hi hl
    have ho := hok _ hi hl k
    have ho2 := hok _ hi hl s
    have hbz : -1 ≤ a_pf A f.toNat k ∧ a_pf A f.toNat k < 256 := by omega
    have hbz2 : -1 ≤ a_pf A f.toNat s ∧ a_pf A f.toNat s < 256 := by omega
    refine zk_l (fun q => ?_) (fun q => zk_l (fun q1 => ?_) (fun q1 => ?_))
    · rw [a_setw, if_neg (fun e => by have := e.2.2.2.1; omega)] at hP
      exact hP _ h
    · rw [a_setw, if_neg (fun e => by have := e.2.2.2.2.2.1; omega)] at hP
      exact hP _ h
    · obtain ⟨x1, x2, x3, x4, x5, x6, x7⟩ := okp_at h ho hp q
      obtain ⟨y1, y2, y3, y4, y5, y6⟩ := hA.2.2 _ x2
      obtain ⟨z1, z2⟩ := hx _ x2 x3
      rw [x1, x4]
      refine ⟨zk_i, zk_m (fun q2 => ?_) (fun q2 => rs_cellN h hb hs0 hF hL (fun v2 => zk_n (fun _ => rs_value h g1 g2 hs0 f1 f2 (hL _ hi hl).1 ?_) (fun q => by omega)) (fun v2 => zk_n (fun q => absurd rfl q) (fun _ => ?_)))⟩
      · rw [a_setw, if_neg (fun e => by have := e.2.2.2.2.2.2; omega)] at hP
        exact hP _ h
      · have hpw : a_pw A (a_pf A f.toNat k) w := ⟨q, by omega, q1, q2⟩
        rw [zI_add, zI_cl (a := a_pf A f.toNat k + w) (by omega) (by omega), h.mem (by omega)]
        refine ⟨zk_i, rs_note h hC (hm _ hi hl hpw) (fun M7 h7 => rs_note h7 (iCo_note hC) hbz2 (fun M8 h8 => ⟨zk_i, fun M9 e9 => ?_⟩))⟩
        subst e9
        rw [a_setw, if_pos ⟨v.1, v.2, v2.2, hpw⟩] at hP
        exact hP _ (h8.mem_ (by omega))
      · rw [a_setw, if_neg (fun e => v2 ⟨e.1, e.2.2.1⟩)] at hP
        exact hP _ h
  · rw [a_setw, if_neg (fun e => v ⟨e.1, e.2.1⟩)] at hP
    exact hP _ h
theorem rs_store {P : Int32 → zh_M → Prop} {f k w x : Int} (h : RR M A M0) (hb : zb f) (hk : zb k) (hw : zb w) (hF : iFs A) (hL : iLk A) (hA : iHp A) (hp : iPl A) (hx : iEx A) (hok : iOk A) (hP : ∀ M', RR M' (a_store A f k w x).2 M0 → P (zI (a_store A f k w x).1) M') : wp_X5_store M (zI f) (zI k) (zI w) (zI x) P := by
  obtain ⟨w1, w2⟩ := hw
  unfold wp_X5_store
  refine rs_object h hb hk hF hL (fun v => ?_) (fun v => zk_l (fun _ => ?_) (fun q => by omega))
  · have g1 := v.1.1
    have g2 := v.1.2.1
    have hl : A 2 f.toNat ≠ 0 := by rw [v.1.2.2]; decide
    have hi : f.toNat < 6 := by omega
    have ho := hok _ hi hl k
    have hbz : -1 ≤ a_pf A f.toNat k ∧ a_pf A f.toNat k < 256 := by omega
    refine zk_l (fun q => ?_) (fun q => ?_)
    · rw [a_store, if_neg (fun e => by have := e.2.2.1; omega)] at hP
      exact hP _ h
    · obtain ⟨x1, x2, x3, x4, x5, x6, x7⟩ := okp_at h ho hp q
      obtain ⟨y1, y2, y3, y4, y5, y6⟩ := hA.2.2 _ x2
      obtain ⟨z1, z2⟩ := hx _ x2 x3
      rw [x1, x4, x5]
      refine ⟨zk_i, zk_l (fun q2 => ?_) (fun q2 => ⟨zk_i, zk_l (fun q3 => ?_) (fun q3 => ?_)⟩)⟩
      · rw [a_store, if_neg (fun e => by have := e.2.2.2.2.1; omega)] at hP
        exact hP _ h
      · rw [zI_add, zI_cl (a := a_pf A f.toNat k + w) (by omega) (by omega)]
        refine ⟨zk_i, fun M3 e3 => ?_⟩
        subst e3
        rw [a_store, if_pos ⟨v.1, v.2, q, by omega, q2, q3⟩] at hP
        exact hP _ (h.mem_ (by omega))
      · rw [a_store, if_neg (fun e => by have := e.2.2.2.2.2; omega)] at hP
        exact hP _ h
  · rw [a_store, if_neg (fun e => v ⟨e.1, e.2.1⟩)] at hP
    exact hP _ h
theorem rs_load {P : Int32 → zh_M → Prop} {f k w : Int} (h : RR M A M0) (hb : zb f) (hk : zb k) (hw : zb w) (hF : iFs A) (hL : iLk A) (hA : iHp A) (hp : iPl A) (hx : iEx A) (hok : iOk A) (hP : ∀ M', RR M' (a_load A f k w).2 M0 → P (zI (a_load A f k w).1) M') : wp_X5_load M (zI f) (zI k) (zI w) P := by
  obtain ⟨w1, w2⟩ := hw
  unfold wp_X5_load
  refine rs_object h hb hk hF hL (fun v => ?_) (fun v => zk_l (fun _ => ?_) (fun q => by omega))
  · have g1 := v.1.1
    have g2 := v.1.2.1
    have hl : A 2 f.toNat ≠ 0 := by rw [v.1.2.2]; decide
    have hi : f.toNat < 6 := by omega
    have ho := hok _ hi hl k
    have hbz : -1 ≤ a_pf A f.toNat k ∧ a_pf A f.toNat k < 256 := by omega
    refine zk_l (fun q => ?_) (fun q => ?_)
    · rw [a_load, if_neg (fun e => by have := e.2.2.1; omega)] at hP
      exact hP _ h
    · obtain ⟨x1, x2, x3, x4, x5, x6, x7⟩ := okp_at h ho hp q
      obtain ⟨y1, y2, y3, y4, y5, y6⟩ := hA.2.2 _ x2
      obtain ⟨z1, z2⟩ := hx _ x2 x3
      rw [x1, x4, x5]
      refine ⟨zk_i, zk_l (fun q2 => ?_) (fun q2 => ⟨zk_i, zk_l (fun q3 => ?_) (fun q3 => ?_)⟩)⟩
      · rw [a_load, if_neg (fun e => by have := e.2.2.2.2.1; omega)] at hP
        exact hP _ h
      · rw [zI_add, zI_cl (a := a_pf A f.toNat k + w) (by omega) (by omega), h.mem (by omega)]
        rw [a_load, if_pos ⟨v.1, v.2, q, by omega, q2, q3⟩] at hP
        exact ⟨zk_i, hP _ h⟩
      · rw [a_load, if_neg (fun e => by have := e.2.2.2.2.2; omega)] at hP
        exact hP _ h
  · rw [a_load, if_neg (fun e => v ⟨e.1, e.2.1⟩)] at hP
    exact hP _ h
end RWD
