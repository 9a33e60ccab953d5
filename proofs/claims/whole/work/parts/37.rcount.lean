section RCN
variable {M M0 : zh_M} {A : zA}
theorem rs_page {P : Int32 → zh_M → Prop} {p : Int} (h : RR M A M0) (hp : zb p) (hP : P (zI (a_page A p)) M) : wp_X5_page M (zI p) P := by
  obtain ⟨p1, p2⟩ := hp
  unfold wp_X5_page
  refine zk_l (fun q => ?_) (fun q => zk_m (fun q1 => ?_) (fun q1 => ?_))
  · rwa [a_page, if_neg (by omega)] at hP
  · rw [a_page, if_pos ⟨q, by omega⟩] at hP
    rw [zI_cl (by omega) (by omega), h.kd (by omega)]
    exact ⟨zk_i, hP⟩
  · rwa [a_page, if_neg (by omega)] at hP
def t_a (A : zA) (w : Int) (u : Nat) : Int := if A 18 u = 0 then 0 else if w ≤ 1 then (if w = 0 then 1 else a_slot (A 18 u)) else 0
theorem rs_tally1 {K P : Int32 → zh_M → Prop} {w : Int} (h : RR M A M0) (hA : iHp A) (w1 : 0 ≤ w) (w2 : w ≤ 11) : ∀ (k u : Nat) (n : Int), u + k = 128 → K (zI (n + zsum (t_a A w) k u)) M → wl_X5_tally_4 (zI w) K P (2 * k + 1) (zI n) (zI (2 * (u : Int))) M := by
  intro k
  induction k with
  | zero =>
    intro u n hu hP
    show wl_X5_tally_4 (zI w) K P 1 (zI n) (zI (2 * (u : Int))) M
    unfold wl_X5_tally_4
    refine zk_m (fun _ => ?_) (fun q => by omega)
    simpa [zsum] using hP
  | succ k ih =>
    intro u n hu hP
    have hu2 : u < 128 := by omega
    obtain ⟨x1, x2, x3, x4, x5, x6⟩ := hA.2.2 u hu2
    have odd : ∀ n : Int, K (zI (n + zsum (t_a A w) k (u + 1))) M → wl_X5_tally_4 (zI w) K P (2 * k + 1 + 1) (zI n) (zI (2 * (u : Int) + 1)) M := by
      intro n hn
      unfold wl_X5_tally_4
      rw [zI_cl (by omega) (by omega), show (2 * (u : Int) + 1).toNat = 2 * u + 1 by omega, h.2.1 u hu2, zI_add, zI_add, Int.add_zero, show 2 * (u : Int) + 1 + 1 = 2 * ((u + 1 : Nat) : Int) by omega]
      exact zk_m (fun q => by omega) (fun _ => ⟨zk_i, zk_e (fun _ => ih (u + 1) n (by omega) hn) (fun q => absurd rfl q)⟩)
    show wl_X5_tally_4 (zI w) K P (2 * k + 1 + 1 + 1) (zI n) (zI (2 * (u : Int))) M
    unfold wl_X5_tally_4
    rw [zI_cl (by omega) (by omega), show (2 * (u : Int)).toNat = 2 * u by omega, h.sz hu2, zI_add, zI_add, zI_add, Int.add_zero]
    rw [zsum, ← Int.add_assoc] at hP
    have ht : t_a A w u = if A 18 u = 0 then 0 else if w ≤ 1 then (if w = 0 then 1 else a_slot (A 18 u)) else 0 := rfl
    refine zk_m (fun q => by omega) (fun _ => ⟨zk_i, zk_e (fun q => ?_) (fun q => zk_m (fun q1 => zk_n (fun q2 => ⟨zk_i, rs_slot x1 x2 ?_⟩) (fun q2 => ?_)) (fun q1 => ?_))⟩)
    · rw [ht, if_pos q, Int.add_zero] at hP
      exact odd n hP
    · rw [ht, if_neg q, if_pos q1, if_neg q2] at hP
      rw [zI_add]
      exact odd _ hP
    · rw [ht, if_neg q, if_pos q1, if_pos q2] at hP
      exact odd _ hP
    · rw [ht, if_neg q, if_neg (by omega), Int.add_zero] at hP
      exact odd n hP
def t_p (A : zA) (w : Int) (p : Nat) : Int := if (w = 2 ∧ A 16 p = 0) ∨ (w = 5 ∧ A 17 p ≠ 0) then 1 else 0
theorem rs_tally2 {P : Int32 → zh_M → Prop} {w : Int} (h : RR M A M0) (hA : iHp A) (w1 : 0 ≤ w) (w2 : w ≤ 11) : ∀ (k p : Nat) (n : Int), p + k = 16 → P (zI (n + zsum (t_p A w) k p)) M → wl_X5_tally_58 (zI w) P (k + 1) (zI n) (zI (p : Int)) M := by
  intro k
  induction k with
  | zero =>
    intro p n hp hP
    unfold wl_X5_tally_58
    refine zk_m (fun _ => ?_) (fun q => by omega)
    simpa [zsum] using hP
  | succ k ih =>
    intro p n hp hP
    have hp2 : p < 16 := by omega
    have hk := hA.1 p hp2
    have hu := hA.2.1 p hp2
    unfold wl_X5_tally_58
    rw [zI_cl (by omega) (by omega), show ((p : Int)).toNat = p by omega, h.kd hp2, h.un hp2, zI_add, zI_add, zI_add, Int.add_zero]
    rw [zsum, ← Int.add_assoc] at hP
    have ht : t_p A w p = if (w = 2 ∧ A 16 p = 0) ∨ (w = 5 ∧ A 17 p ≠ 0) then 1 else 0 := rfl
    refine zk_m (fun q => by omega) (fun _ => zk_n (fun q => zk_n (fun q1 => ?_) (fun q1 => ⟨zk_i, zk_e (fun q2 => ?_) (fun q2 => ?_)⟩)) (fun q => ⟨zk_i, zk_e (fun q1 => ?_) (fun q1 => zk_n (fun q2 => ?_) (fun q2 => by omega))⟩))
    · rw [ht, if_neg (by omega), Int.add_zero] at hP
      exact ih (p + 1) n (by omega) hP
    · rw [ht, if_neg (by omega), Int.add_zero] at hP
      exact ih (p + 1) n (by omega) hP
    · rw [ht, if_pos (Or.inr ⟨q1, q2⟩)] at hP
      exact ih (p + 1) (n + 1) (by omega) hP
    · rw [ht, if_pos (Or.inl ⟨q, q1⟩)] at hP
      exact ih (p + 1) (n + 1) (by omega) hP
    · rw [ht, if_neg (by omega), Int.add_zero] at hP
      exact ih (p + 1) n (by omega) hP
theorem zsum_zero {f : Nat → Int} : ∀ (k i : Nat), (∀ j, f j = 0) → zsum f k i = 0 := by
  intro k
  induction k with
  | zero => intro i h; rfl
  | succ k ih => intro i h; rw [zsum, h, ih _ h]; rfl
theorem rs_tally {P : Int32 → zh_M → Prop} {w : Int} (h : RR M A M0) (hA : iHp A) (hw : w = 0 ∨ w = 1 ∨ w = 2 ∨ w = 5) (hP : P (zI (a_count A w)) M) : wp_X5_tally M (zI w) P := by
  have h1 : ∀ n : Int, P (zI (n + zsum (t_p A w) 16 0)) M → wl_X5_tally_58 (zI w) P 17 (zI n) (zI 0) M := fun n => rs_tally2 h hA (by omega) (by omega) 16 0 n (by omega)
  refine ⟨257, rs_tally1 h hA (by omega) (by omega) 128 0 0 (by omega) ⟨17, h1 _ ?_⟩⟩
  rw [Int.zero_add]
  have e : zsum (t_a A w) 128 0 + zsum (t_p A w) 16 0 = a_count A w := by
    unfold a_count
    rcases hw with e | e | e | e
    · subst e
      rw [if_pos rfl, zsum_zero (f := t_p A 0) 16 0 (fun j => by unfold t_p; rw [if_neg (by omega)]), Int.add_zero]
      exact zsum_congr 128 0 (fun j _ _ => by unfold t_a; split <;> simp)
    · subst e
      rw [if_neg (by omega), if_pos rfl, zsum_zero (f := t_p A 1) 16 0 (fun j => by unfold t_p; rw [if_neg (by omega)]), Int.add_zero]
      exact zsum_congr 128 0 (fun j _ _ => by unfold t_a; split <;> simp)
    · subst e
      rw [if_neg (by omega), if_neg (by omega), if_pos rfl, zsum_zero (f := t_a A 2) 128 0 (fun j => by unfold t_a; split <;> simp), Int.zero_add]
      exact zsum_congr 16 0 (fun j _ _ => by unfold t_p; simp)
    · subst e
      rw [if_neg (by omega), if_neg (by omega), if_neg (by omega), if_neg (by omega), if_neg (by omega), if_pos rfl, zsum_zero (f := t_a A 5) 128 0 (fun j => by unfold t_a; split <;> simp), Int.zero_add]
      exact zsum_congr 16 0 (fun j _ _ => by unfold t_p; by_cases e9 : A 17 j = 0 <;> simp [e9])
  rw [e]
  exact hP
theorem rs_count {P : Int32 → zh_M → Prop} {w : Int} (h : RR M A M0) (hw : zb w) (hA : iHp A) (hC : iCo A) (hcp : A 32 0 = zsum (fun i => A 5 i) 6 0) (hP : P (zI (a_count A w)) M) : wp_X5_count M (zI w) P := by
  obtain ⟨w1, w2⟩ := hw
  have c1 := hC.1
  unfold wp_X5_count
  rw [zI_ti w1 w2, h.mk, h.cy, h.pi, h.cp, h.fh, h.tg, h.freed]
  refine ⟨fun e => zk_l (fun q => ?_) (fun q => zk_m (fun q1 => ?_) (fun q1 => ?_)), fun e => ?_, fun e => ?_, fun e => zk_l (fun q => by omega) (fun q => zk_m (fun _ => rs_tally h hA (by omega) hP) (fun q1 => by omega)), fun e => ?_, fun e => ?_, fun e => ?_, fun e => ?_, fun e => ?_, fun e => ?_⟩
  · unfold a_count at hP
    rwa [if_neg (by omega), if_neg (by omega), if_neg (by omega), if_neg (by omega), if_neg (by omega), if_neg (by omega), if_neg (by omega), if_neg (by omega), if_neg (by omega), if_neg (by omega), if_neg (by omega), if_neg (by omega)] at hP
  · exact rs_tally h hA (by omega) hP
  · unfold a_count at hP
    rwa [if_neg (by omega), if_neg (by omega), if_neg (by omega), if_neg (by omega), if_neg (by omega), if_neg (by omega), if_neg (by omega), if_neg (by omega), if_neg (by omega), if_neg (by omega), if_neg (by omega), if_neg (by omega)] at hP
  · unfold a_count at hP
    rw [if_neg (by omega), if_neg (by omega), if_neg (by omega), if_pos e] at hP
    exact rs_long h hA hP
  · unfold a_count at hP
    rw [if_neg (by omega), if_neg (by omega), if_neg (by omega), if_neg (by omega), if_pos e] at hP
    refine zk_e (fun q => ?_) (fun q => ?_)
    · rwa [if_pos q] at hP
    · rwa [if_neg q] at hP
  · unfold a_count at hP
    rwa [if_neg (by omega), if_neg (by omega), if_neg (by omega), if_neg (by omega), if_neg (by omega), if_neg (by omega), if_pos e] at hP
  · unfold a_count at hP
    rwa [if_neg (by omega), if_neg (by omega), if_neg (by omega), if_neg (by omega), if_neg (by omega), if_neg (by omega), if_neg (by omega), if_pos e] at hP
  · unfold a_count at hP
    rw [if_neg (by omega), if_neg (by omega), if_neg (by omega), if_neg (by omega), if_neg (by omega), if_neg (by omega), if_neg (by omega), if_neg (by omega), if_pos e] at hP
    rwa [hcp]
  · unfold a_count at hP
    rwa [if_neg (by omega), if_neg (by omega), if_neg (by omega), if_neg (by omega), if_neg (by omega), if_neg (by omega), if_neg (by omega), if_neg (by omega), if_neg (by omega), if_pos e] at hP
  · unfold a_count at hP
    rwa [if_neg (by omega), if_neg (by omega), if_neg (by omega), if_neg (by omega), if_neg (by omega), if_neg (by omega), if_neg (by omega), if_neg (by omega), if_neg (by omega), if_neg (by omega), if_pos e] at hP
  · unfold a_count at hP
    rwa [if_neg (by omega), if_neg (by omega), if_neg (by omega), if_neg (by omega), if_neg (by omega), if_neg (by omega), if_neg (by omega), if_neg (by omega), if_neg (by omega), if_neg (by omega), if_neg (by omega), if_pos e] at hP
theorem rs_fiber {P : Int32 → zh_M → Prop} {f w : Int} (h : RR M A M0) (hb : zb f) (hw : zb w) (hF : iFs A) (hL : iLk A) (hC : iCo A) (hc : ∀ i, i < 6 → A 6 i = 0 ∨ A 6 i = 1) (hP : P (zI (a_fiber A f w)) M) : wp_X5_fiber M (zI f) (zI w) P := by
  obtain ⟨hs, hf⟩ := hF
  obtain ⟨b1, b2⟩ := hb
  obtain ⟨w1, w2⟩ := hw
  have c1 := hC.1
  by_cases g0 : f < 0 ∨ 6 ≤ f
  · rw [a_fiber, if_pos g0] at hP
    unfold wp_X5_fiber
    exact zk_l (fun _ => hP) (fun q => zk_l (fun _ => hP) (fun q1 => by omega))
  have hi : f.toNat < 6 := by omega
  have hsi := hs _ hi
  have hci := hc _ hi
  by_cases gw : w < 0 ∨ 10 ≤ w
  · have e : a_fiber A f w = -1 := by
      rw [a_fiber, if_neg g0, if_neg (by omega)]
      split
      · rfl
      · rw [if_neg (by omega), if_neg (by omega), if_neg (by omega), if_neg (by omega), if_neg (by omega), if_neg (by omega)]
    rw [e] at hP
    unfold wp_X5_fiber
    exact zk_l (fun q => by omega) (fun q => zk_l (fun q1 => by omega) (fun q1 => zk_l (fun _ => hP) (fun q2 => zk_m (fun q3 => by omega) (fun _ => hP))))
  rw [a_fiber, if_neg g0] at hP
  have e49 : M 49 (zI f).toNatClampNeg = zI (A 2 f.toNat) := by rw [zI_cl (by omega) (by omega), h.st hi]
  unfold wp_X5_fiber
  refine zk_l (fun q => by omega) (fun q => zk_l (fun q1 => by omega) (fun q1 => zk_l (fun q2 => by omega) (fun q2 => zk_m (fun q3 => ?_) (fun q3 => by omega))))
  rw [e49]
  by_cases g1 : w = 0
  · rw [if_pos g1] at hP
    exact zk_e (fun _ => zk_n (fun e => absurd g1 e) (fun _ => ⟨zk_i, hP⟩)) (fun e => absurd g1 e)
  rw [if_neg g1] at hP
  by_cases g2 : A 2 f.toNat = 0
  · rw [if_pos g2] at hP
    exact zk_e (fun e => absurd e g1) (fun _ => ⟨zk_i, zk_n (fun e => absurd g2 e) (fun _ => zk_n (fun _ => hP) (fun e => absurd e g1))⟩)
  rw [if_neg g2] at hP
  obtain ⟨f1, f2⟩ := hf _ hi g2
  obtain ⟨l1, l2, l3⟩ := hL _ hi g2
  have f3 := f1.1
  have f4 := f1.2
  have e50 : M 50 (zI f).toNatClampNeg = zI (A 3 f.toNat) := by rw [zI_cl (by omega) (by omega), h.fr hi, l1]
  have e51 : M 51 (zI f).toNatClampNeg = zI (A 4 f.toNat) := by rw [zI_cl (by omega) (by omega), h.rm hi, l2]
  have e54 : M 54 (zI f).toNatClampNeg = zI (A 6 f.toNat) := by rw [zI_cl (by omega) (by omega), h.sc hi]
  have e59 : M 59 (zI f).toNatClampNeg = zI (A 7 f.toNat) := by rw [zI_cl (by omega) (by omega), h.tk hi, l3]
  have e53 : M 53 (zI (16 * f + A 3 f.toNat - 1)).toNatClampNeg = zI (A 13 (16 * f.toNat + (A 3 f.toNat - 1).toNat)) := by rw [zI_cl (by omega) (by omega), h.re (by omega), show (16 * f + A 3 f.toNat - 1).toNat = 16 * f.toNat + (A 3 f.toNat - 1).toNat by omega]
  rw [e50, e51, e54, e59, h.mk, zI_mul, zI_add, zI_sub, zI_sub, e53]
  have last : ∀ s : Int, s = (if A 14 5 ≠ 0 ∧ A 6 f.toNat ≠ 0 then 1 else 0) → ¬ (4 ≤ w ∧ w < 8) → (¬ zI w = (zI 1) → (¬ zI w = (zI 2) → (¬ zI w = (zI 3) → (¬ zI w = (zI 8) → vp_in (zI f) 6 ∧ (P (zI (A 7 f.toNat)) M)) ∧ (zI w = (zI 8) → vp_in (zI f) 6 ∧ (vp_in (zI (16 * f + A 3 f.toNat - 1)) 96 ∧ (P (zI (A 13 (16 * f.toNat + (A 3 f.toNat - 1).toNat))) M)))) ∧ (zI w = (zI 3) → P (zI s) M)) ∧ (zI w = (zI 2) → vp_in (zI f) 6 ∧ (P (zI (A 4 f.toNat)) M))) ∧ (zI w = (zI 1) → vp_in (zI f) 6 ∧ (P (zI (A 3 f.toNat)) M)) := by
    intro s es hn
    refine zk_n (fun x1 => zk_n (fun x2 => zk_n (fun x3 => zk_n (fun x4 => ⟨zk_i, ?_⟩) (fun x4 => ⟨zk_i, zk_i, ?_⟩)) (fun x3 => ?_)) (fun x2 => ⟨zk_i, ?_⟩)) (fun x1 => ⟨zk_i, ?_⟩)
    · rwa [if_neg x1, if_neg x2, if_neg x3, if_neg (by omega), if_neg x4, if_pos (by omega)] at hP
    · rwa [if_neg x1, if_neg x2, if_neg x3, if_neg (by omega), if_pos x4] at hP
    · rw [if_neg x1, if_neg x2, if_pos x3] at hP
      rwa [es]
    · rwa [if_neg x1, if_pos x2] at hP
    · rwa [if_pos x1] at hP
  have body : ¬ (4 ≤ w ∧ w < 8) → _ := fun hn => hn
  refine zk_e (fun e => absurd e g1) (fun _ => ⟨zk_i, zk_n (fun _ => zk_l (fun y1 => zk_e (fun y2 => last 0 (by rw [if_neg (fun z => z.1 y2)]) (by omega)) (fun y2 => ⟨zk_i, zk_e (fun y3 => last 0 (by rw [if_neg (fun z => z.2 y3)]) (by omega)) (fun y3 => last 1 (by rw [if_pos ⟨y2, y3⟩]) (by omega))⟩)) (fun y1 => zk_m (fun y4 => zk_e (fun y2 => last 0 (by rw [if_neg (fun z => z.1 y2)]) (by omega)) (fun y2 => ⟨zk_i, zk_e (fun y3 => last 0 (by rw [if_neg (fun z => z.2 y3)]) (by omega)) (fun y3 => last 1 (by rw [if_pos ⟨y2, y3⟩]) (by omega))⟩)) (fun y4 => rs_value h (by omega) (by omega) ⟨by omega, by omega⟩ f1 f2 l1 ?_))) (fun e => absurd e g2)⟩)
  rwa [if_neg (by omega), if_neg (by omega), if_neg (by omega), if_pos (by omega)] at hP
end RCN
