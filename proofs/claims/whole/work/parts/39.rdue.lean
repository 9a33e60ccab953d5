def w41 (A : zA) (a : Nat) : Int := if a % 2 = 0 then A 18 (a / 2) else 0
def q_ini (A : zA) (a : Nat) : Int := if 0 < w41 A a ∧ A 24 a ≠ 0 ∧ A 33 a = 0 then 1 else 0
abbrev q_cl (A : zA) (S : Nat → Prop) : Prop := (∀ a, a < 256 → q_ini A a = 1 → S a) ∧ ∀ a, a < 256 → S a → ∀ w : Nat, (w : Int) < A 28 (a / 2) → ∀ p : Nat, p < 256 → A 15 (a + w) = (p : Int) → A 33 p = 0 → S p
abbrev q_inv (A : zA) (d : Nat → Int) : Prop := (∀ a, d a = 0 ∨ d a = 1) ∧ (∀ a, a < 256 → d a = 1 → a % 2 = 0 ∧ A 18 (a / 2) ≠ 0) ∧ (∀ a, a < 256 → q_ini A a = 1 → d a = 1) ∧ ∀ S, q_cl A S → ∀ a, a < 256 → d a = 1 → S a
abbrev q_sat (A : zA) (d : Nat → Int) (a : Nat) : Prop := d a = 1 → ∀ w : Nat, (w : Int) < A 28 (a / 2) → ∀ p : Nat, p < 256 → A 15 (a + w) = (p : Int) → A 33 p = 0 → d p = 1
abbrev q_ok (A : zA) : Prop := (∀ u, u < 128 → 0 ≤ A 18 u ∧ A 18 u ≤ 64) ∧ (∀ a, a < 256 → (A 24 a = 0 ∨ A 24 a = 1) ∧ (A 33 a = 0 ∨ A 33 a = 1)) ∧ ∀ u : Nat, u < 128 → A 18 u ≠ 0 → 0 ≤ A 28 u ∧ A 28 u ≤ 64 ∧ 2 * (u : Int) + A 28 u ≤ 256 ∧ ∀ w : Nat, (w : Int) < A 28 u → okp A (A 15 (2 * u + w))
abbrev q_du (M : zh_M) (d : Nat → Int) : Prop := ∀ a, a < 256 → M 46 a = zI (d a)
theorem zsum_set {d : Nat → Int} {p : Nat} : ∀ (k i : Nat), i ≤ p → p < i + k → zsum (fun j => if j = p then 1 else d j) k i = zsum d k i - d p + 1 := by
  intro k
  induction k with
  | zero => intro i h1 h2; omega
  | succ k ih =>
    intro i h1 h2
    rw [zsum, zsum]
    by_cases e : i = p
    · subst e
      have : zsum (fun j => if j = i then 1 else d j) k (i + 1) = zsum d k (i + 1) := zsum_congr k (i + 1) (fun j h1 h2 => by rw [if_neg (by omega)])
      rw [this]
      simp only [if_true]
      omega
    · rw [ih (i + 1) (by omega) (by omega)]
      simp only [if_neg e]
      omega
section RDU
variable {M M0 : zh_M} {A : zA}
theorem rr_w41 (h : RR M A M0) {a : Nat} (ha : a < 256) : M 41 a = zI (w41 A a) := by
  unfold w41
  split
  · rename_i e
    have := h.sz (i := a / 2) (by omega)
    rwa [show 2 * (a / 2) = a by omega] at this
  · rename_i e
    have := h.2.1 (a / 2) (by omega)
    rwa [show 2 * (a / 2) + 1 = a by omega] at this
theorem rs_due1 {K P : Int32 → zh_M → Prop} (hq : q_ok A) : ∀ (k a : Nat) (M : zh_M), a + k = 256 → RR M A M0 → (∀ j, j < a → M 46 j = zI (q_ini A j)) → (∀ M', RR M' A M0 → q_du M' (q_ini A) → K (zI (zsum (q_ini A) 256 0)) M') → wl_X5_countDue_4 K P (k + 1) (zI (zsum (q_ini A) a 0)) (zI (a : Int)) M := by
  have app : ∀ (n m i : Nat), zsum (q_ini A) (n + m) i = zsum (q_ini A) n i + zsum (q_ini A) m (i + n) := by
    intro n
    induction n with
    | zero => intro m i; simp [zsum]
    | succ n ih =>
      intro m i
      rw [show n + 1 + m = n + m + 1 by omega, zsum, zsum, ih, show i + 1 + n = i + (n + 1) by omega]
      omega
  intro k
  induction k with
  | zero =>
    intro a M ha h hd hK
    have e : a = 256 := by omega
    subst e
    unfold wl_X5_countDue_4
    exact zk_m (fun _ => hK M h hd) (fun q => by omega)
  | succ k ih =>
    intro a M ha h hd hK
    have ha2 : a < 256 := by omega
    have hw : 0 ≤ w41 A a ∧ w41 A a ≤ 64 := by
      unfold w41
      split
      · exact hq.1 (a / 2) (by omega)
      · omega
    obtain ⟨hno, hyo⟩ := hq.2.1 a ha2
    have step : ∀ v : Int, v = q_ini A a → (∀ M1 : zh_M, M1 = zh_set M 46 a (zI v) → vp_in (zI (a : Int)) 256 ∧ (((M1 46 a) = zI 0 → wl_X5_countDue_4 K P (k + 1) (zI (zsum (q_ini A) a 0)) (zI ((a : Int) + 1)) M1) ∧ (¬ (M1 46 a) = zI 0 → wl_X5_countDue_4 K P (k + 1) (zI (zsum (q_ini A) a 0 + 1)) (zI ((a : Int) + 1)) M1))) := by
      intro v ev M1 e1
      subst e1
      have hnext : zsum (q_ini A) a 0 + q_ini A a = zsum (q_ini A) (a + 1) 0 := by
        rw [app a 1 0]
        simp [zsum]
      have hgo := ih (a + 1) (zh_set M 46 a (zI v)) (by omega) h.due (fun j hj => by
        by_cases e : j = a
        · subst e
          rw [zs_same, ev]
        · rw [zs_ix e]
          exact hd j (by omega)) hK
      rw [zs_same]
      have hv : v = 0 ∨ v = 1 := by
        rw [ev]
        unfold q_ini
        split <;> omega
      refine ⟨zk_i, zk_e (fun e => ?_) (fun e => ?_)⟩
      · rw [← hnext, ← ev, show zsum (q_ini A) a 0 + v = zsum (q_ini A) a 0 by omega] at hgo
        exact hgo
      · rw [← hnext, ← ev, show zsum (q_ini A) a 0 + v = zsum (q_ini A) a 0 + 1 by omega] at hgo
        exact hgo
    unfold wl_X5_countDue_4
    rw [zI_cl (by omega) (by omega), show ((a : Int)).toNat = a by omega, rr_w41 h ha2, h.no ha2, h.yo ha2, zI_add, zI_add, zI_add, Int.add_zero]
    refine zk_m (fun q => by omega) (fun _ => ⟨zk_i, zk_m (fun q => ⟨zk_i, step 0 ?_⟩) (fun q => ⟨zk_i, zk_e (fun q1 => ⟨zk_i, step 0 ?_⟩) (fun q1 => ⟨zk_i, zk_n (fun q2 => ⟨zk_i, step 0 ?_⟩) (fun q2 => ⟨zk_i, step 1 ?_⟩)⟩)⟩)⟩)
    · rw [q_ini, if_neg (by omega)]
    · rw [q_ini, if_neg (fun w => w.2.1 q1)]
    · rw [q_ini, if_neg (fun w => q2 w.2.2)]
    · rw [q_ini, if_pos ⟨q, q1, q2⟩]
theorem rs_due2 {K P : Int32 → zh_M → Prop} {x y : Int32} (hq : q_ok A) {a : Nat} (ha : a % 2 = 0) (ha2 : a < 256) (ht : A 18 (a / 2) ≠ 0) {n0 : Int} {d0 : Nat → Int} (hK : ∀ (M' : zh_M) (d : Nat → Int), RR M' A M0 → q_du M' d → q_inv A d → n0 ≤ zsum d 256 0 → (zsum d 256 0 = n0 → (∀ j, d j = d0 j) ∧ q_sat A d a) → K (zI (zsum d 256 0)) M') : ∀ (k w : Nat) (M : zh_M) (d : Nat → Int), (w : Int) + k = A 28 (a / 2) → RR M A M0 → q_du M d → q_inv A d → d a = 1 → n0 ≤ zsum d 256 0 → (zsum d 256 0 = n0 → (∀ j, d j = d0 j) ∧ ∀ v : Nat, v < w → ∀ p : Nat, p < 256 → A 15 (a + v) = (p : Int) → A 33 p = 0 → d p = 1) → wl_X5_countDue_104 x y (zI (a : Int)) K P (k + 1) (zI (zsum d 256 0)) (zI (w : Int)) M := by
  obtain ⟨hq1, hq2, hq3⟩ := hq
  have hu : a / 2 < 128 := by omega
  obtain ⟨r1, r2, r3, r4⟩ := hq3 (a / 2) hu ht
  intro k
  induction k with
  | zero =>
    intro w M d hw h hd hi hda hn hs
    have e42 : M 42 a = zI (A 28 (a / 2)) := by
      have := h.pc hu
      rwa [show 2 * (a / 2) = a by omega] at this
    unfold wl_X5_countDue_104
    rw [zI_cl (by omega) (by omega), show ((a : Int)).toNat = a by omega, e42]
    refine ⟨zk_i, zk_m (fun _ => hK M d h hd hi hn (fun e => ⟨(hs e).1, fun _ v hv => (hs e).2 v (by omega)⟩)) (fun q => by omega)⟩
  | succ k ih =>
    intro w M d hw h hd hi hda hn hs
    have e42 : M 42 a = zI (A 28 (a / 2)) := by
      have := h.pc hu
      rwa [show 2 * (a / 2) = a by omega] at this
    have hp := r4 w (by omega)
    rw [show 2 * (a / 2) = a by omega] at hp
    unfold wl_X5_countDue_104
    rw [zI_cl (a := (a : Int)) (by omega) (by omega), show ((a : Int)).toNat = a by omega, e42, hd a ha2, hda, zI_add, zI_cl (a := (a : Int) + (w : Int)) (by omega) (by omega), show ((a : Int) + (w : Int)).toNat = a + w by omega, h.mem (by omega), zI_add]
    have hpb : -1 ≤ A 15 (a + w) ∧ A 15 (a + w) < 256 := by omega
    refine ⟨zk_i, zk_m (fun q => by omega) (fun _ => ⟨zk_i, zk_e (fun q => by omega) (fun _ => ⟨zk_i, zk_e (fun e => ?_) (fun e => ?_)⟩)⟩)⟩
    · refine ih (w + 1) M d (by omega) h hd hi hda hn (fun e9 => ⟨(hs e9).1, fun v hv p hp2 e10 e11 => ?_⟩)
      by_cases e12 : v = w
      · subst e12
        omega
      · exact (hs e9).2 v (by omega) p hp2 e10 e11
    · have hp2 := hp.resolve_left e
      have hpn : (A 15 (a + w)).toNat < 256 := by omega
      have epn : ((A 15 (a + w)).toNat : Int) = A 15 (a + w) := by omega
      obtain ⟨hyo1, hyo⟩ := hq2 _ hpn
      rw [zI_cl (a := A 15 (a + w)) (by omega) (by omega), hd _ hpn, h.yo hpn]
      have hdp := hi.1 (A 15 (a + w)).toNat
      have same : d (A 15 (a + w)).toNat = 1 ∨ A 33 (A 15 (a + w)).toNat ≠ 0 → wl_X5_countDue_104 x y (zI (a : Int)) K P (k + 1) (zI (zsum d 256 0)) (zI ((w : Int) + 1)) M := by
        intro hc
        refine ih (w + 1) M d (by omega) h hd hi hda hn (fun e9 => ⟨(hs e9).1, fun v hv p hp2 e10 e11 => ?_⟩)
        by_cases e12 : v = w
        · subst e12
          have : p = (A 15 (a + v)).toNat := by omega
          rw [this] at e11 ⊢
          rcases hc with hc | hc
          · exact hc
          · exact absurd e11 hc
        · exact (hs e9).2 v (by omega) p hp2 e10 e11
      refine ⟨zk_i, zk_n (fun q1 => same (Or.inl (by omega))) (fun q1 => ⟨zk_i, zk_n (fun q2 => same (Or.inr q2)) (fun q2 => ⟨zk_i, fun M12 e12 => ?_⟩)⟩)⟩
      subst e12
      have hsum := zsum_set (d := d) (p := (A 15 (a + w)).toNat) 256 0 (by omega) (by omega)
      rw [q1, Int.sub_zero] at hsum
      rw [zI_add, ← hsum]
      refine ih (w + 1) _ (fun j => if j = (A 15 (a + w)).toNat then 1 else d j) (by omega) h.due (fun j hj => ?_) ?_ ?_ (by omega) (fun e9 => by omega)
      · by_cases e13 : j = (A 15 (a + w)).toNat
        · subst e13
          simp only [zs_same, if_true]
        · rw [zs_ix e13]
          simp only [if_neg e13]
          exact hd j hj
      · refine ⟨fun j => ?_, fun j hj hj1 => ?_, fun j hj hj1 => ?_, fun S hS j hj hj1 => ?_⟩
        · by_cases e13 : j = (A 15 (a + w)).toNat
          · right; simp only [if_pos e13]
          · simp only [if_neg e13]; exact hi.1 j
        · by_cases e13 : j = (A 15 (a + w)).toNat
          · obtain ⟨z1, z2, z3, z4⟩ := hp2
            refine ⟨by omega, ?_⟩
            rw [show j / 2 = (A 15 (a + w) / 2).toNat by omega]
            exact z4
          · simp only [if_neg e13] at hj1
            exact hi.2.1 j hj hj1
        · by_cases e13 : j = (A 15 (a + w)).toNat
          · simp only [if_pos e13]
          · simp only [if_neg e13]; exact hi.2.2.1 j hj hj1
        · by_cases e13 : j = (A 15 (a + w)).toNat
          · rw [e13]
            exact hS.2 a ha2 (hi.2.2.2 S hS a ha2 hda) w (by omega) _ hpn (by omega) q2
          · simp only [if_neg e13] at hj1
            exact hi.2.2.2 S hS j hj hj1
      · show (if a = (A 15 (a + w)).toNat then 1 else d a) = 1
        split
        · rfl
        · exact hda
theorem rs_due3 {K P : Int32 → zh_M → Prop} {x y : Int32} (hq : q_ok A) {n0 : Int} {d0 : Nat → Int} (hK : ∀ (M' : zh_M) (d : Nat → Int), RR M' A M0 → q_du M' d → q_inv A d → n0 ≤ zsum d 256 0 → (zsum d 256 0 = n0 → ∀ a, a < 256 → q_sat A d a) → K (zI (zsum d 256 0)) M') : ∀ (k a : Nat) (M : zh_M) (d : Nat → Int), a + k = 256 → RR M A M0 → q_du M d → q_inv A d → n0 ≤ zsum d 256 0 → (zsum d 256 0 = n0 → (∀ j, d j = d0 j) ∧ ∀ b, b < a → q_sat A d b) → wl_X5_countDue_93 x y K P (k + 1) (zI (zsum d 256 0)) (zI (a : Int)) M := by
  intro k
  induction k with
  | zero =>
    intro a M d ha h hd hi hn hs
    unfold wl_X5_countDue_93
    refine zk_m (fun _ => hK M d h hd hi hn (fun e b hb => (hs e).2 b (by omega))) (fun q => by omega)
  | succ k ih =>
    intro a M d ha h hd hi hn hs
    have ha2 : a < 256 := by omega
    unfold wl_X5_countDue_93
    rw [zI_add]
    refine zk_m (fun q => by omega) (fun _ => ?_)
    by_cases e : d a = 1
    · obtain ⟨e1, e2⟩ := hi.2.1 a ha2 e
      obtain ⟨r1, r2, r3, r4⟩ := hq.2.2 (a / 2) (by omega) e2
      refine ⟨(A 28 (a / 2)).toNat + 1, rs_due2 hq e1 ha2 e2 (n0 := zsum d 256 0) (d0 := d) (fun M' d' h' hd' hi' hn' hs' => ?_) (A 28 (a / 2)).toNat 0 M d (by omega) h hd hi e (by omega) (fun _ => ⟨fun _ => rfl, fun v hv => by omega⟩)⟩
      refine ih (a + 1) M' d' (by omega) h' hd' hi' (by omega) (fun e9 => ?_)
      have e10 : zsum d 256 0 = n0 := by omega
      obtain ⟨s1, s2⟩ := hs' (by omega)
      obtain ⟨t1, t2⟩ := hs e10
      have ed : d' = d := funext s1
      subst ed
      refine ⟨t1, fun b hb => ?_⟩
      by_cases e11 : b = a
      · rw [e11]; exact s2
      · exact t2 b (by omega)
    · have e0 : d a = 0 := (hi.1 a).resolve_right e
      have go : wl_X5_countDue_93 x y K P (k + 1) (zI (zsum d 256 0)) (zI ((a : Int) + 1)) M := ih (a + 1) M d (by omega) h hd hi hn (fun e9 => ⟨(hs e9).1, fun b hb => by
        by_cases e11 : b = a
        · rw [e11]; exact fun e12 => absurd e12 e
        · exact (hs e9).2 b (by omega)⟩)
      refine ⟨1, ?_⟩
      unfold wl_X5_countDue_104
      rw [zI_cl (by omega) (by omega), show ((a : Int)).toNat = a by omega, hd a ha2, e0]
      exact ⟨zk_i, fun _ => go, fun _ => ⟨zk_i, zk_e (fun _ => go) (fun q => absurd rfl q)⟩⟩
theorem zsum_01 {d : Nat → Int} (h : ∀ a, d a = 0 ∨ d a = 1) : 0 ≤ zsum d 256 0 ∧ zsum d 256 0 ≤ 256 := by
  have := zsum_rg (f := d) (b := 1) 256 0 (fun j _ _ => by have := h j; omega)
  omega
theorem rs_due4 {P : Int32 → zh_M → Prop} (hq : q_ok A) (hK : ∀ (M' : zh_M) (d : Nat → Int), RR M' A M0 → q_du M' d → q_inv A d → (∀ a, a < 256 → q_sat A d a) → P (zI (zsum d 256 0)) M') : ∀ (k : Nat) (b r : Int) (M : zh_M) (d : Nat → Int), 256 ≤ b + k → -1 ≤ b → b ≤ 256 → 0 ≤ r → r ≤ b + 1 → RR M A M0 → q_du M d → q_inv A d → b ≤ zsum d 256 0 → (zsum d 256 0 = b → ∀ a, a < 256 → q_sat A d a) → wl_X5_countDue_76 P (k + 1) (zI (zsum d 256 0)) (zI b) (zI r) M := by
  intro k
  induction k with
  | zero =>
    intro b r M d hb b1 b2 r1 r2 h hd hi hn hs
    have hz := zsum_01 hi.1
    unfold wl_X5_countDue_76
    exact zk_m (fun q => by omega) (fun _ => zk_m (fun q => hK M d h hd hi (hs (by omega))) (fun q => by omega))
  | succ k ih =>
    intro b r M d hb b1 b2 r1 r2 h hd hi hn hs
    have hz := zsum_01 hi.1
    unfold wl_X5_countDue_76
    rw [zI_add]
    refine zk_m (fun q => by omega) (fun _ => zk_m (fun q => hK M d h hd hi (hs (by omega))) (fun q => ⟨257, ?_⟩))
    refine rs_due3 hq (n0 := zsum d 256 0) (d0 := d) (fun M' d' h' hd' hi' hn' hs' => ?_) 256 0 M d (by omega) h hd hi (by omega) (fun _ => ⟨fun _ => rfl, fun b hb => by omega⟩)
    exact ih (zsum d 256 0) (r + 1) M' d' (by omega) (by omega) (by omega) (by omega) (by omega) h' hd' hi' hn' hs'
theorem rs_due {P : Int32 → zh_M → Prop} (h : RR M A M0) (hq : q_ok A) (hK : ∀ (M' : zh_M) (d : Nat → Int), RR M' A M0 → q_du M' d → q_inv A d → (∀ a, a < 256 → q_sat A d a) → P (zI (zsum d 256 0)) M') : wp_X5_countDue M P := by
  refine ⟨257, rs_due1 hq 256 0 M (by omega) h (fun j hj => by omega) (fun M' h' hd' => ⟨258, ?_⟩)⟩
  refine rs_due4 hq hK 257 (-1) 0 M' (q_ini A) (by omega) (by omega) (by omega) (by omega) (by omega) h' hd' ?_ ?_ ?_
  · refine ⟨fun a => ?_, fun a ha e => ?_, fun a ha e => e, fun S hS a ha e => hS.1 a ha e⟩
    · unfold q_ini
      split
      · exact Or.inr rfl
      · exact Or.inl rfl
    · unfold q_ini at e
      split at e
      · rename_i w
        have w1 := w.1
        unfold w41 at w1
        split at w1
        · rename_i e2
          exact ⟨e2, by omega⟩
        · omega
      · omega
  · have hz := zsum_01 (d := q_ini A) (fun a => by
      unfold q_ini
      split
      · exact Or.inr rfl
      · exact Or.inl rfl)
    omega
  · intro e
    have hz := zsum_01 (d := q_ini A) (fun a => by
      unfold q_ini
      split
      · exact Or.inr rfl
      · exact Or.inl rfl)
    omega
end RDU
