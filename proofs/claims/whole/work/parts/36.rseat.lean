def c_runF (A : zA) (need : Int) : Nat → Nat → Int → Int → Int → Int
  | 0, p, best, bl, len => if need ≤ len ∧ len < bl then (p : Int) - len else best
  | k + 1, p, best, bl, len => if A 16 p = 0 then c_runF A need k (p + 1) best bl (len + 1) else if need ≤ len ∧ len < bl then c_runF A need k (p + 1) ((p : Int) - len) len 0 else c_runF A need k (p + 1) best bl 0
theorem c_run_eq {A : zA} {need : Int} (hn : 1 ≤ need) : ∀ (k p : Nat) (best bl len : Int), p + k = 16 → 0 ≤ len → c_runF A need k p best bl len = if (0 < len ∧ (k = 0 ∨ A 16 p ≠ 0)) ∧ need ≤ len ∧ len < bl then a_runF A need k p ((p : Int) - len) len len else a_runF A need k p best bl len := by
  intro k
  induction k with
  | zero =>
    intro p best bl len hp hl
    rw [c_runF, a_runF, a_runF]
    by_cases e : need ≤ len ∧ len < bl
    · rw [if_pos e, if_pos ⟨⟨by omega, Or.inl rfl⟩, e⟩]
    · rw [if_neg e, if_neg (fun w => e w.2)]
  | succ k ih =>
    intro p best bl len hp hl
    rw [c_runF]
    by_cases e0 : A 16 p = 0
    · rw [if_pos e0, if_neg (fun w => w.1.2.elim (fun e => by omega) (fun e => e e0)), ih (p + 1) best bl (len + 1) (by omega) (by omega), a_runF]
      simp only [if_pos e0]
      have e1 : a_ends A p ↔ (k = 0 ∨ A 16 (p + 1) ≠ 0) := by
        constructor
        · intro w
          rcases w.2 with w2 | w2
          · exact Or.inl (by omega)
          · exact Or.inr w2
        · intro w
          refine ⟨e0, ?_⟩
          rcases w with w2 | w2
          · exact Or.inl (by omega)
          · exact Or.inr w2
      have e3 : ((p + 1 : Nat) : Int) - (len + 1) = (p : Int) - (len + 1) + 1 := by omega
      by_cases e2 : a_ends A p ∧ need ≤ len + 1 ∧ len + 1 < bl
      · rw [if_pos e2, if_pos ⟨⟨by omega, e1.mp e2.1⟩, e2.2⟩, e3]
      · rw [if_neg e2, if_neg (fun w => e2 ⟨e1.mpr w.1.2, w.2⟩)]
    · rw [if_neg e0]
      have hne : ∀ (b l n : Int), a_runF A need (k + 1) p b l n = a_runF A need k (p + 1) b l 0 := by
        intro b l n
        rw [a_runF]
        simp only [if_neg e0]
        rw [if_neg (fun w => e0 w.1.1)]
      rw [hne, hne]
      by_cases e : need ≤ len ∧ len < bl
      · rw [if_pos e, if_pos ⟨⟨by omega, Or.inr e0⟩, e⟩, ih (p + 1) _ _ 0 (by omega) (by omega), if_neg (fun w => by have := w.1.1; omega)]
      · rw [if_neg e, if_neg (fun w => e w.2), ih (p + 1) _ _ 0 (by omega) (by omega), if_neg (fun w => by have := w.1.1; omega)]
section RST
variable {M M0 : zh_M} {A : zA}
theorem rs_run_loop {K : Int32 → Int32 → zh_M → Prop} {P : Int32 → zh_M → Prop} {need : Int} (h : RR M A M0) (hA : iHp A) (hn : 1 ≤ need) (hn2 : need ≤ 4) : ∀ (k p : Nat) (best bl len s : Int), p + k = 16 → 0 ≤ len → len ≤ p → ((best = -1 ∧ bl = 17) ∨ (0 ≤ best ∧ best ≤ 16 ∧ s = bl ∧ 0 ≤ bl ∧ bl ≤ 16)) → 0 ≤ s → s ≤ 16 → (∀ x, K (zI (c_runF A need k p best bl len)) x M) → wl_X5_runOf_11 (zI need) (zI 0) K P (k + 2) (zI best) (zI s) (zI len) (zI (p : Int)) M := by
  intro k
  induction k with
  | zero =>
    intro p best bl len s hp l1 l2 hb s1 s2 hK
    have ep : (p : Int) = 16 := by omega
    have hbb : -1 ≤ best ∧ best ≤ 16 := by omega
    have fin : ∀ (b s : Int), b = c_runF A need 0 p best bl len → wl_X5_runOf_11 (zI need) (zI 0) K P 1 (zI b) (zI s) (zI 0) (zI 17) M := by
      intro b s e
      unfold wl_X5_runOf_11
      rw [e]
      exact zk_l (fun _ => hK _) (fun q => by omega)
    rw [ep]
    unfold wl_X5_runOf_11
    rw [zI_sub, zI_add, show (16 : Int) + 1 = 17 by omega]
    rw [c_runF, ep] at fin
    refine zk_l (fun q => by omega) (fun _ => zk_m (fun _ => zk_l (fun q => ?_) (fun q => zk_l (fun q1 => ?_) (fun q1 => zk_e (fun _ => zk_m (fun q2 => ?_) (fun q2 => ?_)) (fun e => absurd rfl e)))) (fun q => by omega))
    · exact fin _ _ (by rw [if_neg (by omega)])
    · exact fin _ _ (by rw [if_pos (by omega)])
    · exact fin _ _ (by rw [if_neg (by omega)])
    · exact fin _ _ (by rw [if_pos (by omega)])
  | succ k ih =>
    intro p best bl len s hp l1 l2 hb s1 s2 hK
    have hp2 : p < 16 := by omega
    have hk := hA.1 p hp2
    have hbb : -1 ≤ best ∧ best ≤ 16 := by omega
    unfold wl_X5_runOf_11
    rw [zI_cl (by omega) (by omega), show ((p : Int)).toNat = p by omega, h.kd hp2, zI_sub, zI_add, zI_add]
    refine zk_l (fun q => by omega) (fun _ => zk_m (fun q => by omega) (fun _ => ⟨zk_i, zk_n (fun e0 => ?_) (fun e0 => ?_)⟩))
    · rw [c_runF, if_neg e0] at hK
      refine zk_l (fun q => ?_) (fun q => zk_l (fun q1 => ?_) (fun q1 => zk_e (fun _ => zk_m (fun q2 => ?_) (fun q2 => ?_)) (fun e => absurd rfl e)))
      · rw [if_neg (by omega)] at hK
        exact ih (p + 1) best bl 0 s (by omega) (by omega) (by omega) hb s1 s2 hK
      · rw [if_pos (by omega)] at hK
        exact ih (p + 1) _ len 0 len (by omega) (by omega) (by omega) (Or.inr ⟨by omega, by omega, rfl, by omega, by omega⟩) (by omega) (by omega) hK
      · rw [if_neg (by omega)] at hK
        exact ih (p + 1) best bl 0 s (by omega) (by omega) (by omega) hb s1 s2 hK
      · rw [if_pos (by omega)] at hK
        exact ih (p + 1) _ len 0 len (by omega) (by omega) (by omega) (Or.inr ⟨by omega, by omega, rfl, by omega, by omega⟩) (by omega) (by omega) hK
    · rw [c_runF, if_pos e0] at hK
      exact ih (p + 1) best bl (len + 1) s (by omega) (by omega) (by omega) hb s1 s2 hK
theorem rs_run {P : Int32 → zh_M → Prop} {need : Int} (h : RR M A M0) (hA : iHp A) (hn : 1 ≤ need) (hn2 : need ≤ 4) (hP : P (zI (a_run A need)) M) : wp_X5_runOf M (zI need) (zI 0) P := by
  refine ⟨18, rs_run_loop h hA hn hn2 16 0 (-1) 17 0 0 (by omega) (by omega) (by omega) (Or.inl ⟨rfl, rfl⟩) (by omega) (by omega) (fun x => ?_)⟩
  rw [c_run_eq hn 16 0 (-1) 17 0 (by omega) (by omega), if_neg (fun w => by have := w.1.1; omega)]
  exact zk_e (fun _ => hP) (fun q => absurd rfl q)
theorem rs_long_loop {K : Int32 → Int32 → zh_M → Prop} {P : Int32 → zh_M → Prop} (h : RR M A M0) (hA : iHp A) : ∀ (k p : Nat) (best s len : Int), p + k = 16 → 0 ≤ len → len ≤ p → ((best = -1 ∧ s = 0) ∨ (0 ≤ best ∧ best ≤ 16 ∧ 1 ≤ s ∧ s ≤ 16)) → (∀ x, K x (zI (a_longF A k p (if s < len then len else s) len)) M) → wl_X5_runOf_11 (zI 1) (zI 1) K P (k + 2) (zI best) (zI s) (zI len) (zI (p : Int)) M := by
  intro k
  induction k with
  | zero =>
    intro p best s len hp l1 l2 hb hK
    have ep : (p : Int) = 16 := by omega
    have hbb : -1 ≤ best ∧ best ≤ 16 ∧ 0 ≤ s ∧ s ≤ 16 := by omega
    rw [a_longF] at hK
    have fin : ∀ (b t : Int), t = (if s < len then len else s) → wl_X5_runOf_11 (zI 1) (zI 1) K P 1 (zI b) (zI t) (zI 0) (zI 17) M := by
      intro b t e
      unfold wl_X5_runOf_11
      rw [e]
      exact zk_l (fun _ => hK _) (fun q => by omega)
    rw [ep]
    unfold wl_X5_runOf_11
    rw [zI_sub, zI_add, show (16 : Int) + 1 = 17 by omega]
    refine zk_l (fun q => by omega) (fun _ => zk_m (fun _ => zk_l (fun q => ?_) (fun q => zk_l (fun q1 => ?_) (fun q1 => zk_e (fun e => by omega) (fun _ => zk_m (fun q2 => ?_) (fun q2 => ?_))))) (fun q => by omega))
    · exact fin _ _ (by rw [if_neg (by omega)])
    · exact fin _ _ (by rw [if_pos (by omega)])
    · exact fin _ _ (by rw [if_neg (by omega)])
    · exact fin _ _ (by rw [if_pos (by omega)])
  | succ k ih =>
    intro p best s len hp l1 l2 hb hK
    have hp2 : p < 16 := by omega
    have hk := hA.1 p hp2
    have hbb : -1 ≤ best ∧ best ≤ 16 ∧ 0 ≤ s ∧ s ≤ 16 := by omega
    unfold wl_X5_runOf_11
    rw [zI_cl (by omega) (by omega), show ((p : Int)).toNat = p by omega, h.kd hp2, zI_sub, zI_add, zI_add]
    rw [a_longF] at hK
    refine zk_l (fun q => by omega) (fun _ => zk_m (fun q => by omega) (fun _ => ⟨zk_i, zk_n (fun e0 => ?_) (fun e0 => ?_)⟩))
    · simp only [if_neg e0] at hK
      have hm : (if (if s < len then len else s) < 0 then 0 else if s < len then len else s) = if s < len then len else s := by
        by_cases w : s < len
        · rw [if_pos w, if_neg (by omega)]
        · rw [if_neg w, if_neg (by omega)]
      rw [hm] at hK
      have k1 : ∀ t : Int, 0 ≤ t → t = (if s < len then len else s) → ∀ x, K x (zI (a_longF A k (p + 1) (if t < 0 then 0 else t) 0)) M := by
        intro t ht e x
        rw [if_neg (by omega), e]
        exact hK x
      refine zk_l (fun q => ?_) (fun q => zk_l (fun q1 => ?_) (fun q1 => zk_e (fun e => by omega) (fun _ => zk_m (fun q2 => ?_) (fun q2 => ?_))))
      · exact ih (p + 1) best s 0 (by omega) (by omega) (by omega) hb (k1 s (by omega) (by rw [if_neg (by omega)]))
      · exact ih (p + 1) _ len 0 (by omega) (by omega) (by omega) (Or.inr ⟨by omega, by omega, by omega, by omega⟩) (k1 len (by omega) (by rw [if_pos (by omega)]))
      · exact ih (p + 1) best s 0 (by omega) (by omega) (by omega) hb (k1 s (by omega) (by rw [if_neg (by omega)]))
      · exact ih (p + 1) _ len 0 (by omega) (by omega) (by omega) (Or.inr ⟨by omega, by omega, by omega, by omega⟩) (k1 len (by omega) (by rw [if_pos (by omega)]))
    · simp only [if_pos e0] at hK
      have hm : (if (if s < len then len else s) < len + 1 then len + 1 else if s < len then len else s) = if s < len + 1 then len + 1 else s := by
        by_cases w : s < len
        · rw [if_pos w, if_pos (by omega), if_pos (by omega)]
        · rw [if_neg w]
      rw [hm] at hK
      exact ih (p + 1) best s (len + 1) (by omega) (by omega) (by omega) hb hK
theorem rs_long {P : Int32 → zh_M → Prop} (h : RR M A M0) (hA : iHp A) (hP : P (zI (a_longF A 16 0 0 0)) M) : wp_X5_runOf M (zI 1) (zI 1) P := by
  refine ⟨18, rs_long_loop h hA 16 0 (-1) 0 0 (by omega) (by omega) (by omega) (Or.inl ⟨rfl, rfl⟩) (fun x => ?_)⟩
  exact zk_e (fun q => by omega) (fun _ => hP)
theorem rs_open_loop {K : zh_M → Prop} {P : Int32 → zh_M → Prop} {p : Nat} {slot : Int} (hp : p < 16) (h : RR M A M0) (hA : iHp A) (hs : slot = 2 ∨ slot = 4 ∨ slot = 8) (hk : A 16 p = slot) : ∀ (k : Nat) (off : Int), 0 ≤ off → off < 32 → off % 2 = 0 → 16 ≤ off + slot * k → (a_openF A p slot k off = -1 → K M) → (a_openF A p slot k off ≠ -1 → P (zI (a_openF A p slot k off)) M) → wl_X5_seat_43 (zI slot) (zI (p : Int)) K P (k + 1) (zI (16 * (p : Int) + off)) M := by
  intro k
  induction k with
  | zero =>
    intro off h1 h2 h3 h4 h5 h6
    unfold wl_X5_seat_43
    rw [zI_mul, zI_add]
    exact zk_m (fun _ => h5 rfl) (fun q => by omega)
  | succ k ih =>
    intro off h1 h2 h3 h4 h5 h6
    unfold wl_X5_seat_43
    rw [zI_mul, zI_add]
    rw [a_openF] at h5 h6
    refine zk_m (fun q => ?_) (fun q => ?_)
    · rw [if_neg (by omega)] at h5
      exact h5 rfl
    · have hu : ((16 * (p : Int) + off) / 2).toNat < 128 := by omega
      obtain ⟨x1, x2, x3, x4, x5, x6⟩ := hA.2.2 _ hu
      rw [if_pos (by omega)] at h5 h6
      rw [zI_cl (a := (p : Int)) (by omega) (by omega), show ((p : Int)).toNat = p by omega, h.kd hp, hk, zI_cl (a := 16 * (p : Int) + off) (by omega) (by omega), show (16 * (p : Int) + off).toNat = 2 * ((16 * (p : Int) + off) / 2).toNat by omega, h.sz hu, zI_add]
      refine ⟨zk_i, zk_n (fun e => absurd rfl e) (fun _ => ⟨zk_i, zk_n (fun q1 => ?_) (fun q1 => ?_)⟩)⟩
      · rw [if_neg q1] at h5 h6
        rw [Int.add_assoc]
        refine ih (off + slot) (by omega) (by omega) (by omega) ?_ h5 h6
        have e2 : slot * ((k + 1 : Nat) : Int) = slot * k + slot := by rw [Int.natCast_add, Int.mul_add]; simp
        omega
      · rw [if_pos q1] at h6
        exact h6 (by omega)
theorem rs_open {K : zh_M → Prop} {P : Int32 → zh_M → Prop} {p : Nat} {slot : Int} (hp : p < 16) (h : RR M A M0) (hA : iHp A) (hs : slot = 2 ∨ slot = 4 ∨ slot = 8) (h0 : a_open A p slot = -1 → K M) (h1 : a_open A p slot ≠ -1 → P (zI (a_open A p slot)) M) : ∃ n, wl_X5_seat_43 (zI slot) (zI (p : Int)) K P n (zI 16 * zI (p : Int)) M := by
  have hk := hA.1 p hp
  by_cases e : A 16 p = slot
  · rw [a_open, if_pos e] at h0 h1
    have := rs_open_loop (K := K) (P := P) hp h hA hs e 8 0 (by omega) (by omega) (by omega) (by omega) h0 h1
    rw [zI_mul]
    rw [Int.add_zero] at this
    exact ⟨9, this⟩
  · rw [a_open, if_neg e] at h0
    refine ⟨1, ?_⟩
    unfold wl_X5_seat_43
    rw [zI_mul, zI_add, zI_cl (a := (p : Int)) (by omega) (by omega), show ((p : Int)).toNat = p by omega, h.kd hp]
    exact zk_m (fun q => by omega) (fun _ => ⟨zk_i, zk_n (fun _ => h0 rfl) (fun q => absurd q e)⟩)
theorem rs_spans_loop {G : zA → Prop} (hG : ∀ A, G A → iHp A ∧ ∀ p, p < 16 → A 17 p ≠ 0 → iKp A p) (hs : ∀ A p, G A → p < 16 → A 17 p ≠ 0 → G (a_sweep A p)) {K : zh_M → Prop} {P : Int32 → zh_M → Prop} {slot : Int} (hsl : slot = 2 ∨ slot = 4 ∨ slot = 8) : ∀ (k p : Nat) (M : zh_M) (A : zA), RR M A M0 → G A → p + k = 16 → ((a_spans slot k p A).1 = -1 → ∀ M', RR M' (a_spans slot k p A).2 M0 → K M') → ((a_spans slot k p A).1 ≠ -1 → ∀ M', RR M' (a_spans slot k p A).2 M0 → P (zI (a_spans slot k p A).1) M') → wl_X5_seat_2 (zI slot) K P (k + 1) (zI (p : Int)) M := by
  intro k
  induction k with
  | zero =>
    intro p M A h hA hp h0 h1
    unfold wl_X5_seat_2
    exact zk_m (fun _ => h0 rfl _ h) (fun q => by omega)
  | succ k ih =>
    intro p M A h hA hp h0 h1
    have hp2 : p < 16 := by omega
    obtain ⟨hA1, hA2⟩ := hG A hA
    have hk := hA1.1 p hp2
    have hu := hA1.2.1 p hp2
    unfold wl_X5_seat_2
    rw [zI_cl (by omega) (by omega), show ((p : Int)).toNat = p by omega, h.kd hp2, h.un hp2, zI_add]
    refine zk_m (fun q => by omega) (fun _ => zk_m (fun q => by omega) (fun _ => ⟨zk_i, zk_n (fun q1 => ?_) (fun q1 => ⟨zk_i, zk_e (fun q2 => ?_) (fun q2 => rs_sweep hp2 h hA1 (hA2 p hp2 q2) (fun M' hM => ?_))⟩)⟩))
    · rw [a_spans, if_neg q1] at h0 h1
      refine rs_open hp2 h hA1 hsl (fun _ => ih (p + 1) M A h hA (by omega) h0 h1) (fun e => absurd (by rw [a_open, if_neg q1]) e)
    · rw [a_spans, if_pos q1] at h0 h1
      simp only [if_pos q2] at h0 h1
      refine rs_open hp2 h hA1 hsl (fun e => ?_) (fun e => ?_)
      · simp only [if_pos e] at h0 h1
        exact ih (p + 1) M A h hA (by omega) h0 h1
      · simp only [if_neg e] at h0 h1
        exact h1 e _ h
    · rw [a_spans, if_pos q1] at h0 h1
      simp only [if_neg q2] at h0 h1
      have hS := hs A p hA hp2 q2
      refine rs_open hp2 hM (hG _ hS).1 hsl (fun e => ?_) (fun e => ?_)
      · simp only [if_pos e] at h0 h1
        exact ih (p + 1) _ _ hM hS (by omega) h0 h1
      · simp only [if_neg e] at h0 h1
        exact h1 e _ hM
theorem rs_fill_loop {K : zh_M → Prop} {P : Int32 → zh_M → Prop} {slot w : Int} {r : Nat} (h2 : (r : Int) + w ≤ 16) : ∀ (k q : Nat) (M : zh_M) (A : zA), 1 ≤ q → RR M A M0 → (q : Int) + k = w → (∀ M', RR M' (a_fillP 1 k (r + q) A) M0 → K M') → wl_X5_seat_113 (zI slot) (zI w) (zI (r : Int)) K P (k + 1) (zI (q : Int)) M := by
  intro k
  induction k with
  | zero =>
    intro q M A hq h hw hK
    unfold wl_X5_seat_113
    exact zk_m (fun _ => hK _ h) (fun q => by omega)
  | succ k ih =>
    intro q M A hq h hw hK
    unfold wl_X5_seat_113
    rw [zI_add, zI_add, zI_cl (by omega) (by omega), show ((r : Int) + (q : Int)).toNat = r + q by omega]
    refine zk_m (fun q => by omega) (fun _ => zk_l (fun q => by omega) (fun _ => zk_n (fun _ => ⟨zk_i, fun M20 e20 => ?_⟩) (fun q => by omega)))
    subst e20
    rw [a_fillP, if_pos (by omega)] at hK
    exact ih (q + 1) _ _ (by omega) (h.kd_ (by omega)) (by omega) hK
theorem rs_newS {P : Int32 → zh_M → Prop} {slot : Int} (hs : 2 ≤ slot) (hs2 : slot ≤ 64) (h : RR M A M0) (hA : iHp A) (hP : ∀ M', RR M' (a_newS A slot).2 M0 → P (zI (a_newS A slot).1) M') : wp_X5_runOf M (zI (a_wide slot)) (zI 0) (fun r19 M18 => ∃ n27 : Nat, wl_X5_seat_113 (zI slot) (zI (a_wide slot)) (r19) (fun M22 => (zI 0 ≤ r19 → P ((zI 16) * r19) M22) ∧ (¬ zI 0 ≤ r19 → P (zI (-1)) M22)) P n27 (zI 0) M18) := by
  have hw := a_wide_rg (k := slot) (by omega) hs2
  refine rs_run h hA hw.1 hw.2 ?_
  have hg := a_run_rg (A := A) hw.1
  unfold a_newS at hP
  by_cases e : a_run A (a_wide slot) = -1
  · rw [if_pos e] at hP
    rw [e]
    refine ⟨1, ?_⟩
    unfold wl_X5_seat_113
    exact zk_m (fun q => by omega) (fun _ => zk_l (fun _ => zk_m (fun q => by omega) (fun _ => hP _ h)) (fun q => by omega))
  · rw [if_neg e] at hP
    obtain ⟨g1, g2, -⟩ := hg.resolve_left e
    have er : a_run A (a_wide slot) = ((a_run A (a_wide slot)).toNat : Int) := by omega
    have hr : (a_run A (a_wide slot)).toNat < 16 := by omega
    have ew : (a_wide slot).toNat = ((a_wide slot).toNat - 1) + 1 := by omega
    rw [ew, a_fillP_new hr] at hP
    refine ⟨(a_wide slot).toNat - 1 + 1 + 1, ?_⟩
    generalize (a_run A (a_wide slot)).toNat = r at *
    rw [er] at hP ⊢
    unfold wl_X5_seat_113
    rw [zI_add, Int.add_zero, zI_add, zI_cl (by omega) (by omega), show ((r : Int)).toNat = r by omega]
    refine zk_m (fun q => by omega) (fun _ => zk_l (fun q => by omega) (fun _ => zk_n (fun q => absurd rfl q) (fun _ => ⟨zk_i, fun M21 e21 => ?_⟩)))
    subst e21
    have := rs_fill_loop (K := fun M22 => (zI 0 ≤ zI (r : Int) → P ((zI 16) * zI (r : Int)) M22) ∧ (¬ zI 0 ≤ zI (r : Int) → P (zI (-1)) M22)) (P := P) (slot := slot) (w := a_wide slot) (r := r) (by omega) ((a_wide slot).toNat - 1) 1 _ _ (by omega) (h.kd_ (v := slot) hr) (by omega) (fun M' hM => ?_)
    · exact this
    · rw [zI_mul]
      exact zk_m (fun _ => hP _ hM) (fun q => by omega)
theorem rs_seat {G : zA → Prop} (hG : ∀ A, G A → iHp A ∧ ∀ p, p < 16 → A 17 p ≠ 0 → iKp A p) (hs : ∀ A p, G A → p < 16 → A 17 p ≠ 0 → G (a_sweep A p)) {P : Int32 → zh_M → Prop} {slot : Int} (s1 : 2 ≤ slot) (s2 : slot ≤ 64) (s3 : slot < 16 → slot = 2 ∨ slot = 4 ∨ slot = 8) (h : RR M A M0) (hA : G A) (hP : ∀ M', RR M' (a_seat A slot).2 M0 → P (zI (a_seat A slot).1) M') : wp_X5_seat M (zI slot) P := by
  have tail : ∀ (M : zh_M) (B : zA), RR M B M0 → iHp B → (∀ M', RR M' (a_newS B slot).2 M0 → P (zI (a_newS B slot).1) M') → ((zI 16) ≤ zI slot → wp_X5_runOf M (zI slot / (zI 16)) (zI 0) (fun r19 M18 => ∃ n27 : Nat, wl_X5_seat_113 (zI slot) (zI slot / (zI 16)) (r19) (fun M22 => (zI 0 ≤ r19 → P ((zI 16) * r19) M22) ∧ (¬ zI 0 ≤ r19 → P (zI (-1)) M22)) P n27 (zI 0) M18)) ∧ (¬ (zI 16) ≤ zI slot → wp_X5_runOf M (zI 1) (zI 0) (fun r29 M28 => ∃ n35 : Nat, wl_X5_seat_113 (zI slot) ((zI 1)) (r29) (fun M30 => (zI 0 ≤ r29 → P ((zI 16) * r29) M30) ∧ (¬ zI 0 ≤ r29 → P (zI (-1)) M30)) P n35 (zI 0) M28)) := by
    intro M B hB hB2 hP2
    have := rs_newS s1 s2 hB hB2 hP2
    refine zk_m (fun q => ?_) (fun q => ?_)
    · rw [zI_div (by omega) (by omega) (by omega) (by omega)]
      have e : a_wide slot = slot / 16 := by rw [a_wide, if_neg (by omega)]
      rw [e] at this
      exact this
    · have e : a_wide slot = 1 := by rw [a_wide, if_pos q]
      rw [e] at this
      exact this
  unfold a_seat at hP
  by_cases e : slot < 16
  · simp only [if_pos e] at hP
    have hI : ∀ (k p : Nat) (B : zA), p + k = 16 → G B → G (a_spans slot k p B).2 := by
      intro k
      induction k with
      | zero => intro p B hp hB; exact hB
      | succ k ih =>
        intro p B hp hB
        rw [a_spans]
        split
        · have hB2 : G (if B 17 p = 0 then B else a_sweep B p) := by
            split
            · exact hB
            · rename_i w
              exact hs B p hB (by omega) w
          generalize (if B 17 p = 0 then B else a_sweep B p) = C at hB2 ⊢
          by_cases e2 : a_open C p slot = -1
          · simp only [if_pos e2]
            exact ih (p + 1) C (by omega) hB2
          · simp only [if_neg e2]
            exact hB2
        · exact ih (p + 1) B (by omega) hB
    refine ⟨17, rs_spans_loop hG hs (s3 e) 16 0 M A h hA (by omega) (fun e2 M' hM => ?_) (fun e2 M' hM => ?_)⟩
    · rw [if_pos e2] at hP
      exact tail M' _ hM (hG _ (hI 16 0 A (by omega) hA)).1 hP
    · rw [if_neg e2] at hP
      exact hP _ hM
  · simp only [if_neg e, if_true] at hP
    refine ⟨1, ?_⟩
    unfold wl_X5_seat_2
    exact zk_m (fun q => by omega) (fun _ => zk_m (fun _ => tail M A h (hG A hA).1 hP) (fun q => by omega))
end RST
