def JMfx (x0 : Nat) (st fr sc ce qu le mem sz pc ma pe no yo pc' : Nat → Int) (mk pn lk : Int) : Prop := mk ≠ 0 →
  ((∀ u, u < 128 → yo (2 * u) = if ma u = 1 then 1 else 0) ∧ (∀ a, a < 256 → (no a = 0 ∨ no a = 1) ∧ (yo a = 0 ∨ yo a = 1))) ∧
  (∀ u, u < 128 → ma u ≠ 0 → sz u ≠ 0) ∧
  ((∀ j : Nat, (j : Int) < pn → ∃ u : Nat, u < 128 ∧ pe j = 2 * (u : Int) ∧ ma u = 2) ∧ (∀ j k : Nat, j < k → (k : Int) < pn → pe j ≠ pe k)) ∧
  (∀ u, u < 128 → u ≠ x0 → ma u ≠ 0 → ¬ pnf pe pn u → ∀ w : Nat, (w : Int) < pc u → mkf ma (mem (2 * u + w))) ∧
  ((∀ i, i < 6 → st i ≠ 0 → sc i ≠ 0 → ∀ q : Nat, (q : Int) < 4 * fr i → dkf sz no yo pc' mem ma (ce (64 * i + q))) ∧ (∀ c, c < 4 → ∀ r : Nat, (r : Int) < le c → dkf sz no yo pc' mem ma (qu (4 * c + r)))) ∧
  (∀ a, a < 256 → no a ≠ 0 → a % 2 = 0 ∧ ma (a / 2) ≠ 0) ∧
  (∀ S, clf sz no yo pc' mem S → ∀ u, u < 128 → ma u = 2 → S (2 * u)) ∧
  (lk = zsum (fun u => if ma u = 2 then 1 else 0) 128 0 - pn ∧ 0 ≤ lk)
def JMx (x0 : Nat) (A : zA) : Prop := JMfx x0 (A 2) (A 3) (A 6) (A 12) (A 21) (A 22) (A 15) (A 18) (A 19) (A 20) (A 23) (A 24) (A 33) (A 28) (A 14 5) (A 14 4) (A 31 0)
def JJx (x0 : Nat) (N : Int) (A : zA) : Prop := 0 ≤ N ∧ N ≤ 1000 ∧ JF N A ∧ JC A ∧ JH A ∧ JV A ∧ JK A ∧ JMx x0 A ∧ JN N A
theorem JMx_fire {x0 : Nat} {st fr sc ce qu le mem sz pc ma pe no yo pc' no' : Nat → Int} {mk pn lk : Int} (h : JMfx x0 st fr sc ce qu le mem sz pc ma pe no yo pc' mk pn lk) (hm : mk ≠ 0) {u : Nat} (hu : u < 128) (hz : sz u ≠ 0) (h0 : ma u = 0) (p0 : 0 ≤ pn) (hno : ∀ a, no' a = no a ∨ (a = 2 * u ∧ no' a = 1)) (hS : ∀ S, clf sz no' yo pc' mem S → S (2 * u)) : JMfx x0 st fr sc ce qu le mem sz pc (fun j => if j = u then 2 else ma j) (fun j => if j = pn.toNat then 2 * (u : Int) else pe j) no' yo pc' mk (pn + 1) lk := by
  obtain ⟨⟨m1, m1'⟩, m2, ⟨m3, m3'⟩, m4, ⟨m5, m5'⟩, m6, m7, m8, m8'⟩ := h hm
  have mono : ∀ v, ma v ≠ 0 → (if v = u then (2 : Int) else ma v) ≠ 0 := by
    intro v hv
    split
    · decide
    · exact hv
  have mmk : ∀ p, mkf ma p → mkf (fun j => if j = u then 2 else ma j) p := fun p hp => hp.elim Or.inl (fun hp => Or.inr (mono _ hp))
  have clm : ∀ S, clf sz no' yo pc' mem S → clf sz no yo pc' mem S := fun S hcl => ⟨fun a ha a2 a3 a4 a5 => by
    rcases hno a with e9 | e9
    · exact hcl.1 a ha a2 a3 (by rw [e9]; exact a4) a5
    · exact hcl.1 a ha a2 a3 (by rw [e9.2]; decide) a5, hcl.2⟩
  have dmk : ∀ p, dkf sz no yo pc' mem ma p → dkf sz no' yo pc' mem (fun j => if j = u then 2 else ma j) p := by
    rintro p (e | e | ⟨e1, e2⟩)
    · exact Or.inl e
    · refine Or.inr (Or.inl ?_)
      have : (p / 2).toNat ≠ u := fun e9 => by rw [e9, h0] at e; omega
      simp only [if_neg this]
      exact e
    · exact Or.inr (Or.inr ⟨e1, fun S hcl => e2 S (clm S hcl)⟩)
  intro _
  refine ⟨⟨fun v hv => ?_, fun a ha => ?_⟩, fun v hv hn => ?_, ⟨fun j hj => ?_, fun j k hjk hk => ?_⟩, fun v hv hx0 hn hp w hw => ?_, ⟨fun i hi hs hc q hq => dmk _ (m5 i hi hs hc q hq), fun c hc r hr => dmk _ (m5' c hc r hr)⟩, fun a ha hn => ?_, fun S hcl v hv hm2 => ?_, ?_, m8'⟩
  · rw [m1 v hv]
    by_cases e : v = u
    · subst e
      simp [h0]
    · simp [e]
  · refine ⟨?_, (m1' a ha).2⟩
    rcases hno a with e | e
    · rw [e]; exact (m1' a ha).1
    · exact Or.inr e.2
  · by_cases e : v = u
    · rw [e]; exact hz
    · simp only [if_neg e] at hn
      exact m2 v hv hn
  · by_cases e : j = pn.toNat
    · exact ⟨u, hu, by simp only [if_pos e], by simp only [if_true]⟩
    · obtain ⟨v, v1, v2, v3⟩ := m3 j (by omega)
      refine ⟨v, v1, by simp only [if_neg e]; exact v2, ?_⟩
      have : v ≠ u := fun e9 => by rw [e9, h0] at v3; omega
      simp only [if_neg this]
      exact v3
  · have hj : j ≠ pn.toNat := by omega
    simp only [if_neg hj]
    by_cases e : k = pn.toNat
    · simp only [if_pos e]
      obtain ⟨v, v1, v2, v3⟩ := m3 j (by omega)
      have : v ≠ u := fun e9 => by rw [e9, h0] at v3; omega
      omega
    · simp only [if_neg e]
      exact m3' j k hjk (by omega)
  · by_cases e : v = u
    · exfalso
      apply hp
      exact ⟨pn.toNat, by omega, by simp only [if_true]; rw [e]⟩
    · simp only [if_neg e] at hn
      refine mmk _ (m4 v hv hx0 hn (fun hpn => hp ?_) w hw)
      obtain ⟨j, j1, j2⟩ := hpn
      exact ⟨j, by omega, by simp only [if_neg (show ¬ j = pn.toNat by omega)]; exact j2⟩
  · rcases hno a with e | e
    · rw [e] at hn
      obtain ⟨g1, g2⟩ := m6 a ha hn
      exact ⟨g1, mono _ g2⟩
    · refine ⟨by omega, ?_⟩
      rw [show a / 2 = u by omega]
      simp
  · by_cases e : v = u
    · rw [e]; exact hS S hcl
    · simp only [if_neg e] at hm2
      exact m7 S (clm S hcl) v hv hm2
  · have e : zsum (fun v => if (if v = u then (2 : Int) else ma v) = 2 then (1 : Int) else 0) 128 0 = zsum (fun v => if v = u then 1 else if ma v = 2 then (1 : Int) else 0) 128 0 := zsum_congr 128 0 (fun j _ _ => by
      by_cases e : j = u
      · simp [e]
      · simp [e])
    rw [e, zsum_up (f := fun v => if ma v = 2 then (1 : Int) else 0) (p := u) 128 0 (by omega) (by omega)]
    have e2 : (if ma u = 2 then (1 : Int) else 0) = 0 := by rw [h0]; decide
    simp only [e2]
    omega
theorem Jx_step {x0 : Nat} {N : Int} {A B : zA} {u : Nat} (hJ : JJx x0 N A) (hm : A 14 5 ≠ 0) (hu : u < 128) (hz : A 18 u ≠ 0) (h0 : A 20 u = 0) (e20 : B 20 = fun j => if j = u then 2 else A 20 j) (e23 : B 23 = fun j => if j = (A 14 4).toNat then 2 * (u : Int) else A 23 j) (e14 : ∀ k, k ≠ 4 → B 14 k = A 14 k) (e144 : B 14 4 = A 14 4 + 1) (hno : ∀ a, B 24 a = A 24 a ∨ (a = 2 * u ∧ B 24 a = 1)) (hrow : ∀ a, a ≠ 20 → a ≠ 23 → a ≠ 14 → a ≠ 24 → B a = A a) (hS : ∀ S, clf (A 18) (B 24) (A 33) (A 28) (A 15) S → S (2 * u)) : JJx x0 N B := by
  obtain ⟨n1, n2, hF, hC, hH, hV, hK, hM, hN⟩ := hJ
  have r : ∀ a, a ≠ 20 → a ≠ 23 → a ≠ 14 → a ≠ 24 → B a = A a := hrow
  have r14 : ∀ k, k ≠ 4 → B 14 k = A 14 k := e14
  have mono : ∀ v, A 20 v ≠ 0 → B 20 v ≠ 0 := by
    intro v hv
    rw [e20]
    show (if v = u then (2 : Int) else A 20 v) ≠ 0
    split
    · decide
    · exact hv
  have hun : ∀ p, p < 16 → A 17 p = 0 := fun p hp => J_un hH hm hp
  have hM' := hM
  obtain ⟨-, -, -, -, -, -, -, m8, m8'⟩ := hM hm
  have hcnt : A 14 4 < 128 := by
    have := zsum_lt (f := fun v => if A 20 v = 2 then (1 : Int) else 0) (p := u) (by simp [h0]) (fun j => by split <;> omega) (fun j => by split <;> omega) 128 0 (by omega) (by omega)
    omega
  have p0 := hH.co.2.1
  refine ⟨n1, n2, ?_, ?_, ?_, ?_, ?_, ?_, ?_⟩
  · unfold JF
    rw [r 2 (by decide) (by decide) (by decide) (by decide), r 3 (by decide) (by decide) (by decide) (by decide), r 4 (by decide) (by decide) (by decide) (by decide), r 5 (by decide) (by decide) (by decide) (by decide), r 6 (by decide) (by decide) (by decide) (by decide), r 7 (by decide) (by decide) (by decide) (by decide), r 8 (by decide) (by decide) (by decide) (by decide), r 9 (by decide) (by decide) (by decide) (by decide), r 10 (by decide) (by decide) (by decide) (by decide), r 11 (by decide) (by decide) (by decide) (by decide), r 13 (by decide) (by decide) (by decide) (by decide), r 25 (by decide) (by decide) (by decide) (by decide), r 26 (by decide) (by decide) (by decide) (by decide), r 27 (by decide) (by decide) (by decide) (by decide), r 29 (by decide) (by decide) (by decide) (by decide), r 30 (by decide) (by decide) (by decide) (by decide), r 32 (by decide) (by decide) (by decide) (by decide), r14 0 (by decide)]
    exact hF
  · unfold JC
    rw [r 22 (by decide) (by decide) (by decide) (by decide)]
    exact hC
  · unfold JH
    rw [r 16 (by decide) (by decide) (by decide) (by decide), r 17 (by decide) (by decide) (by decide) (by decide), r 18 (by decide) (by decide) (by decide) (by decide), r 19 (by decide) (by decide) (by decide) (by decide), r 28 (by decide) (by decide) (by decide) (by decide), r14 5 (by decide), e144, e20]
    obtain ⟨x1, x2, x3, x4, x5, x6, x7⟩ := hH
    refine ⟨x1, x2, fun v hv => ?_, ⟨x4.1, by omega, by omega⟩, x5, x6, x7⟩
    obtain ⟨y1, y2, y3, y4, y5, y6⟩ := x3 v hv
    refine ⟨y1, y2, y3, y4, ?_, ?_⟩
    · by_cases e : v = u
      · simp only [if_pos e]; omega
      · simp only [if_neg e]; exact y5
    · by_cases e : v = u
      · simp only [if_pos e]; omega
      · simp only [if_neg e]; exact y6
  · unfold JV
    rw [r 2 (by decide) (by decide) (by decide) (by decide), r 3 (by decide) (by decide) (by decide) (by decide), r 12 (by decide) (by decide) (by decide) (by decide), r 21 (by decide) (by decide) (by decide) (by decide), r 22 (by decide) (by decide) (by decide) (by decide), r 15 (by decide) (by decide) (by decide) (by decide), r 17 (by decide) (by decide) (by decide) (by decide), r 18 (by decide) (by decide) (by decide) (by decide), r 19 (by decide) (by decide) (by decide) (by decide)]
    obtain ⟨v1, v2, v3⟩ := hV
    refine ⟨fun i hi hs q hq => ok_mono mono (v1 i hi hs q hq), fun c hc q hq => ok_mono mono (v2 c hc q hq), fun v hv hl w hw => ok_mono mono (v3 v hv ⟨hl.1, Or.inl (hun _ (by omega))⟩ w hw)⟩
  · intro v hv he
    rw [r 17 (by decide) (by decide) (by decide) (by decide)] at he
    exact absurd (hun _ (by omega)) he
  · unfold JMx
    rw [r 2 (by decide) (by decide) (by decide) (by decide), r 3 (by decide) (by decide) (by decide) (by decide), r 6 (by decide) (by decide) (by decide) (by decide), r 12 (by decide) (by decide) (by decide) (by decide), r 21 (by decide) (by decide) (by decide) (by decide), r 22 (by decide) (by decide) (by decide) (by decide), r 15 (by decide) (by decide) (by decide) (by decide), r 18 (by decide) (by decide) (by decide) (by decide), r 19 (by decide) (by decide) (by decide) (by decide), r 33 (by decide) (by decide) (by decide) (by decide), r 28 (by decide) (by decide) (by decide) (by decide), r 31 (by decide) (by decide) (by decide) (by decide), r14 5 (by decide), e144, e20, e23]
    exact JMx_fire hM' hm hu hz h0 p0 hno hS
  · unfold JN
    rw [r14 8 (by decide), r14 9 (by decide)]
    exact hN
section LOK
variable {N : Int} {A : zA}
theorem JJ.x {x0 : Nat} (h : JJ N A) : JJx x0 N A := by
  obtain ⟨n1, n2, hF, hC, hH, hV, hK, hM, hN⟩ := h
  refine ⟨n1, n2, hF, hC, hH, hV, hK, fun hm => ?_, hN⟩
  obtain ⟨m1, m2, m3, m4, m5⟩ := hM hm
  exact ⟨m1, m2, m3, fun u hu _ => m4 u hu, m5⟩
theorem J_mkx {x0 : Nat} {p : Int} (hJ : JJx x0 N A) (hm : A 14 5 ≠ 0) (hp : okf (A 17) (A 18) (A 20) p) (hS : 0 ≤ p → A 33 p.toNat = 0 → ∀ S, clf (A 18) (A 24) (A 33) (A 28) (A 15) S → S p.toNat) : JJx x0 N (a_mk A p) ∧ mkf (a_mk A p 20) p ∧ (∀ v, A 20 v ≠ 0 → a_mk A p 20 v ≠ 0) ∧ ∀ v, A 20 v = 2 → a_mk A p 20 v = 2 := by
  rcases hp with e | ⟨p1, p2, p3, p4, p5⟩
  · rw [a_mk, if_pos (Or.inr (Or.inl (by omega)))]
    exact ⟨hJ, Or.inl e, fun v e => e, fun v e => e⟩
  have hH : JH A := hJ.2.2.2.2.1
  have hM := hJ.2.2.2.2.2.2.2.1 hm
  have hu : (p / 2).toNat < 128 := by omega
  by_cases h0 : A 20 (p / 2).toNat = 0
  · have hcnt : A 14 4 < 128 := by
      obtain ⟨-, -, -, -, -, -, -, m8, m8'⟩ := hM
      have := zsum_lt (f := fun v => if A 20 v = 2 then (1 : Int) else 0) (p := (p / 2).toNat) (by simp [h0]) (fun j => by split <;> omega) (fun j => by split <;> omega) 128 0 (by omega) (by omega)
      omega
    have e1 : a_mk A p = aset (aset (aset A 20 (p / 2).toNat 2) 23 (A 14 4).toNat p) 14 4 (A 14 4 + 1) := by
      rw [a_mk, if_neg]
      rintro (e | e | e | e | e)
      · exact hm e
      · omega
      · omega
      · exact e h0
      · omega
    have ep : p = 2 * ((p / 2).toNat : Int) := by omega
    have hyo : A 33 p.toNat = 0 := by
      have := hM.1.1 _ hu
      rw [show p.toNat = 2 * (p / 2).toNat by omega, this, h0]
      decide
    refine ⟨Jx_step (u := (p / 2).toNat) hJ hm hu p4 h0 ?_ ?_ ?_ ?_ ?_ ?_ ?_, Or.inr ?_, fun v hv => ?_, fun v hv => ?_⟩
    · rw [e1, as_rne (by decide), as_rne (by decide), as_row]
    · rw [e1, as_rne (by decide), as_row, ← ep, as_rne (by decide)]
    · intro k hk
      rw [e1, as_ix hk, as_id (by decide), as_id (by decide)]
    · rw [e1, as_same]
    · intro a
      exact Or.inl (by rw [e1, as_id (by decide), as_id (by decide), as_id (by decide)])
    · intro a a1 a2 a3 a4
      rw [e1, as_rne a3, as_rne a2, as_rne a1]
    · intro S hcl
      have e24 : a_mk A p 24 = A 24 := funext fun j => a_mk_at (by decide) (by decide) (by omega)
      rw [e24] at hcl
      have := hS p1 hyo S hcl
      rwa [show p.toNat = 2 * (p / 2).toNat by omega] at this
    · rw [e1, as_id (by decide), as_id (by decide), as_same]
      decide
    · rw [e1, as_id (by decide), as_id (by decide)]
      unfold aset
      split
      · decide
      · exact hv
    · rw [e1, as_id (by decide), as_id (by decide)]
      unfold aset
      split
      · rfl
      · exact hv
  · have e1 : a_mk A p = A := by
      rw [a_mk, if_pos (Or.inr (Or.inr (Or.inr (Or.inl h0))))]
    rw [e1]
    exact ⟨hJ, Or.inr h0, fun v e => e, fun v e => e⟩
theorem J_mkF {x0 : Nat} (hx : x0 < 128) {n : Int} (hn : n ≤ A 19 x0) : ∀ (k w : Nat) (B : zA), (w : Int) + k = n → JJx x0 N B → B 14 5 ≠ 0 → (∀ a, a ≠ 20 → a ≠ 23 → a ≠ 14 → B a = A a) → B 20 x0 = 2 → A 18 x0 ≠ 0 → A 28 x0 = A 19 x0 → (∀ v : Nat, v < w → mkf (B 20) (A 15 (2 * x0 + v))) → JJx x0 N (a_mkF (2 * x0) k w B) ∧ (∀ v : Nat, (v : Int) < n → mkf (a_mkF (2 * x0) k w B 20) (A 15 (2 * x0 + v))) := by
  intro k
  induction k with
  | zero =>
    intro w B hw hJ hm hr h2 hz hpl hd
    exact ⟨hJ, fun v hv => hd v (by omega)⟩
  | succ k ih =>
    intro w B hw hJ hm hr h2 hz hpl hd
    rw [a_mkF]
    have hun : B 17 (x0 / 8) = 0 := by
      apply Decidable.byContradiction
      intro e
      exact hm (hJ.2.2.2.2.1.2.2.2.2.2.1 (x0 / 8) (by omega) e).2
    have e15 : B 15 (2 * x0 + w) = A 15 (2 * x0 + w) := by rw [hr 15 (by decide) (by decide) (by decide)]
    have hlv : lvf (B 17) (B 18) (B 20) x0 := ⟨by rw [hr 18 (by decide) (by decide) (by decide)]; exact hz, Or.inl hun⟩
    have hok := hJ.2.2.2.2.2.1.2.2 x0 hx hlv w (by rw [hr 19 (by decide) (by decide) (by decide)]; omega)
    have hb : 0 ≤ A 18 x0 := by
      have := (hJ.2.2.2.2.1.2.2.1 x0 hx).1
      rwa [hr 18 (by decide) (by decide) (by decide)] at this
    obtain ⟨J1, K1, M1, T1⟩ := J_mkx (p := B 15 (2 * x0 + w)) hJ hm hok (fun h0 hy S hcl => by
      have hs := (hJ.2.2.2.2.2.2.2.1 hm).2.2.2.2.2.2.1 S hcl x0 hx h2
      refine hcl.2 (2 * x0) (by omega) (by omega) ?_ hs w ?_ _ ?_ ?_ hy
      · rw [show 2 * x0 / 2 = x0 by omega, hr 18 (by decide) (by decide) (by decide)]; omega
      · rw [show 2 * x0 / 2 = x0 by omega, hr 28 (by decide) (by decide) (by decide), hpl]; omega
      · have := okf_rg hok; omega
      · omega)
    refine ih (w + 1) _ (by omega) J1 ?_ ?_ (T1 _ h2) hz hpl ?_
    · rw [a_mk_at (by decide) (by decide) (by decide)]; exact hm
    · intro a a1 a2 a3
      funext j
      rw [a_mk_at a1 a2 (fun e => a3 e.1), hr a a1 a2 a3]
    · intro v hv
      by_cases e : v = w
      · rw [e, ← e15]; exact K1
      · exact (hd v (by omega)).elim Or.inl (fun e9 => Or.inr (M1 _ e9))
theorem J_look (hJ : JJ N A) (hm : A 14 5 ≠ 0) (hpn : 0 < A 14 4) : JJ N (a_look (aset (aset A 31 0 (A 31 0 + 1)) 14 4 (A 14 4 - 1)) (A 23 (A 14 4 - 1).toNat).toNat) := by
  have hM := hJ.2.2.2.2.2.2.2.1 hm
  obtain ⟨x0, y1, y2, y3⟩ := hM.2.2.1.1 (A 14 4 - 1).toNat (by omega)
  have hz : A 18 x0 ≠ 0 := hM.2.1 x0 y1 (by rw [y3]; decide)
  have hH := hJ.2.2.2.2.1
  have hpl := hH.pl x0 y1 hz
  have hpc := (hH.2.2.1 x0 y1).2.2.1
  have hr : ∀ a, a ≠ 31 → a ≠ 14 → aset (aset A 31 0 (A 31 0 + 1)) 14 4 (A 14 4 - 1) a = A a := fun a a1 a2 => by rw [as_rne a2, as_rne a1]
  have hJ0 : JJx x0 N (aset (aset A 31 0 (A 31 0 + 1)) 14 4 (A 14 4 - 1)) := by
    obtain ⟨n1, n2, hF, hC, hH, hV, hK, hM', hN⟩ := hJ
    have hrr : ∀ a, [31, 14].elem a = false → aset (aset A 31 0 (A 31 0 + 1)) 14 4 (A 14 4 - 1) a = A a := fun a ha => hr a (fun e => by subst e; cases ha) (fun e => by subst e; cases ha)
    have e14 : ∀ k, k ≠ 4 → aset (aset A 31 0 (A 31 0 + 1)) 14 4 (A 14 4 - 1) 14 k = A 14 k := fun k hk => by rw [as_ix hk, as_id (by decide)]
    refine ⟨n1, n2, JF_c hrr (by decide) (e14 0 (by decide)) hF, JC_c hrr (by decide) hC, ?_, JV_c hrr (by decide) hV, JK_c hrr (by decide) hK, ?_, JN_c hrr (e14 8 (by decide)) (e14 9 (by decide)) hN⟩
    · unfold JH
      rw [hr 16 (by decide) (by decide), hr 17 (by decide) (by decide), hr 18 (by decide) (by decide), hr 19 (by decide) (by decide), hr 20 (by decide) (by decide), hr 28 (by decide) (by decide), e14 5 (by decide), as_same]
      obtain ⟨q1, q2, q3, q4, q5⟩ := hH
      exact ⟨q1, q2, q3, ⟨q4.1, by omega, by omega⟩, q5⟩
    · unfold JMx
      rw [hr 2 (by decide) (by decide), hr 3 (by decide) (by decide), hr 6 (by decide) (by decide), hr 12 (by decide) (by decide), hr 21 (by decide) (by decide), hr 22 (by decide) (by decide), hr 15 (by decide) (by decide), hr 18 (by decide) (by decide), hr 19 (by decide) (by decide), hr 20 (by decide) (by decide), hr 23 (by decide) (by decide), hr 24 (by decide) (by decide), hr 33 (by decide) (by decide), hr 28 (by decide) (by decide), e14 5 (by decide), as_same, as_id (by decide), as_same]
      intro _
      obtain ⟨m1, m2, ⟨m3, m3'⟩, m4, m5, m6, m7, m8, m8'⟩ := hM
      refine ⟨m1, m2, ⟨fun j hj => m3 j (by omega), fun j k h1 h2 => m3' j k h1 (by omega)⟩, fun u hu hne hn hp w hw => m4 u hu hn (fun h => hp ?_) w hw, m5, m6, m7, by omega, by omega⟩
      obtain ⟨j, j1, j2⟩ := h
      by_cases e : j = (A 14 4 - 1).toNat
      · rw [e, y2] at j2; omega
      · exact ⟨j, by omega, j2⟩
  have e145 : aset (aset A 31 0 (A 31 0 + 1)) 14 4 (A 14 4 - 1) 14 5 = A 14 5 := by rw [as_ix (by decide), as_id (by decide)]
  unfold a_look
  rw [y2, show (2 * (x0 : Int)).toNat = 2 * x0 by omega, show 2 * x0 / 2 = x0 by omega, hr 19 (by decide) (by decide)]
  obtain ⟨J1, K1⟩ := J_mkF (A := aset (aset A 31 0 (A 31 0 + 1)) 14 4 (A 14 4 - 1)) (N := N) y1 (n := A 19 x0) (by rw [hr 19 (by decide) (by decide)]; omega) (A 19 x0).toNat 0 _ (by omega) hJ0 (by rw [e145]; exact hm) (fun a _ _ _ => rfl) (by rw [hr 20 (by decide) (by decide)]; exact y3) (by rw [hr 18 (by decide) (by decide)]; exact hz) (by rw [hr 28 (by decide) (by decide), hr 19 (by decide) (by decide)]; exact hpl) (fun v hv => by omega)
  have fr : ∀ (k w : Nat) (B : zA) a j, a ≠ 20 → a ≠ 23 → a ≠ 14 → a_mkF (2 * x0) k w B a j = B a j := by
    intro k
    induction k with
    | zero => intro w B a j _ _ _; rfl
    | succ k ih => intro w B a j a1 a2 a3; rw [a_mkF, ih _ _ _ _ a1 a2 a3, a_mk_at a1 a2 (fun e => a3 e.1)]
  obtain ⟨n1, n2, hF, hC, hH', hV, hK, hM', hN⟩ := J1
  refine ⟨n1, n2, hF, hC, hH', hV, hK, fun hm2 => ?_, hN⟩
  obtain ⟨m1, m2, m3, m4, m5⟩ := hM' hm2
  refine ⟨m1, m2, m3, fun u hu hn hp w hw => ?_, m5⟩
  by_cases e : u = x0
  · subst e
    rw [fr _ _ _ 19 _ (by decide) (by decide) (by decide), hr 19 (by decide) (by decide)] at hw
    have := K1 w hw
    rw [fr _ _ _ 15 _ (by decide) (by decide) (by decide)]
    exact this
  · exact m4 u hu e hn hp w hw
end LOK
