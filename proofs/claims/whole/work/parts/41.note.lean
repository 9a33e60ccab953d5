theorem as_row {A : zA} {a k : Nat} {v : Int} : aset A a k v a = fun j => if j = k then v else A a j := by
  funext j
  simp [aset]
theorem as_rne {A : zA} {a b k : Nat} {v : Int} (h : b ≠ a) : aset A a k v b = A b := by
  funext j
  exact as_id h
theorem ar_row {A : zA} {a : Nat} {f : Nat → Int} : arow A a f a = f := by
  funext j
  simp [arow]
theorem ar_rne {A : zA} {a b : Nat} {f : Nat → Int} (h : b ≠ a) : arow A a f b = A b := by
  funext j
  simp [arow, h]
theorem zsum_up {f : Nat → Int} {p : Nat} {v : Int} : ∀ (k i : Nat), i ≤ p → p < i + k → zsum (fun j => if j = p then v else f j) k i = zsum f k i - f p + v := by
  intro k
  induction k with
  | zero => intro i h1 h2; omega
  | succ k ih =>
    intro i h1 h2
    rw [zsum, zsum]
    by_cases e : i = p
    · subst e
      have : zsum (fun j => if j = i then v else f j) k (i + 1) = zsum f k (i + 1) := zsum_congr k (i + 1) (fun j h1 h2 => by rw [if_neg (by omega)])
      rw [this]
      simp only [if_true]
      omega
    · rw [ih (i + 1) (by omega) (by omega)]
      simp only [if_neg e]
      omega
theorem JM_fire {st fr sc ce qu le mem sz pc ma pe no yo pc' no' : Nat → Int} {mk pn lk : Int} (h : JMf st fr sc ce qu le mem sz pc ma pe no yo pc' mk pn lk) (hm : mk ≠ 0) {u : Nat} (hu : u < 128) (hz : sz u ≠ 0) (h0 : ma u = 0) (p0 : 0 ≤ pn) (hno : ∀ a, no' a = no a ∨ (a = 2 * u ∧ no' a = 1)) (hS : ∀ S, clf sz no' yo pc' mem S → S (2 * u)) : JMf st fr sc ce qu le mem sz pc (fun j => if j = u then 2 else ma j) (fun j => if j = pn.toNat then 2 * (u : Int) else pe j) no' yo pc' mk (pn + 1) lk := by
  obtain ⟨⟨m1, m1'⟩, m2, ⟨m3, m3'⟩, m4, ⟨m5, m5'⟩, m6, m7, m8, m8'⟩ := h hm
  have mono : ∀ v, ma v ≠ 0 → (if v = u then (2 : Int) else ma v) ≠ 0 := by
    intro v hv
    split
    · decide
    · exact hv
  have mmk : ∀ p, mkf ma p → mkf (fun j => if j = u then 2 else ma j) p := fun p hp => hp.elim Or.inl (fun hp => Or.inr (mono _ hp))
  have clm : ∀ S, clf sz no' yo pc' mem S → clf sz no yo pc' mem S := fun S hcl => ⟨fun a ha a2 a3 a4 a5 => by
    rcases hno a with e9 | e9
    · exact hcl.1 a ha a2 a3 (by rw [e9]; exact a4) a5
    · exact hcl.1 a ha a2 a3 (by rw [e9.2]; decide) a5, hcl.2⟩
  have dmk : ∀ p, dkf sz no yo pc' mem ma p → dkf sz no' yo pc' mem (fun j => if j = u then 2 else ma j) p := by
    rintro p (e | e | ⟨e1, e2⟩)
    · exact Or.inl e
    · refine Or.inr (Or.inl ?_)
      have : (p / 2).toNat ≠ u := fun e9 => by rw [e9, h0] at e; omega
      simp only [if_neg this]
      exact e
    · exact Or.inr (Or.inr ⟨e1, fun S hcl => e2 S (clm S hcl)⟩)
  intro _
  refine ⟨⟨fun v hv => ?_, fun a ha => ?_⟩, fun v hv hn => ?_, ⟨fun j hj => ?_, fun j k hjk hk => ?_⟩, fun v hv hn hp w hw => ?_, ⟨fun i hi hs hc q hq => dmk _ (m5 i hi hs hc q hq), fun c hc r hr => dmk _ (m5' c hc r hr)⟩, fun a ha hn => ?_, fun S hcl v hv hm2 => ?_, ?_, m8'⟩
  · rw [m1 v hv]
    by_cases e : v = u
    · subst e
      simp [h0]
    · simp [e]
  · refine ⟨?_, (m1' a ha).2⟩
    rcases hno a with e | e
    · rw [e]; exact (m1' a ha).1
    · exact Or.inr e.2
  · by_cases e : v = u
    · rw [e]; exact hz
    · simp only [if_neg e] at hn
      exact m2 v hv hn
  · by_cases e : j = pn.toNat
    · exact ⟨u, hu, by simp only [if_pos e], by simp only [if_true]⟩
    · obtain ⟨v, v1, v2, v3⟩ := m3 j (by omega)
      refine ⟨v, v1, by simp only [if_neg e]; exact v2, ?_⟩
      have : v ≠ u := fun e9 => by rw [e9, h0] at v3; omega
      simp only [if_neg this]
      exact v3
  · have hj : j ≠ pn.toNat := by omega
    simp only [if_neg hj]
    by_cases e : k = pn.toNat
    · simp only [if_pos e]
      obtain ⟨v, v1, v2, v3⟩ := m3 j (by omega)
      have : v ≠ u := fun e9 => by rw [e9, h0] at v3; omega
      omega
    · simp only [if_neg e]
      exact m3' j k hjk (by omega)
  · by_cases e : v = u
    · exfalso
      apply hp
      exact ⟨pn.toNat, by omega, by simp only [if_true]; rw [e]⟩
    · simp only [if_neg e] at hn
      refine mmk _ (m4 v hv hn (fun hpn => hp ?_) w hw)
      obtain ⟨j, j1, j2⟩ := hpn
      exact ⟨j, by omega, by simp only [if_neg (show ¬ j = pn.toNat by omega)]; exact j2⟩
  · rcases hno a with e | e
    · rw [e] at hn
      obtain ⟨g1, g2⟩ := m6 a ha hn
      exact ⟨g1, mono _ g2⟩
    · refine ⟨by omega, ?_⟩
      rw [show a / 2 = u by omega]
      simp
  · by_cases e : v = u
    · rw [e]; exact hS S hcl
    · simp only [if_neg e] at hm2
      exact m7 S (clm S hcl) v hv hm2
  · have e : zsum (fun v => if (if v = u then (2 : Int) else ma v) = 2 then (1 : Int) else 0) 128 0 = zsum (fun v => if v = u then 1 else if ma v = 2 then (1 : Int) else 0) 128 0 := zsum_congr 128 0 (fun j _ _ => by
      by_cases e : j = u
      · simp [e]
      · simp [e])
    rw [e, zsum_up (f := fun v => if ma v = 2 then (1 : Int) else 0) (p := u) 128 0 (by omega) (by omega)]
    have e2 : (if ma u = 2 then (1 : Int) else 0) = 0 := by rw [h0]; decide
    simp only [e2]
    omega
theorem JM_seen {st fr sc ce qu le mem sz pc ma pe no yo pc' no' : Nat → Int} {mk pn lk : Int} (h : JMf st fr sc ce qu le mem sz pc ma pe no yo pc' mk pn lk) (hm : mk ≠ 0) {u : Nat} (h0 : ma u ≠ 0) (hno : ∀ a, no' a = no a ∨ (a = 2 * u ∧ no' a = 1)) : JMf st fr sc ce qu le mem sz pc ma pe no' yo pc' mk pn lk := by
  obtain ⟨⟨m1, m1'⟩, m2, m3, m4, ⟨m5, m5'⟩, m6, m7, m8⟩ := h hm
  have clm : ∀ S, clf sz no' yo pc' mem S → clf sz no yo pc' mem S := fun S hcl => ⟨fun a ha a2 a3 a4 a5 => by
    rcases hno a with e9 | e9
    · exact hcl.1 a ha a2 a3 (by rw [e9]; exact a4) a5
    · exact hcl.1 a ha a2 a3 (by rw [e9.2]; decide) a5, hcl.2⟩
  have dmk : ∀ p, dkf sz no yo pc' mem ma p → dkf sz no' yo pc' mem ma p := fun p hp => hp.elim Or.inl (fun hp => Or.inr (hp.elim Or.inl (fun hp => Or.inr ⟨hp.1, fun S hcl => hp.2 S (clm S hcl)⟩)))
  intro _
  refine ⟨⟨m1, fun a ha => ⟨?_, (m1' a ha).2⟩⟩, m2, m3, m4, ⟨fun i hi hs hc q hq => dmk _ (m5 i hi hs hc q hq), fun c hc r hr => dmk _ (m5' c hc r hr)⟩, fun a ha hn => ?_, fun S hcl v hv hm2 => ?_, m8⟩
  · rcases hno a with e | e
    · rw [e]; exact (m1' a ha).1
    · exact Or.inr e.2
  · rcases hno a with e | e
    · rw [e] at hn
      exact m6 a ha hn
    · refine ⟨by omega, ?_⟩
      rw [show a / 2 = u by omega]
      exact h0
  · exact m7 S (clm S hcl) v hv hm2
theorem zsum_lt {f : Nat → Int} {p : Nat} (h : f p = 0) (hf : ∀ j, f j ≤ 1) (hf0 : ∀ j, 0 ≤ f j) : ∀ (k i : Nat), i ≤ p → p < i + k → zsum f k i ≤ k - 1 := by
  intro k
  induction k with
  | zero => intro i h1 h2; omega
  | succ k ih =>
    intro i h1 h2
    rw [zsum]
    by_cases e : i = p
    · subst e
      have := zsum_rg (f := f) (b := 1) k (i + 1) (fun j _ _ => ⟨hf0 j, hf j⟩)
      omega
    · have := ih (i + 1) (by omega) (by omega)
      have := hf i
      omega
section NOT
variable {N : Int} {A : zA}
theorem J_un (hH : JH A) (hm : A 14 5 ≠ 0) {p : Nat} (hp : p < 16) : A 17 p = 0 := by
  apply Decidable.byContradiction
  intro e
  exact hm (hH.2.2.2.2.2.1 p hp e).2
theorem lv_mono {un sz ma ma' : Nat → Int} (h : ∀ v, ma v ≠ 0 → ma' v ≠ 0) {u : Nat} (hl : lvf un sz ma u) : lvf un sz ma' u := ⟨hl.1, hl.2.elim Or.inl (fun e => Or.inr (h _ e))⟩
theorem ok_mono {un sz ma ma' : Nat → Int} (h : ∀ v, ma v ≠ 0 → ma' v ≠ 0) {p : Int} (hl : okf un sz ma p) : okf un sz ma' p := hl.elim Or.inl (fun e => Or.inr ⟨e.1, e.2.1, e.2.2.1, lv_mono h e.2.2.2⟩)
theorem J_step {B : zA} {u : Nat} (hJ : JJ N A) (hm : A 14 5 ≠ 0) (hu : u < 128) (hz : A 18 u ≠ 0) (h0 : A 20 u = 0) (e20 : B 20 = fun j => if j = u then 2 else A 20 j) (e23 : B 23 = fun j => if j = (A 14 4).toNat then 2 * (u : Int) else A 23 j) (e14 : ∀ k, k ≠ 4 → B 14 k = A 14 k) (e144 : B 14 4 = A 14 4 + 1) (hno : ∀ a, B 24 a = A 24 a ∨ (a = 2 * u ∧ B 24 a = 1)) (hrow : ∀ a, a ≠ 20 → a ≠ 23 → a ≠ 14 → a ≠ 24 → B a = A a) (hS : ∀ S, clf (A 18) (B 24) (A 33) (A 28) (A 15) S → S (2 * u)) : JJ N B := by
  obtain ⟨n1, n2, hF, hC, hH, hV, hK, hM, hN⟩ := hJ
  have r : ∀ a, a ≠ 20 → a ≠ 23 → a ≠ 14 → a ≠ 24 → B a = A a := hrow
  have r14 : ∀ k, k ≠ 4 → B 14 k = A 14 k := e14
  have mono : ∀ v, A 20 v ≠ 0 → B 20 v ≠ 0 := by
    intro v hv
    rw [e20]
    show (if v = u then (2 : Int) else A 20 v) ≠ 0
    split
    · decide
    · exact hv
  have hun : ∀ p, p < 16 → A 17 p = 0 := fun p hp => J_un hH hm hp
  have hM' := hM
  obtain ⟨-, -, -, -, -, -, -, m8, m8'⟩ := hM hm
  have hcnt : A 14 4 < 128 := by
    have := zsum_lt (f := fun v => if A 20 v = 2 then (1 : Int) else 0) (p := u) (by simp [h0]) (fun j => by split <;> omega) (fun j => by split <;> omega) 128 0 (by omega) (by omega)
    omega
  have p0 := hH.co.2.1
  refine ⟨n1, n2, ?_, ?_, ?_, ?_, ?_, ?_, ?_⟩
  · unfold JF
    rw [r 2 (by decide) (by decide) (by decide) (by decide), r 3 (by decide) (by decide) (by decide) (by decide), r 4 (by decide) (by decide) (by decide) (by decide), r 5 (by decide) (by decide) (by decide) (by decide), r 6 (by decide) (by decide) (by decide) (by decide), r 7 (by decide) (by decide) (by decide) (by decide), r 8 (by decide) (by decide) (by decide) (by decide), r 9 (by decide) (by decide) (by decide) (by decide), r 10 (by decide) (by decide) (by decide) (by decide), r 11 (by decide) (by decide) (by decide) (by decide), r 13 (by decide) (by decide) (by decide) (by decide), r 25 (by decide) (by decide) (by decide) (by decide), r 26 (by decide) (by decide) (by decide) (by decide), r 27 (by decide) (by decide) (by decide) (by decide), r 29 (by decide) (by decide) (by decide) (by decide), r 30 (by decide) (by decide) (by decide) (by decide), r 32 (by decide) (by decide) (by decide) (by decide), r14 0 (by decide)]
    exact hF
  · unfold JC
    rw [r 22 (by decide) (by decide) (by decide) (by decide)]
    exact hC
  · unfold JH
    rw [r 16 (by decide) (by decide) (by decide) (by decide), r 17 (by decide) (by decide) (by decide) (by decide), r 18 (by decide) (by decide) (by decide) (by decide), r 19 (by decide) (by decide) (by decide) (by decide), r 28 (by decide) (by decide) (by decide) (by decide), r14 5 (by decide), e144, e20]
    obtain ⟨x1, x2, x3, x4, x5, x6, x7⟩ := hH
    refine ⟨x1, x2, fun v hv => ?_, ⟨x4.1, by omega, by omega⟩, x5, x6, x7⟩
    obtain ⟨y1, y2, y3, y4, y5, y6⟩ := x3 v hv
    refine ⟨y1, y2, y3, y4, ?_, ?_⟩
    · by_cases e : v = u
      · simp only [if_pos e]; omega
      · simp only [if_neg e]; exact y5
    · by_cases e : v = u
      · simp only [if_pos e]; omega
      · simp only [if_neg e]; exact y6
  · unfold JV
    rw [r 2 (by decide) (by decide) (by decide) (by decide), r 3 (by decide) (by decide) (by decide) (by decide), r 12 (by decide) (by decide) (by decide) (by decide), r 21 (by decide) (by decide) (by decide) (by decide), r 22 (by decide) (by decide) (by decide) (by decide), r 15 (by decide) (by decide) (by decide) (by decide), r 17 (by decide) (by decide) (by decide) (by decide), r 18 (by decide) (by decide) (by decide) (by decide), r 19 (by decide) (by decide) (by decide) (by decide)]
    obtain ⟨v1, v2, v3⟩ := hV
    refine ⟨fun i hi hs q hq => ok_mono mono (v1 i hi hs q hq), fun c hc q hq => ok_mono mono (v2 c hc q hq), fun v hv hl w hw => ok_mono mono (v3 v hv ⟨hl.1, Or.inl (hun _ (by omega))⟩ w hw)⟩
  · intro v hv he
    rw [r 17 (by decide) (by decide) (by decide) (by decide)] at he
    exact absurd (hun _ (by omega)) he
  · unfold JM
    rw [r 2 (by decide) (by decide) (by decide) (by decide), r 3 (by decide) (by decide) (by decide) (by decide), r 6 (by decide) (by decide) (by decide) (by decide), r 12 (by decide) (by decide) (by decide) (by decide), r 21 (by decide) (by decide) (by decide) (by decide), r 22 (by decide) (by decide) (by decide) (by decide), r 15 (by decide) (by decide) (by decide) (by decide), r 18 (by decide) (by decide) (by decide) (by decide), r 19 (by decide) (by decide) (by decide) (by decide), r 33 (by decide) (by decide) (by decide) (by decide), r 28 (by decide) (by decide) (by decide) (by decide), r 31 (by decide) (by decide) (by decide) (by decide), r14 5 (by decide), e144, e20, e23]
    exact JM_fire hM' hm hu hz h0 p0 hno hS
  · unfold JN
    rw [r14 8 (by decide), r14 9 (by decide)]
    exact hN
theorem J_seen {B : zA} {u : Nat} (hJ : JJ N A) (hm : A 14 5 ≠ 0) (h0 : A 20 u ≠ 0) (hno : ∀ a, B 24 a = A 24 a ∨ (a = 2 * u ∧ B 24 a = 1)) (hrow : ∀ a, a ≠ 24 → B a = A a) : JJ N B := by
  obtain ⟨n1, n2, hF, hC, hH, hV, hK, hM, hN⟩ := hJ
  refine ⟨n1, n2, ?_, ?_, ?_, ?_, ?_, ?_, ?_⟩
  · unfold JF
    rw [hrow 2 (by decide), hrow 3 (by decide), hrow 4 (by decide), hrow 5 (by decide), hrow 6 (by decide), hrow 7 (by decide), hrow 8 (by decide), hrow 9 (by decide), hrow 10 (by decide), hrow 11 (by decide), hrow 13 (by decide), hrow 25 (by decide), hrow 26 (by decide), hrow 27 (by decide), hrow 29 (by decide), hrow 30 (by decide), hrow 32 (by decide), hrow 14 (by decide)]
    exact hF
  · unfold JC
    rw [hrow 22 (by decide)]
    exact hC
  · unfold JH
    rw [hrow 16 (by decide), hrow 17 (by decide), hrow 18 (by decide), hrow 19 (by decide), hrow 20 (by decide), hrow 28 (by decide), hrow 14 (by decide)]
    exact hH
  · unfold JV
    rw [hrow 2 (by decide), hrow 3 (by decide), hrow 12 (by decide), hrow 21 (by decide), hrow 22 (by decide), hrow 15 (by decide), hrow 17 (by decide), hrow 18 (by decide), hrow 19 (by decide), hrow 20 (by decide)]
    exact hV
  · unfold JK
    rw [hrow 17 (by decide), hrow 18 (by decide), hrow 20 (by decide), hrow 34 (by decide)]
    exact hK
  · unfold JM
    rw [hrow 2 (by decide), hrow 3 (by decide), hrow 6 (by decide), hrow 12 (by decide), hrow 21 (by decide), hrow 22 (by decide), hrow 15 (by decide), hrow 18 (by decide), hrow 19 (by decide), hrow 20 (by decide), hrow 23 (by decide), hrow 33 (by decide), hrow 28 (by decide), hrow 14 (by decide), hrow 31 (by decide)]
    exact JM_seen hM hm h0 hno
  · unfold JN
    rw [hrow 14 (by decide)]
    exact hN
theorem J_note {p : Int} (hJ : JJ N A) (hp : okf (A 17) (A 18) (A 20) p) : JJ N (a_note A p) ∧ (A 14 5 ≠ 0 → mkf (a_note A p 20) p) ∧ ∀ v, A 20 v ≠ 0 → a_note A p 20 v ≠ 0 := by
  by_cases hm : A 14 5 = 0
  · rw [a_note, if_pos (Or.inl hm)]
    exact ⟨hJ, fun e => absurd hm e, fun v e => e⟩
  rcases hp with e | ⟨p1, p2, p3, p4, p5⟩
  · rw [a_note, if_pos (Or.inr (Or.inl (by omega)))]
    exact ⟨hJ, fun _ => Or.inl e, fun v e => e⟩
  have hH : JH A := hJ.2.2.2.2.1
  have hM := hJ.2.2.2.2.2.2.2.1 hm
  have hu : (p / 2).toNat < 128 := by omega
  rw [a_note, if_neg (by omega)]
  by_cases h0 : A 20 (p / 2).toNat = 0
  · have hcnt : A 14 4 < 128 := by
      obtain ⟨-, -, -, -, -, -, -, m8, m8'⟩ := hM
      have := zsum_lt (f := fun v => if A 20 v = 2 then (1 : Int) else 0) (p := (p / 2).toNat) (by simp [h0]) (fun j => by split <;> omega) (fun j => by split <;> omega) 128 0 (by omega) (by omega)
      omega
    have e1 : a_mk A p = aset (aset (aset A 20 (p / 2).toNat 2) 23 (A 14 4).toNat p) 14 4 (A 14 4 + 1) := by
      rw [a_mk, if_neg]
      rintro (e | e | e | e | e)
      · exact hm e
      · omega
      · omega
      · exact e h0
      · omega
    have ep : p = 2 * ((p / 2).toNat : Int) := by omega
    have hyo : A 33 p.toNat = 0 := by
      have := hM.1.1 _ hu
      rw [show p.toNat = 2 * (p / 2).toNat by omega, this, h0]
      decide
    refine ⟨J_step (u := (p / 2).toNat) hJ hm hu p4 h0 ?_ ?_ ?_ ?_ ?_ ?_ ?_, fun _ => Or.inr ?_, fun v hv => ?_⟩
    · rw [e1, as_rne (by decide), as_rne (by decide), as_rne (by decide), as_row]
    · rw [e1, as_rne (by decide), as_rne (by decide), as_row, ← ep, as_rne (by decide)]
    · intro k hk
      rw [e1, as_id (by decide), as_ix hk, as_id (by decide), as_id (by decide)]
    · rw [e1, as_id (by decide), as_same]
    · intro a
      by_cases e : a = p.toNat
      · refine Or.inr ⟨by omega, ?_⟩
        rw [e, as_same]
      · refine Or.inl ?_
        rw [as_ix e, e1, as_id (by decide), as_id (by decide), as_id (by decide)]
    · intro a a1 a2 a3 a4
      rw [as_rne a4, e1, as_rne a3, as_rne a2, as_rne a1]
    · intro S hcl
      have := hcl.1 p.toNat (by omega) (by omega) (by rw [show p.toNat / 2 = (p / 2).toNat by omega]; have := (hH.2.2.1 _ hu).1; omega) (by rw [as_same]; decide) hyo
      rwa [show p.toNat = 2 * (p / 2).toNat by omega] at this
    · rw [as_id (by decide), e1, as_id (by decide), as_id (by decide), as_same]
      decide
    · rw [as_id (by decide), e1, as_id (by decide), as_id (by decide)]
      unfold aset
      split
      · decide
      · exact hv
  · have e1 : a_mk A p = A := by
      rw [a_mk, if_pos (Or.inr (Or.inr (Or.inr (Or.inl h0))))]
    rw [e1]
    refine ⟨J_seen (u := (p / 2).toNat) hJ hm h0 (fun a => ?_) (fun a ha => as_rne ha), fun _ => Or.inr ?_, fun v hv => ?_⟩
    · by_cases e : a = p.toNat
      · refine Or.inr ⟨by omega, ?_⟩
        rw [e, as_same]
      · exact Or.inl (as_ix e)
    · rw [as_id (by decide)]; exact h0
    · rw [as_id (by decide)]; exact hv
end NOT
