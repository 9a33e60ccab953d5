section CH2
variable {N : Int} {A : zA}
theorem J_store {f k w v : Int} (hJ : JJ N A) : JJ N (a_store A f k w v).2 := by
  unfold a_store
  split
  · rename_i x
    obtain ⟨⟨w1, w2, w3⟩, x2, x3, x4, x5, x6⟩ := x
    have hl : A 2 f.toNat ≠ 0 := by rw [w3]; decide
    have hi : f.toNat < 6 := by omega
    have hp := J_pf hJ.2.2.1 hJ.2.2.2.2.2.1 hi hl k
    generalize a_pf A f.toNat k = a at *
    obtain ⟨p1, p2, p3, p4⟩ := hp.resolve_left (by omega)
    have hu : (a / 2).toNat < 128 := by omega
    obtain ⟨n1, n2, hF, hC, hH, hV, hK, hM, hN⟩ := hJ
    have hpc := (hH.2.2.1 _ hu).2.2.1
    have hr : ∀ a', [15].elem a' = false → aset A 15 (a + w).toNat v a' = A a' := one_row
    have hd : ∀ u, u < 128 → A 18 u ≠ 0 → ∀ x : Nat, (x : Int) < A 19 u → 2 * u + x ≠ (a + w).toNat := by
      intro u hu2 su x hx e
      have hx2 := (hH.ex u hu2 su).2
      by_cases e1 : u = (a / 2).toNat
      · subst e1; omega
      · rcases Nat.lt_or_ge u (a / 2).toNat with h1 | h1
        · have := hH.dis hu2 hu su p4.1 h1; omega
        · have := hH.dis hu hu2 p4.1 su (by omega); omega
    show JJ N (aset A 15 (a + w).toNat v)
    refine ⟨n1, n2, JF_c hr (by decide) (as_id (by decide)) hF, JC_c hr (by decide) hC, JH_c hr (by decide) (as_id (by decide)) (as_id (by decide)) hH, ?_, JK_c hr (by decide) hK, ?_, JN_c hr (as_id (by decide)) (as_id (by decide)) hN⟩
    · unfold JV
      rw [hr 2 rfl, hr 3 rfl, hr 12 rfl, hr 21 rfl, hr 22 rfl, hr 17 rfl, hr 18 rfl, hr 19 rfl, hr 20 rfl]
      obtain ⟨v1, v2, v3⟩ := hV
      refine ⟨v1, v2, fun u hu2 hlv x hx => ?_⟩
      rw [as_ix (hd u hu2 hlv.1 x hx)]
      exact v3 u hu2 hlv x hx
    · unfold JM
      rw [hr 2 rfl, hr 3 rfl, hr 6 rfl, hr 12 rfl, hr 21 rfl, hr 22 rfl, hr 18 rfl, hr 19 rfl, hr 20 rfl, hr 23 rfl, hr 24 rfl, hr 33 rfl, hr 28 rfl, hr 14 rfl, hr 31 rfl]
      intro hm5
      obtain ⟨m1, m2, m3, m4, ⟨m5, m5'⟩, m6, m7, m8⟩ := hM hm5
      have clm : ∀ S, clf (A 18) (A 24) (A 33) (A 28) (aset A 15 (a + w).toNat v 15) S → clf (A 18) (A 24) (A 33) (A 28) (A 15) S := fun S hcl => ⟨hcl.1, fun b hb b1 b2 b3 x hx p hp e1 e2 => hcl.2 b hb b1 b2 b3 x hx p hp (by
        have hpl := hH.pl (b / 2) (by omega) (by omega)
        have := hd (b / 2) (by omega) (by omega) x (by rw [← hpl]; exact hx)
        rw [as_ix (by omega)]
        exact e1) e2⟩
      have dmk : ∀ p, dkf (A 18) (A 24) (A 33) (A 28) (A 15) (A 20) p → dkf (A 18) (A 24) (A 33) (A 28) (aset A 15 (a + w).toNat v 15) (A 20) p := fun p hp => hp.elim Or.inl (fun hp => Or.inr (hp.elim Or.inl (fun hp => Or.inr ⟨hp.1, fun S hcl => hp.2 S (clm S hcl)⟩)))
      refine ⟨m1, m2, m3, fun u hu2 hn hp x hx => ?_, ⟨fun j hj hs hc q hq => dmk _ (m5 j hj hs hc q hq), fun c hc q hq => dmk _ (m5' c hc q hq)⟩, m6, fun S hcl => m7 S (clm S hcl), m8⟩
      rw [as_ix (hd u hu2 (m2 u hu2 hn) x hx)]
      exact m4 u hu2 hn hp x hx
  · exact hJ
theorem J_put {u x : Nat} {p : Int} (hJ : JJ N A) (hu : u < 128) (hlv : lvf (A 17) (A 18) (A 20) u) (hx : (x : Int) < A 19 u) (hp : okf (A 17) (A 18) (A 20) p) (hpm : A 14 5 ≠ 0 → mkf (A 20) p) (hold : A 14 5 ≠ 0 → A 15 (2 * u + x) = -1 ∨ A 24 (A 15 (2 * u + x)).toNat ≠ 0) : JJ N (aset A 15 (2 * u + x) p) := by
  have hJ' := hJ
  obtain ⟨n1, n2, hF, hC, hH, hV, hK, hM, hN⟩ := hJ
  have hr : ∀ a', [15].elem a' = false → aset A 15 (2 * u + x) p a' = A a' := one_row
  have hok := hV.2.2 u hu hlv x hx
  have hd : ∀ v, v < 128 → A 18 v ≠ 0 → ∀ y : Nat, (y : Int) < A 19 v → 2 * v + y = 2 * u + x → v = u ∧ y = x := by
    intro v hv sv y hy e
    have hy2 := (hH.ex v hv sv).2
    have hx2 := (hH.ex u hu hlv.1).2
    rcases Nat.lt_trichotomy v u with h1 | h1 | h1
    · have := hH.dis hv hu sv hlv.1 h1; omega
    · exact ⟨h1, by omega⟩
    · have := hH.dis hu hv hlv.1 sv h1; omega
  refine ⟨n1, n2, JF_c hr (by decide) (as_id (by decide)) hF, JC_c hr (by decide) hC, JH_c hr (by decide) (as_id (by decide)) (as_id (by decide)) hH, ?_, JK_c hr (by decide) hK, ?_, JN_c hr (as_id (by decide)) (as_id (by decide)) hN⟩
  · unfold JV
    rw [hr 2 rfl, hr 3 rfl, hr 12 rfl, hr 21 rfl, hr 22 rfl, hr 17 rfl, hr 18 rfl, hr 19 rfl, hr 20 rfl]
    obtain ⟨v1, v2, v3⟩ := hV
    refine ⟨v1, v2, fun v hv hl y hy => ?_⟩
    by_cases e : 2 * v + y = 2 * u + x
    · rw [e, as_same]; exact hp
    · rw [as_ix e]; exact v3 v hv hl y hy
  · unfold JM
    rw [hr 2 rfl, hr 3 rfl, hr 6 rfl, hr 12 rfl, hr 21 rfl, hr 22 rfl, hr 18 rfl, hr 19 rfl, hr 20 rfl, hr 23 rfl, hr 24 rfl, hr 33 rfl, hr 28 rfl, hr 14 rfl, hr 31 rfl]
    intro hm5
    obtain ⟨m1, m2, m3, m4, ⟨m5, m5'⟩, m6, m7, m8⟩ := hM hm5
    have clm : ∀ S, clf (A 18) (A 24) (A 33) (A 28) (aset A 15 (2 * u + x) p 15) S → clf (A 18) (A 24) (A 33) (A 28) (A 15) S := fun S hcl => ⟨hcl.1, fun b hb b1 b2 b3 y hy q hq e1 e2 => by
      have hpl := hH.pl (b / 2) (by omega) (by omega)
      rw [hpl] at hy
      by_cases e : b + y = 2 * u + x
      · obtain ⟨g1, g2⟩ := hd (b / 2) (by omega) (by omega) y hy (by omega)
        have e3 : A 15 (2 * u + x) = (q : Int) := by rw [← e]; exact e1
        have hn := (hold hm5).resolve_left (by omega)
        rw [e3] at hn
        rw [e3] at hok
        obtain ⟨o1, o2, o3, o4⟩ := hok.resolve_left (by omega)
        have hz := o4.1
        rw [show ((q : Int) / 2).toNat = q / 2 by omega] at hz
        have := (hH.2.2.1 (q / 2) (by omega)).1
        exact hcl.1 q hq (by omega) (by have hz2 : A 18 (q / 2) ≠ 0 := hz; have t : 0 ≤ A 18 (q / 2) := this; omega) (by rw [Int.toNat_natCast] at hn; exact hn) e2
      · exact hcl.2 b hb b1 b2 b3 y (by rw [hpl]; exact hy) q hq (by rw [as_ix e]; exact e1) e2⟩
    have dmk : ∀ q, dkf (A 18) (A 24) (A 33) (A 28) (A 15) (A 20) q → dkf (A 18) (A 24) (A 33) (A 28) (aset A 15 (2 * u + x) p 15) (A 20) q := fun q hq => hq.elim Or.inl (fun hq => Or.inr (hq.elim Or.inl (fun hq => Or.inr ⟨hq.1, fun S hcl => hq.2 S (clm S hcl)⟩)))
    refine ⟨m1, m2, m3, fun v hv hn hpn y hy => ?_, ⟨fun j hj hs hc q hq => dmk _ (m5 j hj hs hc q hq), fun c hc q hq => dmk _ (m5' c hc q hq)⟩, m6, fun S hcl => m7 S (clm S hcl), m8⟩
    by_cases e : 2 * v + y = 2 * u + x
    · rw [e, as_same]; exact hpm hm5
    · rw [as_ix e]; exact m4 v hv hn hpn y hy
theorem a_note_24 {A : zA} {p : Int} (hm : A 14 5 ≠ 0) (h1 : 0 ≤ p) (h2 : p < 256) : a_note A p 24 p.toNat = 1 := by
  rw [a_note, if_neg (by omega), as_same]
theorem a_note_24m {A : zA} {p : Int} {a : Nat} (h : A 24 a ≠ 0) : a_note A p 24 a ≠ 0 := by
  unfold a_note
  split
  · exact h
  · unfold aset
    split
    · decide
    · have : a_mk A p 24 a = A 24 a := a_mk_at (by decide) (by decide) (by omega)
      rw [this]
      exact h
theorem J_set {f k w s : Int} (hJ : JJ N A) : JJ N (a_setw A f k w s).2 := by
  unfold a_setw
  split
  · rename_i v
    obtain ⟨⟨w1, w2, w3⟩, x2, x3, x4⟩ := v
    have hl : A 2 f.toNat ≠ 0 := by rw [w3]; decide
    have hi : f.toNat < 6 := by omega
    obtain ⟨g1, -, u, u1, u2, u3, u4, u5, u6⟩ := J_word hJ hi hl x4
    have hp := J_pf hJ.2.2.1 hJ.2.2.2.2.2.1 hi hl s
    show JJ N (aset (a_note (a_note A (A 15 (a_pf A f.toNat k + w).toNat)) (a_pf A f.toNat s)) 15 (a_pf A f.toNat k + w).toNat (a_pf A f.toNat s))
    obtain ⟨J1, -, M1⟩ := J_note hJ g1
    rw [u6] at J1 M1 g1 ⊢
    have hp1 : okf (a_note A (A 15 (2 * u + w.toNat)) 17) (a_note A (A 15 (2 * u + w.toNat)) 18) (a_note A (A 15 (2 * u + w.toNat)) 20) (a_pf A f.toNat s) := by
      have e17 : a_note A (A 15 (2 * u + w.toNat)) 17 = A 17 := funext fun j => a_note_m
      have e18 : a_note A (A 15 (2 * u + w.toNat)) 18 = A 18 := funext fun j => a_note_m
      rw [e17, e18]
      exact ok_mono M1 hp
    obtain ⟨J2, K2, M2⟩ := J_note J1 hp1
    have mono : ∀ v, A 20 v ≠ 0 → a_note (a_note A (A 15 (2 * u + w.toNat))) (a_pf A f.toNat s) 20 v ≠ 0 := fun v hv => M2 v (M1 v hv)
    have r : ∀ a, a ≠ 20 → a ≠ 23 → a ≠ 14 → a ≠ 24 → a_note (a_note A (A 15 (2 * u + w.toNat))) (a_pf A f.toNat s) a = A a := fun a a1 a2 a3 a4 => funext fun j => by rw [a_note_m a1 a2 a3 a4, a_note_m a1 a2 a3 a4]
    have e145 : a_note (a_note A (A 15 (2 * u + w.toNat))) (a_pf A f.toNat s) 14 5 = A 14 5 := by rw [a_note_at (by decide) (by decide) (by decide) (by decide), a_note_at (by decide) (by decide) (by decide) (by decide)]
    have e145b : a_note A (A 15 (2 * u + w.toNat)) 14 5 = A 14 5 := a_note_at (by decide) (by decide) (by decide) (by decide)
    refine J_put J2 u1 ?_ ?_ ?_ ?_ ?_
    · rw [r 17 (by decide) (by decide) (by decide) (by decide), r 18 (by decide) (by decide) (by decide) (by decide)]
      exact lv_mono mono u3
    · rw [r 19 (by decide) (by decide) (by decide) (by decide)]
      omega
    · rw [r 17 (by decide) (by decide) (by decide) (by decide), r 18 (by decide) (by decide) (by decide) (by decide)]
      exact ok_mono mono hp
    · rw [e145]
      intro hm
      exact K2 (by rw [e145b]; exact hm)
    · rw [e145, r 15 (by decide) (by decide) (by decide) (by decide)]
      intro hm
      rcases g1 with e | e
      · exact Or.inl e
      · refine Or.inr (a_note_24m ?_)
        rw [a_note_24 hm e.1 e.2.1]
        decide
  · exact hJ
end CH2
