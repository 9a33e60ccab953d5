section CH3
variable {N : Int} {A B : zA}
theorem J_tk {i : Nat} {v : Int} (hJ : JJ N A) : JJ N (gset A 7 27 i v) := by
  obtain ⟨n1, n2, hF, hC, hH, hV, hK, hM, hN⟩ := hJ
  have hr : ∀ a, [7, 27].elem a = false → gset A 7 27 i v a = A a := fun a ha => by
    have h1 : a ≠ 7 := fun e => by subst e; cases ha
    have h2 : a ≠ 27 := fun e => by subst e; cases ha
    unfold gset
    rw [as_rne h1, as_rne h2]
  have e14 : gset A 7 27 i v 14 = A 14 := hr 14 rfl
  refine ⟨n1, n2, ?_, JC_c hr (by decide) hC, JH_c hr (by decide) (by rw [e14]) (by rw [e14]) hH, JV_c hr (by decide) hV, JK_c hr (by decide) hK, JM_c hr (by decide) (by rw [e14]) (by rw [e14]) hM, JN_c hr (by rw [e14]) (by rw [e14]) hN⟩
  unfold JF
  rw [hr 2 rfl, hr 3 rfl, hr 4 rfl, hr 5 rfl, hr 6 rfl, hr 8 rfl, hr 9 rfl, hr 10 rfl, hr 11 rfl, hr 13 rfl, hr 25 rfl, hr 26 rfl, hr 29 rfl, hr 30 rfl, hr 32 rfl, hr 14 rfl]
  obtain ⟨f1, f2, f3, f4⟩ := hF
  refine ⟨f1, f2, fun j hj hs => ?_, f4⟩
  obtain ⟨g1, g2, g3⟩ := f3 j hj hs
  refine ⟨g1, g2, ?_⟩
  unfold gset
  by_cases e : j = i
  · rw [e, as_id (by decide), as_same, as_same]
  · rw [as_id (by decide), as_ix e, as_ix e, as_id (by decide)]
    exact g3
theorem J_wait {i : Nat} {s k c d : Int} (hJ : JJ N A) (hN1 : N + 1 ≤ 1000) (hi : i < 6) (hs1 : A 2 i = 1) (hs : s = 2 ∨ s = 3) (hk : zb k) (hci : a_ci A i k ≠ -1) (hc : zb c) (hd : zb d) : JJ (N + 1) (a_wait A i s k c d) := by
  have hl : A 2 i ≠ 0 := by rw [hs1]; decide
  obtain ⟨n1, n2, hF, hC, hH, hV, hK, hM, hN⟩ := hJ
  have hg := a_ci_rg (k := k) (hF.fs.2 i hi hl).1 (hF.fs.2 i hi hl).2
  have hr : ∀ a, [14, 29, 30, 2, 8, 9, 10, 11].elem a = false → a_wait A i s k c d a = A a := fun a ha => by
    unfold a_wait
    rw [as_rne (fun e => by subst e; cases ha), as_rne (fun e => by subst e; cases ha), as_rne (fun e => by subst e; cases ha), as_rne (fun e => by subst e; cases ha), as_rne (fun e => by subst e; cases ha), as_rne (fun e => by subst e; cases ha), as_rne (fun e => by subst e; cases ha), as_rne (fun e => by subst e; cases ha)]
  have e14 : ∀ j, j ≠ 0 → a_wait A i s k c d 14 j = A 14 j := fun j hj => by
    unfold a_wait
    rw [as_id (by decide), as_id (by decide), as_id (by decide), as_id (by decide), as_id (by decide), as_id (by decide), as_id (by decide), as_ix hj]
  have q0 : a_wait A i s k c d 14 0 = A 14 0 + 1 := by unfold a_wait aset; simp
  have q2 : ∀ j, a_wait A i s k c d 2 j = if j = i then s else A 2 j := fun j => by unfold a_wait aset; simp
  have q8 : ∀ j, a_wait A i s k c d 8 j = if j = i then a_ci A i k else A 8 j := fun j => by unfold a_wait aset; simp
  have q9 : ∀ j, a_wait A i s k c d 9 j = if j = i then c else A 9 j := fun j => by unfold a_wait aset; simp
  have q10 : ∀ j, a_wait A i s k c d 10 j = if j = i then d else A 10 j := fun j => by unfold a_wait aset; simp
  have q11 : ∀ j, a_wait A i s k c d 11 j = if j = i then A 14 0 else A 11 j := fun j => by unfold a_wait aset; simp
  have q29 : ∀ j, a_wait A i s k c d 29 j = if j = i then A 14 0 + 1 else A 29 j := fun j => by unfold a_wait aset; simp
  have q30 : ∀ j, a_wait A i s k c d 30 j = if j = i then k else A 30 j := fun j => by unfold a_wait aset; simp
  have lv : ∀ j, a_wait A i s k c d 2 j ≠ 0 → A 2 j ≠ 0 := by
    intro j h
    rw [q2] at h
    by_cases e : j = i
    · rw [e]; exact hl
    · rwa [if_neg e] at h
  generalize a_wait A i s k c d = B at *
  refine ⟨by omega, hN1, ?_, JC_c hr (by decide) hC, JH_c hr (by decide) (e14 5 (by decide)) (e14 4 (by decide)) hH, ?_, JK_c hr (by decide) hK, ?_, ?_⟩
  · unfold JF
    rw [hr 3 rfl, hr 4 rfl, hr 5 rfl, hr 6 rfl, hr 7 rfl, hr 13 rfl, hr 25 rfl, hr 26 rfl, hr 27 rfl, hr 32 rfl, q0]
    obtain ⟨f1, f2, f3, f4, f5, f6, f7, f8, f9⟩ := hF
    refine ⟨fun j hj => ?_, fun j hj h => f2 j hj (lv j h), fun j hj h => f3 j hj (lv j h), f4, fun j hj => ?_, fun j hj h => ?_, f7, by omega, by omega⟩
    · rw [q2]
      by_cases e : j = i
      · rw [if_pos e]; omega
      · rw [if_neg e]; exact f1 j hj
    · obtain ⟨x1, x2, x3, x4⟩ := f5 j hj
      rw [q9, q10, q11]
      by_cases e : j = i
      · rw [if_pos e, if_pos e, if_pos e]; exact ⟨hc, hd, f8, by omega⟩
      · rw [if_neg e, if_neg e, if_neg e]; exact ⟨x1, x2, x3, by omega⟩
    · rw [q29, q11, q30, q8]
      by_cases e : j = i
      · rw [if_pos e, if_pos e, if_pos e, if_pos e, e]
        exact ⟨rfl, rfl, by omega, hk⟩
      · rw [q2, if_neg e] at h
        rw [if_neg e, if_neg e, if_neg e, if_neg e]
        exact f6 j hj h
  · unfold JV
    rw [hr 3 rfl, hr 12 rfl, hr 21 rfl, hr 22 rfl, hr 15 rfl, hr 17 rfl, hr 18 rfl, hr 19 rfl, hr 20 rfl]
    obtain ⟨v1, v2, v3⟩ := hV
    exact ⟨fun j hj h => v1 j hj (lv j h), v2, v3⟩
  · unfold JM
    rw [hr 3 rfl, hr 6 rfl, hr 12 rfl, hr 21 rfl, hr 22 rfl, hr 15 rfl, hr 18 rfl, hr 19 rfl, hr 20 rfl, hr 23 rfl, hr 24 rfl, hr 33 rfl, hr 28 rfl, hr 31 rfl, e14 5 (by decide), e14 4 (by decide)]
    intro hm
    obtain ⟨m1, m2, m3, m4, ⟨m5, m5'⟩, m6, m7, m8⟩ := hM hm
    exact ⟨m1, m2, m3, m4, ⟨fun j hj h => m5 j hj (lv j h), m5'⟩, m6, m7, m8⟩
  · unfold JN
    rw [e14 8 (by decide), e14 9 (by decide)]
    obtain ⟨g1, g2, g3, g4⟩ := hN
    exact ⟨g1, by omega, g3, g4⟩
theorem J_ch (hJ : JJ N A) (hr : ∀ a, [21, 22].elem a = false → B a = A a) (hl : ∀ c : Nat, c < 4 → 0 ≤ B 22 c ∧ B 22 c ≤ (c : Int)) (he : ∀ c, c < 4 → ∀ r : Nat, (r : Int) < B 22 c → okf (A 17) (A 18) (A 20) (B 21 (4 * c + r)) ∧ (A 14 5 ≠ 0 → dkA A (B 21 (4 * c + r)))) : JJ N B := by
  obtain ⟨n1, n2, hF, hC, hH, hV, hK, hM, hN⟩ := hJ
  have e14 : B 14 = A 14 := hr 14 rfl
  refine ⟨n1, n2, JF_c hr (by decide) (by rw [e14]) hF, hl, JH_c hr (by decide) (by rw [e14]) (by rw [e14]) hH, ?_, JK_c hr (by decide) hK, ?_, JN_c hr (by rw [e14]) (by rw [e14]) hN⟩
  · unfold JV
    rw [hr 2 rfl, hr 3 rfl, hr 12 rfl, hr 15 rfl, hr 17 rfl, hr 18 rfl, hr 19 rfl, hr 20 rfl]
    obtain ⟨v1, v2, v3⟩ := hV
    exact ⟨v1, fun c hc r h => (he c hc r h).1, v3⟩
  · unfold JM
    rw [hr 2 rfl, hr 3 rfl, hr 6 rfl, hr 12 rfl, hr 15 rfl, hr 18 rfl, hr 19 rfl, hr 20 rfl, hr 23 rfl, hr 24 rfl, hr 33 rfl, hr 28 rfl, hr 31 rfl, e14]
    intro hm
    obtain ⟨m1, m2, m3, m4, ⟨m5, m5'⟩, m6, m7, m8⟩ := hM hm
    exact ⟨m1, m2, m3, m4, ⟨m5, fun c hc r h => (he c hc r h).2 hm⟩, m6, m7, m8⟩
theorem J_qe (hJ : JJ N A) {c : Nat} (hc : c < 4) {r : Nat} (hr : (r : Int) < A 22 c) : okf (A 17) (A 18) (A 20) (A 21 (4 * c + r)) ∧ (A 14 5 ≠ 0 → dkA A (A 21 (4 * c + r))) := ⟨hJ.2.2.2.2.2.1.2.1 c hc r hr, fun hm => (hJ.2.2.2.2.2.2.2.1 hm).2.2.2.2.1.2 c hc r hr⟩
theorem J_addL {c : Nat} {p : Int} (hJ : JJ N A) (hc : c < 4) (hp : okf (A 17) (A 18) (A 20) p) (hm : A 14 5 ≠ 0 → dkA A p) : JJ N (a_addL A c p) := by
  unfold a_addL
  split
  · rename_i w
    have hC := hJ.2.2.2.1
    have h0 := hC c hc
    refine J_ch hJ (fun a ha => by rw [as_rne (fun e => by subst e; cases ha), as_rne (fun e => by subst e; cases ha)]) (fun d hd => ?_) (fun d hd r hr => ?_)
    · by_cases e : d = c
      · rw [e, as_same]; omega
      · rw [as_ix e, as_id (by decide)]; exact hC d hd
    · rw [as_id (by decide)]
      by_cases e : d = c
      · rw [e, as_same] at hr
        subst e
        by_cases e2 : 4 * d + r = 4 * d + (A 22 d).toNat
        · rw [e2, as_same]; exact ⟨hp, hm⟩
        · rw [as_ix e2]; exact J_qe hJ hd (by omega)
      · rw [as_ix e, as_id (by decide)] at hr
        have := hC d hd
        rw [as_ix (by omega)]
        exact J_qe hJ hd hr
  · exact hJ
theorem a_shift_pt {c : Nat} : ∀ (n r : Nat) (A : zA) (j : Nat), a_shift c n r A 21 j = if 4 * c + r ≤ j ∧ j < 4 * c + r + n then A 21 (j + 1) else A 21 j := by
  intro n
  induction n with
  | zero => intro r A j; rw [a_shift, if_neg (by omega)]
  | succ n ih =>
    intro r A j
    rw [a_shift, ih]
    by_cases e : 4 * c + r ≤ j ∧ j < 4 * c + r + (n + 1)
    · rw [if_pos e]
      by_cases e2 : j = 4 * c + r
      · rw [if_neg (by omega), e2, as_same]
      · rw [if_pos (by omega), as_ix (by omega)]
    · rw [if_neg e, if_neg (by omega), as_ix (by omega)]
theorem J_rem {c : Nat} (hJ : JJ N A) (hc : c < 4) (h0 : 0 < A 22 c) : JJ N (a_rem A c) := by
  have hC := hJ.2.2.2.1
  have e22 : ∀ j, a_rem A c 22 j = if j = c then A 22 c - 1 else A 22 j := fun j => by
    unfold a_rem
    rw [a_shift_at (by decide)]
    unfold aset
    simp
  have e21 : ∀ j, a_rem A c 21 j = if 4 * c ≤ j ∧ j < 4 * c + (A 22 c - 1).toNat then A 21 (j + 1) else A 21 j := fun j => by
    unfold a_rem
    rw [a_shift_pt, as_id (by decide), as_id (by decide)]
    rfl
  refine J_ch hJ (fun a ha => funext fun j => a_rem_at (fun e => by subst e; cases ha) (fun e => by subst e; cases ha)) (fun d hd => ?_) (fun d hd r hr => ?_)
  · have := hC d hd
    rw [e22]
    by_cases e : d = c
    · rw [if_pos e]; rw [← e] at h0 ⊢; omega
    · rw [if_neg e]; exact this
  · rw [e22] at hr
    rw [e21]
    have hd2 := hC d hd
    have hc2 := hC c hc
    by_cases e : d = c
    · rw [if_pos e] at hr
      subst e
      rw [if_pos (by omega), show 4 * d + r + 1 = 4 * d + (r + 1) by omega]
      exact J_qe hJ hd (by omega)
    · rw [if_neg e] at hr
      rw [if_neg (by omega)]
      exact J_qe hJ hd hr
theorem dk_note (hJ : JJ N A) {p q : Int} (hm : A 14 5 ≠ 0) (hq : okf (A 17) (A 18) (A 20) q) (h : dkA A p) : dkA (a_note A q) p := by
  have e18 : a_note A q 18 = A 18 := funext fun j => a_note_m
  have e33 : a_note A q 33 = A 33 := funext fun j => a_note_m
  have e28 : a_note A q 28 = A 28 := funext fun j => a_note_m
  have e15 : a_note A q 15 = A 15 := funext fun j => a_note_m
  unfold dkA
  rw [e18, e33, e28, e15]
  rcases h with e | e | ⟨e1, e2⟩
  · exact Or.inl e
  · refine Or.inr (Or.inl ?_)
    unfold a_note
    split
    · exact e
    · rw [as_id (by decide)]
      unfold a_mk
      split
      · exact e
      · rename_i w1 w2
        rw [as_id (by decide), as_id (by decide)]
        unfold aset
        split
        · rename_i w3
          exfalso
          apply w2
          refine Or.inr (Or.inr (Or.inr (Or.inl ?_)))
          rw [← w3.2, e]
          decide
        · exact e
  · refine Or.inr (Or.inr ⟨e1, fun S hcl => e2 S ⟨fun a ha a2 a3 a4 a5 => hcl.1 a ha a2 a3 (a_note_24m a4) a5, hcl.2⟩⟩)
theorem ok_note {p q : Int} (hJ : JJ N A) (hq : okf (A 17) (A 18) (A 20) q) (h : okf (A 17) (A 18) (A 20) p) : okf (a_note A q 17) (a_note A q 18) (a_note A q 20) p := by
  have e17 : a_note A q 17 = A 17 := funext fun j => a_note_m
  have e18 : a_note A q 18 = A 18 := funext fun j => a_note_m
  rw [e17, e18]
  exact ok_mono (J_note hJ hq).2.2 h
theorem note_self {p : Int} (hJ : JJ N A) (hp : okf (A 17) (A 18) (A 20) p) : okf (a_note A p 17) (a_note A p 18) (a_note A p 20) p ∧ (a_note A p 14 5 ≠ 0 → dkA (a_note A p) p) := by
  obtain ⟨J1, K1, M1⟩ := J_note hJ hp
  have h1 := ok_note hJ hp hp
  refine ⟨h1, fun hm => J_dk J1 hm h1 (K1 ?_)⟩
  rwa [a_note_at (by decide) (by decide) (by decide) (by decide)] at hm
theorem J_send {f k c : Int} (hJ : JJ N A) (hN1 : N + 1 ≤ 1000) (hk : zb k) : JJ (N + 1) (a_send A f k c).2 := by
  unfold a_send
  split
  · rename_i v
    obtain ⟨⟨w1, w2, w3⟩, v2, v3, v4⟩ := v
    have hl : A 2 f.toNat ≠ 0 := by rw [w3]; decide
    have hi : f.toNat < 6 := by omega
    have hp := J_pf hJ.2.2.1 hJ.2.2.2.2.2.1 hi hl k
    obtain ⟨J1, K1, M1⟩ := J_note hJ hp
    obtain ⟨P1, P2⟩ := note_self hJ hp
    simp only
    split
    · split
      · exact (J_addL J1 (by omega) P1 P2).up hN1
      · exact J_wait hJ hN1 hi w3 (Or.inl rfl) hk v2 ⟨by omega, by omega⟩ ⟨by omega, by omega⟩
    · rename_i e
      obtain ⟨x1, x2, x3, x4⟩ := (a_first_rg A 3 c).resolve_left e
      have hg : (a_first A 3 c).toNat < 6 := by omega
      have hgl : A 2 (a_first A 3 c).toNat ≠ 0 := by rw [x3]; decide
      obtain ⟨t1, t2, t3, t4⟩ := hJ.2.2.1.2.2.2.2.2.1 _ hg (Or.inr x3)
      have hcg := a_ci_rg (k := A 30 (a_first A 3 c).toNat) (hJ.2.2.1.fs.2 _ hg hgl).1 (hJ.2.2.1.fs.2 _ hg hgl).2
      have hfr := (hJ.2.2.1.fs.2 _ hg hgl).1.2
      have t2 : a_ci A (a_first A 3 c).toNat (A 30 (a_first A 3 c).toNat) = A 8 (a_first A 3 c).toNat := t2
      have t3 : 0 ≤ A 8 (a_first A 3 c).toNat := t3
      have J2 : JJ N (aset (a_note A (a_pf A f.toNat k)) 2 (a_first A 3 c).toNat 1) := J_rdy J1 hg (by rw [a_note_m]; exact hgl)
      refine (J_tk (J_cell J2 hg (by omega) ?_ ?_)).up hN1
      · rw [as_rne (by decide), as_rne (by decide), as_rne (by decide)]; exact P1
      · rw [as_id (by decide)]
        intro hm _ _
        unfold dkA
        rw [as_rne (by decide), as_rne (by decide), as_rne (by decide), as_rne (by decide), as_rne (by decide), as_rne (by decide)]
        exact P2 hm
  · exact hJ.up hN1
theorem J_out {c : Nat} (hJ : JJ N A) (hc : c < 4) : JJ N (a_out A c).2 ∧ okf ((a_out A c).2 17) ((a_out A c).2 18) ((a_out A c).2 20) (a_out A c).1 ∧ ((a_out A c).2 14 5 ≠ 0 → dkA (a_out A c).2 (a_out A c).1) ∧ (∀ i, A 2 i = 1 → (a_out A c).2 2 i = 1) := by
  have hC := hJ.2.2.2.1 c hc
  unfold a_out
  simp only
  by_cases e : a_first A 2 c = -1
  · simp only [if_pos e]
    by_cases e0 : A 22 c = 0
    · simp only [if_pos e0]
      exact ⟨hJ, Or.inl rfl, fun _ => Or.inl rfl, fun i h => h⟩
    · simp only [if_neg e0]
      have hq := J_qe hJ hc (r := 0) (by omega)
      have r : ∀ a, a ≠ 21 → a ≠ 22 → a_rem A c a = A a := fun a a1 a2 => funext fun j => a_rem_at a1 a2
      refine ⟨J_rem hJ hc (by omega), ?_, ?_, fun i h => by rw [r 2 (by decide) (by decide)]; exact h⟩
      · rw [r 17 (by decide) (by decide), r 18 (by decide) (by decide), r 20 (by decide) (by decide)]; exact hq.1
      · unfold dkA
        rw [r 14 (by decide) (by decide), r 18 (by decide) (by decide), r 24 (by decide) (by decide), r 33 (by decide) (by decide), r 28 (by decide) (by decide), r 15 (by decide) (by decide), r 20 (by decide) (by decide)]
        exact hq.2
  · simp only [if_neg e]
    obtain ⟨x1, x2, x3, x4⟩ := (a_first_rg A 2 c).resolve_left e
    generalize a_first A 2 c = g at *
    have hg : g.toNat < 6 := by omega
    have hgl : A 2 g.toNat ≠ 0 := by rw [x3]; decide
    obtain ⟨t1, t2, t3, t4⟩ := hJ.2.2.1.2.2.2.2.2.1 _ hg (Or.inl x3)
    have hcg := a_ci_rg (k := A 30 g.toNat) (hJ.2.2.1.fs.2 _ hg hgl).1 (hJ.2.2.1.fs.2 _ hg hgl).2
    have t2 : a_ci A g.toNat (A 30 g.toNat) = A 8 g.toNat := t2
    have t3 : 0 ≤ A 8 g.toNat := t3
    have hp : okf (A 17) (A 18) (A 20) (A 12 (64 * g.toNat + (A 8 g.toNat).toNat)) := (J_ce hJ hg hgl (by omega)).1
    have J1 : JJ N (aset A 2 g.toNat 1) := J_rdy hJ hg hgl
    have hp1 : okf (aset A 2 g.toNat 1 17) (aset A 2 g.toNat 1 18) (aset A 2 g.toNat 1 20) (A 12 (64 * g.toNat + (A 8 g.toNat).toNat)) := by rw [as_rne (by decide), as_rne (by decide), as_rne (by decide)]; exact hp
    obtain ⟨J2, K2, M2⟩ := J_note J1 hp1
    obtain ⟨P1, P2⟩ := note_self J1 hp1
    have h2 : ∀ i, A 2 i = 1 → a_note (aset A 2 g.toNat 1) (A 12 (64 * g.toNat + (A 8 g.toNat).toNat)) 2 i = 1 := by
      intro i h
      rw [a_note_m]
      by_cases e9 : i = g.toNat
      · rw [e9, as_same]
      · rw [as_ix e9]; exact h
    have h22 : a_note (aset A 2 g.toNat 1) (A 12 (64 * g.toNat + (A 8 g.toNat).toNat)) 22 c = A 22 c := by rw [a_note_m, as_id (by decide)]
    generalize a_note (aset A 2 g.toNat 1) (A 12 (64 * g.toNat + (A 8 g.toNat).toNat)) = D at *
    by_cases e0 : D 22 c = 0
    · simp only [if_pos e0]
      exact ⟨J2, P1, P2, h2⟩
    · simp only [if_neg e0]
      have hq := J_qe J2 hc (r := 0) (by omega)
      have r : ∀ a, a ≠ 21 → a ≠ 22 → a_rem D c a = D a := fun a a1 a2 => funext fun j => a_rem_at a1 a2
      have r2 : ∀ a, a ≠ 21 → a ≠ 22 → a_addL (a_rem D c) c (A 12 (64 * g.toNat + (A 8 g.toNat).toNat)) a = D a := fun a a1 a2 => funext fun j => by rw [a_addL_at a1 a2, a_rem_at a1 a2]
      refine ⟨J_addL (J_rem J2 hc (by omega)) hc ?_ ?_, ?_, ?_, fun i h => by rw [r2 2 (by decide) (by decide)]; exact h2 i h⟩
      · rw [r 17 (by decide) (by decide), r 18 (by decide) (by decide), r 20 (by decide) (by decide)]; exact P1
      · unfold dkA
        rw [r 14 (by decide) (by decide), r 18 (by decide) (by decide), r 24 (by decide) (by decide), r 33 (by decide) (by decide), r 28 (by decide) (by decide), r 15 (by decide) (by decide), r 20 (by decide) (by decide)]
        exact P2
      · rw [r2 17 (by decide) (by decide), r2 18 (by decide) (by decide), r2 20 (by decide) (by decide)]; exact hq.1
      · unfold dkA
        rw [r2 14 (by decide) (by decide), r2 18 (by decide) (by decide), r2 24 (by decide) (by decide), r2 33 (by decide) (by decide), r2 28 (by decide) (by decide), r2 15 (by decide) (by decide), r2 20 (by decide) (by decide)]
        exact hq.2
theorem J_take {f k c d : Int} (hJ : JJ N A) (hN1 : N + 1 ≤ 1000) (hk : zb k) : JJ (N + 1) (a_take A f k c d).2 := by
  unfold a_take
  split
  · rename_i v
    obtain ⟨⟨w1, w2, w3⟩, v2, v3, v4, v5, v6⟩ := v
    have hl : A 2 f.toNat ≠ 0 := by rw [w3]; decide
    have hi : f.toNat < 6 := by omega
    simp only
    have hgb : 0 ≤ (if a_gives A c then c else d) ∧ (if a_gives A c then c else d) < 4 := by split <;> omega
    generalize (if a_gives A c then c else d) = g at *
    by_cases w : a_gives A g
    · simp only [if_pos w]
      obtain ⟨J1, P1, P2, P3⟩ := J_out hJ (c := g.toNat) (by omega)
      have hl2 : (a_out A g.toNat).2 2 f.toNat ≠ 0 := by rw [P3 _ w3]; decide
      exact (J_tk (J_fc J1 hi hl2 P1 (fun hm _ _ => P2 hm))).up hN1
    · simp only [if_neg w]
      exact J_wait hJ hN1 hi w3 (Or.inr rfl) hk v2 ⟨by omega, by omega⟩ ⟨by omega, by omega⟩
  · exact hJ.up hN1
end CH3
