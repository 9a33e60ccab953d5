section PCE
variable {N : Int} {A : zA}
theorem J_noteF {i : Nat} (hi : i < 6) (hl : A 2 i ≠ 0) : ∀ (k q : Nat) (B : zA), ((q + k : Nat) : Int) ≤ 4 * A 3 i → JJ N B → (∀ a, a ≠ 20 → a ≠ 23 → a ≠ 14 → a ≠ 24 → B a = A a) → (B 14 5 ≠ 0 → ∀ r, r < q → dkA B (A 12 (64 * i + r))) → JJ N (a_noteF i k q B) ∧ (B 14 5 ≠ 0 → ∀ r, r < q + k → dkA (a_noteF i k q B) (A 12 (64 * i + r))) ∧ a_noteF i k q B 14 5 = B 14 5 := by
  intro k
  induction k with
  | zero => intro q B hq hJ hr hd; exact ⟨hJ, hd, rfl⟩
  | succ k ih =>
    intro q B hq hJ hr hd
    rw [a_noteF]
    have hok := (J_ce hJ hi (by rw [hr 2 (by decide) (by decide) (by decide) (by decide)]; exact hl) (q := q) (by rw [hr 3 (by decide) (by decide) (by decide) (by decide)]; omega)).1
    have e12 : B 12 (64 * i + q) = A 12 (64 * i + q) := by rw [hr 12 (by decide) (by decide) (by decide) (by decide)]
    obtain ⟨J1, K1, M1⟩ := J_note hJ hok
    obtain ⟨P1, P2⟩ := note_self hJ hok
    have e5 : a_note B (B 12 (64 * i + q)) 14 5 = B 14 5 := a_note_at (by decide) (by decide) (by decide) (by decide)
    obtain ⟨x1, x2, x3⟩ := ih (q + 1) (a_note B (B 12 (64 * i + q))) (by omega) J1 (fun a a1 a2 a3 a4 => funext fun j => by rw [a_note_m a1 a2 a3 a4, hr a a1 a2 a3 a4]) (fun hm r hr2 => by
      rw [e5] at hm
      by_cases e : r = q
      · rw [e, ← e12]; exact P2 (by rw [e5]; exact hm)
      · exact dk_note hJ hm hok (hd hm r (by omega)))
    refine ⟨x1, fun hm r hr2 => x2 (by rw [e5]; exact hm) r (by omega), x3.trans e5⟩
theorem J_scd {i : Nat} (hJ : JJ N A) (hi : i < 6) (hd : A 14 5 ≠ 0 → A 2 i ≠ 0 → ∀ q : Nat, (q : Int) < 4 * A 3 i → dkA A (A 12 (64 * i + q))) : JJ N (aset A 6 i 1) := by
  obtain ⟨n1, n2, hF, hC, hH, hV, hK, hM, hN⟩ := hJ
  have hr : ∀ a, [6].elem a = false → aset A 6 i 1 a = A a := one_row
  refine ⟨n1, n2, ?_, JC_c hr (by decide) hC, JH_c hr (by decide) (as_id (by decide)) (as_id (by decide)) hH, JV_c hr (by decide) hV, JK_c hr (by decide) hK, ?_, JN_c hr (as_id (by decide)) (as_id (by decide)) hN⟩
  · unfold JF
    rw [hr 2 rfl, hr 3 rfl, hr 4 rfl, hr 5 rfl, hr 7 rfl, hr 8 rfl, hr 9 rfl, hr 10 rfl, hr 11 rfl, hr 13 rfl, hr 25 rfl, hr 26 rfl, hr 27 rfl, hr 29 rfl, hr 30 rfl, hr 32 rfl, hr 14 rfl]
    obtain ⟨f1, f2, f3, f4, f5⟩ := hF
    refine ⟨f1, f2, f3, fun j hj => ?_, f5⟩
    by_cases e : j = i
    · rw [e, as_same]; exact Or.inr rfl
    · rw [as_ix e]; exact f4 j hj
  · unfold JM
    rw [hr 2 rfl, hr 3 rfl, hr 12 rfl, hr 21 rfl, hr 22 rfl, hr 15 rfl, hr 18 rfl, hr 19 rfl, hr 20 rfl, hr 23 rfl, hr 24 rfl, hr 33 rfl, hr 28 rfl, hr 14 rfl, hr 31 rfl]
    intro hm
    obtain ⟨m1, m2, m3, m4, ⟨m5, m5'⟩, m6⟩ := hM hm
    refine ⟨m1, m2, m3, m4, ⟨fun j hj hs hc q hq => ?_, m5'⟩, m6⟩
    by_cases e : j = i
    · subst e; exact hd hm hs q hq
    · rw [as_ix e] at hc; exact m5 j hj hs hc q hq
theorem J_move {i : Nat} {r : Int} (hJ : JJ N A) (hi : i < 6) (h1 : A 2 i ≠ 0 → A 3 i ≤ r) (h2 : r = 2 ∨ r = 4 ∨ r = 8 ∨ r = 16) : JJ N (a_move A i r) := by
  obtain ⟨n1, n2, hF, hC, hH, hV, hK, hM, hN⟩ := hJ
  have hr : ∀ a, [4, 26, 5, 32].elem a = false → a_move A i r a = A a := fun a ha => by
    unfold a_move gset
    rw [as_rne (fun e => by subst e; cases ha), as_rne (fun e => by subst e; cases ha), as_rne (fun e => by subst e; cases ha), as_rne (fun e => by subst e; cases ha)]
  have e14 : a_move A i r 14 = A 14 := hr 14 rfl
  have m4 : ∀ j, a_move A i r 4 j = if j = i then r else A 4 j := fun j => by unfold a_move gset aset; simp
  have m26 : ∀ j, a_move A i r 26 j = if j = i then r else A 26 j := fun j => by unfold a_move gset aset; simp
  have m5 : a_move A i r 5 = fun j => if j = i then A 5 i + A 3 i else A 5 j := by funext j; unfold a_move gset aset; simp
  have m32 : a_move A i r 32 0 = A 32 0 + A 3 i := by unfold a_move gset aset; simp
  refine ⟨n1, n2, ?_, JC_c hr (by decide) hC, JH_c hr (by decide) (by rw [e14]) (by rw [e14]) hH, JV_c hr (by decide) hV, JK_c hr (by decide) hK, JM_c hr (by decide) (by rw [e14]) (by rw [e14]) hM, JN_c hr (by rw [e14]) (by rw [e14]) hN⟩
  unfold JF
  rw [hr 2 rfl, hr 3 rfl, hr 6 rfl, hr 7 rfl, hr 8 rfl, hr 9 rfl, hr 10 rfl, hr 11 rfl, hr 13 rfl, hr 25 rfl, hr 27 rfl, hr 29 rfl, hr 30 rfl, hr 14 rfl, m32, m5]
  obtain ⟨f1, f2, f3, f4, f5, f6, f7, f8⟩ := hF
  refine ⟨f1, fun j hj hs => ?_, fun j hj hs => ?_, f4, f5, f6, ?_, f8⟩
  · obtain ⟨g1, g2, g3, g4⟩ := f2 j hj hs
    refine ⟨g1, g2, ?_⟩
    rw [m4]
    by_cases e : j = i
    · subst e
      rw [if_pos rfl]; exact ⟨h1 hs, h2⟩
    · rw [if_neg e]; exact ⟨g3, g4⟩
  · obtain ⟨g1, g2, g3⟩ := f3 j hj hs
    refine ⟨g1, ?_, g3⟩
    rw [m26, m4]
    by_cases e : j = i
    · rw [if_pos e, if_pos e]
    · rw [if_neg e, if_neg e]; exact g2
  · rw [zsum_up (f := A 5) (p := i) 6 0 (by omega) (by omega), f7]
    omega
theorem J_scan {i : Nat} (hJ : JJ N A) (hi : i < 6) (hl : A 2 i ≠ 0) : JJ N (a_scan A i) ∧ a_scan A i 14 5 = A 14 5 := by
  have hfr := (hJ.2.2.1.fs.2 i hi hl).1
  have f1 := hfr.1
  have f2 := hfr.2
  obtain ⟨r1, r2⟩ := hJ.2.2.1.rm hi hl
  obtain ⟨x1, x2, x3⟩ := J_noteF (A := A) hi hl (A 3 i * 4).toNat 0 A (by omega) hJ (fun a _ _ _ _ => rfl) (fun _ r hr => by omega)
  have fr : ∀ a j, a ≠ 20 → a ≠ 23 → a ≠ 14 → a ≠ 24 → a_noteF i (A 3 i * 4).toNat 0 A a j = A a j := fun a j a1 a2 a3 a4 => a_noteF_at a1 a2 a3 a4 _ _ _
  unfold a_scan
  generalize a_noteF i (A 3 i * 4).toNat 0 A = D at *
  have J1 : JJ N (aset D 6 i 1) := J_scd x1 hi (fun hm _ q hq => by
    rw [fr 3 i (by decide) (by decide) (by decide) (by decide)] at hq
    rw [fr 12 _ (by decide) (by decide) (by decide) (by decide)]
    exact x2 (by rw [← x3]; exact hm) q (by omega))
  have e3 : aset D 6 i 1 3 i = A 3 i := by rw [as_id (by decide), fr 3 i (by decide) (by decide) (by decide) (by decide)]
  have e4 : aset D 6 i 1 4 i = A 4 i := by rw [as_id (by decide), fr 4 i (by decide) (by decide) (by decide) (by decide)]
  unfold a_shr
  rw [e3, e4]
  split
  · rename_i w
    refine ⟨J_move J1 hi (fun _ => by rw [e3]; omega) (by omega), ?_⟩
    unfold a_move gset
    rw [as_id (by decide), as_id (by decide), as_id (by decide), as_id (by decide), as_id (by decide)]
    exact x3
  · exact ⟨J1, by rw [as_id (by decide)]; exact x3⟩
theorem J_piece (hJ : JJ N A) (hm : A 14 5 ≠ 0) (hL : a_left A) : JJ N (a_piece A) ∧ a_piece A 14 5 ≠ 0 := by
  unfold a_piece
  split
  · rename_i w
    obtain ⟨g1, g2, g3, g4⟩ := (a_next_rg A).resolve_left w
    obtain ⟨x1, x2⟩ := J_scan hJ (i := (a_next A).toNat) (by omega) g3
    exact ⟨x1, by rw [x2]; exact hm⟩
  · rename_i w
    have hpn : 0 < A 14 4 := hL.resolve_right w
    rw [if_pos hpn]
    refine ⟨J_look hJ hm hpn, ?_⟩
    unfold a_look
    have fr : ∀ (a k w : Nat) (B : zA), a_mkF a k w B 14 5 = B 14 5 := by
      intro a k
      induction k with
      | zero => intro w B; rfl
      | succ k ih => intro w B; rw [a_mkF, ih, a_mk_at (by decide) (by decide) (by decide)]
    rw [fr, as_ix (by decide), as_id (by decide)]
    exact hm
theorem J_pc (hJ : JJ N A) (hm : A 14 5 ≠ 0) : iPc A := by
  refine ⟨hJ.2.2.2.2.1.hp, hJ.2.2.2.2.1.co, hJ.2.2.1.st, hJ.2.2.1.2.2.2.1, fun i hi hl => ?_, fun hpn => ?_⟩
  · obtain ⟨r1, r2⟩ := hJ.2.2.1.rm hi hl
    refine ⟨(hJ.2.2.1.fs.2 i hi hl).1, by omega, fun j hj => ?_⟩
    have := okf_rg (J_ce hJ hi hl (q := j) (by omega)).1
    omega
  · obtain ⟨u, u1, u2, u3⟩ := (hJ.2.2.2.2.2.2.2.1 hm).2.2.1.1 (A 14 4 - 1).toNat (by omega)
    have hz := (hJ.2.2.2.2.2.2.2.1 hm).2.1 u u1 (by rw [u3]; decide)
    have hx := hJ.2.2.2.2.1.ex u u1 hz
    rw [u2, show (2 * (u : Int)).toNat = 2 * u by omega, show 2 * u / 2 = u by omega]
    refine ⟨by omega, by omega, by omega, fun j hj => ?_⟩
    have := okf_rg (hJ.2.2.2.2.2.1.2.2 u u1 ⟨hz, Or.inl (J_un hJ.2.2.2.2.1 hm (by omega))⟩ j hj)
    omega
theorem J_all (hJ : JJ N A) (hm : A 14 5 ≠ 0) (hpn : A 14 4 = 0) : clf (A 18) (A 24) (A 33) (A 28) (A 15) (fun a => a % 2 = 0 ∧ A 20 (a / 2) = 2) := by
  obtain ⟨⟨m1, m1'⟩, m2, m3, m4, m5, m6, m7, m8⟩ := hJ.2.2.2.2.2.2.2.1 hm
  have hH := hJ.2.2.2.2.1
  have key : ∀ p, p < 256 → p % 2 = 0 → A 20 (p / 2) ≠ 0 → A 33 p = 0 → A 20 (p / 2) = 2 := by
    intro p hp h2 hn hy
    have := m1 (p / 2) (by omega)
    rw [show 2 * (p / 2) = p by omega, hy] at this
    have hb := hH.2.2.1 (p / 2) (by omega)
    by_cases e : A 20 (p / 2) = 1
    · rw [if_pos e] at this; omega
    · obtain ⟨-, -, -, -, b1, b2⟩ := hb
      have b1 : 0 ≤ A 20 (p / 2) := b1
      have b2 : A 20 (p / 2) ≤ 2 := b2
      omega
  refine ⟨fun a ha a2 a3 a4 a5 => ⟨a2, key a ha a2 (m6 a ha a4).2 a5⟩, fun a ha a2 a3 hs w hw p hp e1 e2 => ?_⟩
  have hu : a / 2 < 128 := by omega
  have hz : A 18 (a / 2) ≠ 0 := by omega
  have hpl := hH.pl _ hu hz
  rw [hpl] at hw
  have hc := m4 (a / 2) hu (by rw [hs.2]; decide) (fun ⟨j, j1, _⟩ => by omega) w hw
  have hok := hJ.2.2.2.2.2.1.2.2 (a / 2) hu ⟨hz, Or.inl (J_un hH hm (by omega))⟩ w hw
  rw [show 2 * (a / 2) = a by omega, e1] at hc hok
  have hc2 := hc.resolve_left (by omega)
  rw [show ((p : Int) / 2).toNat = p / 2 by omega] at hc2
  have hp2 : p % 2 = 0 := by omega
  exact ⟨hp2, key p hp hp2 hc2 e2⟩
theorem J_mark (hJ : JJ N A) (hm : A 14 5 ≠ 0) (hpn : A 14 4 = 0) {p : Int} (h : dkA A p) : mkf (A 20) p := by
  rcases h with e | e | ⟨e1, e2⟩
  · exact Or.inl e
  · exact Or.inr (by rw [e]; decide)
  · have := (e2 _ (J_all hJ hm hpn)).2
    rw [show p.toNat / 2 = (p / 2).toNat by omega] at this
    exact Or.inr (by rw [this]; decide)
end PCE
