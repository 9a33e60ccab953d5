abbrev wcf (fr re : Nat → Int) (i : Nat) (k : Int) : Int := if 0 ≤ k ∧ k < 4 then (fr i - 1) * 4 + k else if k = 4 then re (16 * i + (fr i - 1).toNat) else -1
def JFf (N : Int) (st fr rm cp sc tk wc aw oa ti re fr' rm' tk' si inn : Nat → Int) (cpd clk : Int) : Prop :=
  (∀ i, i < 6 → 0 ≤ st i ∧ st i ≤ 3) ∧
  (∀ i, i < 6 → st i ≠ 0 → (1 ≤ fr i ∧ fr i ≤ 16) ∧ (∀ j : Nat, j < 16 → (j : Int) < fr i → -1 ≤ re (16 * i + j) ∧ re (16 * i + j) < 4 * ((j : Int) + 1)) ∧ fr i ≤ rm i ∧ (rm i = 2 ∨ rm i = 4 ∨ rm i = 8 ∨ rm i = 16)) ∧
  (∀ i, i < 6 → st i ≠ 0 → fr' i = fr i ∧ rm' i = rm i ∧ tk' i = tk i) ∧
  (∀ i, i < 6 → sc i = 0 ∨ sc i = 1) ∧
  (∀ i, i < 6 → zb (aw i) ∧ zb (oa i) ∧ 0 ≤ ti i ∧ ti i ≤ N) ∧
  (∀ i, i < 6 → (st i = 2 ∨ st i = 3) → si i = ti i + 1 ∧ wcf fr re i (inn i) = wc i ∧ 0 ≤ wc i ∧ zb (inn i)) ∧
  cpd = zsum cp 6 0 ∧ 0 ≤ clk ∧ clk ≤ N
def JF (N : Int) (A : zA) : Prop := JFf N (A 2) (A 3) (A 4) (A 5) (A 6) (A 7) (A 8) (A 9) (A 10) (A 11) (A 13) (A 25) (A 26) (A 27) (A 29) (A 30) (A 32 0) (A 14 0)
def JC (A : zA) : Prop := ∀ c : Nat, c < 4 → 0 ≤ A 22 c ∧ A 22 c ≤ (c : Int)
def JHf (kd un sz pc ma pc' : Nat → Int) (mk pn : Int) : Prop :=
  (∀ p, p < 16 → 0 ≤ kd p ∧ kd p ≤ 64) ∧ (∀ p, p < 16 → un p = 0 ∨ un p = 1) ∧
  (∀ u, u < 128 → 0 ≤ sz u ∧ sz u ≤ 64 ∧ 0 ≤ pc u ∧ pc u ≤ 64 ∧ 0 ≤ ma u ∧ ma u ≤ 2) ∧
  ((mk = 0 ∨ mk = 1) ∧ 0 ≤ pn ∧ pn ≤ 128) ∧
  (∀ p : Nat, p < 16 → (kd p = 0 ∨ kd p = 1 ∨ kd p = 2 ∨ kd p = 4 ∨ kd p = 8 ∨ kd p = 16 ∨ kd p = 32 ∨ kd p = 48 ∨ kd p = 64) ∧ (16 ≤ kd p → (p : Int) + kd p / 16 ≤ 16 ∧ ∀ j : Nat, 1 ≤ j → (j : Int) < kd p / 16 → kd (p + j) = 1)) ∧
  (∀ p, p < 16 → un p ≠ 0 → 2 ≤ kd p ∧ mk = 0) ∧
  (∀ u : Nat, u < 128 → sz u ≠ 0 → kd (u / 8) = a_slot (sz u) ∧ (2 * ((u % 8 : Nat) : Int)) % kd (u / 8) = 0 ∧ pc u ≤ sz u ∧ pc' u = pc u)
def JH (A : zA) : Prop := JHf (A 16) (A 17) (A 18) (A 19) (A 20) (A 28) (A 14 5) (A 14 4)
abbrev lvf (un sz ma : Nat → Int) (u : Nat) : Prop := sz u ≠ 0 ∧ (un (u / 8) = 0 ∨ ma u ≠ 0)
abbrev okf (un sz ma : Nat → Int) (p : Int) : Prop := p = -1 ∨ (0 ≤ p ∧ p < 256 ∧ p % 2 = 0 ∧ lvf un sz ma (p / 2).toNat)
def JVf (st fr ce qu le mem un sz pc ma : Nat → Int) : Prop :=
  (∀ i, i < 6 → st i ≠ 0 → ∀ q : Nat, (q : Int) < 4 * fr i → okf un sz ma (ce (64 * i + q))) ∧
  (∀ c, c < 4 → ∀ r : Nat, (r : Int) < le c → okf un sz ma (qu (4 * c + r))) ∧
  (∀ u, u < 128 → lvf un sz ma u → ∀ w : Nat, (w : Int) < pc u → okf un sz ma (mem (2 * u + w)))
def JV (A : zA) : Prop := JVf (A 2) (A 3) (A 12) (A 21) (A 22) (A 15) (A 17) (A 18) (A 19) (A 20)
def JKf (un sz ma ke : Nat → Int) : Prop := ∀ u, u < 128 → un (u / 8) ≠ 0 → sz u ≠ 0 → ke (2 * u) = if ma u ≠ 0 then 1 else 0
def JK (A : zA) : Prop := JKf (A 17) (A 18) (A 20) (A 34)
abbrev mkf (ma : Nat → Int) (p : Int) : Prop := p = -1 ∨ ma (p / 2).toNat ≠ 0
abbrev pnf (pe : Nat → Int) (pn : Int) (u : Nat) : Prop := ∃ j : Nat, (j : Int) < pn ∧ pe j = 2 * (u : Int)
abbrev clf (sz no yo pc' mem : Nat → Int) (S : Nat → Prop) : Prop := (∀ a, a < 256 → a % 2 = 0 → 0 < sz (a / 2) → no a ≠ 0 → yo a = 0 → S a) ∧ ∀ a, a < 256 → a % 2 = 0 → 0 < sz (a / 2) → S a → ∀ w : Nat, (w : Int) < pc' (a / 2) → ∀ p : Nat, p < 256 → mem (a + w) = (p : Int) → yo p = 0 → S p
abbrev dkf (sz no yo pc' mem ma : Nat → Int) (p : Int) : Prop := p = -1 ∨ ma (p / 2).toNat = 1 ∨ (0 ≤ p ∧ ∀ S, clf sz no yo pc' mem S → S p.toNat)
def JMf (st fr sc ce qu le mem sz pc ma pe no yo pc' : Nat → Int) (mk pn lk : Int) : Prop := mk ≠ 0 →
  ((∀ u, u < 128 → yo (2 * u) = if ma u = 1 then 1 else 0) ∧ (∀ a, a < 256 → (no a = 0 ∨ no a = 1) ∧ (yo a = 0 ∨ yo a = 1))) ∧
  (∀ u, u < 128 → ma u ≠ 0 → sz u ≠ 0) ∧
  ((∀ j : Nat, (j : Int) < pn → ∃ u : Nat, u < 128 ∧ pe j = 2 * (u : Int) ∧ ma u = 2) ∧ (∀ j k : Nat, j < k → (k : Int) < pn → pe j ≠ pe k)) ∧
  (∀ u, u < 128 → ma u ≠ 0 → ¬ pnf pe pn u → ∀ w : Nat, (w : Int) < pc u → mkf ma (mem (2 * u + w))) ∧
  ((∀ i, i < 6 → st i ≠ 0 → sc i ≠ 0 → ∀ q : Nat, (q : Int) < 4 * fr i → dkf sz no yo pc' mem ma (ce (64 * i + q))) ∧ (∀ c, c < 4 → ∀ r : Nat, (r : Int) < le c → dkf sz no yo pc' mem ma (qu (4 * c + r)))) ∧
  (∀ a, a < 256 → no a ≠ 0 → a % 2 = 0 ∧ ma (a / 2) ≠ 0) ∧
  (∀ S, clf sz no yo pc' mem S → ∀ u, u < 128 → ma u = 2 → S (2 * u)) ∧
  (lk = zsum (fun u => if ma u = 2 then 1 else 0) 128 0 - pn ∧ 0 ≤ lk)
def JM (A : zA) : Prop := JMf (A 2) (A 3) (A 6) (A 12) (A 21) (A 22) (A 15) (A 18) (A 19) (A 20) (A 23) (A 24) (A 33) (A 28) (A 14 5) (A 14 4) (A 31 0)
def JN (N : Int) (A : zA) : Prop := 0 ≤ A 14 8 ∧ A 14 8 ≤ 64 * N ∧ 64 ≤ A 14 9 ∧ A 14 9 ≤ 4096
def JJ (N : Int) (A : zA) : Prop := 0 ≤ N ∧ N ≤ 1000 ∧ JF N A ∧ JC A ∧ JH A ∧ JV A ∧ JK A ∧ JM A ∧ JN N A
section INV
variable {N : Int} {A : zA}
theorem JF.st (h : JF N A) : iSt A := h.1
theorem JF.fs (h : JF N A) : iFs A := ⟨h.1, fun i hi hl => ⟨(h.2.1 i hi hl).1, (h.2.1 i hi hl).2.1⟩⟩
theorem JF.lk (h : JF N A) : iLk A := h.2.2.1
theorem JF.rm (h : JF N A) {i : Nat} (hi : i < 6) (hl : A 2 i ≠ 0) : A 3 i ≤ A 4 i ∧ (A 4 i = 2 ∨ A 4 i = 4 ∨ A 4 i = 8 ∨ A 4 i = 16) := (h.2.1 i hi hl).2.2
theorem JF.wa (h : JF N A) (hN : N ≤ 1000) : iWa A := fun i hi => by
  obtain ⟨h1, h2, h3, h4⟩ := h.2.2.2.2.1 i hi
  exact ⟨h1, h2, by omega, by omega⟩
theorem JF.wt (h : JF N A) (hN : N ≤ 1000) : iWt A := fun i hi hs => by
  obtain ⟨h1, h2, h3, h4⟩ := h.2.2.2.2.1 i hi
  obtain ⟨g1, g2, g3, g4⟩ := h.2.2.2.2.2.1 i hi hs
  exact ⟨g1, h3, by omega, g2, g3, g4⟩
theorem JH.hp (h : JH A) : iHp A := ⟨h.1, h.2.1, h.2.2.1⟩
theorem JH.co (h : JH A) : iCo A := h.2.2.2.1
theorem JV.ok (h : JV A) : ∀ p, okf (A 17) (A 18) (A 20) p → okp A p := fun p hp => hp.elim Or.inl (fun hp => Or.inr ⟨hp.1, hp.2.1, hp.2.2.1, hp.2.2.2.1⟩)
theorem okf_rg {un sz ma : Nat → Int} {p : Int} (h : okf un sz ma p) : -1 ≤ p ∧ p < 256 := by
  rcases h with h | h <;> omega
theorem J_pf (hF : JF N A) (hV : JV A) {i : Nat} (hi : i < 6) (hl : A 2 i ≠ 0) (k : Int) : okf (A 17) (A 18) (A 20) (a_pf A i k) := by
  obtain ⟨f1, f2⟩ := hF.fs.2 i hi hl
  have hg := a_ci_rg (k := k) f1 f2
  unfold a_pf
  split
  · exact Or.inl rfl
  · exact hV.1 i hi hl _ (by omega)
theorem J_ok (hF : JF N A) (hV : JV A) : iOk A := fun i hi hl k => hV.ok _ (J_pf hF hV hi hl k)
theorem JH.pl (h : JH A) : iPl A := fun u hu hs => (h.2.2.2.2.2.2 u hu hs).2.2.2
theorem JH.ext (h : JH A) {u : Nat} (hu : u < 128) (hs : A 18 u ≠ 0) : 2 * (u : Int) + A 18 u ≤ 256 ∧ (A 16 (u / 8) < 16 → (2 * ((u % 8 : Nat) : Int)) + A 18 u ≤ 16) ∧ (16 ≤ A 16 (u / 8) → u % 8 = 0 ∧ ((u / 8 : Nat) : Int) + A 16 (u / 8) / 16 ≤ 16) ∧ A 18 u ≤ A 16 (u / 8) := by
  obtain ⟨x1, x2, x3, x4, x5, x6⟩ := h.2.2.1 u hu
  obtain ⟨y1, y2, y3, y4⟩ := h.2.2.2.2.2.2 u hu hs
  have y1 : A 16 (u / 8) = a_slot (A 18 u) := y1
  have y2 : (2 * ((u % 8 : Nat) : Int)) % A 16 (u / 8) = 0 := y2
  have g := a_slot_le x1 x2
  obtain ⟨z1, z2⟩ := h.2.2.2.2.1 (u / 8) (by omega)
  have z2 : 16 ≤ A 16 (u / 8) → ((u / 8 : Nat) : Int) + A 16 (u / 8) / 16 ≤ 16 := fun e => (z2 e).1
  rw [← y1] at g
  have small : A 16 (u / 8) < 16 → (2 * ((u % 8 : Nat) : Int)) + A 18 u ≤ 16 := by
    intro e
    rcases g.2.2.1 e with e9 | e9 | e9 <;> rw [e9] at y2 g <;> omega
  have big : 16 ≤ A 16 (u / 8) → u % 8 = 0 ∧ ((u / 8 : Nat) : Int) + A 16 (u / 8) / 16 ≤ 16 := by
    intro e
    refine ⟨?_, z2 e⟩
    have : (2 * ((u % 8 : Nat) : Int)) % A 16 (u / 8) = 2 * ((u % 8 : Nat) : Int) := Int.emod_eq_of_lt (by omega) (by omega)
    omega
  refine ⟨?_, small, big, g.1⟩
  by_cases e : A 16 (u / 8) < 16
  · have := small e
    omega
  · obtain ⟨b1, b2⟩ := big (by omega)
    have g4 := g.2.2.2 (by omega)
    unfold a_wide at g4
    rw [if_neg e] at g4
    omega
theorem JH.ex (h : JH A) : iEx A := fun u hu hs => ⟨(h.ext hu hs).1, (h.2.2.2.2.2.2 u hu hs).2.2.1⟩
theorem JH.dis (h : JH A) {u v : Nat} (hu : u < 128) (hv : v < 128) (su : A 18 u ≠ 0) (sv : A 18 v ≠ 0) (hne : u < v) : 2 * (u : Int) + A 18 u ≤ 2 * (v : Int) := by
  obtain ⟨a1, a2, a3, a4⟩ := h.ext hu su
  obtain ⟨b1, b2, b3, b4⟩ := h.ext hv sv
  obtain ⟨y1, y2, y3, y4⟩ := h.2.2.2.2.2.2 u hu su
  obtain ⟨y5, y6, y7, y8⟩ := h.2.2.2.2.2.2 v hv sv
  have y1 : A 16 (u / 8) = a_slot (A 18 u) := y1
  have y2 : (2 * ((u % 8 : Nat) : Int)) % A 16 (u / 8) = 0 := y2
  have y6 : (2 * ((v % 8 : Nat) : Int)) % A 16 (v / 8) = 0 := y6
  by_cases e : A 16 (u / 8) < 16
  · by_cases e2 : u / 8 = v / 8
    · rw [← e2] at y6
      obtain ⟨x1, x2, -⟩ := h.2.2.1 u hu
      have g := (a_slot_le x1 x2).2.2.1
      rw [← y1] at g
      have g1 := (a_slot_le x1 x2).1
      rw [← y1] at g1
      rcases g e with e9 | e9 | e9 <;> rw [e9] at y2 y6 g1 <;> omega
    · have := a2 e
      omega
  · obtain ⟨c1, c2⟩ := a3 (by omega)
    obtain ⟨x1, x2, -⟩ := h.2.2.1 u hu
    have g := (a_slot_le x1 x2).2.2.2
    have g1 := (a_slot_le x1 x2).1
    rw [← y1] at g g1
    have g2 := g (by omega)
    unfold a_wide at g2
    rw [if_neg e] at g2
    have z2 := (h.2.2.2.2.1 (u / 8) (by omega)).2 (show 16 ≤ A 16 (u / 8) by omega)
    by_cases e3 : ((v / 8 : Nat) : Int) < ((u / 8 : Nat) : Int) + A 16 (u / 8) / 16
    · exfalso
      by_cases e4 : v / 8 = u / 8
      · rw [e4] at b3
        have := b3 (by omega)
        omega
      · have hj := z2.2 (v / 8 - u / 8) (by omega) (by show ((v / 8 - u / 8 : Nat) : Int) < A 16 (u / 8) / 16; omega)
        have hj : A 16 (u / 8 + (v / 8 - u / 8)) = 1 := hj
        rw [show u / 8 + (v / 8 - u / 8) = v / 8 by omega] at hj
        obtain ⟨w1, w2, -⟩ := h.2.2.1 v hv
        have w3 := a_slot_rg w1 w2
        have y5 : A 16 (v / 8) = a_slot (A 18 v) := y5
        omega
    · omega
end INV
