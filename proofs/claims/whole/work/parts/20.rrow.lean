def zr_a (a : Nat) : Nat := match a with
  | 2 => 49
  | 6 => 54
  | 9 => 56
  | 10 => 57
  | 12 => 52
  | 13 => 53
  | 15 => 40
  | 16 => 47
  | 17 => 48
  | 18 => 41
  | 21 => 60
  | 22 => 61
  | 24 => 44
  | 25 => 50
  | 26 => 51
  | 27 => 59
  | 28 => 42
  | 29 => 55
  | 30 => 58
  | 33 => 43
  | 34 => 45
  | _ => 39
def zr_s (a k : Nat) : Nat := match a with
  | 14 => (match k with
    | 0 => 22
    | 1 => 30
    | 5 => 23
    | 6 => 25
    | 7 => 26
    | 8 => 28
    | 9 => 29
    | _ => 0)
  | 31 => 24
  | 32 => 27
  | _ => 0
def zr_k (a k : Nat) : Nat := match a with
  | 2 => k
  | 6 => k
  | 9 => k
  | 10 => k
  | 12 => k
  | 13 => k
  | 15 => k
  | 16 => k
  | 17 => k
  | 18 => 2 * k
  | 21 => k
  | 22 => k
  | 24 => k
  | 25 => k
  | 26 => k
  | 27 => k
  | 28 => 2 * k
  | 29 => k
  | 30 => k
  | 33 => k
  | 34 => k
  | _ => zr_s a k
def zr_in (a k : Nat) : Prop := (a = 2 ∧ k < 6) ∨ (a = 6 ∧ k < 6) ∨ (a = 9 ∧ k < 6) ∨ (a = 10 ∧ k < 6) ∨ (a = 12 ∧ k < 384) ∨ (a = 13 ∧ k < 96) ∨ (a = 15 ∧ k < 256) ∨ (a = 16 ∧ k < 16) ∨ (a = 17 ∧ k < 16) ∨ (a = 18 ∧ k < 128) ∨ (a = 21 ∧ k < 16) ∨ (a = 22 ∧ k < 4) ∨ (a = 24 ∧ k < 256) ∨ (a = 25 ∧ k < 6) ∨ (a = 26 ∧ k < 6) ∨ (a = 27 ∧ k < 6) ∨ (a = 28 ∧ k < 128) ∨ (a = 29 ∧ k < 6) ∨ (a = 30 ∧ k < 6) ∨ (a = 33 ∧ k < 256) ∨ (a = 34 ∧ k < 256) ∨ (a = 14 ∧ k = 0) ∨ (a = 14 ∧ k = 1) ∨ (a = 14 ∧ k = 5) ∨ (a = 14 ∧ k = 6) ∨ (a = 14 ∧ k = 7) ∨ (a = 14 ∧ k = 8) ∨ (a = 14 ∧ k = 9) ∨ (a = 31 ∧ k = 0) ∨ (a = 32 ∧ k = 0)
def zr_v (x s : Nat) : Nat × Nat := match x with
  | 40 => (15, s)
  | 41 => (18, s / 2)
  | 42 => (28, s / 2)
  | 43 => (33, s)
  | 44 => (24, s)
  | 45 => (34, s)
  | 47 => (16, s)
  | 48 => (17, s)
  | 49 => (2, s)
  | 50 => (25, s)
  | 51 => (26, s)
  | 52 => (12, s)
  | 53 => (13, s)
  | 54 => (6, s)
  | 55 => (29, s)
  | 56 => (9, s)
  | 57 => (10, s)
  | 58 => (30, s)
  | 59 => (27, s)
  | 60 => (21, s)
  | 61 => (22, s)
  | _ => (match s with
    | 22 => (14, 0)
    | 30 => (14, 1)
    | 23 => (14, 5)
    | 25 => (14, 6)
    | 26 => (14, 7)
    | 28 => (14, 8)
    | 29 => (14, 9)
    | 24 => (31, 0)
    | 27 => (32, 0)
    | _ => (0, 0))
theorem zr_inv {a k : Nat} (h : zr_in a k) : zr_v (zr_a a) (zr_k a k) = (a, k) := by
  unfold zr_in at h
  rcases h with ⟨rfl, h⟩ | ⟨rfl, h⟩ | ⟨rfl, h⟩ | ⟨rfl, h⟩ | ⟨rfl, h⟩ | ⟨rfl, h⟩ | ⟨rfl, h⟩ | ⟨rfl, h⟩ | ⟨rfl, h⟩ | ⟨rfl, h⟩ | ⟨rfl, h⟩ | ⟨rfl, h⟩ | ⟨rfl, h⟩ | ⟨rfl, h⟩ | ⟨rfl, h⟩ | ⟨rfl, h⟩ | ⟨rfl, h⟩ | ⟨rfl, h⟩ | ⟨rfl, h⟩ | ⟨rfl, h⟩ | ⟨rfl, h⟩ | ⟨rfl, rfl⟩ | ⟨rfl, rfl⟩ | ⟨rfl, rfl⟩ | ⟨rfl, rfl⟩ | ⟨rfl, rfl⟩ | ⟨rfl, rfl⟩ | ⟨rfl, rfl⟩ | ⟨rfl, rfl⟩ | ⟨rfl, rfl⟩
  · rfl
  · rfl
  · rfl
  · rfl
  · rfl
  · rfl
  · rfl
  · rfl
  · rfl
  · show (18, 2 * k / 2) = (18, k)
    rw [Nat.mul_div_cancel_left k (by decide)]
  · rfl
  · rfl
  · rfl
  · rfl
  · rfl
  · rfl
  · show (28, 2 * k / 2) = (28, k)
    rw [Nat.mul_div_cancel_left k (by decide)]
  · rfl
  · rfl
  · rfl
  · rfl
  · rfl
  · rfl
  · rfl
  · rfl
  · rfl
  · rfl
  · rfl
  · rfl
  · rfl
theorem zr_ge {a k : Nat} (h : zr_in a k) : 39 ≤ zr_a a ∧ zr_a a ≠ 46 ∧ (zr_a a = 41 → zr_k a k % 2 = 0) := by
  unfold zr_in at h
  rcases h with ⟨rfl, h⟩ | ⟨rfl, h⟩ | ⟨rfl, h⟩ | ⟨rfl, h⟩ | ⟨rfl, h⟩ | ⟨rfl, h⟩ | ⟨rfl, h⟩ | ⟨rfl, h⟩ | ⟨rfl, h⟩ | ⟨rfl, h⟩ | ⟨rfl, h⟩ | ⟨rfl, h⟩ | ⟨rfl, h⟩ | ⟨rfl, h⟩ | ⟨rfl, h⟩ | ⟨rfl, h⟩ | ⟨rfl, h⟩ | ⟨rfl, h⟩ | ⟨rfl, h⟩ | ⟨rfl, h⟩ | ⟨rfl, h⟩ | ⟨rfl, rfl⟩ | ⟨rfl, rfl⟩ | ⟨rfl, rfl⟩ | ⟨rfl, rfl⟩ | ⟨rfl, rfl⟩ | ⟨rfl, rfl⟩ | ⟨rfl, rfl⟩ | ⟨rfl, rfl⟩ | ⟨rfl, rfl⟩
  · exact ⟨by decide, by decide, fun e => absurd e (by decide)⟩
  · exact ⟨by decide, by decide, fun e => absurd e (by decide)⟩
  · exact ⟨by decide, by decide, fun e => absurd e (by decide)⟩
  · exact ⟨by decide, by decide, fun e => absurd e (by decide)⟩
  · exact ⟨by decide, by decide, fun e => absurd e (by decide)⟩
  · exact ⟨by decide, by decide, fun e => absurd e (by decide)⟩
  · exact ⟨by decide, by decide, fun e => absurd e (by decide)⟩
  · exact ⟨by decide, by decide, fun e => absurd e (by decide)⟩
  · exact ⟨by decide, by decide, fun e => absurd e (by decide)⟩
  · exact ⟨by decide, by decide, fun _ => by show 2 * k % 2 = 0; omega⟩
  · exact ⟨by decide, by decide, fun e => absurd e (by decide)⟩
  · exact ⟨by decide, by decide, fun e => absurd e (by decide)⟩
  · exact ⟨by decide, by decide, fun e => absurd e (by decide)⟩
  · exact ⟨by decide, by decide, fun e => absurd e (by decide)⟩
  · exact ⟨by decide, by decide, fun e => absurd e (by decide)⟩
  · exact ⟨by decide, by decide, fun e => absurd e (by decide)⟩
  · exact ⟨by decide, by decide, fun e => absurd e (by decide)⟩
  · exact ⟨by decide, by decide, fun e => absurd e (by decide)⟩
  · exact ⟨by decide, by decide, fun e => absurd e (by decide)⟩
  · exact ⟨by decide, by decide, fun e => absurd e (by decide)⟩
  · exact ⟨by decide, by decide, fun e => absurd e (by decide)⟩
  · exact ⟨by decide, by decide, fun e => absurd e (by decide)⟩
  · exact ⟨by decide, by decide, fun e => absurd e (by decide)⟩
  · exact ⟨by decide, by decide, fun e => absurd e (by decide)⟩
  · exact ⟨by decide, by decide, fun e => absurd e (by decide)⟩
  · exact ⟨by decide, by decide, fun e => absurd e (by decide)⟩
  · exact ⟨by decide, by decide, fun e => absurd e (by decide)⟩
  · exact ⟨by decide, by decide, fun e => absurd e (by decide)⟩
  · exact ⟨by decide, by decide, fun e => absurd e (by decide)⟩
  · exact ⟨by decide, by decide, fun e => absurd e (by decide)⟩
def zr_row (a : Nat) : Bool := [2, 6, 9, 10, 12, 13, 14, 15, 16, 17, 18, 21, 22, 24, 25, 26, 27, 28, 29, 30, 31, 32, 33, 34].elem a
theorem zr_row_of {a k : Nat} (h : zr_in a k) : zr_row a = true := by
  unfold zr_in at h
  rcases h with ⟨rfl, h⟩ | ⟨rfl, h⟩ | ⟨rfl, h⟩ | ⟨rfl, h⟩ | ⟨rfl, h⟩ | ⟨rfl, h⟩ | ⟨rfl, h⟩ | ⟨rfl, h⟩ | ⟨rfl, h⟩ | ⟨rfl, h⟩ | ⟨rfl, h⟩ | ⟨rfl, h⟩ | ⟨rfl, h⟩ | ⟨rfl, h⟩ | ⟨rfl, h⟩ | ⟨rfl, h⟩ | ⟨rfl, h⟩ | ⟨rfl, h⟩ | ⟨rfl, h⟩ | ⟨rfl, h⟩ | ⟨rfl, h⟩ | ⟨rfl, h⟩ | ⟨rfl, h⟩ | ⟨rfl, h⟩ | ⟨rfl, h⟩ | ⟨rfl, h⟩ | ⟨rfl, h⟩ | ⟨rfl, h⟩ | ⟨rfl, h⟩ | ⟨rfl, h⟩ <;> rfl
def RR (M : zh_M) (A : zA) (M0 : zh_M) : Prop := (∀ a k, zr_in a k → M (zr_a a) (zr_k a k) = zI (A a k)) ∧ (∀ u, u < 128 → M 41 (2 * u + 1) = zI 0) ∧ ∀ x, x < 39 → M x = M0 x
theorem RR.put {M M0 : zh_M} {A : zA} (h : RR M A M0) {a k : Nat} {v : Int} (hk : zr_in a k) : RR (zh_set M (zr_a a) (zr_k a k) (zI v)) (aset A a k v) M0 := by
  refine ⟨fun b j hb => ?_, fun u hu => ?_, fun x hx => ?_⟩
  · by_cases e : b = a ∧ j = k
    · obtain ⟨rfl, rfl⟩ := e
      rw [zs_same, as_same]
    · have e2 : ¬ (zr_a b = zr_a a ∧ zr_k b j = zr_k a k) := by
        intro e3
        apply e
        have h1 := zr_inv hk
        rw [← e3.1, ← e3.2, zr_inv hb] at h1
        exact ⟨congrArg Prod.fst h1, congrArg Prod.snd h1⟩
      simp only [zh_set, aset, if_neg e, if_neg e2]
      exact h.1 b j hb
  · have g := (zr_ge hk).2.2
    have e2 : ¬ (41 = zr_a a ∧ 2 * u + 1 = zr_k a k) := by
      intro e3
      have := g e3.1.symm
      omega
    simp only [zh_set, if_neg e2]
    exact h.2.1 u hu
  · rw [zh_set_ne (by have := (zr_ge hk).1; omega)]
    exact h.2.2 x hx
theorem RR.skip {M M0 : zh_M} {A : zA} (h : RR M A M0) {a k : Nat} {v : Int} (ha : ¬ zr_in a k) : RR M (aset A a k v) M0 := by
  refine ⟨fun b j hb => ?_, h.2⟩
  have e : ¬ (b = a ∧ j = k) := by
    rintro ⟨rfl, rfl⟩
    exact ha hb
  simp only [aset, if_neg e]
  exact h.1 b j hb
theorem RR.skp {M M0 : zh_M} {A : zA} (h : RR M A M0) {a k : Nat} {v : Int} (ha : zr_row a = false) : RR M (aset A a k v) M0 := h.skip (fun q => by have := zr_row_of q; rw [ha] at this; cases this)
theorem RR.skp4 {M M0 : zh_M} {A : zA} (h : RR M A M0) {v : Int} : RR M (aset A 14 4 v) M0 := h.skip (fun q => by
  unfold zr_in at q
  rcases q with ⟨q1, q2⟩ | ⟨q1, q2⟩ | ⟨q1, q2⟩ | ⟨q1, q2⟩ | ⟨q1, q2⟩ | ⟨q1, q2⟩ | ⟨q1, q2⟩ | ⟨q1, q2⟩ | ⟨q1, q2⟩ | ⟨q1, q2⟩ | ⟨q1, q2⟩ | ⟨q1, q2⟩ | ⟨q1, q2⟩ | ⟨q1, q2⟩ | ⟨q1, q2⟩ | ⟨q1, q2⟩ | ⟨q1, q2⟩ | ⟨q1, q2⟩ | ⟨q1, q2⟩ | ⟨q1, q2⟩ | ⟨q1, q2⟩ | ⟨q1, q2⟩ | ⟨q1, q2⟩ | ⟨q1, q2⟩ | ⟨q1, q2⟩ | ⟨q1, q2⟩ | ⟨q1, q2⟩ | ⟨q1, q2⟩ | ⟨q1, q2⟩ | ⟨q1, q2⟩ <;> first | (cases q1; done) | (cases q2; done) | omega)
theorem RR.due {M M0 : zh_M} {A : zA} (h : RR M A M0) {k : Nat} {v : Int32} : RR (zh_set M 46 k v) A M0 := by
  refine ⟨fun b j hb => ?_, fun u hu => ?_, fun x hx => ?_⟩
  · rw [zs_id (zr_ge hb).2.1]
    exact h.1 b j hb
  · rw [zs_id (by decide)]
    exact h.2.1 u hu
  · rw [zh_set_ne (by omega)]
    exact h.2.2 x hx
theorem RR.st {M M0 : zh_M} {A : zA} (h : RR M A M0) {i : Nat} (hi : i < 6) : M 49 i = zI (A 2 i) := h.1 2 i (Or.inl ⟨rfl, hi⟩)
theorem RR.st_ {M M0 : zh_M} {A : zA} (h : RR M A M0) {i : Nat} {v : Int} (hi : i < 6) : RR (zh_set M 49 i (zI v)) (aset A 2 i v) M0 := h.put (a := 2) (k := i) (Or.inl ⟨rfl, hi⟩)
theorem RR.sc {M M0 : zh_M} {A : zA} (h : RR M A M0) {i : Nat} (hi : i < 6) : M 54 i = zI (A 6 i) := h.1 6 i (Or.inr (Or.inl ⟨rfl, hi⟩))
theorem RR.sc_ {M M0 : zh_M} {A : zA} (h : RR M A M0) {i : Nat} {v : Int} (hi : i < 6) : RR (zh_set M 54 i (zI v)) (aset A 6 i v) M0 := h.put (a := 6) (k := i) (Or.inr (Or.inl ⟨rfl, hi⟩))
theorem RR.aw {M M0 : zh_M} {A : zA} (h : RR M A M0) {i : Nat} (hi : i < 6) : M 56 i = zI (A 9 i) := h.1 9 i (Or.inr (Or.inr (Or.inl ⟨rfl, hi⟩)))
theorem RR.aw_ {M M0 : zh_M} {A : zA} (h : RR M A M0) {i : Nat} {v : Int} (hi : i < 6) : RR (zh_set M 56 i (zI v)) (aset A 9 i v) M0 := h.put (a := 9) (k := i) (Or.inr (Or.inr (Or.inl ⟨rfl, hi⟩)))
theorem RR.oa {M M0 : zh_M} {A : zA} (h : RR M A M0) {i : Nat} (hi : i < 6) : M 57 i = zI (A 10 i) := h.1 10 i (Or.inr (Or.inr (Or.inr (Or.inl ⟨rfl, hi⟩))))
theorem RR.oa_ {M M0 : zh_M} {A : zA} (h : RR M A M0) {i : Nat} {v : Int} (hi : i < 6) : RR (zh_set M 57 i (zI v)) (aset A 10 i v) M0 := h.put (a := 10) (k := i) (Or.inr (Or.inr (Or.inr (Or.inl ⟨rfl, hi⟩))))
theorem RR.ce {M M0 : zh_M} {A : zA} (h : RR M A M0) {i : Nat} (hi : i < 384) : M 52 i = zI (A 12 i) := h.1 12 i (Or.inr (Or.inr (Or.inr (Or.inr (Or.inl ⟨rfl, hi⟩)))))
theorem RR.ce_ {M M0 : zh_M} {A : zA} (h : RR M A M0) {i : Nat} {v : Int} (hi : i < 384) : RR (zh_set M 52 i (zI v)) (aset A 12 i v) M0 := h.put (a := 12) (k := i) (Or.inr (Or.inr (Or.inr (Or.inr (Or.inl ⟨rfl, hi⟩)))))
theorem RR.re {M M0 : zh_M} {A : zA} (h : RR M A M0) {i : Nat} (hi : i < 96) : M 53 i = zI (A 13 i) := h.1 13 i (Or.inr (Or.inr (Or.inr (Or.inr (Or.inr (Or.inl ⟨rfl, hi⟩))))))
theorem RR.re_ {M M0 : zh_M} {A : zA} (h : RR M A M0) {i : Nat} {v : Int} (hi : i < 96) : RR (zh_set M 53 i (zI v)) (aset A 13 i v) M0 := h.put (a := 13) (k := i) (Or.inr (Or.inr (Or.inr (Or.inr (Or.inr (Or.inl ⟨rfl, hi⟩))))))
theorem RR.mem {M M0 : zh_M} {A : zA} (h : RR M A M0) {i : Nat} (hi : i < 256) : M 40 i = zI (A 15 i) := h.1 15 i (Or.inr (Or.inr (Or.inr (Or.inr (Or.inr (Or.inr (Or.inl ⟨rfl, hi⟩)))))))
theorem RR.mem_ {M M0 : zh_M} {A : zA} (h : RR M A M0) {i : Nat} {v : Int} (hi : i < 256) : RR (zh_set M 40 i (zI v)) (aset A 15 i v) M0 := h.put (a := 15) (k := i) (Or.inr (Or.inr (Or.inr (Or.inr (Or.inr (Or.inr (Or.inl ⟨rfl, hi⟩)))))))
theorem RR.kd {M M0 : zh_M} {A : zA} (h : RR M A M0) {i : Nat} (hi : i < 16) : M 47 i = zI (A 16 i) := h.1 16 i (Or.inr (Or.inr (Or.inr (Or.inr (Or.inr (Or.inr (Or.inr (Or.inl ⟨rfl, hi⟩))))))))
theorem RR.kd_ {M M0 : zh_M} {A : zA} (h : RR M A M0) {i : Nat} {v : Int} (hi : i < 16) : RR (zh_set M 47 i (zI v)) (aset A 16 i v) M0 := h.put (a := 16) (k := i) (Or.inr (Or.inr (Or.inr (Or.inr (Or.inr (Or.inr (Or.inr (Or.inl ⟨rfl, hi⟩))))))))
theorem RR.un {M M0 : zh_M} {A : zA} (h : RR M A M0) {i : Nat} (hi : i < 16) : M 48 i = zI (A 17 i) := h.1 17 i (Or.inr (Or.inr (Or.inr (Or.inr (Or.inr (Or.inr (Or.inr (Or.inr (Or.inl ⟨rfl, hi⟩)))))))))
theorem RR.un_ {M M0 : zh_M} {A : zA} (h : RR M A M0) {i : Nat} {v : Int} (hi : i < 16) : RR (zh_set M 48 i (zI v)) (aset A 17 i v) M0 := h.put (a := 17) (k := i) (Or.inr (Or.inr (Or.inr (Or.inr (Or.inr (Or.inr (Or.inr (Or.inr (Or.inl ⟨rfl, hi⟩)))))))))
theorem RR.sz {M M0 : zh_M} {A : zA} (h : RR M A M0) {i : Nat} (hi : i < 128) : M 41 (2 * i) = zI (A 18 i) := h.1 18 i (Or.inr (Or.inr (Or.inr (Or.inr (Or.inr (Or.inr (Or.inr (Or.inr (Or.inr (Or.inl ⟨rfl, hi⟩))))))))))
theorem RR.sz_ {M M0 : zh_M} {A : zA} (h : RR M A M0) {i : Nat} {v : Int} (hi : i < 128) : RR (zh_set M 41 (2 * i) (zI v)) (aset A 18 i v) M0 := h.put (a := 18) (k := i) (Or.inr (Or.inr (Or.inr (Or.inr (Or.inr (Or.inr (Or.inr (Or.inr (Or.inr (Or.inl ⟨rfl, hi⟩))))))))))
theorem RR.qu {M M0 : zh_M} {A : zA} (h : RR M A M0) {i : Nat} (hi : i < 16) : M 60 i = zI (A 21 i) := h.1 21 i (Or.inr (Or.inr (Or.inr (Or.inr (Or.inr (Or.inr (Or.inr (Or.inr (Or.inr (Or.inr (Or.inl ⟨rfl, hi⟩)))))))))))
theorem RR.qu_ {M M0 : zh_M} {A : zA} (h : RR M A M0) {i : Nat} {v : Int} (hi : i < 16) : RR (zh_set M 60 i (zI v)) (aset A 21 i v) M0 := h.put (a := 21) (k := i) (Or.inr (Or.inr (Or.inr (Or.inr (Or.inr (Or.inr (Or.inr (Or.inr (Or.inr (Or.inr (Or.inl ⟨rfl, hi⟩)))))))))))
theorem RR.le {M M0 : zh_M} {A : zA} (h : RR M A M0) {i : Nat} (hi : i < 4) : M 61 i = zI (A 22 i) := h.1 22 i (Or.inr (Or.inr (Or.inr (Or.inr (Or.inr (Or.inr (Or.inr (Or.inr (Or.inr (Or.inr (Or.inr (Or.inl ⟨rfl, hi⟩))))))))))))
theorem RR.le_ {M M0 : zh_M} {A : zA} (h : RR M A M0) {i : Nat} {v : Int} (hi : i < 4) : RR (zh_set M 61 i (zI v)) (aset A 22 i v) M0 := h.put (a := 22) (k := i) (Or.inr (Or.inr (Or.inr (Or.inr (Or.inr (Or.inr (Or.inr (Or.inr (Or.inr (Or.inr (Or.inr (Or.inl ⟨rfl, hi⟩))))))))))))
theorem RR.no {M M0 : zh_M} {A : zA} (h : RR M A M0) {i : Nat} (hi : i < 256) : M 44 i = zI (A 24 i) := h.1 24 i (Or.inr (Or.inr (Or.inr (Or.inr (Or.inr (Or.inr (Or.inr (Or.inr (Or.inr (Or.inr (Or.inr (Or.inr (Or.inl ⟨rfl, hi⟩)))))))))))))
theorem RR.no_ {M M0 : zh_M} {A : zA} (h : RR M A M0) {i : Nat} {v : Int} (hi : i < 256) : RR (zh_set M 44 i (zI v)) (aset A 24 i v) M0 := h.put (a := 24) (k := i) (Or.inr (Or.inr (Or.inr (Or.inr (Or.inr (Or.inr (Or.inr (Or.inr (Or.inr (Or.inr (Or.inr (Or.inr (Or.inl ⟨rfl, hi⟩)))))))))))))
theorem RR.fr {M M0 : zh_M} {A : zA} (h : RR M A M0) {i : Nat} (hi : i < 6) : M 50 i = zI (A 25 i) := h.1 25 i (Or.inr (Or.inr (Or.inr (Or.inr (Or.inr (Or.inr (Or.inr (Or.inr (Or.inr (Or.inr (Or.inr (Or.inr (Or.inr (Or.inl ⟨rfl, hi⟩))))))))))))))
theorem RR.fr_ {M M0 : zh_M} {A : zA} (h : RR M A M0) {i : Nat} {v : Int} (hi : i < 6) : RR (zh_set M 50 i (zI v)) (aset A 25 i v) M0 := h.put (a := 25) (k := i) (Or.inr (Or.inr (Or.inr (Or.inr (Or.inr (Or.inr (Or.inr (Or.inr (Or.inr (Or.inr (Or.inr (Or.inr (Or.inr (Or.inl ⟨rfl, hi⟩))))))))))))))
theorem RR.rm {M M0 : zh_M} {A : zA} (h : RR M A M0) {i : Nat} (hi : i < 6) : M 51 i = zI (A 26 i) := h.1 26 i (Or.inr (Or.inr (Or.inr (Or.inr (Or.inr (Or.inr (Or.inr (Or.inr (Or.inr (Or.inr (Or.inr (Or.inr (Or.inr (Or.inr (Or.inl ⟨rfl, hi⟩)))))))))))))))
theorem RR.rm_ {M M0 : zh_M} {A : zA} (h : RR M A M0) {i : Nat} {v : Int} (hi : i < 6) : RR (zh_set M 51 i (zI v)) (aset A 26 i v) M0 := h.put (a := 26) (k := i) (Or.inr (Or.inr (Or.inr (Or.inr (Or.inr (Or.inr (Or.inr (Or.inr (Or.inr (Or.inr (Or.inr (Or.inr (Or.inr (Or.inr (Or.inl ⟨rfl, hi⟩)))))))))))))))
theorem RR.tk {M M0 : zh_M} {A : zA} (h : RR M A M0) {i : Nat} (hi : i < 6) : M 59 i = zI (A 27 i) := h.1 27 i (Or.inr (Or.inr (Or.inr (Or.inr (Or.inr (Or.inr (Or.inr (Or.inr (Or.inr (Or.inr (Or.inr (Or.inr (Or.inr (Or.inr (Or.inr (Or.inl ⟨rfl, hi⟩))))))))))))))))
theorem RR.tk_ {M M0 : zh_M} {A : zA} (h : RR M A M0) {i : Nat} {v : Int} (hi : i < 6) : RR (zh_set M 59 i (zI v)) (aset A 27 i v) M0 := h.put (a := 27) (k := i) (Or.inr (Or.inr (Or.inr (Or.inr (Or.inr (Or.inr (Or.inr (Or.inr (Or.inr (Or.inr (Or.inr (Or.inr (Or.inr (Or.inr (Or.inr (Or.inl ⟨rfl, hi⟩))))))))))))))))
theorem RR.pc {M M0 : zh_M} {A : zA} (h : RR M A M0) {i : Nat} (hi : i < 128) : M 42 (2 * i) = zI (A 28 i) := h.1 28 i (Or.inr (Or.inr (Or.inr (Or.inr (Or.inr (Or.inr (Or.inr (Or.inr (Or.inr (Or.inr (Or.inr (Or.inr (Or.inr (Or.inr (Or.inr (Or.inr (Or.inl ⟨rfl, hi⟩)))))))))))))))))
theorem RR.pc_ {M M0 : zh_M} {A : zA} (h : RR M A M0) {i : Nat} {v : Int} (hi : i < 128) : RR (zh_set M 42 (2 * i) (zI v)) (aset A 28 i v) M0 := h.put (a := 28) (k := i) (Or.inr (Or.inr (Or.inr (Or.inr (Or.inr (Or.inr (Or.inr (Or.inr (Or.inr (Or.inr (Or.inr (Or.inr (Or.inr (Or.inr (Or.inr (Or.inr (Or.inl ⟨rfl, hi⟩)))))))))))))))))
theorem RR.si {M M0 : zh_M} {A : zA} (h : RR M A M0) {i : Nat} (hi : i < 6) : M 55 i = zI (A 29 i) := h.1 29 i (Or.inr (Or.inr (Or.inr (Or.inr (Or.inr (Or.inr (Or.inr (Or.inr (Or.inr (Or.inr (Or.inr (Or.inr (Or.inr (Or.inr (Or.inr (Or.inr (Or.inr (Or.inl ⟨rfl, hi⟩))))))))))))))))))
theorem RR.si_ {M M0 : zh_M} {A : zA} (h : RR M A M0) {i : Nat} {v : Int} (hi : i < 6) : RR (zh_set M 55 i (zI v)) (aset A 29 i v) M0 := h.put (a := 29) (k := i) (Or.inr (Or.inr (Or.inr (Or.inr (Or.inr (Or.inr (Or.inr (Or.inr (Or.inr (Or.inr (Or.inr (Or.inr (Or.inr (Or.inr (Or.inr (Or.inr (Or.inr (Or.inl ⟨rfl, hi⟩))))))))))))))))))
theorem RR.inn {M M0 : zh_M} {A : zA} (h : RR M A M0) {i : Nat} (hi : i < 6) : M 58 i = zI (A 30 i) := h.1 30 i (Or.inr (Or.inr (Or.inr (Or.inr (Or.inr (Or.inr (Or.inr (Or.inr (Or.inr (Or.inr (Or.inr (Or.inr (Or.inr (Or.inr (Or.inr (Or.inr (Or.inr (Or.inr (Or.inl ⟨rfl, hi⟩)))))))))))))))))))
theorem RR.inn_ {M M0 : zh_M} {A : zA} (h : RR M A M0) {i : Nat} {v : Int} (hi : i < 6) : RR (zh_set M 58 i (zI v)) (aset A 30 i v) M0 := h.put (a := 30) (k := i) (Or.inr (Or.inr (Or.inr (Or.inr (Or.inr (Or.inr (Or.inr (Or.inr (Or.inr (Or.inr (Or.inr (Or.inr (Or.inr (Or.inr (Or.inr (Or.inr (Or.inr (Or.inr (Or.inl ⟨rfl, hi⟩)))))))))))))))))))
theorem RR.yo {M M0 : zh_M} {A : zA} (h : RR M A M0) {i : Nat} (hi : i < 256) : M 43 i = zI (A 33 i) := h.1 33 i (Or.inr (Or.inr (Or.inr (Or.inr (Or.inr (Or.inr (Or.inr (Or.inr (Or.inr (Or.inr (Or.inr (Or.inr (Or.inr (Or.inr (Or.inr (Or.inr (Or.inr (Or.inr (Or.inr (Or.inl ⟨rfl, hi⟩))))))))))))))))))))
theorem RR.yo_ {M M0 : zh_M} {A : zA} (h : RR M A M0) {i : Nat} {v : Int} (hi : i < 256) : RR (zh_set M 43 i (zI v)) (aset A 33 i v) M0 := h.put (a := 33) (k := i) (Or.inr (Or.inr (Or.inr (Or.inr (Or.inr (Or.inr (Or.inr (Or.inr (Or.inr (Or.inr (Or.inr (Or.inr (Or.inr (Or.inr (Or.inr (Or.inr (Or.inr (Or.inr (Or.inr (Or.inl ⟨rfl, hi⟩))))))))))))))))))))
theorem RR.ke {M M0 : zh_M} {A : zA} (h : RR M A M0) {i : Nat} (hi : i < 256) : M 45 i = zI (A 34 i) := h.1 34 i (Or.inr (Or.inr (Or.inr (Or.inr (Or.inr (Or.inr (Or.inr (Or.inr (Or.inr (Or.inr (Or.inr (Or.inr (Or.inr (Or.inr (Or.inr (Or.inr (Or.inr (Or.inr (Or.inr (Or.inr (Or.inl ⟨rfl, hi⟩)))))))))))))))))))))
theorem RR.ke_ {M M0 : zh_M} {A : zA} (h : RR M A M0) {i : Nat} {v : Int} (hi : i < 256) : RR (zh_set M 45 i (zI v)) (aset A 34 i v) M0 := h.put (a := 34) (k := i) (Or.inr (Or.inr (Or.inr (Or.inr (Or.inr (Or.inr (Or.inr (Or.inr (Or.inr (Or.inr (Or.inr (Or.inr (Or.inr (Or.inr (Or.inr (Or.inr (Or.inr (Or.inr (Or.inr (Or.inr (Or.inl ⟨rfl, hi⟩)))))))))))))))))))))
theorem RR.clock {M M0 : zh_M} {A : zA} (h : RR M A M0) : M 39 22 = zI (A 14 0) := h.1 14 0 (Or.inr (Or.inr (Or.inr (Or.inr (Or.inr (Or.inr (Or.inr (Or.inr (Or.inr (Or.inr (Or.inr (Or.inr (Or.inr (Or.inr (Or.inr (Or.inr (Or.inr (Or.inr (Or.inr (Or.inr (Or.inr (Or.inl ⟨rfl, rfl⟩))))))))))))))))))))))
theorem RR.clock_ {M M0 : zh_M} {A : zA} (h : RR M A M0) {v : Int} : RR (zh_set M 39 22 (zI v)) (aset A 14 0 v) M0 := h.put (a := 14) (k := 0) (Or.inr (Or.inr (Or.inr (Or.inr (Or.inr (Or.inr (Or.inr (Or.inr (Or.inr (Or.inr (Or.inr (Or.inr (Or.inr (Or.inr (Or.inr (Or.inr (Or.inr (Or.inr (Or.inr (Or.inr (Or.inr (Or.inl ⟨rfl, rfl⟩))))))))))))))))))))))
theorem RR.freed {M M0 : zh_M} {A : zA} (h : RR M A M0) : M 39 30 = zI (A 14 1) := h.1 14 1 (Or.inr (Or.inr (Or.inr (Or.inr (Or.inr (Or.inr (Or.inr (Or.inr (Or.inr (Or.inr (Or.inr (Or.inr (Or.inr (Or.inr (Or.inr (Or.inr (Or.inr (Or.inr (Or.inr (Or.inr (Or.inr (Or.inr (Or.inl ⟨rfl, rfl⟩)))))))))))))))))))))))
theorem RR.freed_ {M M0 : zh_M} {A : zA} (h : RR M A M0) {v : Int} : RR (zh_set M 39 30 (zI v)) (aset A 14 1 v) M0 := h.put (a := 14) (k := 1) (Or.inr (Or.inr (Or.inr (Or.inr (Or.inr (Or.inr (Or.inr (Or.inr (Or.inr (Or.inr (Or.inr (Or.inr (Or.inr (Or.inr (Or.inr (Or.inr (Or.inr (Or.inr (Or.inr (Or.inr (Or.inr (Or.inr (Or.inl ⟨rfl, rfl⟩)))))))))))))))))))))))
theorem RR.mk {M M0 : zh_M} {A : zA} (h : RR M A M0) : M 39 23 = zI (A 14 5) := h.1 14 5 (Or.inr (Or.inr (Or.inr (Or.inr (Or.inr (Or.inr (Or.inr (Or.inr (Or.inr (Or.inr (Or.inr (Or.inr (Or.inr (Or.inr (Or.inr (Or.inr (Or.inr (Or.inr (Or.inr (Or.inr (Or.inr (Or.inr (Or.inr (Or.inl ⟨rfl, rfl⟩))))))))))))))))))))))))
theorem RR.mk_ {M M0 : zh_M} {A : zA} (h : RR M A M0) {v : Int} : RR (zh_set M 39 23 (zI v)) (aset A 14 5 v) M0 := h.put (a := 14) (k := 5) (Or.inr (Or.inr (Or.inr (Or.inr (Or.inr (Or.inr (Or.inr (Or.inr (Or.inr (Or.inr (Or.inr (Or.inr (Or.inr (Or.inr (Or.inr (Or.inr (Or.inr (Or.inr (Or.inr (Or.inr (Or.inr (Or.inr (Or.inr (Or.inl ⟨rfl, rfl⟩))))))))))))))))))))))))
theorem RR.cy {M M0 : zh_M} {A : zA} (h : RR M A M0) : M 39 25 = zI (A 14 6) := h.1 14 6 (Or.inr (Or.inr (Or.inr (Or.inr (Or.inr (Or.inr (Or.inr (Or.inr (Or.inr (Or.inr (Or.inr (Or.inr (Or.inr (Or.inr (Or.inr (Or.inr (Or.inr (Or.inr (Or.inr (Or.inr (Or.inr (Or.inr (Or.inr (Or.inr (Or.inl ⟨rfl, rfl⟩)))))))))))))))))))))))))
theorem RR.cy_ {M M0 : zh_M} {A : zA} (h : RR M A M0) {v : Int} : RR (zh_set M 39 25 (zI v)) (aset A 14 6 v) M0 := h.put (a := 14) (k := 6) (Or.inr (Or.inr (Or.inr (Or.inr (Or.inr (Or.inr (Or.inr (Or.inr (Or.inr (Or.inr (Or.inr (Or.inr (Or.inr (Or.inr (Or.inr (Or.inr (Or.inr (Or.inr (Or.inr (Or.inr (Or.inr (Or.inr (Or.inr (Or.inr (Or.inl ⟨rfl, rfl⟩)))))))))))))))))))))))))
theorem RR.pi {M M0 : zh_M} {A : zA} (h : RR M A M0) : M 39 26 = zI (A 14 7) := h.1 14 7 (Or.inr (Or.inr (Or.inr (Or.inr (Or.inr (Or.inr (Or.inr (Or.inr (Or.inr (Or.inr (Or.inr (Or.inr (Or.inr (Or.inr (Or.inr (Or.inr (Or.inr (Or.inr (Or.inr (Or.inr (Or.inr (Or.inr (Or.inr (Or.inr (Or.inr (Or.inl ⟨rfl, rfl⟩))))))))))))))))))))))))))
theorem RR.pi_ {M M0 : zh_M} {A : zA} (h : RR M A M0) {v : Int} : RR (zh_set M 39 26 (zI v)) (aset A 14 7 v) M0 := h.put (a := 14) (k := 7) (Or.inr (Or.inr (Or.inr (Or.inr (Or.inr (Or.inr (Or.inr (Or.inr (Or.inr (Or.inr (Or.inr (Or.inr (Or.inr (Or.inr (Or.inr (Or.inr (Or.inr (Or.inr (Or.inr (Or.inr (Or.inr (Or.inr (Or.inr (Or.inr (Or.inr (Or.inl ⟨rfl, rfl⟩))))))))))))))))))))))))))
theorem RR.fh {M M0 : zh_M} {A : zA} (h : RR M A M0) : M 39 28 = zI (A 14 8) := h.1 14 8 (Or.inr (Or.inr (Or.inr (Or.inr (Or.inr (Or.inr (Or.inr (Or.inr (Or.inr (Or.inr (Or.inr (Or.inr (Or.inr (Or.inr (Or.inr (Or.inr (Or.inr (Or.inr (Or.inr (Or.inr (Or.inr (Or.inr (Or.inr (Or.inr (Or.inr (Or.inr (Or.inl ⟨rfl, rfl⟩)))))))))))))))))))))))))))
theorem RR.fh_ {M M0 : zh_M} {A : zA} (h : RR M A M0) {v : Int} : RR (zh_set M 39 28 (zI v)) (aset A 14 8 v) M0 := h.put (a := 14) (k := 8) (Or.inr (Or.inr (Or.inr (Or.inr (Or.inr (Or.inr (Or.inr (Or.inr (Or.inr (Or.inr (Or.inr (Or.inr (Or.inr (Or.inr (Or.inr (Or.inr (Or.inr (Or.inr (Or.inr (Or.inr (Or.inr (Or.inr (Or.inr (Or.inr (Or.inr (Or.inr (Or.inl ⟨rfl, rfl⟩)))))))))))))))))))))))))))
theorem RR.tg {M M0 : zh_M} {A : zA} (h : RR M A M0) : M 39 29 = zI (A 14 9) := h.1 14 9 (Or.inr (Or.inr (Or.inr (Or.inr (Or.inr (Or.inr (Or.inr (Or.inr (Or.inr (Or.inr (Or.inr (Or.inr (Or.inr (Or.inr (Or.inr (Or.inr (Or.inr (Or.inr (Or.inr (Or.inr (Or.inr (Or.inr (Or.inr (Or.inr (Or.inr (Or.inr (Or.inr (Or.inl ⟨rfl, rfl⟩))))))))))))))))))))))))))))
theorem RR.tg_ {M M0 : zh_M} {A : zA} (h : RR M A M0) {v : Int} : RR (zh_set M 39 29 (zI v)) (aset A 14 9 v) M0 := h.put (a := 14) (k := 9) (Or.inr (Or.inr (Or.inr (Or.inr (Or.inr (Or.inr (Or.inr (Or.inr (Or.inr (Or.inr (Or.inr (Or.inr (Or.inr (Or.inr (Or.inr (Or.inr (Or.inr (Or.inr (Or.inr (Or.inr (Or.inr (Or.inr (Or.inr (Or.inr (Or.inr (Or.inr (Or.inr (Or.inl ⟨rfl, rfl⟩))))))))))))))))))))))))))))
theorem RR.lk {M M0 : zh_M} {A : zA} (h : RR M A M0) : M 39 24 = zI (A 31 0) := h.1 31 0 (Or.inr (Or.inr (Or.inr (Or.inr (Or.inr (Or.inr (Or.inr (Or.inr (Or.inr (Or.inr (Or.inr (Or.inr (Or.inr (Or.inr (Or.inr (Or.inr (Or.inr (Or.inr (Or.inr (Or.inr (Or.inr (Or.inr (Or.inr (Or.inr (Or.inr (Or.inr (Or.inr (Or.inr (Or.inl ⟨rfl, rfl⟩)))))))))))))))))))))))))))))
theorem RR.lk_ {M M0 : zh_M} {A : zA} (h : RR M A M0) {v : Int} : RR (zh_set M 39 24 (zI v)) (aset A 31 0 v) M0 := h.put (a := 31) (k := 0) (Or.inr (Or.inr (Or.inr (Or.inr (Or.inr (Or.inr (Or.inr (Or.inr (Or.inr (Or.inr (Or.inr (Or.inr (Or.inr (Or.inr (Or.inr (Or.inr (Or.inr (Or.inr (Or.inr (Or.inr (Or.inr (Or.inr (Or.inr (Or.inr (Or.inr (Or.inr (Or.inr (Or.inr (Or.inl ⟨rfl, rfl⟩)))))))))))))))))))))))))))))
theorem RR.cp {M M0 : zh_M} {A : zA} (h : RR M A M0) : M 39 27 = zI (A 32 0) := h.1 32 0 (Or.inr (Or.inr (Or.inr (Or.inr (Or.inr (Or.inr (Or.inr (Or.inr (Or.inr (Or.inr (Or.inr (Or.inr (Or.inr (Or.inr (Or.inr (Or.inr (Or.inr (Or.inr (Or.inr (Or.inr (Or.inr (Or.inr (Or.inr (Or.inr (Or.inr (Or.inr (Or.inr (Or.inr (Or.inr (⟨rfl, rfl⟩))))))))))))))))))))))))))))))
theorem RR.cp_ {M M0 : zh_M} {A : zA} (h : RR M A M0) {v : Int} : RR (zh_set M 39 27 (zI v)) (aset A 32 0 v) M0 := h.put (a := 32) (k := 0) (Or.inr (Or.inr (Or.inr (Or.inr (Or.inr (Or.inr (Or.inr (Or.inr (Or.inr (Or.inr (Or.inr (Or.inr (Or.inr (Or.inr (Or.inr (Or.inr (Or.inr (Or.inr (Or.inr (Or.inr (Or.inr (Or.inr (Or.inr (Or.inr (Or.inr (Or.inr (Or.inr (Or.inr (Or.inr (⟨rfl, rfl⟩))))))))))))))))))))))))))))))
