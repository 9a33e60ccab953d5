theorem zI_ti {x : Int} (h1 : -2147483648 ≤ x) (h2 : x < 2147483648) : (zI x).toInt = x := Int32.toInt_ofInt_of_le (by omega) (by omega)
theorem zI_of (v : Int32) : zI v.toInt = v := Int32.ofInt_toInt v
theorem zI_ex (v : Int32) : ∃ x : Int, -2147483648 ≤ x ∧ x < 2147483648 ∧ v = zI x := ⟨v.toInt, by have := v.le_toInt; omega, by have := v.toInt_lt; omega, (zI_of v).symm⟩
theorem zI_add (a b : Int) : zI a + zI b = zI (a + b) := (Int32.ofInt_add a b).symm
theorem zI_sub (a b : Int) : zI a - zI b = zI (a - b) := (Int32.ofInt_sub a b).symm
theorem zI_mul (a b : Int) : zI a * zI b = zI (a * b) := (Int32.ofInt_mul a b).symm
theorem zI_le {a b : Int} (a1 : -2147483648 ≤ a) (a2 : a < 2147483648) (b1 : -2147483648 ≤ b) (b2 : b < 2147483648) : zI a ≤ zI b ↔ a ≤ b := by
  rw [Int32.le_iff_toInt_le, zI_ti a1 a2, zI_ti b1 b2]
theorem zI_lt {a b : Int} (a1 : -2147483648 ≤ a) (a2 : a < 2147483648) (b1 : -2147483648 ≤ b) (b2 : b < 2147483648) : zI a < zI b ↔ a < b := by
  rw [Int32.lt_iff_toInt_lt, zI_ti a1 a2, zI_ti b1 b2]
theorem zI_eq {a b : Int} (a1 : -2147483648 ≤ a) (a2 : a < 2147483648) (b1 : -2147483648 ≤ b) (b2 : b < 2147483648) : zI a = zI b ↔ a = b := by
  rw [← Int32.toInt_inj, zI_ti a1 a2, zI_ti b1 b2]
theorem zI_cl {a : Int} (h1 : 0 ≤ a) (h2 : a < 2147483648) : (zI a).toNatClampNeg = a.toNat := Int32.toNatClampNeg_ofInt_of_le (by omega) (by omega)
theorem zI_div {a d : Int} (h1 : 0 ≤ a) (h2 : a < 2147483648) (h3 : 0 < d) (h4 : d < 2147483648) : zI a / zI d = zI (a / d) := by
  have hq : 0 ≤ a / d := Int.ediv_nonneg h1 (by omega)
  have hq2 : a / d ≤ a := Int.ediv_le_self d h1
  apply Int32.toInt_inj.mp
  rw [Int32.toInt_div_of_ne_right _ _ (fun e => ?_), zI_ti (by omega) h2, zI_ti (by omega) h4, zI_ti (by omega) (by omega), Int.tdiv_eq_ediv_of_nonneg h1]
  have e2 := congrArg Int32.toInt e
  rw [zI_ti (by omega) h4] at e2
  have : (-1 : Int32).toInt = -1 := by decide
  omega
theorem zI_in {a : Int} {n : Nat} (h1 : 0 ≤ a) (h2 : a < n) (h3 : n < 2147483648) : vp_in (zI a) n := by
  intro h
  rw [zI_cl h1 (by omega), ← zI_0, zI_lt (by omega) (by omega) (by omega) (by omega)] at h
  omega
theorem zI_nin {a : Int} {n : Nat} (h1 : -2147483648 ≤ a) (h2 : a < 2147483648) (h : vp_in (zI a) n) : 0 ≤ a ∧ a < n := by
  have h0 : 0 ≤ a := by
    apply Decidable.byContradiction
    intro h3
    exact h (Or.inl (by rw [← zI_0, zI_lt h1 h2 (by omega) (by omega)]; omega))
  refine ⟨h0, ?_⟩
  apply Decidable.byContradiction
  intro h3
  exact h (Or.inr (by rw [zI_cl h0 h2]; omega))
theorem zI_nar {x : Int} (h : x = 0 ∨ x = 1) : vp_nar .boolean (zI x) = zI x := by
  rcases h with rfl | rfl <;> decide
theorem zs_same (M : zh_M) (a k : Nat) (v : Int32) : zh_set M a k v a k = v := by simp [zh_set]
theorem zs_id {M : zh_M} {a k : Nat} {v : Int32} {b j : Nat} (h : b ≠ a) : zh_set M a k v b j = M b j := by simp [zh_set, h]
theorem zs_ix {M : zh_M} {a k : Nat} {v : Int32} {b j : Nat} (h : j ≠ k) : zh_set M a k v b j = M b j := by simp [zh_set, h]
theorem zi_Fiber_zI {i : Nat} (h : i < 6) : zi_Fiber (zI (i : Int)) = 10 + 3 * i := by
  unfold zi_Fiber
  rw [zI_cl (by omega) (by omega)]
  simp
theorem zi_Channel_zI {i : Nat} (h : i < 4) : zi_Channel (zI (i : Int)) = 29 + 2 * i := by
  unfold zi_Channel
  rw [zI_cl (by omega) (by omega)]
  simp
abbrev zA : Type := Nat → Nat → Int
def aset (A : zA) (a k : Nat) (v : Int) : zA := fun b j => if b = a ∧ j = k then v else A b j
theorem as_same (A : zA) (a k : Nat) (v : Int) : aset A a k v a k = v := by simp [aset]
theorem as_id {A : zA} {a k : Nat} {v : Int} {b j : Nat} (h : b ≠ a) : aset A a k v b j = A b j := by simp [aset, h]
theorem as_ix {A : zA} {a k : Nat} {v : Int} {b j : Nat} (h : j ≠ k) : aset A a k v b j = A b j := by simp [aset, h]
def zc_a (a k : Nat) : Nat := if a < 12 then 10 + 3 * k else if a = 12 then 11 + 3 * (k / 64) else if a = 13 then 12 + 3 * (k / 16) else if a = 14 then (if k = 0 then 1 else if k = 1 then 2 else 37) else if a = 15 then 3 else if a = 16 then 4 else if a = 17 then 5 else if a = 18 then 6 else if a = 19 then 7 else if a = 20 then 8 else if a = 21 then 30 + 2 * (k / 4) else if a = 22 then 29 + 2 * k else 38
def zc_k (a k : Nat) : Nat := if a < 12 then a else if a = 12 then k % 64 else if a = 13 then k % 16 else if a = 14 then (if k = 0 then 4 else if k = 1 then 6 else k) else if a = 21 then k % 4 else if a = 22 then 1 else k
def zc_in (a k : Nat) : Prop := (2 ≤ a ∧ a < 12 ∧ k < 6) ∨ (a = 12 ∧ k < 384) ∨ (a = 13 ∧ k < 96) ∨ (a = 14 ∧ k = 0) ∨ (a = 14 ∧ k = 1) ∨ (a = 14 ∧ 4 ≤ k ∧ k < 10) ∨ (a = 15 ∧ k < 256) ∨ (a = 16 ∧ k < 16) ∨ (a = 17 ∧ k < 16) ∨ (a = 18 ∧ k < 128) ∨ (a = 19 ∧ k < 128) ∨ (a = 20 ∧ k < 128) ∨ (a = 21 ∧ k < 16 ∧ k % 4 < k / 4) ∨ (a = 22 ∧ k < 4) ∨ (a = 23 ∧ k < 128)
def zc_v (x s : Nat) : Nat × Nat := if x = 1 then (14, 0) else if x = 2 then (14, 1) else if x = 3 then (15, s) else if x = 4 then (16, s) else if x = 5 then (17, s) else if x = 6 then (18, s) else if x = 7 then (19, s) else if x = 8 then (20, s) else if x < 28 then (if (x - 10) % 3 = 0 then (s, (x - 10) / 3) else if (x - 10) % 3 = 1 then (12, 64 * ((x - 10) / 3) + s) else (13, 16 * ((x - 10) / 3) + s)) else if x < 37 then (if (x - 29) % 2 = 0 then (22, (x - 29) / 2) else (21, 4 * ((x - 29) / 2) + s)) else if x = 37 then (14, s) else (23, s)
theorem zc_inv {a k : Nat} (h : zc_in a k) : zc_v (zc_a a k) (zc_k a k) = (a, k) := by
  rcases h with ⟨h1, h2, h3⟩ | ⟨rfl, h3⟩ | ⟨rfl, h3⟩ | ⟨rfl, rfl⟩ | ⟨rfl, rfl⟩ | ⟨rfl, h2, h3⟩ | ⟨rfl, h3⟩ | ⟨rfl, h3⟩ | ⟨rfl, h3⟩ | ⟨rfl, h3⟩ | ⟨rfl, h3⟩ | ⟨rfl, h3⟩ | ⟨rfl, h2, h3⟩ | ⟨rfl, h3⟩ | ⟨rfl, h3⟩
  · have e1 : zc_a a k = 10 + 3 * k := by simp [zc_a, h2]
    have e2 : zc_k a k = a := by simp [zc_k, h2]
    rw [e1, e2]
    unfold zc_v
    rw [if_neg (by omega), if_neg (by omega), if_neg (by omega), if_neg (by omega), if_neg (by omega), if_neg (by omega), if_neg (by omega), if_neg (by omega), if_pos (by omega), if_pos (by omega)]
    simp
    try omega
  · have e1 : zc_a 12 k = 11 + 3 * (k / 64) := rfl
    have e2 : zc_k 12 k = k % 64 := rfl
    rw [e1, e2]
    unfold zc_v
    rw [if_neg (by omega), if_neg (by omega), if_neg (by omega), if_neg (by omega), if_neg (by omega), if_neg (by omega), if_neg (by omega), if_neg (by omega), if_pos (by omega), if_neg (by omega), if_pos (by omega)]
    simp
    try omega
  · have e1 : zc_a 13 k = 12 + 3 * (k / 16) := rfl
    have e2 : zc_k 13 k = k % 16 := rfl
    rw [e1, e2]
    unfold zc_v
    rw [if_neg (by omega), if_neg (by omega), if_neg (by omega), if_neg (by omega), if_neg (by omega), if_neg (by omega), if_neg (by omega), if_neg (by omega), if_pos (by omega), if_neg (by omega), if_neg (by omega)]
    simp
    try omega
  · rfl
  · rfl
  · have e1 : zc_a 14 k = 37 := by
      show (if k = 0 then 1 else if k = 1 then 2 else 37) = 37
      rw [if_neg (by omega), if_neg (by omega)]
    have e2 : zc_k 14 k = k := by
      show (if k = 0 then 4 else if k = 1 then 6 else k) = k
      rw [if_neg (by omega), if_neg (by omega)]
    rw [e1, e2]
    rfl
  · rfl
  · rfl
  · rfl
  · rfl
  · rfl
  · rfl
  · have e1 : zc_a 21 k = 30 + 2 * (k / 4) := rfl
    have e2 : zc_k 21 k = k % 4 := rfl
    rw [e1, e2]
    unfold zc_v
    rw [if_neg (by omega), if_neg (by omega), if_neg (by omega), if_neg (by omega), if_neg (by omega), if_neg (by omega), if_neg (by omega), if_neg (by omega), if_neg (by omega), if_pos (by omega), if_neg (by omega)]
    simp
    try omega
  · have e1 : zc_a 22 k = 29 + 2 * k := rfl
    have e2 : zc_k 22 k = 1 := rfl
    rw [e1, e2]
    unfold zc_v
    rw [if_neg (by omega), if_neg (by omega), if_neg (by omega), if_neg (by omega), if_neg (by omega), if_neg (by omega), if_neg (by omega), if_neg (by omega), if_neg (by omega), if_pos (by omega), if_pos (by omega)]
    simp
    try omega
  · rfl
theorem zc_lt {a k : Nat} (h : zc_in a k) : zc_a a k < 39 := by
  unfold zc_a
  unfold zc_in at h
  repeat' split
  all_goals omega
def RC (M : zh_M) (A : zA) (M0 : zh_M) : Prop := (∀ a k, zc_in a k → M (zc_a a k) (zc_k a k) = zI (A a k)) ∧ ∀ x, 39 ≤ x → M x = M0 x
theorem RC.put {M M0 : zh_M} {A : zA} (h : RC M A M0) {a k : Nat} {v : Int} (hk : zc_in a k) : RC (zh_set M (zc_a a k) (zc_k a k) (zI v)) (aset A a k v) M0 := by
  refine ⟨fun b j hb => ?_, fun x hx => ?_⟩
  · by_cases e : b = a ∧ j = k
    · obtain ⟨rfl, rfl⟩ := e
      rw [zs_same, as_same]
    · have e2 : ¬ (zc_a b j = zc_a a k ∧ zc_k b j = zc_k a k) := by
        intro e3
        apply e
        have h1 := zc_inv hk
        rw [← e3.1, ← e3.2, zc_inv hb] at h1
        exact ⟨congrArg Prod.fst h1, congrArg Prod.snd h1⟩
      simp only [zh_set, aset, if_neg e, if_neg e2]
      exact h.1 b j hb
  · rw [zh_set_ne (by have := zc_lt hk; omega)]
    exact h.2 x hx
theorem RC.ghost {M M0 : zh_M} {A : zA} (h : RC M A M0) {a k : Nat} {v : Int} (ha : 24 ≤ a) : RC M (aset A a k v) M0 := by
  refine ⟨fun b j hb => ?_, h.2⟩
  rw [as_id (by unfold zc_in at hb; omega)]
  exact h.1 b j hb
theorem zk_l {a b : Int} {A B : Prop} (f : a < b → A) (g : b ≤ a → B) (a1 : -2147483648 ≤ a := by omega) (a2 : a < 2147483648 := by omega) (b1 : -2147483648 ≤ b := by omega) (b2 : b < 2147483648 := by omega) : (zI a < zI b → A) ∧ (¬ zI a < zI b → B) := by
  rw [zI_lt a1 a2 b1 b2]
  exact ⟨f, fun h => g (by omega)⟩
theorem zk_m {a b : Int} {A B : Prop} (f : a ≤ b → A) (g : b < a → B) (a1 : -2147483648 ≤ a := by omega) (a2 : a < 2147483648 := by omega) (b1 : -2147483648 ≤ b := by omega) (b2 : b < 2147483648 := by omega) : (zI a ≤ zI b → A) ∧ (¬ zI a ≤ zI b → B) := by
  rw [zI_le a1 a2 b1 b2]
  exact ⟨f, fun h => g (by omega)⟩
theorem zk_e {a b : Int} {A B : Prop} (f : a = b → A) (g : a ≠ b → B) (a1 : -2147483648 ≤ a := by omega) (a2 : a < 2147483648 := by omega) (b1 : -2147483648 ≤ b := by omega) (b2 : b < 2147483648 := by omega) : (zI a = zI b → A) ∧ (¬ zI a = zI b → B) := by
  rw [zI_eq a1 a2 b1 b2]
  exact ⟨f, g⟩
theorem zk_n {a b : Int} {A B : Prop} (f : a ≠ b → A) (g : a = b → B) (a1 : -2147483648 ≤ a := by omega) (a2 : a < 2147483648 := by omega) (b1 : -2147483648 ≤ b := by omega) (b2 : b < 2147483648 := by omega) : (¬ zI a = zI b → A) ∧ (zI a = zI b → B) := by
  rw [zI_eq a1 a2 b1 b2]
  exact ⟨f, g⟩
theorem zk_i {a : Int} {n : Nat} (h1 : 0 ≤ a := by omega) (h2 : a < n := by omega) (h3 : n < 2147483648 := by omega) : vp_in (zI a) n := zI_in h1 h2 h3
theorem zk_o {r : Option Nat} {A : Prop} {B : Nat → Prop} (f : r = none → A) (g : ∀ o, r = some o → B o) : (r = none → A) ∧ (∀ o, r = some o → B o) := ⟨f, g⟩
theorem zf_Fiber_of {i : Nat} (h : i < 6) : zf_Fiber (10 + 3 * i) := by
  unfold zf_Fiber
  omega
theorem zi_Fiber_n (f : Int) (h0 : 0 ≤ f) (h : f < 6) : zi_Fiber (zI f) = 10 + 3 * f.toNat := by
  unfold zi_Fiber
  rw [zI_cl h0 (by omega)]
theorem zi_Channel_n (f : Int) (h0 : 0 ≤ f) (h : f < 4) : zi_Channel (zI f) = 29 + 2 * f.toNat := by
  unfold zi_Channel
  rw [zI_cl h0 (by omega)]
