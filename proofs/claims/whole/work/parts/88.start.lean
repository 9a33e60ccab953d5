theorem zs_C1 : ∀ a, a < 12 → ∀ k, k < 6 → 2 ≤ a → zM_118 (zc_a a k) (zc_k a k) = zI (zA0 a k) := by decide +kernel
theorem zs_C2 : ∀ k, k < 384 → zM_118 (zc_a 12 k) (zc_k 12 k) = zI (zA0 12 k) := by decide +kernel
theorem zs_C3 : ∀ k, k < 256 → zM_118 (zc_a 15 k) (zc_k 15 k) = zI (zA0 15 k) := by decide +kernel
theorem zs_C4 : ∀ a, a < 24 → 18 ≤ a → a ≠ 21 → a ≠ 22 → ∀ k, k < 128 → zM_118 (zc_a a k) (zc_k a k) = zI (zA0 a k) := by decide +kernel
theorem zs_C5 : ∀ a ∈ [16, 17, 21], ∀ k, k < 16 → zM_118 (zc_a a k) (zc_k a k) = zI (zA0 a k) := by decide +kernel
theorem zs_C8 : ∀ k, k < 96 → zM_118 (zc_a 13 k) (zc_k 13 k) = zI (zA0 13 k) := by decide +kernel
theorem zs_C6 : ∀ k, k < 10 → (k < 2 ∨ 4 ≤ k) → zM_118 (zc_a 14 k) (zc_k 14 k) = zI (zA0 14 k) := by decide +kernel
theorem zs_C7 : ∀ k, k < 4 → zM_118 (zc_a 22 k) (zc_k 22 k) = zI (zA0 22 k) := by decide +kernel
theorem zs_RC : RC zM_118 zA0 zM_118 := by
  refine ⟨fun a k h => ?_, fun _ _ => rfl⟩
  unfold zc_in at h
  rcases h with ⟨h1, h2, h3⟩ | ⟨rfl, h⟩ | ⟨rfl, h⟩ | ⟨rfl, rfl⟩ | ⟨rfl, rfl⟩ | ⟨rfl, h1, h2⟩ | ⟨rfl, h⟩ | ⟨rfl, h⟩ | ⟨rfl, h⟩ | ⟨rfl, h⟩ | ⟨rfl, h⟩ | ⟨rfl, h⟩ | ⟨rfl, h1, h2⟩ | ⟨rfl, h⟩ | ⟨rfl, h⟩
  · exact zs_C1 a h2 k h3 h1
  · exact zs_C2 k h
  · exact zs_C8 k h
  · exact zs_C6 0 (by decide) (by decide)
  · exact zs_C6 1 (by decide) (by decide)
  · exact zs_C6 k h2 (Or.inr h1)
  · exact zs_C3 k h
  · exact zs_C5 16 (by decide) k h
  · exact zs_C5 17 (by decide) k h
  · exact zs_C4 18 (by decide) (by decide) (by decide) (by decide) k h
  · exact zs_C4 19 (by decide) (by decide) (by decide) (by decide) k h
  · exact zs_C4 20 (by decide) (by decide) (by decide) (by decide) k h
  · exact zs_C5 21 (by decide) k h1
  · exact zs_C7 k h
  · exact zs_C4 23 (by decide) (by decide) (by decide) (by decide) k h
theorem zs_R1 : ∀ a ∈ [2, 6, 9, 10, 25, 26, 27, 29, 30], ∀ k, k < 6 → zM_118 (zr_a a) (zr_k a k) = zI (zA0 a k) := by decide +kernel
theorem zs_R2 : ∀ k, k < 384 → zM_118 (zr_a 12) (zr_k 12 k) = zI (zA0 12 k) := by decide +kernel
theorem zs_R3 : ∀ k, k < 96 → zM_118 (zr_a 13) (zr_k 13 k) = zI (zA0 13 k) := by decide +kernel
theorem zs_R4 : ∀ a ∈ [15, 24, 33, 34], ∀ k, k < 256 → zM_118 (zr_a a) (zr_k a k) = zI (zA0 a k) := by decide +kernel
theorem zs_R5 : ∀ a ∈ [16, 17, 21], ∀ k, k < 16 → zM_118 (zr_a a) (zr_k a k) = zI (zA0 a k) := by decide +kernel
theorem zs_R6 : ∀ a ∈ [18, 28], ∀ k, k < 128 → zM_118 (zr_a a) (zr_k a k) = zI (zA0 a k) := by decide +kernel
theorem zs_R7 : ∀ k, k < 4 → zM_118 (zr_a 22) (zr_k 22 k) = zI (zA0 22 k) := by decide +kernel
theorem zs_R8 : ∀ k ∈ [0, 1, 5, 6, 7, 8, 9], zM_118 (zr_a 14) (zr_k 14 k) = zI (zA0 14 k) := by decide +kernel
theorem zs_R9 : ∀ a ∈ [31, 32], zM_118 (zr_a a) (zr_k a 0) = zI (zA0 a 0) := by decide +kernel
theorem zs_R0 : ∀ u, u < 128 → zM_118 41 (2 * u + 1) = zI 0 := by decide +kernel
theorem zs_RR : RR zM_118 zA0 zM_118 := by
  refine ⟨fun a k h => ?_, zs_R0, fun _ _ => rfl⟩
  unfold zr_in at h
  rcases h with ⟨rfl, h⟩ | ⟨rfl, h⟩ | ⟨rfl, h⟩ | ⟨rfl, h⟩ | ⟨rfl, h⟩ | ⟨rfl, h⟩ | ⟨rfl, h⟩ | ⟨rfl, h⟩ | ⟨rfl, h⟩ | ⟨rfl, h⟩ | ⟨rfl, h⟩ | ⟨rfl, h⟩ | ⟨rfl, h⟩ | ⟨rfl, h⟩ | ⟨rfl, h⟩ | ⟨rfl, h⟩ | ⟨rfl, h⟩ | ⟨rfl, h⟩ | ⟨rfl, h⟩ | ⟨rfl, h⟩ | ⟨rfl, h⟩ | ⟨rfl, h⟩ | ⟨rfl, h⟩ | ⟨rfl, h⟩ | ⟨rfl, h⟩ | ⟨rfl, h⟩ | ⟨rfl, h⟩ | ⟨rfl, h⟩ | ⟨rfl, h⟩ | ⟨rfl, h⟩
  all_goals first
    | exact zs_R1 _ (by decide) k h
    | exact zs_R2 k h
    | exact zs_R3 k h
    | exact zs_R4 _ (by decide) k h
    | exact zs_R5 _ (by decide) k h
    | exact zs_R6 _ (by decide) k h
    | exact zs_R7 k h
    | (subst h; exact zs_R8 _ (by decide))
    | (subst h; exact zs_R9 _ (by decide))
theorem zs_law {L : Nat} {xs : Nat → Int32} (hL : L ≤ 2560) : ∃ n, wl_L_law_18 (L, xs) (fun v _ => v = zI 1) n (zI 0) zM_118 :=
  ⟨L + 1, law_loop (X := (L, xs)) hL L 0 0 zM_118 zA0 (by show (L : Int) - 5 < ((0 : Nat) : Int) + 5 * (L : Int); omega) (by omega) (by omega) J_start zs_RC zs_RR⟩
