section ZFI
variable {X : Nat × (Nat → Int32)} {d : Nat} {y : MethodName} {cc : ByteArray} {nL : Nat} {rt : Option FieldType} {pc pn : Nat} {lo : List (Option Value)} {st : List Value} {L : List zh_LC} {M : zh_M} {bc bs : Nat} {P : Option Value → List zh_LC → zh_M → Prop}
theorem zh_fill_step (M : zh_M) (id i : Nat) (v : Int32) (hi : i < 2 ^ 31) : zh_set (zh_row M id (fun j => if j < i then v else M id j)) id (nI i).toNatClampNeg v = zh_row M id (fun j => if j < i + 1 then v else M id j) := by
  funext a j
  rw [nI_clamp hi]
  unfold zh_set zh_row
  by_cases ha : a = id
  · subst ha
    by_cases hj : j = i
    · subst hj
      simp
    · by_cases h1 : j < i
      · simp [hj, h1, Nat.lt_succ_of_lt h1]
      · have h2 : ¬ j < i + 1 := by omega
        simp [hj, h1, h2]
  · simp [ha]
theorem zh_fill_loop {id N : Nat} {rf : Nat → Option Nat} {v : Int32} (hL : zh_at L id = some (100, N, rf)) (hN : N < 2 ^ 31) : ∀ (k i : Nat), i + k = N → zh_W X d yJ_fill cJ_fill 4 none 5 [some (.ref id), some (.int v), some (.int (nI i)), some (.int (nI N))] [] L (zh_row M id (fun j => if j < i then v else M id j)) 0 0 (fun r L' M' => r = none ∧ L' = L ∧ M' = zh_row M id (fun j => if j < N then v else M id j)) := by
  intro k
  induction k with
  | zero =>
    intro i hi
    have e : i = N := by omega
    refine zh_iload_n (pn := 6) rfl dJ_fill_5 (i := 2) (x := nI i) rfl rfl ?_
    refine zh_iload_n (pn := 7) rfl dJ_fill_6 (i := 3) (x := nI N) rfl rfl ?_
    refine zh_icmp_ge (pn := 10) rfl dJ_fill_7 (tgt := 20) rfl (fun _ => ?_) (fun h => absurd (nI_le (by omega) (by omega)) h)
    exact zh_vret dJ_fill_20 rfl ⟨rfl, rfl, by rw [e]⟩
  | succ k ih =>
    intro i hi
    refine zh_iload_n (pn := 6) rfl dJ_fill_5 (i := 2) (x := nI i) rfl rfl ?_
    refine zh_iload_n (pn := 7) rfl dJ_fill_6 (i := 3) (x := nI N) rfl rfl ?_
    refine zh_icmp_ge (pn := 10) rfl dJ_fill_7 (tgt := 20) rfl (fun h => absurd h (nI_ge (by omega) hN)) (fun _ => ?_)
    refine zh_aload_n (pn := 11) rfl dJ_fill_10 (i := 0) (v := .ref id) rfl rfl (Or.inr ⟨_, rfl⟩) ?_
    refine zh_iload_n (pn := 12) rfl dJ_fill_11 (i := 2) (x := nI i) rfl rfl ?_
    refine zh_iload_n (pn := 13) rfl dJ_fill_12 (i := 1) (x := v) rfl rfl ?_
    refine zh_iast (pn := 14) rfl dJ_fill_13 hL (vp_in_nI (by omega) hN) ?_
    refine zh_iinc (pn := 17) rfl dJ_fill_14 (i := 2) (x := nI i) (v := nI (i + 1)) (lo' := [some (.ref id), some (.int v), some (.int (nI (i + 1))), some (.int (nI N))]) rfl (nI_1 i) (by decide) rfl ?_
    refine zh_goto dJ_fill_17 (tgt := 5) rfl ?_
    rw [zh_fill_step M id i v (by omega)]
    exact ih (i + 1) (by omega)
theorem zh_fill {idx id N : Nat} {rf : Nat → Option Nat} {v : Int32} (hp : pc + 3 = pn) (hd : decode cc pc = .ok (.invokestatic idx, 3)) (m1 : Cond.methodLink y.cls idx yJ_fill ∈ zh_WS) (hL : zh_at L id = some (100, N, rf)) (hN : N < 2 ^ 31) (hsc : ∀ base b, ((st.map (zh_tr base b)).map fun v => v.category).sum ≤ 8)
    (kk : zh_W X (d + 1) y cc nL rt pn lo st L (zh_row M id (fun j => if j < N then v else M id j)) bc bs P) : zh_W X (d + 1) y cc nL rt pc lo (.int v :: .ref id :: st) L M bc bs P := by
  refine zh_callS (bc := bc) (bs := bs) (bc' := 0) (bs' := 0) (as := [.ref id, .int v]) (st := st) (P' := fun r L' M' => r = none ∧ L' = L ∧ M' = zh_row M id (fun j => if j < N then v else M id j)) hp hd m1 me_fill.1 me_fill.2.1 me_fill.2.2 ⟨by decide, by decide, by decide⟩ (by show _ = some 2; decide +kernel) (by intro v hv; simp only [List.mem_cons, List.not_mem_nil, or_false] at hv; rcases hv with rfl | rfl <;> (intro _ _; rfl)) hsc (Nat.le_of_ble_eq_true rfl) (by decide) ?_ (fun r L' M' q => by obtain ⟨-, rfl, -⟩ := q; rfl) (fun r L' M' q => ?_)
  · show zh_W X d yJ_fill cJ_fill 4 none 0 [some (.ref id), some (.int v), none, none] [] L M 0 0 _
    refine zh_iconst (pn := 1) rfl dJ_fill_0 (v := nI 0) rfl ?_
    refine zh_istore_n (pn := 2) rfl dJ_fill_1 (i := 2) (lo' := [some (.ref id), some (.int v), some (.int (nI 0)), none]) rfl (by decide) rfl ?_
    refine zh_aload_n (pn := 3) rfl dJ_fill_2 (i := 0) (v := .ref id) rfl rfl (Or.inr ⟨_, rfl⟩) ?_
    refine zh_alen (pn := 4) (t := 0) (ty := .int) rfl dJ_fill_3 hL (fun _ => rfl) ?_
    refine zh_istore_n (pn := 5) rfl dJ_fill_4 (i := 3) (lo' := [some (.ref id), some (.int v), some (.int (nI 0)), some (.int (nI N))]) rfl (by decide) rfl ?_
    have e : zh_row M id (fun j => if j < 0 then v else M id j) = M := by
      funext a j
      unfold zh_row
      by_cases ha : a = id
      · subst ha
        simp
      · simp [ha]
    have h := zh_fill_loop (X := X) (d := d) (M := M) (v := v) hL hN N 0 (by omega)
    rw [e] at h
    exact h
  · obtain ⟨rfl, rfl, rfl⟩ := q
    exact kk
end ZFI
