def zh_LL : List zh_LC := [(4, 5, (va_up (va_up (va_up (va_up (fun _ => none) 0 (some 2)) 1 (some 9)) 2 (some 28)) 3 (some 37))),
  (3, 7, (va_up (va_up (va_up (va_up (va_up (va_up (fun _ => none) 0 (some 3)) 1 (some 4)) 2 (some 5)) 3 (some 6)) 4 (some 7)) 5 (some 8))),
  (100, 256, (fun _ => none)),
  (100, 16, (fun _ => none)),
  (101, 16, (fun _ => none)),
  (100, 128, (fun _ => none)),
  (100, 128, (fun _ => none)),
  (100, 128, (fun _ => none)),
  (102, 6, (va_up (va_up (va_up (va_up (va_up (va_up (fun _ => none) 0 (some 10)) 1 (some 13)) 2 (some 16)) 3 (some 19)) 4 (some 22)) 5 (some 25))),
  (2, 12, (va_up (va_up (fun _ => none) 0 (some 11)) 1 (some 12))),
  (100, 64, (fun _ => none)),
  (100, 16, (fun _ => none)),
  (2, 12, (va_up (va_up (fun _ => none) 0 (some 14)) 1 (some 15))),
  (100, 64, (fun _ => none)),
  (100, 16, (fun _ => none)),
  (2, 12, (va_up (va_up (fun _ => none) 0 (some 17)) 1 (some 18))),
  (100, 64, (fun _ => none)),
  (100, 16, (fun _ => none)),
  (2, 12, (va_up (va_up (fun _ => none) 0 (some 20)) 1 (some 21))),
  (100, 64, (fun _ => none)),
  (100, 16, (fun _ => none)),
  (2, 12, (va_up (va_up (fun _ => none) 0 (some 23)) 1 (some 24))),
  (100, 64, (fun _ => none)),
  (100, 16, (fun _ => none)),
  (2, 12, (va_up (va_up (fun _ => none) 0 (some 26)) 1 (some 27))),
  (100, 64, (fun _ => none)),
  (100, 16, (fun _ => none)),
  (103, 4, (va_up (va_up (va_up (va_up (fun _ => none) 0 (some 29)) 1 (some 31)) 2 (some 33)) 3 (some 35))),
  (0, 2, (va_up (fun _ => none) 0 (some 30))),
  (100, 0, (fun _ => none)),
  (0, 2, (va_up (fun _ => none) 0 (some 32))),
  (100, 1, (fun _ => none)),
  (0, 2, (va_up (fun _ => none) 0 (some 34))),
  (100, 2, (fun _ => none)),
  (0, 2, (va_up (fun _ => none) 0 (some 36))),
  (100, 3, (fun _ => none)),
  (1, 10, (va_up (va_up (va_up (va_up (fun _ => none) 0 (some 2)) 1 (some 9)) 2 (some 28)) 3 (some 38))),
  (100, 128, (fun _ => none)),
  (5, 31, (va_up (va_up (va_up (va_up (va_up (va_up (va_up (va_up (va_up (va_up (va_up (va_up (va_up (va_up (va_up (va_up (va_up (va_up (va_up (va_up (va_up (va_up (fun _ => none) 0 (some 40)) 1 (some 41)) 2 (some 42)) 3 (some 43)) 4 (some 44)) 5 (some 45)) 6 (some 46)) 7 (some 47)) 8 (some 48)) 9 (some 49)) 10 (some 50)) 11 (some 51)) 12 (some 52)) 13 (some 53)) 14 (some 54)) 15 (some 55)) 16 (some 56)) 17 (some 57)) 18 (some 58)) 19 (some 59)) 20 (some 60)) 21 (some 61))),
  (100, 256, (fun _ => none)),
  (100, 256, (fun _ => none)),
  (100, 256, (fun _ => none)),
  (101, 256, (fun _ => none)),
  (101, 256, (fun _ => none)),
  (101, 256, (fun _ => none)),
  (101, 256, (fun _ => none)),
  (100, 16, (fun _ => none)),
  (101, 16, (fun _ => none)),
  (100, 6, (fun _ => none)),
  (100, 6, (fun _ => none)),
  (100, 6, (fun _ => none)),
  (100, 384, (fun _ => none)),
  (100, 96, (fun _ => none)),
  (101, 6, (fun _ => none)),
  (100, 6, (fun _ => none)),
  (100, 6, (fun _ => none)),
  (100, 6, (fun _ => none)),
  (100, 6, (fun _ => none)),
  (100, 6, (fun _ => none)),
  (100, 16, (fun _ => none)),
  (100, 4, (fun _ => none))]
theorem at_Fiber {o : Nat} (h : zf_Fiber o) : zh_at zh_LL o = some (2, 12, (va_up (va_up (fun _ => none) 0 (some (o + 1))) 1 (some (o + 2)))) := by rcases h with rfl | rfl | rfl | rfl | rfl | rfl <;> rfl
theorem at_Fiber_1 {o : Nat} (h : zf_Fiber o) : zh_at zh_LL (o + 1) = some (100, 64, fun _ => none) := by rcases h with rfl | rfl | rfl | rfl | rfl | rfl <;> rfl
theorem at_Fiber_2 {o : Nat} (h : zf_Fiber o) : zh_at zh_LL (o + 2) = some (100, 16, fun _ => none) := by rcases h with rfl | rfl | rfl | rfl | rfl | rfl <;> rfl
theorem zn_Fiber {i : Int32} (h : vp_in i 6) : i.toNatClampNeg = 0 ∨ i.toNatClampNeg = 1 ∨ i.toNatClampNeg = 2 ∨ i.toNatClampNeg = 3 ∨ i.toNatClampNeg = 4 ∨ i.toNatClampNeg = 5 := by
  have h1 : i.toNatClampNeg < 6 := Nat.not_le.mp fun q => h (Or.inr q)
  omega
theorem zf_of_Fiber {i : Int32} (h : vp_in i 6) : zf_Fiber (zi_Fiber i) := by
  unfold zf_Fiber zi_Fiber
  have := zn_Fiber h
  omega
section
variable {X : Nat × (Nat → Int32)} {d : Nat} {y : MethodName} {cc : ByteArray} {nL : Nat} {rt : Option FieldType} {pc pn : Nat} {lo : List (Option Value)} {st : List Value} {M : zh_M} {bc bs : Nat} {P : Option Value → List zh_LC → zh_M → Prop}
theorem zh_aald_Fiber {i : Int32} (hp : pc + 1 = pn) (hd : decode cc pc = .ok (.aaload, 1)) (hin : vp_in i 6) (kk : zh_W X d y cc nL rt pn lo (.ref (zi_Fiber i) :: st) zh_LL M bc bs P) : zh_W X d y cc nL rt pc lo (.int i :: .ref 9 :: st) zh_LL M bc bs P := by
  refine zh_aald (t := 2) (C := "FiberHeap$Fiber") hp hd rfl rfl (fun _ => rfl) hin ?_
  have e : va_rf ((va_up (va_up (va_up (va_up (va_up (va_up (fun _ => none) 0 (some 10)) 1 (some 13)) 2 (some 16)) 3 (some 19)) 4 (some 22)) 5 (some 25)) i.toNatClampNeg) = .ref (zi_Fiber i) := by
    unfold zi_Fiber
    rcases zn_Fiber hin with h | h | h | h | h | h <;> rw [h] <;> rfl
  exact e ▸ kk
end
theorem at_Channel {o : Nat} (h : zf_Channel o) : zh_at zh_LL o = some (0, 2, (va_up (fun _ => none) 0 (some (o + 1)))) := by rcases h with rfl | rfl | rfl | rfl <;> rfl
theorem at_Channel_1 {o : Nat} (h : zf_Channel o) : zh_at zh_LL (o + 1) = some (100, zl_Channel o, fun _ => none) := by rcases h with rfl | rfl | rfl | rfl <;> rfl
theorem zn_Channel {i : Int32} (h : vp_in i 4) : i.toNatClampNeg = 0 ∨ i.toNatClampNeg = 1 ∨ i.toNatClampNeg = 2 ∨ i.toNatClampNeg = 3 := by
  have h1 : i.toNatClampNeg < 4 := Nat.not_le.mp fun q => h (Or.inr q)
  omega
theorem zf_of_Channel {i : Int32} (h : vp_in i 4) : zf_Channel (zi_Channel i) := by
  unfold zf_Channel zi_Channel
  have := zn_Channel h
  omega
section
variable {X : Nat × (Nat → Int32)} {d : Nat} {y : MethodName} {cc : ByteArray} {nL : Nat} {rt : Option FieldType} {pc pn : Nat} {lo : List (Option Value)} {st : List Value} {M : zh_M} {bc bs : Nat} {P : Option Value → List zh_LC → zh_M → Prop}
theorem zh_aald_Channel {i : Int32} (hp : pc + 1 = pn) (hd : decode cc pc = .ok (.aaload, 1)) (hin : vp_in i 4) (kk : zh_W X d y cc nL rt pn lo (.ref (zi_Channel i) :: st) zh_LL M bc bs P) : zh_W X d y cc nL rt pc lo (.int i :: .ref 28 :: st) zh_LL M bc bs P := by
  refine zh_aald (t := 3) (C := "FiberHeap$Channel") hp hd rfl rfl (fun _ => rfl) hin ?_
  have e : va_rf ((va_up (va_up (va_up (va_up (fun _ => none) 0 (some 29)) 1 (some 31)) 2 (some 33)) 3 (some 35)) i.toNatClampNeg) = .ref (zi_Channel i) := by
    unfold zi_Channel
    rcases zn_Channel hin with h | h | h | h <;> rw [h] <;> rfl
  exact e ▸ kk
end
def zh_pi (P : Int32 → zh_M → Prop) : Option Value → List zh_LC → zh_M → Prop := fun r L M => ∃ v : Int32, r = some (.int v) ∧ L = zh_LL ∧ P v M
def zh_pv (P : zh_M → Prop) : Option Value → List zh_LC → zh_M → Prop := fun r L M => r = none ∧ L = zh_LL ∧ P M
def zh_pq (P : Option Nat → zh_M → Prop) : Option Value → List zh_LC → zh_M → Prop := fun r L M => ∃ v : Option Nat, r = some (va_rf v) ∧ L = zh_LL ∧ P v M
