def zI (n : Int) : Int32 := Int32.ofInt n
theorem zI_0 : zI 0 = 0 := by decide
abbrev zh_M : Type := Nat → Nat → Int32
def zh_set (M : zh_M) (a k : Nat) (v : Int32) : zh_M := fun b j => if b = a ∧ j = k then v else M b j
def zh_row (M : zh_M) (a : Nat) (f : Nat → Int32) : zh_M := fun b j => if b = a then f j else M b j
theorem zh_set_ne {M : zh_M} {a k : Nat} {v : Int32} {b : Nat} (h : b ≠ a) : zh_set M a k v b = M b := by
  funext j
  simp [zh_set, h]
theorem zh_set_self (M : zh_M) (a k : Nat) (v : Int32) : zh_set M a k v a = upd (M a) k v := by
  funext j
  simp [zh_set, upd]
theorem zh_row_ne {M : zh_M} {a : Nat} {f : Nat → Int32} {b : Nat} (h : b ≠ a) : zh_row M a f b = M b := by
  funext j
  simp [zh_row, h]
theorem zh_row_self (M : zh_M) (a : Nat) (f : Nat → Int32) : zh_row M a f a = f := by
  funext j
  simp [zh_row]
