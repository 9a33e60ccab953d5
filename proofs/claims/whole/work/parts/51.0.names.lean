def RX0 : String := "FiberHeap$Channel"
def TX0 : u_T := fun k => match k with
  | 0 => ("FiberHeap$Channel", "pointers", "[I", true)
  | _ => ("FiberHeap$Channel", "held", "I", false)
def tyX0 : Nat → FieldType := fun k => match k with
  | 0 => .array .int
  | _ => .int
theorem nmX0 : ∀ a, a < 2 → ∀ b, b < 2 → a ≠ b → (TX0 a).2.1 ≠ (TX0 b).2.1 := by decide +kernel
theorem tyX0_ok : ∀ k, k < 2 → parseFieldDescriptor (TX0 k).2.2.1 = some (tyX0 k) := by decide +kernel
abbrev cX0_init : ByteArray := prog_2_method_1_code
def yX0_init : MethodName := ⟨RX0, "<init>", "(I)V"⟩
theorem dX0_init_0 : decode cX0_init 0 = .ok (.aload_n 0, 1) := by decide +kernel
theorem dX0_init_1 : decode cX0_init 1 = .ok (.invokespecial 3, 3) := by decide +kernel
theorem dX0_init_4 : decode cX0_init 4 = .ok (.aload_n 0, 1) := by decide +kernel
theorem dX0_init_5 : decode cX0_init 5 = .ok (.iload_n 1, 1) := by decide +kernel
theorem dX0_init_6 : decode cX0_init 6 = .ok (.newarray .int, 2) := by decide +kernel
theorem dX0_init_8 : decode cX0_init 8 = .ok (.putfield 9, 3) := by decide +kernel
theorem dX0_init_11 : decode cX0_init 11 = .ok (.aload_n 0, 1) := by decide +kernel
theorem dX0_init_12 : decode cX0_init 12 = .ok (.iconst 0, 1) := by decide +kernel
theorem dX0_init_13 : decode cX0_init 13 = .ok (.putfield 15, 3) := by decide +kernel
theorem dX0_init_16 : decode cX0_init 16 = .ok (.return_, 1) := by decide +kernel
abbrev cX0_hasSpace : ByteArray := prog_2_method_2_code
def yX0_hasSpace : MethodName := ⟨RX0, "hasSpace", "()Z"⟩
theorem dX0_hasSpace_0 : decode cX0_hasSpace 0 = .ok (.aload_n 0, 1) := by decide +kernel
theorem dX0_hasSpace_1 : decode cX0_hasSpace 1 = .ok (.getfield 15, 3) := by decide +kernel
theorem dX0_hasSpace_4 : decode cX0_hasSpace 4 = .ok (.aload_n 0, 1) := by decide +kernel
theorem dX0_hasSpace_5 : decode cX0_hasSpace 5 = .ok (.getfield 9, 3) := by decide +kernel
theorem dX0_hasSpace_8 : decode cX0_hasSpace 8 = .ok (.arraylength, 1) := by decide +kernel
theorem dX0_hasSpace_9 : decode cX0_hasSpace 9 = .ok (.if_icmp .ge 7, 3) := by decide +kernel
theorem dX0_hasSpace_12 : decode cX0_hasSpace 12 = .ok (.iconst 1, 1) := by decide +kernel
theorem dX0_hasSpace_13 : decode cX0_hasSpace 13 = .ok (.goto 4, 3) := by decide +kernel
theorem dX0_hasSpace_16 : decode cX0_hasSpace 16 = .ok (.iconst 0, 1) := by decide +kernel
theorem dX0_hasSpace_17 : decode cX0_hasSpace 17 = .ok (.ireturn, 1) := by decide +kernel
abbrev cX0_addLast : ByteArray := prog_2_method_3_code
def yX0_addLast : MethodName := ⟨RX0, "addLast", "(I)V"⟩
theorem dX0_addLast_0 : decode cX0_addLast 0 = .ok (.aload_n 0, 1) := by decide +kernel
theorem dX0_addLast_1 : decode cX0_addLast 1 = .ok (.invokevirtual 19, 3) := by decide +kernel
theorem dX0_addLast_4 : decode cX0_addLast 4 = .ok (.ifCond .eq 23, 3) := by decide +kernel
theorem dX0_addLast_7 : decode cX0_addLast 7 = .ok (.aload_n 0, 1) := by decide +kernel
theorem dX0_addLast_8 : decode cX0_addLast 8 = .ok (.getfield 9, 3) := by decide +kernel
theorem dX0_addLast_11 : decode cX0_addLast 11 = .ok (.aload_n 0, 1) := by decide +kernel
theorem dX0_addLast_12 : decode cX0_addLast 12 = .ok (.getfield 15, 3) := by decide +kernel
theorem dX0_addLast_15 : decode cX0_addLast 15 = .ok (.iload_n 1, 1) := by decide +kernel
theorem dX0_addLast_16 : decode cX0_addLast 16 = .ok (.iastore, 1) := by decide +kernel
theorem dX0_addLast_17 : decode cX0_addLast 17 = .ok (.aload_n 0, 1) := by decide +kernel
theorem dX0_addLast_18 : decode cX0_addLast 18 = .ok (.dup, 1) := by decide +kernel
theorem dX0_addLast_19 : decode cX0_addLast 19 = .ok (.getfield 15, 3) := by decide +kernel
theorem dX0_addLast_22 : decode cX0_addLast 22 = .ok (.iconst 1, 1) := by decide +kernel
theorem dX0_addLast_23 : decode cX0_addLast 23 = .ok (.iadd, 1) := by decide +kernel
theorem dX0_addLast_24 : decode cX0_addLast 24 = .ok (.putfield 15, 3) := by decide +kernel
theorem dX0_addLast_27 : decode cX0_addLast 27 = .ok (.return_, 1) := by decide +kernel
abbrev cX0_removeFirst : ByteArray := prog_2_method_4_code
def yX0_removeFirst : MethodName := ⟨RX0, "removeFirst", "()I"⟩
theorem dX0_removeFirst_0 : decode cX0_removeFirst 0 = .ok (.aload_n 0, 1) := by decide +kernel
theorem dX0_removeFirst_1 : decode cX0_removeFirst 1 = .ok (.getfield 15, 3) := by decide +kernel
theorem dX0_removeFirst_4 : decode cX0_removeFirst 4 = .ok (.ifCond .ne 5, 3) := by decide +kernel
theorem dX0_removeFirst_7 : decode cX0_removeFirst 7 = .ok (.iconst (-1), 1) := by decide +kernel
theorem dX0_removeFirst_8 : decode cX0_removeFirst 8 = .ok (.ireturn, 1) := by decide +kernel
theorem dX0_removeFirst_9 : decode cX0_removeFirst 9 = .ok (.aload_n 0, 1) := by decide +kernel
theorem dX0_removeFirst_10 : decode cX0_removeFirst 10 = .ok (.getfield 9, 3) := by decide +kernel
theorem dX0_removeFirst_13 : decode cX0_removeFirst 13 = .ok (.iconst 0, 1) := by decide +kernel
theorem dX0_removeFirst_14 : decode cX0_removeFirst 14 = .ok (.iaload, 1) := by decide +kernel
theorem dX0_removeFirst_15 : decode cX0_removeFirst 15 = .ok (.istore_n 1, 1) := by decide +kernel
theorem dX0_removeFirst_16 : decode cX0_removeFirst 16 = .ok (.aload_n 0, 1) := by decide +kernel
theorem dX0_removeFirst_17 : decode cX0_removeFirst 17 = .ok (.dup, 1) := by decide +kernel
theorem dX0_removeFirst_18 : decode cX0_removeFirst 18 = .ok (.getfield 15, 3) := by decide +kernel
theorem dX0_removeFirst_21 : decode cX0_removeFirst 21 = .ok (.iconst 1, 1) := by decide +kernel
theorem dX0_removeFirst_22 : decode cX0_removeFirst 22 = .ok (.isub, 1) := by decide +kernel
theorem dX0_removeFirst_23 : decode cX0_removeFirst 23 = .ok (.putfield 15, 3) := by decide +kernel
theorem dX0_removeFirst_26 : decode cX0_removeFirst 26 = .ok (.iconst 0, 1) := by decide +kernel
theorem dX0_removeFirst_27 : decode cX0_removeFirst 27 = .ok (.istore_n 2, 1) := by decide +kernel
theorem dX0_removeFirst_28 : decode cX0_removeFirst 28 = .ok (.iload_n 2, 1) := by decide +kernel
theorem dX0_removeFirst_29 : decode cX0_removeFirst 29 = .ok (.aload_n 0, 1) := by decide +kernel
theorem dX0_removeFirst_30 : decode cX0_removeFirst 30 = .ok (.getfield 15, 3) := by decide +kernel
theorem dX0_removeFirst_33 : decode cX0_removeFirst 33 = .ok (.if_icmp .ge 23, 3) := by decide +kernel
theorem dX0_removeFirst_36 : decode cX0_removeFirst 36 = .ok (.aload_n 0, 1) := by decide +kernel
theorem dX0_removeFirst_37 : decode cX0_removeFirst 37 = .ok (.getfield 9, 3) := by decide +kernel
theorem dX0_removeFirst_40 : decode cX0_removeFirst 40 = .ok (.iload_n 2, 1) := by decide +kernel
theorem dX0_removeFirst_41 : decode cX0_removeFirst 41 = .ok (.aload_n 0, 1) := by decide +kernel
theorem dX0_removeFirst_42 : decode cX0_removeFirst 42 = .ok (.getfield 9, 3) := by decide +kernel
theorem dX0_removeFirst_45 : decode cX0_removeFirst 45 = .ok (.iload_n 2, 1) := by decide +kernel
theorem dX0_removeFirst_46 : decode cX0_removeFirst 46 = .ok (.iconst 1, 1) := by decide +kernel
theorem dX0_removeFirst_47 : decode cX0_removeFirst 47 = .ok (.iadd, 1) := by decide +kernel
theorem dX0_removeFirst_48 : decode cX0_removeFirst 48 = .ok (.iaload, 1) := by decide +kernel
theorem dX0_removeFirst_49 : decode cX0_removeFirst 49 = .ok (.iastore, 1) := by decide +kernel
theorem dX0_removeFirst_50 : decode cX0_removeFirst 50 = .ok (.iinc 2 1, 3) := by decide +kernel
theorem dX0_removeFirst_53 : decode cX0_removeFirst 53 = .ok (.goto (-25), 3) := by decide +kernel
theorem dX0_removeFirst_56 : decode cX0_removeFirst 56 = .ok (.iload_n 1, 1) := by decide +kernel
theorem dX0_removeFirst_57 : decode cX0_removeFirst 57 = .ok (.ireturn, 1) := by decide +kernel
