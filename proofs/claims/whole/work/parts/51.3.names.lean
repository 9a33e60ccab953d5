def RX3 : String := "FiberHeap$Heap"
def TX3 : u_T := fun k => match k with
  | 0 => ("FiberHeap$Heap", "words", "[I", true)
  | 1 => ("FiberHeap$Heap", "pages", "[I", true)
  | 2 => ("FiberHeap$Heap", "unswept", "[Z", true)
  | 3 => ("FiberHeap$Heap", "sizes", "[I", true)
  | 4 => ("FiberHeap$Heap", "pointerCounts", "[I", true)
  | 5 => ("FiberHeap$Heap", "marks", "[I", true)
  | _ => ("FiberHeap$Heap", "freed", "I", false)
def tyX3 : Nat → FieldType := fun k => match k with
  | 0 => .array .int
  | 1 => .array .int
  | 2 => .array .boolean
  | 3 => .array .int
  | 4 => .array .int
  | 5 => .array .int
  | _ => .int
theorem nmX3 : ∀ a, a < 7 → ∀ b, b < 7 → a ≠ b → (TX3 a).2.1 ≠ (TX3 b).2.1 := by decide +kernel
theorem tyX3_ok : ∀ k, k < 7 → parseFieldDescriptor (TX3 k).2.2.1 = some (tyX3 k) := by decide +kernel
abbrev cX3_init : ByteArray := prog_5_method_1_code
def yX3_init : MethodName := ⟨RX3, "<init>", "()V"⟩
theorem dX3_init_0 : decode cX3_init 0 = .ok (.aload_n 0, 1) := by decide +kernel
theorem dX3_init_1 : decode cX3_init 1 = .ok (.invokespecial 3, 3) := by decide +kernel
theorem dX3_init_4 : decode cX3_init 4 = .ok (.aload_n 0, 1) := by decide +kernel
theorem dX3_init_5 : decode cX3_init 5 = .ok (.sipush 256, 3) := by decide +kernel
theorem dX3_init_8 : decode cX3_init 8 = .ok (.newarray .int, 2) := by decide +kernel
theorem dX3_init_10 : decode cX3_init 10 = .ok (.putfield 9, 3) := by decide +kernel
theorem dX3_init_13 : decode cX3_init 13 = .ok (.aload_n 0, 1) := by decide +kernel
theorem dX3_init_14 : decode cX3_init 14 = .ok (.bipush 16, 2) := by decide +kernel
theorem dX3_init_16 : decode cX3_init 16 = .ok (.newarray .int, 2) := by decide +kernel
theorem dX3_init_18 : decode cX3_init 18 = .ok (.putfield 15, 3) := by decide +kernel
theorem dX3_init_21 : decode cX3_init 21 = .ok (.aload_n 0, 1) := by decide +kernel
theorem dX3_init_22 : decode cX3_init 22 = .ok (.bipush 16, 2) := by decide +kernel
theorem dX3_init_24 : decode cX3_init 24 = .ok (.newarray .boolean, 2) := by decide +kernel
theorem dX3_init_26 : decode cX3_init 26 = .ok (.putfield 18, 3) := by decide +kernel
theorem dX3_init_29 : decode cX3_init 29 = .ok (.aload_n 0, 1) := by decide +kernel
theorem dX3_init_30 : decode cX3_init 30 = .ok (.sipush 128, 3) := by decide +kernel
theorem dX3_init_33 : decode cX3_init 33 = .ok (.newarray .int, 2) := by decide +kernel
theorem dX3_init_35 : decode cX3_init 35 = .ok (.putfield 22, 3) := by decide +kernel
theorem dX3_init_38 : decode cX3_init 38 = .ok (.aload_n 0, 1) := by decide +kernel
theorem dX3_init_39 : decode cX3_init 39 = .ok (.sipush 128, 3) := by decide +kernel
theorem dX3_init_42 : decode cX3_init 42 = .ok (.newarray .int, 2) := by decide +kernel
theorem dX3_init_44 : decode cX3_init 44 = .ok (.putfield 25, 3) := by decide +kernel
theorem dX3_init_47 : decode cX3_init 47 = .ok (.aload_n 0, 1) := by decide +kernel
theorem dX3_init_48 : decode cX3_init 48 = .ok (.sipush 128, 3) := by decide +kernel
theorem dX3_init_51 : decode cX3_init 51 = .ok (.newarray .int, 2) := by decide +kernel
theorem dX3_init_53 : decode cX3_init 53 = .ok (.putfield 28, 3) := by decide +kernel
theorem dX3_init_56 : decode cX3_init 56 = .ok (.aload_n 0, 1) := by decide +kernel
theorem dX3_init_57 : decode cX3_init 57 = .ok (.iconst 0, 1) := by decide +kernel
theorem dX3_init_58 : decode cX3_init 58 = .ok (.putfield 31, 3) := by decide +kernel
theorem dX3_init_61 : decode cX3_init 61 = .ok (.return_, 1) := by decide +kernel
abbrev cX3_slotWordsFor : ByteArray := prog_5_method_2_code
def yX3_slotWordsFor : MethodName := ⟨RX3, "slotWordsFor", "(I)I"⟩
theorem dX3_slotWordsFor_0 : decode cX3_slotWordsFor 0 = .ok (.iload_n 0, 1) := by decide +kernel
theorem dX3_slotWordsFor_1 : decode cX3_slotWordsFor 1 = .ok (.iconst 2, 1) := by decide +kernel
theorem dX3_slotWordsFor_2 : decode cX3_slotWordsFor 2 = .ok (.if_icmp .gt 5, 3) := by decide +kernel
theorem dX3_slotWordsFor_5 : decode cX3_slotWordsFor 5 = .ok (.iconst 2, 1) := by decide +kernel
theorem dX3_slotWordsFor_6 : decode cX3_slotWordsFor 6 = .ok (.ireturn, 1) := by decide +kernel
theorem dX3_slotWordsFor_7 : decode cX3_slotWordsFor 7 = .ok (.iload_n 0, 1) := by decide +kernel
theorem dX3_slotWordsFor_8 : decode cX3_slotWordsFor 8 = .ok (.iconst 4, 1) := by decide +kernel
theorem dX3_slotWordsFor_9 : decode cX3_slotWordsFor 9 = .ok (.if_icmp .gt 5, 3) := by decide +kernel
theorem dX3_slotWordsFor_12 : decode cX3_slotWordsFor 12 = .ok (.iconst 4, 1) := by decide +kernel
theorem dX3_slotWordsFor_13 : decode cX3_slotWordsFor 13 = .ok (.ireturn, 1) := by decide +kernel
theorem dX3_slotWordsFor_14 : decode cX3_slotWordsFor 14 = .ok (.iload_n 0, 1) := by decide +kernel
theorem dX3_slotWordsFor_15 : decode cX3_slotWordsFor 15 = .ok (.bipush 8, 2) := by decide +kernel
theorem dX3_slotWordsFor_17 : decode cX3_slotWordsFor 17 = .ok (.if_icmp .gt 6, 3) := by decide +kernel
theorem dX3_slotWordsFor_20 : decode cX3_slotWordsFor 20 = .ok (.bipush 8, 2) := by decide +kernel
theorem dX3_slotWordsFor_22 : decode cX3_slotWordsFor 22 = .ok (.ireturn, 1) := by decide +kernel
theorem dX3_slotWordsFor_23 : decode cX3_slotWordsFor 23 = .ok (.iload_n 0, 1) := by decide +kernel
theorem dX3_slotWordsFor_24 : decode cX3_slotWordsFor 24 = .ok (.bipush 16, 2) := by decide +kernel
theorem dX3_slotWordsFor_26 : decode cX3_slotWordsFor 26 = .ok (.iadd, 1) := by decide +kernel
theorem dX3_slotWordsFor_27 : decode cX3_slotWordsFor 27 = .ok (.iconst 1, 1) := by decide +kernel
theorem dX3_slotWordsFor_28 : decode cX3_slotWordsFor 28 = .ok (.isub, 1) := by decide +kernel
theorem dX3_slotWordsFor_29 : decode cX3_slotWordsFor 29 = .ok (.bipush 16, 2) := by decide +kernel
theorem dX3_slotWordsFor_31 : decode cX3_slotWordsFor 31 = .ok (.idiv, 1) := by decide +kernel
theorem dX3_slotWordsFor_32 : decode cX3_slotWordsFor 32 = .ok (.bipush 16, 2) := by decide +kernel
theorem dX3_slotWordsFor_34 : decode cX3_slotWordsFor 34 = .ok (.imul, 1) := by decide +kernel
theorem dX3_slotWordsFor_35 : decode cX3_slotWordsFor 35 = .ok (.ireturn, 1) := by decide +kernel
abbrev cX3_pagesOfSpan : ByteArray := prog_5_method_3_code
def yX3_pagesOfSpan : MethodName := ⟨RX3, "pagesOfSpan", "(I)I"⟩
theorem dX3_pagesOfSpan_0 : decode cX3_pagesOfSpan 0 = .ok (.iconst 1, 1) := by decide +kernel
theorem dX3_pagesOfSpan_1 : decode cX3_pagesOfSpan 1 = .ok (.iload_n 0, 1) := by decide +kernel
theorem dX3_pagesOfSpan_2 : decode cX3_pagesOfSpan 2 = .ok (.bipush 16, 2) := by decide +kernel
theorem dX3_pagesOfSpan_4 : decode cX3_pagesOfSpan 4 = .ok (.idiv, 1) := by decide +kernel
theorem dX3_pagesOfSpan_5 : decode cX3_pagesOfSpan 5 = .ok (.invokestatic 35, 3) := by decide +kernel
theorem dX3_pagesOfSpan_8 : decode cX3_pagesOfSpan 8 = .ok (.ireturn, 1) := by decide +kernel
abbrev cX3_isPointerWord : ByteArray := prog_5_method_4_code
def yX3_isPointerWord : MethodName := ⟨RX3, "isPointerWord", "(II)Z"⟩
theorem dX3_isPointerWord_0 : decode cX3_isPointerWord 0 = .ok (.iload_n 1, 1) := by decide +kernel
theorem dX3_isPointerWord_1 : decode cX3_isPointerWord 1 = .ok (.ifCond .lt 30, 3) := by decide +kernel
theorem dX3_isPointerWord_4 : decode cX3_isPointerWord 4 = .ok (.iload_n 1, 1) := by decide +kernel
theorem dX3_isPointerWord_5 : decode cX3_isPointerWord 5 = .ok (.sipush 256, 3) := by decide +kernel
theorem dX3_isPointerWord_8 : decode cX3_isPointerWord 8 = .ok (.if_icmp .ge 23, 3) := by decide +kernel
theorem dX3_isPointerWord_11 : decode cX3_isPointerWord 11 = .ok (.iload_n 2, 1) := by decide +kernel
theorem dX3_isPointerWord_12 : decode cX3_isPointerWord 12 = .ok (.ifCond .lt 19, 3) := by decide +kernel
theorem dX3_isPointerWord_15 : decode cX3_isPointerWord 15 = .ok (.iload_n 2, 1) := by decide +kernel
theorem dX3_isPointerWord_16 : decode cX3_isPointerWord 16 = .ok (.aload_n 0, 1) := by decide +kernel
theorem dX3_isPointerWord_17 : decode cX3_isPointerWord 17 = .ok (.getfield 25, 3) := by decide +kernel
theorem dX3_isPointerWord_20 : decode cX3_isPointerWord 20 = .ok (.iload_n 1, 1) := by decide +kernel
theorem dX3_isPointerWord_21 : decode cX3_isPointerWord 21 = .ok (.iconst 2, 1) := by decide +kernel
theorem dX3_isPointerWord_22 : decode cX3_isPointerWord 22 = .ok (.idiv, 1) := by decide +kernel
theorem dX3_isPointerWord_23 : decode cX3_isPointerWord 23 = .ok (.iaload, 1) := by decide +kernel
theorem dX3_isPointerWord_24 : decode cX3_isPointerWord 24 = .ok (.if_icmp .ge 7, 3) := by decide +kernel
theorem dX3_isPointerWord_27 : decode cX3_isPointerWord 27 = .ok (.iconst 1, 1) := by decide +kernel
theorem dX3_isPointerWord_28 : decode cX3_isPointerWord 28 = .ok (.goto 4, 3) := by decide +kernel
theorem dX3_isPointerWord_31 : decode cX3_isPointerWord 31 = .ok (.iconst 0, 1) := by decide +kernel
theorem dX3_isPointerWord_32 : decode cX3_isPointerWord 32 = .ok (.ireturn, 1) := by decide +kernel
abbrev cX3_isIntWord : ByteArray := prog_5_method_5_code
def yX3_isIntWord : MethodName := ⟨RX3, "isIntWord", "(II)Z"⟩
theorem dX3_isIntWord_0 : decode cX3_isIntWord 0 = .ok (.iload_n 1, 1) := by decide +kernel
theorem dX3_isIntWord_1 : decode cX3_isIntWord 1 = .ok (.ifCond .lt 38, 3) := by decide +kernel
theorem dX3_isIntWord_4 : decode cX3_isIntWord 4 = .ok (.iload_n 1, 1) := by decide +kernel
theorem dX3_isIntWord_5 : decode cX3_isIntWord 5 = .ok (.sipush 256, 3) := by decide +kernel
theorem dX3_isIntWord_8 : decode cX3_isIntWord 8 = .ok (.if_icmp .ge 31, 3) := by decide +kernel
theorem dX3_isIntWord_11 : decode cX3_isIntWord 11 = .ok (.iload_n 2, 1) := by decide +kernel
theorem dX3_isIntWord_12 : decode cX3_isIntWord 12 = .ok (.aload_n 0, 1) := by decide +kernel
theorem dX3_isIntWord_13 : decode cX3_isIntWord 13 = .ok (.getfield 25, 3) := by decide +kernel
theorem dX3_isIntWord_16 : decode cX3_isIntWord 16 = .ok (.iload_n 1, 1) := by decide +kernel
theorem dX3_isIntWord_17 : decode cX3_isIntWord 17 = .ok (.iconst 2, 1) := by decide +kernel
theorem dX3_isIntWord_18 : decode cX3_isIntWord 18 = .ok (.idiv, 1) := by decide +kernel
theorem dX3_isIntWord_19 : decode cX3_isIntWord 19 = .ok (.iaload, 1) := by decide +kernel
theorem dX3_isIntWord_20 : decode cX3_isIntWord 20 = .ok (.if_icmp .lt 19, 3) := by decide +kernel
theorem dX3_isIntWord_23 : decode cX3_isIntWord 23 = .ok (.iload_n 2, 1) := by decide +kernel
theorem dX3_isIntWord_24 : decode cX3_isIntWord 24 = .ok (.aload_n 0, 1) := by decide +kernel
theorem dX3_isIntWord_25 : decode cX3_isIntWord 25 = .ok (.getfield 22, 3) := by decide +kernel
theorem dX3_isIntWord_28 : decode cX3_isIntWord 28 = .ok (.iload_n 1, 1) := by decide +kernel
theorem dX3_isIntWord_29 : decode cX3_isIntWord 29 = .ok (.iconst 2, 1) := by decide +kernel
theorem dX3_isIntWord_30 : decode cX3_isIntWord 30 = .ok (.idiv, 1) := by decide +kernel
theorem dX3_isIntWord_31 : decode cX3_isIntWord 31 = .ok (.iaload, 1) := by decide +kernel
theorem dX3_isIntWord_32 : decode cX3_isIntWord 32 = .ok (.if_icmp .ge 7, 3) := by decide +kernel
theorem dX3_isIntWord_35 : decode cX3_isIntWord 35 = .ok (.iconst 1, 1) := by decide +kernel
theorem dX3_isIntWord_36 : decode cX3_isIntWord 36 = .ok (.goto 4, 3) := by decide +kernel
theorem dX3_isIntWord_39 : decode cX3_isIntWord 39 = .ok (.iconst 0, 1) := by decide +kernel
theorem dX3_isIntWord_40 : decode cX3_isIntWord 40 = .ok (.ireturn, 1) := by decide +kernel
abbrev cX3_place : ByteArray := prog_5_method_6_code
def yX3_place : MethodName := ⟨RX3, "place", "(III)I"⟩
theorem dX3_place_0 : decode cX3_place 0 = .ok (.iload_n 1, 1) := by decide +kernel
theorem dX3_place_1 : decode cX3_place 1 = .ok (.invokestatic 41, 3) := by decide +kernel
theorem dX3_place_4 : decode cX3_place 4 = .ok (.istore 4, 2) := by decide +kernel
theorem dX3_place_6 : decode cX3_place 6 = .ok (.iload 4, 2) := by decide +kernel
theorem dX3_place_8 : decode cX3_place 8 = .ok (.bipush 16, 2) := by decide +kernel
theorem dX3_place_10 : decode cX3_place 10 = .ok (.if_icmp .ge 12, 3) := by decide +kernel
theorem dX3_place_13 : decode cX3_place 13 = .ok (.aload_n 0, 1) := by decide +kernel
theorem dX3_place_14 : decode cX3_place 14 = .ok (.iload 4, 2) := by decide +kernel
theorem dX3_place_16 : decode cX3_place 16 = .ok (.invokevirtual 45, 3) := by decide +kernel
theorem dX3_place_19 : decode cX3_place 19 = .ok (.goto 4, 3) := by decide +kernel
theorem dX3_place_22 : decode cX3_place 22 = .ok (.iconst (-1), 1) := by decide +kernel
theorem dX3_place_23 : decode cX3_place 23 = .ok (.istore 5, 2) := by decide +kernel
theorem dX3_place_25 : decode cX3_place 25 = .ok (.iload 5, 2) := by decide +kernel
theorem dX3_place_27 : decode cX3_place 27 = .ok (.iconst (-1), 1) := by decide +kernel
theorem dX3_place_28 : decode cX3_place 28 = .ok (.if_icmp .ne 11, 3) := by decide +kernel
theorem dX3_place_31 : decode cX3_place 31 = .ok (.aload_n 0, 1) := by decide +kernel
theorem dX3_place_32 : decode cX3_place 32 = .ok (.iload 4, 2) := by decide +kernel
theorem dX3_place_34 : decode cX3_place 34 = .ok (.invokevirtual 48, 3) := by decide +kernel
theorem dX3_place_37 : decode cX3_place 37 = .ok (.istore 5, 2) := by decide +kernel
theorem dX3_place_39 : decode cX3_place 39 = .ok (.iload 5, 2) := by decide +kernel
theorem dX3_place_41 : decode cX3_place 41 = .ok (.iconst (-1), 1) := by decide +kernel
theorem dX3_place_42 : decode cX3_place 42 = .ok (.if_icmp .eq 12, 3) := by decide +kernel
theorem dX3_place_45 : decode cX3_place 45 = .ok (.aload_n 0, 1) := by decide +kernel
theorem dX3_place_46 : decode cX3_place 46 = .ok (.iload 5, 2) := by decide +kernel
theorem dX3_place_48 : decode cX3_place 48 = .ok (.iload_n 1, 1) := by decide +kernel
theorem dX3_place_49 : decode cX3_place 49 = .ok (.iload_n 2, 1) := by decide +kernel
theorem dX3_place_50 : decode cX3_place 50 = .ok (.iload_n 3, 1) := by decide +kernel
theorem dX3_place_51 : decode cX3_place 51 = .ok (.invokevirtual 51, 3) := by decide +kernel
theorem dX3_place_54 : decode cX3_place 54 = .ok (.iload 5, 2) := by decide +kernel
theorem dX3_place_56 : decode cX3_place 56 = .ok (.ireturn, 1) := by decide +kernel
abbrev cX3_slotInSpans : ByteArray := prog_5_method_7_code
def yX3_slotInSpans : MethodName := ⟨RX3, "slotInSpans", "(I)I"⟩
theorem dX3_slotInSpans_0 : decode cX3_slotInSpans 0 = .ok (.iconst 0, 1) := by decide +kernel
theorem dX3_slotInSpans_1 : decode cX3_slotInSpans 1 = .ok (.istore_n 2, 1) := by decide +kernel
theorem dX3_slotInSpans_2 : decode cX3_slotInSpans 2 = .ok (.iload_n 2, 1) := by decide +kernel
theorem dX3_slotInSpans_3 : decode cX3_slotInSpans 3 = .ok (.bipush 16, 2) := by decide +kernel
theorem dX3_slotInSpans_5 : decode cX3_slotInSpans 5 = .ok (.if_icmp .ge 47, 3) := by decide +kernel
theorem dX3_slotInSpans_8 : decode cX3_slotInSpans 8 = .ok (.aload_n 0, 1) := by decide +kernel
theorem dX3_slotInSpans_9 : decode cX3_slotInSpans 9 = .ok (.getfield 15, 3) := by decide +kernel
theorem dX3_slotInSpans_12 : decode cX3_slotInSpans 12 = .ok (.iload_n 2, 1) := by decide +kernel
theorem dX3_slotInSpans_13 : decode cX3_slotInSpans 13 = .ok (.iaload, 1) := by decide +kernel
theorem dX3_slotInSpans_14 : decode cX3_slotInSpans 14 = .ok (.iload_n 1, 1) := by decide +kernel
theorem dX3_slotInSpans_15 : decode cX3_slotInSpans 15 = .ok (.if_icmp .ne 31, 3) := by decide +kernel
theorem dX3_slotInSpans_18 : decode cX3_slotInSpans 18 = .ok (.aload_n 0, 1) := by decide +kernel
theorem dX3_slotInSpans_19 : decode cX3_slotInSpans 19 = .ok (.getfield 18, 3) := by decide +kernel
theorem dX3_slotInSpans_22 : decode cX3_slotInSpans 22 = .ok (.iload_n 2, 1) := by decide +kernel
theorem dX3_slotInSpans_23 : decode cX3_slotInSpans 23 = .ok (.baload, 1) := by decide +kernel
theorem dX3_slotInSpans_24 : decode cX3_slotInSpans 24 = .ok (.ifCond .eq 8, 3) := by decide +kernel
theorem dX3_slotInSpans_27 : decode cX3_slotInSpans 27 = .ok (.aload_n 0, 1) := by decide +kernel
theorem dX3_slotInSpans_28 : decode cX3_slotInSpans 28 = .ok (.iload_n 2, 1) := by decide +kernel
theorem dX3_slotInSpans_29 : decode cX3_slotInSpans 29 = .ok (.invokevirtual 55, 3) := by decide +kernel
theorem dX3_slotInSpans_32 : decode cX3_slotInSpans 32 = .ok (.aload_n 0, 1) := by decide +kernel
theorem dX3_slotInSpans_33 : decode cX3_slotInSpans 33 = .ok (.iload_n 2, 1) := by decide +kernel
theorem dX3_slotInSpans_34 : decode cX3_slotInSpans 34 = .ok (.iload_n 1, 1) := by decide +kernel
theorem dX3_slotInSpans_35 : decode cX3_slotInSpans 35 = .ok (.invokevirtual 59, 3) := by decide +kernel
theorem dX3_slotInSpans_38 : decode cX3_slotInSpans 38 = .ok (.istore_n 3, 1) := by decide +kernel
theorem dX3_slotInSpans_39 : decode cX3_slotInSpans 39 = .ok (.iload_n 3, 1) := by decide +kernel
theorem dX3_slotInSpans_40 : decode cX3_slotInSpans 40 = .ok (.iconst (-1), 1) := by decide +kernel
theorem dX3_slotInSpans_41 : decode cX3_slotInSpans 41 = .ok (.if_icmp .eq 5, 3) := by decide +kernel
theorem dX3_slotInSpans_44 : decode cX3_slotInSpans 44 = .ok (.iload_n 3, 1) := by decide +kernel
theorem dX3_slotInSpans_45 : decode cX3_slotInSpans 45 = .ok (.ireturn, 1) := by decide +kernel
theorem dX3_slotInSpans_46 : decode cX3_slotInSpans 46 = .ok (.iinc 2 1, 3) := by decide +kernel
theorem dX3_slotInSpans_49 : decode cX3_slotInSpans 49 = .ok (.goto (-47), 3) := by decide +kernel
theorem dX3_slotInSpans_52 : decode cX3_slotInSpans 52 = .ok (.iconst (-1), 1) := by decide +kernel
theorem dX3_slotInSpans_53 : decode cX3_slotInSpans 53 = .ok (.ireturn, 1) := by decide +kernel
abbrev cX3_openSlot : ByteArray := prog_5_method_8_code
def yX3_openSlot : MethodName := ⟨RX3, "openSlot", "(II)I"⟩
theorem dX3_openSlot_0 : decode cX3_openSlot 0 = .ok (.aload_n 0, 1) := by decide +kernel
theorem dX3_openSlot_1 : decode cX3_openSlot 1 = .ok (.getfield 15, 3) := by decide +kernel
theorem dX3_openSlot_4 : decode cX3_openSlot 4 = .ok (.iload_n 1, 1) := by decide +kernel
theorem dX3_openSlot_5 : decode cX3_openSlot 5 = .ok (.iaload, 1) := by decide +kernel
theorem dX3_openSlot_6 : decode cX3_openSlot 6 = .ok (.iload_n 2, 1) := by decide +kernel
theorem dX3_openSlot_7 : decode cX3_openSlot 7 = .ok (.if_icmp .ne 8, 3) := by decide +kernel
theorem dX3_openSlot_10 : decode cX3_openSlot 10 = .ok (.iload_n 2, 1) := by decide +kernel
theorem dX3_openSlot_11 : decode cX3_openSlot 11 = .ok (.iconst 2, 1) := by decide +kernel
theorem dX3_openSlot_12 : decode cX3_openSlot 12 = .ok (.if_icmp .ge 5, 3) := by decide +kernel
theorem dX3_openSlot_15 : decode cX3_openSlot 15 = .ok (.iconst (-1), 1) := by decide +kernel
theorem dX3_openSlot_16 : decode cX3_openSlot 16 = .ok (.ireturn, 1) := by decide +kernel
theorem dX3_openSlot_17 : decode cX3_openSlot 17 = .ok (.iload_n 1, 1) := by decide +kernel
theorem dX3_openSlot_18 : decode cX3_openSlot 18 = .ok (.bipush 16, 2) := by decide +kernel
theorem dX3_openSlot_20 : decode cX3_openSlot 20 = .ok (.imul, 1) := by decide +kernel
theorem dX3_openSlot_21 : decode cX3_openSlot 21 = .ok (.istore_n 3, 1) := by decide +kernel
theorem dX3_openSlot_22 : decode cX3_openSlot 22 = .ok (.iconst 0, 1) := by decide +kernel
theorem dX3_openSlot_23 : decode cX3_openSlot 23 = .ok (.istore 4, 2) := by decide +kernel
theorem dX3_openSlot_25 : decode cX3_openSlot 25 = .ok (.iload 4, 2) := by decide +kernel
theorem dX3_openSlot_27 : decode cX3_openSlot 27 = .ok (.bipush 16, 2) := by decide +kernel
theorem dX3_openSlot_29 : decode cX3_openSlot 29 = .ok (.if_icmp .ge 31, 3) := by decide +kernel
theorem dX3_openSlot_32 : decode cX3_openSlot 32 = .ok (.aload_n 0, 1) := by decide +kernel
theorem dX3_openSlot_33 : decode cX3_openSlot 33 = .ok (.getfield 22, 3) := by decide +kernel
theorem dX3_openSlot_36 : decode cX3_openSlot 36 = .ok (.iload_n 3, 1) := by decide +kernel
theorem dX3_openSlot_37 : decode cX3_openSlot 37 = .ok (.iload 4, 2) := by decide +kernel
theorem dX3_openSlot_39 : decode cX3_openSlot 39 = .ok (.iadd, 1) := by decide +kernel
theorem dX3_openSlot_40 : decode cX3_openSlot 40 = .ok (.iconst 2, 1) := by decide +kernel
theorem dX3_openSlot_41 : decode cX3_openSlot 41 = .ok (.idiv, 1) := by decide +kernel
theorem dX3_openSlot_42 : decode cX3_openSlot 42 = .ok (.iaload, 1) := by decide +kernel
theorem dX3_openSlot_43 : decode cX3_openSlot 43 = .ok (.ifCond .ne 8, 3) := by decide +kernel
theorem dX3_openSlot_46 : decode cX3_openSlot 46 = .ok (.iload_n 3, 1) := by decide +kernel
theorem dX3_openSlot_47 : decode cX3_openSlot 47 = .ok (.iload 4, 2) := by decide +kernel
theorem dX3_openSlot_49 : decode cX3_openSlot 49 = .ok (.iadd, 1) := by decide +kernel
theorem dX3_openSlot_50 : decode cX3_openSlot 50 = .ok (.ireturn, 1) := by decide +kernel
theorem dX3_openSlot_51 : decode cX3_openSlot 51 = .ok (.iload 4, 2) := by decide +kernel
theorem dX3_openSlot_53 : decode cX3_openSlot 53 = .ok (.iload_n 2, 1) := by decide +kernel
theorem dX3_openSlot_54 : decode cX3_openSlot 54 = .ok (.iadd, 1) := by decide +kernel
theorem dX3_openSlot_55 : decode cX3_openSlot 55 = .ok (.istore 4, 2) := by decide +kernel
theorem dX3_openSlot_57 : decode cX3_openSlot 57 = .ok (.goto (-32), 3) := by decide +kernel
theorem dX3_openSlot_60 : decode cX3_openSlot 60 = .ok (.iconst (-1), 1) := by decide +kernel
theorem dX3_openSlot_61 : decode cX3_openSlot 61 = .ok (.ireturn, 1) := by decide +kernel
abbrev cX3_slotInNewSpan : ByteArray := prog_5_method_9_code
def yX3_slotInNewSpan : MethodName := ⟨RX3, "slotInNewSpan", "(I)I"⟩
theorem dX3_slotInNewSpan_0 : decode cX3_slotInNewSpan 0 = .ok (.iload_n 1, 1) := by decide +kernel
theorem dX3_slotInNewSpan_1 : decode cX3_slotInNewSpan 1 = .ok (.invokestatic 62, 3) := by decide +kernel
theorem dX3_slotInNewSpan_4 : decode cX3_slotInNewSpan 4 = .ok (.istore_n 2, 1) := by decide +kernel
theorem dX3_slotInNewSpan_5 : decode cX3_slotInNewSpan 5 = .ok (.aload_n 0, 1) := by decide +kernel
theorem dX3_slotInNewSpan_6 : decode cX3_slotInNewSpan 6 = .ok (.iload_n 2, 1) := by decide +kernel
theorem dX3_slotInNewSpan_7 : decode cX3_slotInNewSpan 7 = .ok (.invokevirtual 65, 3) := by decide +kernel
theorem dX3_slotInNewSpan_10 : decode cX3_slotInNewSpan 10 = .ok (.istore_n 3, 1) := by decide +kernel
theorem dX3_slotInNewSpan_11 : decode cX3_slotInNewSpan 11 = .ok (.iload_n 3, 1) := by decide +kernel
theorem dX3_slotInNewSpan_12 : decode cX3_slotInNewSpan 12 = .ok (.iconst (-1), 1) := by decide +kernel
theorem dX3_slotInNewSpan_13 : decode cX3_slotInNewSpan 13 = .ok (.if_icmp .ne 5, 3) := by decide +kernel
theorem dX3_slotInNewSpan_16 : decode cX3_slotInNewSpan 16 = .ok (.iconst (-1), 1) := by decide +kernel
theorem dX3_slotInNewSpan_17 : decode cX3_slotInNewSpan 17 = .ok (.ireturn, 1) := by decide +kernel
theorem dX3_slotInNewSpan_18 : decode cX3_slotInNewSpan 18 = .ok (.aload_n 0, 1) := by decide +kernel
theorem dX3_slotInNewSpan_19 : decode cX3_slotInNewSpan 19 = .ok (.iload_n 3, 1) := by decide +kernel
theorem dX3_slotInNewSpan_20 : decode cX3_slotInNewSpan 20 = .ok (.iload_n 2, 1) := by decide +kernel
theorem dX3_slotInNewSpan_21 : decode cX3_slotInNewSpan 21 = .ok (.iconst 1, 1) := by decide +kernel
theorem dX3_slotInNewSpan_22 : decode cX3_slotInNewSpan 22 = .ok (.invokevirtual 68, 3) := by decide +kernel
theorem dX3_slotInNewSpan_25 : decode cX3_slotInNewSpan 25 = .ok (.aload_n 0, 1) := by decide +kernel
theorem dX3_slotInNewSpan_26 : decode cX3_slotInNewSpan 26 = .ok (.getfield 15, 3) := by decide +kernel
theorem dX3_slotInNewSpan_29 : decode cX3_slotInNewSpan 29 = .ok (.iload_n 3, 1) := by decide +kernel
theorem dX3_slotInNewSpan_30 : decode cX3_slotInNewSpan 30 = .ok (.iload_n 1, 1) := by decide +kernel
theorem dX3_slotInNewSpan_31 : decode cX3_slotInNewSpan 31 = .ok (.iastore, 1) := by decide +kernel
theorem dX3_slotInNewSpan_32 : decode cX3_slotInNewSpan 32 = .ok (.iload_n 3, 1) := by decide +kernel
theorem dX3_slotInNewSpan_33 : decode cX3_slotInNewSpan 33 = .ok (.bipush 16, 2) := by decide +kernel
theorem dX3_slotInNewSpan_35 : decode cX3_slotInNewSpan 35 = .ok (.imul, 1) := by decide +kernel
theorem dX3_slotInNewSpan_36 : decode cX3_slotInNewSpan 36 = .ok (.ireturn, 1) := by decide +kernel
abbrev cX3_shortestRun : ByteArray := prog_5_method_10_code
def yX3_shortestRun : MethodName := ⟨RX3, "shortestRun", "(I)I"⟩
theorem dX3_shortestRun_0 : decode cX3_shortestRun 0 = .ok (.iconst (-1), 1) := by decide +kernel
theorem dX3_shortestRun_1 : decode cX3_shortestRun 1 = .ok (.istore_n 2, 1) := by decide +kernel
theorem dX3_shortestRun_2 : decode cX3_shortestRun 2 = .ok (.bipush 17, 2) := by decide +kernel
theorem dX3_shortestRun_4 : decode cX3_shortestRun 4 = .ok (.istore_n 3, 1) := by decide +kernel
theorem dX3_shortestRun_5 : decode cX3_shortestRun 5 = .ok (.iconst 0, 1) := by decide +kernel
theorem dX3_shortestRun_6 : decode cX3_shortestRun 6 = .ok (.istore 4, 2) := by decide +kernel
theorem dX3_shortestRun_8 : decode cX3_shortestRun 8 = .ok (.iconst 0, 1) := by decide +kernel
theorem dX3_shortestRun_9 : decode cX3_shortestRun 9 = .ok (.istore 5, 2) := by decide +kernel
theorem dX3_shortestRun_11 : decode cX3_shortestRun 11 = .ok (.iload 5, 2) := by decide +kernel
theorem dX3_shortestRun_13 : decode cX3_shortestRun 13 = .ok (.bipush 16, 2) := by decide +kernel
theorem dX3_shortestRun_15 : decode cX3_shortestRun 15 = .ok (.if_icmp .ge 61, 3) := by decide +kernel
theorem dX3_shortestRun_18 : decode cX3_shortestRun 18 = .ok (.aload_n 0, 1) := by decide +kernel
theorem dX3_shortestRun_19 : decode cX3_shortestRun 19 = .ok (.getfield 15, 3) := by decide +kernel
theorem dX3_shortestRun_22 : decode cX3_shortestRun 22 = .ok (.iload 5, 2) := by decide +kernel
theorem dX3_shortestRun_24 : decode cX3_shortestRun 24 = .ok (.iaload, 1) := by decide +kernel
theorem dX3_shortestRun_25 : decode cX3_shortestRun 25 = .ok (.ifCond .ne 10, 3) := by decide +kernel
theorem dX3_shortestRun_28 : decode cX3_shortestRun 28 = .ok (.iload 4, 2) := by decide +kernel
theorem dX3_shortestRun_30 : decode cX3_shortestRun 30 = .ok (.iconst 1, 1) := by decide +kernel
theorem dX3_shortestRun_31 : decode cX3_shortestRun 31 = .ok (.iadd, 1) := by decide +kernel
theorem dX3_shortestRun_32 : decode cX3_shortestRun 32 = .ok (.goto 4, 3) := by decide +kernel
theorem dX3_shortestRun_35 : decode cX3_shortestRun 35 = .ok (.iconst 0, 1) := by decide +kernel
theorem dX3_shortestRun_36 : decode cX3_shortestRun 36 = .ok (.istore 4, 2) := by decide +kernel
theorem dX3_shortestRun_38 : decode cX3_shortestRun 38 = .ok (.aload_n 0, 1) := by decide +kernel
theorem dX3_shortestRun_39 : decode cX3_shortestRun 39 = .ok (.iload 5, 2) := by decide +kernel
theorem dX3_shortestRun_41 : decode cX3_shortestRun 41 = .ok (.invokevirtual 72, 3) := by decide +kernel
theorem dX3_shortestRun_44 : decode cX3_shortestRun 44 = .ok (.ifCond .eq 26, 3) := by decide +kernel
theorem dX3_shortestRun_47 : decode cX3_shortestRun 47 = .ok (.iload 4, 2) := by decide +kernel
theorem dX3_shortestRun_49 : decode cX3_shortestRun 49 = .ok (.iload_n 1, 1) := by decide +kernel
theorem dX3_shortestRun_50 : decode cX3_shortestRun 50 = .ok (.if_icmp .lt 20, 3) := by decide +kernel
theorem dX3_shortestRun_53 : decode cX3_shortestRun 53 = .ok (.iload 4, 2) := by decide +kernel
theorem dX3_shortestRun_55 : decode cX3_shortestRun 55 = .ok (.iload_n 3, 1) := by decide +kernel
theorem dX3_shortestRun_56 : decode cX3_shortestRun 56 = .ok (.if_icmp .ge 14, 3) := by decide +kernel
theorem dX3_shortestRun_59 : decode cX3_shortestRun 59 = .ok (.iload 5, 2) := by decide +kernel
theorem dX3_shortestRun_61 : decode cX3_shortestRun 61 = .ok (.iload 4, 2) := by decide +kernel
theorem dX3_shortestRun_63 : decode cX3_shortestRun 63 = .ok (.isub, 1) := by decide +kernel
theorem dX3_shortestRun_64 : decode cX3_shortestRun 64 = .ok (.iconst 1, 1) := by decide +kernel
theorem dX3_shortestRun_65 : decode cX3_shortestRun 65 = .ok (.iadd, 1) := by decide +kernel
theorem dX3_shortestRun_66 : decode cX3_shortestRun 66 = .ok (.istore_n 2, 1) := by decide +kernel
theorem dX3_shortestRun_67 : decode cX3_shortestRun 67 = .ok (.iload 4, 2) := by decide +kernel
theorem dX3_shortestRun_69 : decode cX3_shortestRun 69 = .ok (.istore_n 3, 1) := by decide +kernel
theorem dX3_shortestRun_70 : decode cX3_shortestRun 70 = .ok (.iinc 5 1, 3) := by decide +kernel
theorem dX3_shortestRun_73 : decode cX3_shortestRun 73 = .ok (.goto (-62), 3) := by decide +kernel
theorem dX3_shortestRun_76 : decode cX3_shortestRun 76 = .ok (.iload_n 2, 1) := by decide +kernel
theorem dX3_shortestRun_77 : decode cX3_shortestRun 77 = .ok (.ireturn, 1) := by decide +kernel
abbrev cX3_endsRun : ByteArray := prog_5_method_11_code
def yX3_endsRun : MethodName := ⟨RX3, "endsRun", "(I)Z"⟩
theorem dX3_endsRun_0 : decode cX3_endsRun 0 = .ok (.aload_n 0, 1) := by decide +kernel
theorem dX3_endsRun_1 : decode cX3_endsRun 1 = .ok (.getfield 15, 3) := by decide +kernel
theorem dX3_endsRun_4 : decode cX3_endsRun 4 = .ok (.iload_n 1, 1) := by decide +kernel
theorem dX3_endsRun_5 : decode cX3_endsRun 5 = .ok (.iaload, 1) := by decide +kernel
theorem dX3_endsRun_6 : decode cX3_endsRun 6 = .ok (.ifCond .ne 26, 3) := by decide +kernel
theorem dX3_endsRun_9 : decode cX3_endsRun 9 = .ok (.iload_n 1, 1) := by decide +kernel
theorem dX3_endsRun_10 : decode cX3_endsRun 10 = .ok (.iconst 1, 1) := by decide +kernel
theorem dX3_endsRun_11 : decode cX3_endsRun 11 = .ok (.iadd, 1) := by decide +kernel
theorem dX3_endsRun_12 : decode cX3_endsRun 12 = .ok (.bipush 16, 2) := by decide +kernel
theorem dX3_endsRun_14 : decode cX3_endsRun 14 = .ok (.if_icmp .eq 14, 3) := by decide +kernel
theorem dX3_endsRun_17 : decode cX3_endsRun 17 = .ok (.aload_n 0, 1) := by decide +kernel
theorem dX3_endsRun_18 : decode cX3_endsRun 18 = .ok (.getfield 15, 3) := by decide +kernel
theorem dX3_endsRun_21 : decode cX3_endsRun 21 = .ok (.iload_n 1, 1) := by decide +kernel
theorem dX3_endsRun_22 : decode cX3_endsRun 22 = .ok (.iconst 1, 1) := by decide +kernel
theorem dX3_endsRun_23 : decode cX3_endsRun 23 = .ok (.iadd, 1) := by decide +kernel
theorem dX3_endsRun_24 : decode cX3_endsRun 24 = .ok (.iaload, 1) := by decide +kernel
theorem dX3_endsRun_25 : decode cX3_endsRun 25 = .ok (.ifCond .eq 7, 3) := by decide +kernel
theorem dX3_endsRun_28 : decode cX3_endsRun 28 = .ok (.iconst 1, 1) := by decide +kernel
theorem dX3_endsRun_29 : decode cX3_endsRun 29 = .ok (.goto 4, 3) := by decide +kernel
theorem dX3_endsRun_32 : decode cX3_endsRun 32 = .ok (.iconst 0, 1) := by decide +kernel
theorem dX3_endsRun_33 : decode cX3_endsRun 33 = .ok (.ireturn, 1) := by decide +kernel
abbrev cX3_fillSlot : ByteArray := prog_5_method_12_code
def yX3_fillSlot : MethodName := ⟨RX3, "fillSlot", "(IIII)V"⟩
theorem dX3_fillSlot_0 : decode cX3_fillSlot 0 = .ok (.aload_n 0, 1) := by decide +kernel
theorem dX3_fillSlot_1 : decode cX3_fillSlot 1 = .ok (.getfield 22, 3) := by decide +kernel
theorem dX3_fillSlot_4 : decode cX3_fillSlot 4 = .ok (.iload_n 1, 1) := by decide +kernel
theorem dX3_fillSlot_5 : decode cX3_fillSlot 5 = .ok (.iconst 2, 1) := by decide +kernel
theorem dX3_fillSlot_6 : decode cX3_fillSlot 6 = .ok (.idiv, 1) := by decide +kernel
theorem dX3_fillSlot_7 : decode cX3_fillSlot 7 = .ok (.iload_n 2, 1) := by decide +kernel
theorem dX3_fillSlot_8 : decode cX3_fillSlot 8 = .ok (.iastore, 1) := by decide +kernel
theorem dX3_fillSlot_9 : decode cX3_fillSlot 9 = .ok (.aload_n 0, 1) := by decide +kernel
theorem dX3_fillSlot_10 : decode cX3_fillSlot 10 = .ok (.getfield 25, 3) := by decide +kernel
theorem dX3_fillSlot_13 : decode cX3_fillSlot 13 = .ok (.iload_n 1, 1) := by decide +kernel
theorem dX3_fillSlot_14 : decode cX3_fillSlot 14 = .ok (.iconst 2, 1) := by decide +kernel
theorem dX3_fillSlot_15 : decode cX3_fillSlot 15 = .ok (.idiv, 1) := by decide +kernel
theorem dX3_fillSlot_16 : decode cX3_fillSlot 16 = .ok (.iload_n 3, 1) := by decide +kernel
theorem dX3_fillSlot_17 : decode cX3_fillSlot 17 = .ok (.iastore, 1) := by decide +kernel
theorem dX3_fillSlot_18 : decode cX3_fillSlot 18 = .ok (.aload_n 0, 1) := by decide +kernel
theorem dX3_fillSlot_19 : decode cX3_fillSlot 19 = .ok (.getfield 28, 3) := by decide +kernel
theorem dX3_fillSlot_22 : decode cX3_fillSlot 22 = .ok (.iload_n 1, 1) := by decide +kernel
theorem dX3_fillSlot_23 : decode cX3_fillSlot 23 = .ok (.iconst 2, 1) := by decide +kernel
theorem dX3_fillSlot_24 : decode cX3_fillSlot 24 = .ok (.idiv, 1) := by decide +kernel
theorem dX3_fillSlot_25 : decode cX3_fillSlot 25 = .ok (.iload 4, 2) := by decide +kernel
theorem dX3_fillSlot_27 : decode cX3_fillSlot 27 = .ok (.iastore, 1) := by decide +kernel
theorem dX3_fillSlot_28 : decode cX3_fillSlot 28 = .ok (.iconst 0, 1) := by decide +kernel
theorem dX3_fillSlot_29 : decode cX3_fillSlot 29 = .ok (.istore 5, 2) := by decide +kernel
theorem dX3_fillSlot_31 : decode cX3_fillSlot 31 = .ok (.iload 5, 2) := by decide +kernel
theorem dX3_fillSlot_33 : decode cX3_fillSlot 33 = .ok (.iload_n 2, 1) := by decide +kernel
theorem dX3_fillSlot_34 : decode cX3_fillSlot 34 = .ok (.if_icmp .ge 29, 3) := by decide +kernel
theorem dX3_fillSlot_37 : decode cX3_fillSlot 37 = .ok (.aload_n 0, 1) := by decide +kernel
theorem dX3_fillSlot_38 : decode cX3_fillSlot 38 = .ok (.getfield 9, 3) := by decide +kernel
theorem dX3_fillSlot_41 : decode cX3_fillSlot 41 = .ok (.iload_n 1, 1) := by decide +kernel
theorem dX3_fillSlot_42 : decode cX3_fillSlot 42 = .ok (.iload 5, 2) := by decide +kernel
theorem dX3_fillSlot_44 : decode cX3_fillSlot 44 = .ok (.iadd, 1) := by decide +kernel
theorem dX3_fillSlot_45 : decode cX3_fillSlot 45 = .ok (.iload 5, 2) := by decide +kernel
theorem dX3_fillSlot_47 : decode cX3_fillSlot 47 = .ok (.iload_n 3, 1) := by decide +kernel
theorem dX3_fillSlot_48 : decode cX3_fillSlot 48 = .ok (.if_icmp .ge 7, 3) := by decide +kernel
theorem dX3_fillSlot_51 : decode cX3_fillSlot 51 = .ok (.iconst (-1), 1) := by decide +kernel
theorem dX3_fillSlot_52 : decode cX3_fillSlot 52 = .ok (.goto 4, 3) := by decide +kernel
theorem dX3_fillSlot_55 : decode cX3_fillSlot 55 = .ok (.iconst 0, 1) := by decide +kernel
theorem dX3_fillSlot_56 : decode cX3_fillSlot 56 = .ok (.iastore, 1) := by decide +kernel
theorem dX3_fillSlot_57 : decode cX3_fillSlot 57 = .ok (.iinc 5 1, 3) := by decide +kernel
theorem dX3_fillSlot_60 : decode cX3_fillSlot 60 = .ok (.goto (-29), 3) := by decide +kernel
theorem dX3_fillSlot_63 : decode cX3_fillSlot 63 = .ok (.return_, 1) := by decide +kernel
abbrev cX3_sweepSpans : ByteArray := prog_5_method_13_code
def yX3_sweepSpans : MethodName := ⟨RX3, "sweepSpans", "(I)I"⟩
theorem dX3_sweepSpans_0 : decode cX3_sweepSpans 0 = .ok (.iconst 0, 1) := by decide +kernel
theorem dX3_sweepSpans_1 : decode cX3_sweepSpans 1 = .ok (.istore_n 2, 1) := by decide +kernel
theorem dX3_sweepSpans_2 : decode cX3_sweepSpans 2 = .ok (.iconst 0, 1) := by decide +kernel
theorem dX3_sweepSpans_3 : decode cX3_sweepSpans 3 = .ok (.istore_n 3, 1) := by decide +kernel
theorem dX3_sweepSpans_4 : decode cX3_sweepSpans 4 = .ok (.iload_n 3, 1) := by decide +kernel
theorem dX3_sweepSpans_5 : decode cX3_sweepSpans 5 = .ok (.bipush 16, 2) := by decide +kernel
theorem dX3_sweepSpans_7 : decode cX3_sweepSpans 7 = .ok (.if_icmp .ge 31, 3) := by decide +kernel
theorem dX3_sweepSpans_10 : decode cX3_sweepSpans 10 = .ok (.iload_n 2, 1) := by decide +kernel
theorem dX3_sweepSpans_11 : decode cX3_sweepSpans 11 = .ok (.iload_n 1, 1) := by decide +kernel
theorem dX3_sweepSpans_12 : decode cX3_sweepSpans 12 = .ok (.if_icmp .ge 26, 3) := by decide +kernel
theorem dX3_sweepSpans_15 : decode cX3_sweepSpans 15 = .ok (.aload_n 0, 1) := by decide +kernel
theorem dX3_sweepSpans_16 : decode cX3_sweepSpans 16 = .ok (.getfield 18, 3) := by decide +kernel
theorem dX3_sweepSpans_19 : decode cX3_sweepSpans 19 = .ok (.iload_n 3, 1) := by decide +kernel
theorem dX3_sweepSpans_20 : decode cX3_sweepSpans 20 = .ok (.baload, 1) := by decide +kernel
theorem dX3_sweepSpans_21 : decode cX3_sweepSpans 21 = .ok (.ifCond .eq 11, 3) := by decide +kernel
theorem dX3_sweepSpans_24 : decode cX3_sweepSpans 24 = .ok (.aload_n 0, 1) := by decide +kernel
theorem dX3_sweepSpans_25 : decode cX3_sweepSpans 25 = .ok (.iload_n 3, 1) := by decide +kernel
theorem dX3_sweepSpans_26 : decode cX3_sweepSpans 26 = .ok (.invokevirtual 55, 3) := by decide +kernel
theorem dX3_sweepSpans_29 : decode cX3_sweepSpans 29 = .ok (.iinc 2 1, 3) := by decide +kernel
theorem dX3_sweepSpans_32 : decode cX3_sweepSpans 32 = .ok (.iinc 3 1, 3) := by decide +kernel
theorem dX3_sweepSpans_35 : decode cX3_sweepSpans 35 = .ok (.goto (-31), 3) := by decide +kernel
theorem dX3_sweepSpans_38 : decode cX3_sweepSpans 38 = .ok (.iload_n 2, 1) := by decide +kernel
theorem dX3_sweepSpans_39 : decode cX3_sweepSpans 39 = .ok (.ireturn, 1) := by decide +kernel
abbrev cX3_sweepSpan : ByteArray := prog_5_method_14_code
def yX3_sweepSpan : MethodName := ⟨RX3, "sweepSpan", "(I)V"⟩
theorem dX3_sweepSpan_0 : decode cX3_sweepSpan 0 = .ok (.aload_n 0, 1) := by decide +kernel
theorem dX3_sweepSpan_1 : decode cX3_sweepSpan 1 = .ok (.getfield 18, 3) := by decide +kernel
theorem dX3_sweepSpan_4 : decode cX3_sweepSpan 4 = .ok (.iload_n 1, 1) := by decide +kernel
theorem dX3_sweepSpan_5 : decode cX3_sweepSpan 5 = .ok (.iconst 0, 1) := by decide +kernel
theorem dX3_sweepSpan_6 : decode cX3_sweepSpan 6 = .ok (.bastore, 1) := by decide +kernel
theorem dX3_sweepSpan_7 : decode cX3_sweepSpan 7 = .ok (.iconst 0, 1) := by decide +kernel
theorem dX3_sweepSpan_8 : decode cX3_sweepSpan 8 = .ok (.istore_n 2, 1) := by decide +kernel
theorem dX3_sweepSpan_9 : decode cX3_sweepSpan 9 = .ok (.iload_n 1, 1) := by decide +kernel
theorem dX3_sweepSpan_10 : decode cX3_sweepSpan 10 = .ok (.bipush 8, 2) := by decide +kernel
theorem dX3_sweepSpan_12 : decode cX3_sweepSpan 12 = .ok (.imul, 1) := by decide +kernel
theorem dX3_sweepSpan_13 : decode cX3_sweepSpan 13 = .ok (.istore_n 3, 1) := by decide +kernel
theorem dX3_sweepSpan_14 : decode cX3_sweepSpan 14 = .ok (.iload_n 3, 1) := by decide +kernel
theorem dX3_sweepSpan_15 : decode cX3_sweepSpan 15 = .ok (.iload_n 1, 1) := by decide +kernel
theorem dX3_sweepSpan_16 : decode cX3_sweepSpan 16 = .ok (.iconst 1, 1) := by decide +kernel
theorem dX3_sweepSpan_17 : decode cX3_sweepSpan 17 = .ok (.iadd, 1) := by decide +kernel
theorem dX3_sweepSpan_18 : decode cX3_sweepSpan 18 = .ok (.bipush 8, 2) := by decide +kernel
theorem dX3_sweepSpan_20 : decode cX3_sweepSpan 20 = .ok (.imul, 1) := by decide +kernel
theorem dX3_sweepSpan_21 : decode cX3_sweepSpan 21 = .ok (.if_icmp .ge 63, 3) := by decide +kernel
theorem dX3_sweepSpan_24 : decode cX3_sweepSpan 24 = .ok (.aload_n 0, 1) := by decide +kernel
theorem dX3_sweepSpan_25 : decode cX3_sweepSpan 25 = .ok (.getfield 22, 3) := by decide +kernel
theorem dX3_sweepSpan_28 : decode cX3_sweepSpan 28 = .ok (.iload_n 3, 1) := by decide +kernel
theorem dX3_sweepSpan_29 : decode cX3_sweepSpan 29 = .ok (.iaload, 1) := by decide +kernel
theorem dX3_sweepSpan_30 : decode cX3_sweepSpan 30 = .ok (.ifCond .eq 36, 3) := by decide +kernel
theorem dX3_sweepSpan_33 : decode cX3_sweepSpan 33 = .ok (.aload_n 0, 1) := by decide +kernel
theorem dX3_sweepSpan_34 : decode cX3_sweepSpan 34 = .ok (.getfield 28, 3) := by decide +kernel
theorem dX3_sweepSpan_37 : decode cX3_sweepSpan 37 = .ok (.iload_n 3, 1) := by decide +kernel
theorem dX3_sweepSpan_38 : decode cX3_sweepSpan 38 = .ok (.iaload, 1) := by decide +kernel
theorem dX3_sweepSpan_39 : decode cX3_sweepSpan 39 = .ok (.ifCond .ne 27, 3) := by decide +kernel
theorem dX3_sweepSpan_42 : decode cX3_sweepSpan 42 = .ok (.aload_n 0, 1) := by decide +kernel
theorem dX3_sweepSpan_43 : decode cX3_sweepSpan 43 = .ok (.getfield 22, 3) := by decide +kernel
theorem dX3_sweepSpan_46 : decode cX3_sweepSpan 46 = .ok (.iload_n 3, 1) := by decide +kernel
theorem dX3_sweepSpan_47 : decode cX3_sweepSpan 47 = .ok (.iconst 0, 1) := by decide +kernel
theorem dX3_sweepSpan_48 : decode cX3_sweepSpan 48 = .ok (.iastore, 1) := by decide +kernel
theorem dX3_sweepSpan_49 : decode cX3_sweepSpan 49 = .ok (.aload_n 0, 1) := by decide +kernel
theorem dX3_sweepSpan_50 : decode cX3_sweepSpan 50 = .ok (.getfield 25, 3) := by decide +kernel
theorem dX3_sweepSpan_53 : decode cX3_sweepSpan 53 = .ok (.iload_n 3, 1) := by decide +kernel
theorem dX3_sweepSpan_54 : decode cX3_sweepSpan 54 = .ok (.iconst 0, 1) := by decide +kernel
theorem dX3_sweepSpan_55 : decode cX3_sweepSpan 55 = .ok (.iastore, 1) := by decide +kernel
theorem dX3_sweepSpan_56 : decode cX3_sweepSpan 56 = .ok (.aload_n 0, 1) := by decide +kernel
theorem dX3_sweepSpan_57 : decode cX3_sweepSpan 57 = .ok (.dup, 1) := by decide +kernel
theorem dX3_sweepSpan_58 : decode cX3_sweepSpan 58 = .ok (.getfield 31, 3) := by decide +kernel
theorem dX3_sweepSpan_61 : decode cX3_sweepSpan 61 = .ok (.iconst 1, 1) := by decide +kernel
theorem dX3_sweepSpan_62 : decode cX3_sweepSpan 62 = .ok (.iadd, 1) := by decide +kernel
theorem dX3_sweepSpan_63 : decode cX3_sweepSpan 63 = .ok (.putfield 31, 3) := by decide +kernel
theorem dX3_sweepSpan_66 : decode cX3_sweepSpan 66 = .ok (.aload_n 0, 1) := by decide +kernel
theorem dX3_sweepSpan_67 : decode cX3_sweepSpan 67 = .ok (.getfield 22, 3) := by decide +kernel
theorem dX3_sweepSpan_70 : decode cX3_sweepSpan 70 = .ok (.iload_n 3, 1) := by decide +kernel
theorem dX3_sweepSpan_71 : decode cX3_sweepSpan 71 = .ok (.iaload, 1) := by decide +kernel
theorem dX3_sweepSpan_72 : decode cX3_sweepSpan 72 = .ok (.ifCond .eq 6, 3) := by decide +kernel
theorem dX3_sweepSpan_75 : decode cX3_sweepSpan 75 = .ok (.iinc 2 1, 3) := by decide +kernel
theorem dX3_sweepSpan_78 : decode cX3_sweepSpan 78 = .ok (.iinc 3 1, 3) := by decide +kernel
theorem dX3_sweepSpan_81 : decode cX3_sweepSpan 81 = .ok (.goto (-67), 3) := by decide +kernel
theorem dX3_sweepSpan_84 : decode cX3_sweepSpan 84 = .ok (.iload_n 2, 1) := by decide +kernel
theorem dX3_sweepSpan_85 : decode cX3_sweepSpan 85 = .ok (.ifCond .ne 18, 3) := by decide +kernel
theorem dX3_sweepSpan_88 : decode cX3_sweepSpan 88 = .ok (.aload_n 0, 1) := by decide +kernel
theorem dX3_sweepSpan_89 : decode cX3_sweepSpan 89 = .ok (.iload_n 1, 1) := by decide +kernel
theorem dX3_sweepSpan_90 : decode cX3_sweepSpan 90 = .ok (.aload_n 0, 1) := by decide +kernel
theorem dX3_sweepSpan_91 : decode cX3_sweepSpan 91 = .ok (.getfield 15, 3) := by decide +kernel
theorem dX3_sweepSpan_94 : decode cX3_sweepSpan 94 = .ok (.iload_n 1, 1) := by decide +kernel
theorem dX3_sweepSpan_95 : decode cX3_sweepSpan 95 = .ok (.iaload, 1) := by decide +kernel
theorem dX3_sweepSpan_96 : decode cX3_sweepSpan 96 = .ok (.invokestatic 62, 3) := by decide +kernel
theorem dX3_sweepSpan_99 : decode cX3_sweepSpan 99 = .ok (.iconst 0, 1) := by decide +kernel
theorem dX3_sweepSpan_100 : decode cX3_sweepSpan 100 = .ok (.invokevirtual 68, 3) := by decide +kernel
theorem dX3_sweepSpan_103 : decode cX3_sweepSpan 103 = .ok (.return_, 1) := by decide +kernel
abbrev cX3_fillPages : ByteArray := prog_5_method_15_code
def yX3_fillPages : MethodName := ⟨RX3, "fillPages", "(III)V"⟩
theorem dX3_fillPages_0 : decode cX3_fillPages 0 = .ok (.iload_n 1, 1) := by decide +kernel
theorem dX3_fillPages_1 : decode cX3_fillPages 1 = .ok (.istore 4, 2) := by decide +kernel
theorem dX3_fillPages_3 : decode cX3_fillPages 3 = .ok (.iload 4, 2) := by decide +kernel
theorem dX3_fillPages_5 : decode cX3_fillPages 5 = .ok (.iload_n 1, 1) := by decide +kernel
theorem dX3_fillPages_6 : decode cX3_fillPages 6 = .ok (.iload_n 2, 1) := by decide +kernel
theorem dX3_fillPages_7 : decode cX3_fillPages 7 = .ok (.iadd, 1) := by decide +kernel
theorem dX3_fillPages_8 : decode cX3_fillPages 8 = .ok (.if_icmp .ge 24, 3) := by decide +kernel
theorem dX3_fillPages_11 : decode cX3_fillPages 11 = .ok (.iload 4, 2) := by decide +kernel
theorem dX3_fillPages_13 : decode cX3_fillPages 13 = .ok (.bipush 16, 2) := by decide +kernel
theorem dX3_fillPages_15 : decode cX3_fillPages 15 = .ok (.if_icmp .ge 17, 3) := by decide +kernel
theorem dX3_fillPages_18 : decode cX3_fillPages 18 = .ok (.aload_n 0, 1) := by decide +kernel
theorem dX3_fillPages_19 : decode cX3_fillPages 19 = .ok (.getfield 15, 3) := by decide +kernel
theorem dX3_fillPages_22 : decode cX3_fillPages 22 = .ok (.iload 4, 2) := by decide +kernel
theorem dX3_fillPages_24 : decode cX3_fillPages 24 = .ok (.iload_n 3, 1) := by decide +kernel
theorem dX3_fillPages_25 : decode cX3_fillPages 25 = .ok (.iastore, 1) := by decide +kernel
theorem dX3_fillPages_26 : decode cX3_fillPages 26 = .ok (.iinc 4 1, 3) := by decide +kernel
theorem dX3_fillPages_29 : decode cX3_fillPages 29 = .ok (.goto (-26), 3) := by decide +kernel
theorem dX3_fillPages_32 : decode cX3_fillPages 32 = .ok (.return_, 1) := by decide +kernel
abbrev cX3_leaveAllUnswept : ByteArray := prog_5_method_16_code
def yX3_leaveAllUnswept : MethodName := ⟨RX3, "leaveAllUnswept", "()V"⟩
theorem dX3_leaveAllUnswept_0 : decode cX3_leaveAllUnswept 0 = .ok (.iconst 0, 1) := by decide +kernel
theorem dX3_leaveAllUnswept_1 : decode cX3_leaveAllUnswept 1 = .ok (.istore_n 1, 1) := by decide +kernel
theorem dX3_leaveAllUnswept_2 : decode cX3_leaveAllUnswept 2 = .ok (.iload_n 1, 1) := by decide +kernel
theorem dX3_leaveAllUnswept_3 : decode cX3_leaveAllUnswept 3 = .ok (.bipush 16, 2) := by decide +kernel
theorem dX3_leaveAllUnswept_5 : decode cX3_leaveAllUnswept 5 = .ok (.if_icmp .ge 30, 3) := by decide +kernel
theorem dX3_leaveAllUnswept_8 : decode cX3_leaveAllUnswept 8 = .ok (.aload_n 0, 1) := by decide +kernel
theorem dX3_leaveAllUnswept_9 : decode cX3_leaveAllUnswept 9 = .ok (.getfield 18, 3) := by decide +kernel
theorem dX3_leaveAllUnswept_12 : decode cX3_leaveAllUnswept 12 = .ok (.iload_n 1, 1) := by decide +kernel
theorem dX3_leaveAllUnswept_13 : decode cX3_leaveAllUnswept 13 = .ok (.aload_n 0, 1) := by decide +kernel
theorem dX3_leaveAllUnswept_14 : decode cX3_leaveAllUnswept 14 = .ok (.getfield 15, 3) := by decide +kernel
theorem dX3_leaveAllUnswept_17 : decode cX3_leaveAllUnswept 17 = .ok (.iload_n 1, 1) := by decide +kernel
theorem dX3_leaveAllUnswept_18 : decode cX3_leaveAllUnswept 18 = .ok (.iaload, 1) := by decide +kernel
theorem dX3_leaveAllUnswept_19 : decode cX3_leaveAllUnswept 19 = .ok (.iconst 2, 1) := by decide +kernel
theorem dX3_leaveAllUnswept_20 : decode cX3_leaveAllUnswept 20 = .ok (.if_icmp .lt 7, 3) := by decide +kernel
theorem dX3_leaveAllUnswept_23 : decode cX3_leaveAllUnswept 23 = .ok (.iconst 1, 1) := by decide +kernel
theorem dX3_leaveAllUnswept_24 : decode cX3_leaveAllUnswept 24 = .ok (.goto 4, 3) := by decide +kernel
theorem dX3_leaveAllUnswept_27 : decode cX3_leaveAllUnswept 27 = .ok (.iconst 0, 1) := by decide +kernel
theorem dX3_leaveAllUnswept_28 : decode cX3_leaveAllUnswept 28 = .ok (.bastore, 1) := by decide +kernel
theorem dX3_leaveAllUnswept_29 : decode cX3_leaveAllUnswept 29 = .ok (.iinc 1 1, 3) := by decide +kernel
theorem dX3_leaveAllUnswept_32 : decode cX3_leaveAllUnswept 32 = .ok (.goto (-30), 3) := by decide +kernel
theorem dX3_leaveAllUnswept_35 : decode cX3_leaveAllUnswept 35 = .ok (.return_, 1) := by decide +kernel
abbrev cX3_takenSlots : ByteArray := prog_5_method_17_code
def yX3_takenSlots : MethodName := ⟨RX3, "takenSlots", "()I"⟩
theorem dX3_takenSlots_0 : decode cX3_takenSlots 0 = .ok (.iconst 0, 1) := by decide +kernel
theorem dX3_takenSlots_1 : decode cX3_takenSlots 1 = .ok (.istore_n 1, 1) := by decide +kernel
theorem dX3_takenSlots_2 : decode cX3_takenSlots 2 = .ok (.iconst 0, 1) := by decide +kernel
theorem dX3_takenSlots_3 : decode cX3_takenSlots 3 = .ok (.istore_n 2, 1) := by decide +kernel
theorem dX3_takenSlots_4 : decode cX3_takenSlots 4 = .ok (.iload_n 2, 1) := by decide +kernel
theorem dX3_takenSlots_5 : decode cX3_takenSlots 5 = .ok (.sipush 128, 3) := by decide +kernel
theorem dX3_takenSlots_8 : decode cX3_takenSlots 8 = .ok (.if_icmp .ge 21, 3) := by decide +kernel
theorem dX3_takenSlots_11 : decode cX3_takenSlots 11 = .ok (.aload_n 0, 1) := by decide +kernel
theorem dX3_takenSlots_12 : decode cX3_takenSlots 12 = .ok (.getfield 22, 3) := by decide +kernel
theorem dX3_takenSlots_15 : decode cX3_takenSlots 15 = .ok (.iload_n 2, 1) := by decide +kernel
theorem dX3_takenSlots_16 : decode cX3_takenSlots 16 = .ok (.iaload, 1) := by decide +kernel
theorem dX3_takenSlots_17 : decode cX3_takenSlots 17 = .ok (.ifCond .eq 6, 3) := by decide +kernel
theorem dX3_takenSlots_20 : decode cX3_takenSlots 20 = .ok (.iinc 1 1, 3) := by decide +kernel
theorem dX3_takenSlots_23 : decode cX3_takenSlots 23 = .ok (.iinc 2 1, 3) := by decide +kernel
theorem dX3_takenSlots_26 : decode cX3_takenSlots 26 = .ok (.goto (-22), 3) := by decide +kernel
theorem dX3_takenSlots_29 : decode cX3_takenSlots 29 = .ok (.iload_n 1, 1) := by decide +kernel
theorem dX3_takenSlots_30 : decode cX3_takenSlots 30 = .ok (.ireturn, 1) := by decide +kernel
abbrev cX3_takenWords : ByteArray := prog_5_method_18_code
def yX3_takenWords : MethodName := ⟨RX3, "takenWords", "()I"⟩
theorem dX3_takenWords_0 : decode cX3_takenWords 0 = .ok (.iconst 0, 1) := by decide +kernel
theorem dX3_takenWords_1 : decode cX3_takenWords 1 = .ok (.istore_n 1, 1) := by decide +kernel
theorem dX3_takenWords_2 : decode cX3_takenWords 2 = .ok (.iconst 0, 1) := by decide +kernel
theorem dX3_takenWords_3 : decode cX3_takenWords 3 = .ok (.istore_n 2, 1) := by decide +kernel
theorem dX3_takenWords_4 : decode cX3_takenWords 4 = .ok (.iload_n 2, 1) := by decide +kernel
theorem dX3_takenWords_5 : decode cX3_takenWords 5 = .ok (.sipush 128, 3) := by decide +kernel
theorem dX3_takenWords_8 : decode cX3_takenWords 8 = .ok (.if_icmp .ge 30, 3) := by decide +kernel
theorem dX3_takenWords_11 : decode cX3_takenWords 11 = .ok (.aload_n 0, 1) := by decide +kernel
theorem dX3_takenWords_12 : decode cX3_takenWords 12 = .ok (.getfield 22, 3) := by decide +kernel
theorem dX3_takenWords_15 : decode cX3_takenWords 15 = .ok (.iload_n 2, 1) := by decide +kernel
theorem dX3_takenWords_16 : decode cX3_takenWords 16 = .ok (.iaload, 1) := by decide +kernel
theorem dX3_takenWords_17 : decode cX3_takenWords 17 = .ok (.ifCond .eq 15, 3) := by decide +kernel
theorem dX3_takenWords_20 : decode cX3_takenWords 20 = .ok (.iload_n 1, 1) := by decide +kernel
theorem dX3_takenWords_21 : decode cX3_takenWords 21 = .ok (.aload_n 0, 1) := by decide +kernel
theorem dX3_takenWords_22 : decode cX3_takenWords 22 = .ok (.getfield 22, 3) := by decide +kernel
theorem dX3_takenWords_25 : decode cX3_takenWords 25 = .ok (.iload_n 2, 1) := by decide +kernel
theorem dX3_takenWords_26 : decode cX3_takenWords 26 = .ok (.iaload, 1) := by decide +kernel
theorem dX3_takenWords_27 : decode cX3_takenWords 27 = .ok (.invokestatic 41, 3) := by decide +kernel
theorem dX3_takenWords_30 : decode cX3_takenWords 30 = .ok (.iadd, 1) := by decide +kernel
theorem dX3_takenWords_31 : decode cX3_takenWords 31 = .ok (.istore_n 1, 1) := by decide +kernel
theorem dX3_takenWords_32 : decode cX3_takenWords 32 = .ok (.iinc 2 1, 3) := by decide +kernel
theorem dX3_takenWords_35 : decode cX3_takenWords 35 = .ok (.goto (-31), 3) := by decide +kernel
theorem dX3_takenWords_38 : decode cX3_takenWords 38 = .ok (.iload_n 1, 1) := by decide +kernel
theorem dX3_takenWords_39 : decode cX3_takenWords 39 = .ok (.ireturn, 1) := by decide +kernel
abbrev cX3_keptWords : ByteArray := prog_5_method_19_code
def yX3_keptWords : MethodName := ⟨RX3, "keptWords", "()I"⟩
theorem dX3_keptWords_0 : decode cX3_keptWords 0 = .ok (.iconst 0, 1) := by decide +kernel
theorem dX3_keptWords_1 : decode cX3_keptWords 1 = .ok (.istore_n 1, 1) := by decide +kernel
theorem dX3_keptWords_2 : decode cX3_keptWords 2 = .ok (.iconst 0, 1) := by decide +kernel
theorem dX3_keptWords_3 : decode cX3_keptWords 3 = .ok (.istore_n 2, 1) := by decide +kernel
theorem dX3_keptWords_4 : decode cX3_keptWords 4 = .ok (.iload_n 2, 1) := by decide +kernel
theorem dX3_keptWords_5 : decode cX3_keptWords 5 = .ok (.sipush 128, 3) := by decide +kernel
theorem dX3_keptWords_8 : decode cX3_keptWords 8 = .ok (.if_icmp .ge 39, 3) := by decide +kernel
theorem dX3_keptWords_11 : decode cX3_keptWords 11 = .ok (.aload_n 0, 1) := by decide +kernel
theorem dX3_keptWords_12 : decode cX3_keptWords 12 = .ok (.getfield 22, 3) := by decide +kernel
theorem dX3_keptWords_15 : decode cX3_keptWords 15 = .ok (.iload_n 2, 1) := by decide +kernel
theorem dX3_keptWords_16 : decode cX3_keptWords 16 = .ok (.iaload, 1) := by decide +kernel
theorem dX3_keptWords_17 : decode cX3_keptWords 17 = .ok (.ifCond .eq 24, 3) := by decide +kernel
theorem dX3_keptWords_20 : decode cX3_keptWords 20 = .ok (.aload_n 0, 1) := by decide +kernel
theorem dX3_keptWords_21 : decode cX3_keptWords 21 = .ok (.getfield 28, 3) := by decide +kernel
theorem dX3_keptWords_24 : decode cX3_keptWords 24 = .ok (.iload_n 2, 1) := by decide +kernel
theorem dX3_keptWords_25 : decode cX3_keptWords 25 = .ok (.iaload, 1) := by decide +kernel
theorem dX3_keptWords_26 : decode cX3_keptWords 26 = .ok (.ifCond .eq 15, 3) := by decide +kernel
theorem dX3_keptWords_29 : decode cX3_keptWords 29 = .ok (.iload_n 1, 1) := by decide +kernel
theorem dX3_keptWords_30 : decode cX3_keptWords 30 = .ok (.aload_n 0, 1) := by decide +kernel
theorem dX3_keptWords_31 : decode cX3_keptWords 31 = .ok (.getfield 22, 3) := by decide +kernel
theorem dX3_keptWords_34 : decode cX3_keptWords 34 = .ok (.iload_n 2, 1) := by decide +kernel
theorem dX3_keptWords_35 : decode cX3_keptWords 35 = .ok (.iaload, 1) := by decide +kernel
theorem dX3_keptWords_36 : decode cX3_keptWords 36 = .ok (.invokestatic 41, 3) := by decide +kernel
theorem dX3_keptWords_39 : decode cX3_keptWords 39 = .ok (.iadd, 1) := by decide +kernel
theorem dX3_keptWords_40 : decode cX3_keptWords 40 = .ok (.istore_n 1, 1) := by decide +kernel
theorem dX3_keptWords_41 : decode cX3_keptWords 41 = .ok (.iinc 2 1, 3) := by decide +kernel
theorem dX3_keptWords_44 : decode cX3_keptWords 44 = .ok (.goto (-40), 3) := by decide +kernel
theorem dX3_keptWords_47 : decode cX3_keptWords 47 = .ok (.iload_n 1, 1) := by decide +kernel
theorem dX3_keptWords_48 : decode cX3_keptWords 48 = .ok (.ireturn, 1) := by decide +kernel
abbrev cX3_freePages : ByteArray := prog_5_method_20_code
def yX3_freePages : MethodName := ⟨RX3, "freePages", "()I"⟩
theorem dX3_freePages_0 : decode cX3_freePages 0 = .ok (.iconst 0, 1) := by decide +kernel
theorem dX3_freePages_1 : decode cX3_freePages 1 = .ok (.istore_n 1, 1) := by decide +kernel
theorem dX3_freePages_2 : decode cX3_freePages 2 = .ok (.iconst 0, 1) := by decide +kernel
theorem dX3_freePages_3 : decode cX3_freePages 3 = .ok (.istore_n 2, 1) := by decide +kernel
theorem dX3_freePages_4 : decode cX3_freePages 4 = .ok (.iload_n 2, 1) := by decide +kernel
theorem dX3_freePages_5 : decode cX3_freePages 5 = .ok (.bipush 16, 2) := by decide +kernel
theorem dX3_freePages_7 : decode cX3_freePages 7 = .ok (.if_icmp .ge 21, 3) := by decide +kernel
theorem dX3_freePages_10 : decode cX3_freePages 10 = .ok (.aload_n 0, 1) := by decide +kernel
theorem dX3_freePages_11 : decode cX3_freePages 11 = .ok (.getfield 15, 3) := by decide +kernel
theorem dX3_freePages_14 : decode cX3_freePages 14 = .ok (.iload_n 2, 1) := by decide +kernel
theorem dX3_freePages_15 : decode cX3_freePages 15 = .ok (.iaload, 1) := by decide +kernel
theorem dX3_freePages_16 : decode cX3_freePages 16 = .ok (.ifCond .ne 6, 3) := by decide +kernel
theorem dX3_freePages_19 : decode cX3_freePages 19 = .ok (.iinc 1 1, 3) := by decide +kernel
theorem dX3_freePages_22 : decode cX3_freePages 22 = .ok (.iinc 2 1, 3) := by decide +kernel
theorem dX3_freePages_25 : decode cX3_freePages 25 = .ok (.goto (-21), 3) := by decide +kernel
theorem dX3_freePages_28 : decode cX3_freePages 28 = .ok (.iload_n 1, 1) := by decide +kernel
theorem dX3_freePages_29 : decode cX3_freePages 29 = .ok (.ireturn, 1) := by decide +kernel
abbrev cX3_longestRun : ByteArray := prog_5_method_21_code
def yX3_longestRun : MethodName := ⟨RX3, "longestRun", "()I"⟩
theorem dX3_longestRun_0 : decode cX3_longestRun 0 = .ok (.iconst 0, 1) := by decide +kernel
theorem dX3_longestRun_1 : decode cX3_longestRun 1 = .ok (.istore_n 1, 1) := by decide +kernel
theorem dX3_longestRun_2 : decode cX3_longestRun 2 = .ok (.iconst 0, 1) := by decide +kernel
theorem dX3_longestRun_3 : decode cX3_longestRun 3 = .ok (.istore_n 2, 1) := by decide +kernel
theorem dX3_longestRun_4 : decode cX3_longestRun 4 = .ok (.iconst 0, 1) := by decide +kernel
theorem dX3_longestRun_5 : decode cX3_longestRun 5 = .ok (.istore_n 3, 1) := by decide +kernel
theorem dX3_longestRun_6 : decode cX3_longestRun 6 = .ok (.iload_n 3, 1) := by decide +kernel
theorem dX3_longestRun_7 : decode cX3_longestRun 7 = .ok (.bipush 16, 2) := by decide +kernel
theorem dX3_longestRun_9 : decode cX3_longestRun 9 = .ok (.if_icmp .ge 32, 3) := by decide +kernel
theorem dX3_longestRun_12 : decode cX3_longestRun 12 = .ok (.aload_n 0, 1) := by decide +kernel
theorem dX3_longestRun_13 : decode cX3_longestRun 13 = .ok (.getfield 15, 3) := by decide +kernel
theorem dX3_longestRun_16 : decode cX3_longestRun 16 = .ok (.iload_n 3, 1) := by decide +kernel
theorem dX3_longestRun_17 : decode cX3_longestRun 17 = .ok (.iaload, 1) := by decide +kernel
theorem dX3_longestRun_18 : decode cX3_longestRun 18 = .ok (.ifCond .ne 9, 3) := by decide +kernel
theorem dX3_longestRun_21 : decode cX3_longestRun 21 = .ok (.iload_n 2, 1) := by decide +kernel
theorem dX3_longestRun_22 : decode cX3_longestRun 22 = .ok (.iconst 1, 1) := by decide +kernel
theorem dX3_longestRun_23 : decode cX3_longestRun 23 = .ok (.iadd, 1) := by decide +kernel
theorem dX3_longestRun_24 : decode cX3_longestRun 24 = .ok (.goto 4, 3) := by decide +kernel
theorem dX3_longestRun_27 : decode cX3_longestRun 27 = .ok (.iconst 0, 1) := by decide +kernel
theorem dX3_longestRun_28 : decode cX3_longestRun 28 = .ok (.istore_n 2, 1) := by decide +kernel
theorem dX3_longestRun_29 : decode cX3_longestRun 29 = .ok (.iload_n 1, 1) := by decide +kernel
theorem dX3_longestRun_30 : decode cX3_longestRun 30 = .ok (.iload_n 2, 1) := by decide +kernel
theorem dX3_longestRun_31 : decode cX3_longestRun 31 = .ok (.invokestatic 35, 3) := by decide +kernel
theorem dX3_longestRun_34 : decode cX3_longestRun 34 = .ok (.istore_n 1, 1) := by decide +kernel
theorem dX3_longestRun_35 : decode cX3_longestRun 35 = .ok (.iinc 3 1, 3) := by decide +kernel
theorem dX3_longestRun_38 : decode cX3_longestRun 38 = .ok (.goto (-32), 3) := by decide +kernel
theorem dX3_longestRun_41 : decode cX3_longestRun 41 = .ok (.iload_n 1, 1) := by decide +kernel
theorem dX3_longestRun_42 : decode cX3_longestRun 42 = .ok (.ireturn, 1) := by decide +kernel
abbrev cX3_unsweptSpans : ByteArray := prog_5_method_22_code
def yX3_unsweptSpans : MethodName := ⟨RX3, "unsweptSpans", "()I"⟩
theorem dX3_unsweptSpans_0 : decode cX3_unsweptSpans 0 = .ok (.iconst 0, 1) := by decide +kernel
theorem dX3_unsweptSpans_1 : decode cX3_unsweptSpans 1 = .ok (.istore_n 1, 1) := by decide +kernel
theorem dX3_unsweptSpans_2 : decode cX3_unsweptSpans 2 = .ok (.iconst 0, 1) := by decide +kernel
theorem dX3_unsweptSpans_3 : decode cX3_unsweptSpans 3 = .ok (.istore_n 2, 1) := by decide +kernel
theorem dX3_unsweptSpans_4 : decode cX3_unsweptSpans 4 = .ok (.iload_n 2, 1) := by decide +kernel
theorem dX3_unsweptSpans_5 : decode cX3_unsweptSpans 5 = .ok (.bipush 16, 2) := by decide +kernel
theorem dX3_unsweptSpans_7 : decode cX3_unsweptSpans 7 = .ok (.if_icmp .ge 21, 3) := by decide +kernel
theorem dX3_unsweptSpans_10 : decode cX3_unsweptSpans 10 = .ok (.aload_n 0, 1) := by decide +kernel
theorem dX3_unsweptSpans_11 : decode cX3_unsweptSpans 11 = .ok (.getfield 18, 3) := by decide +kernel
theorem dX3_unsweptSpans_14 : decode cX3_unsweptSpans 14 = .ok (.iload_n 2, 1) := by decide +kernel
theorem dX3_unsweptSpans_15 : decode cX3_unsweptSpans 15 = .ok (.baload, 1) := by decide +kernel
theorem dX3_unsweptSpans_16 : decode cX3_unsweptSpans 16 = .ok (.ifCond .eq 6, 3) := by decide +kernel
theorem dX3_unsweptSpans_19 : decode cX3_unsweptSpans 19 = .ok (.iinc 1 1, 3) := by decide +kernel
theorem dX3_unsweptSpans_22 : decode cX3_unsweptSpans 22 = .ok (.iinc 2 1, 3) := by decide +kernel
theorem dX3_unsweptSpans_25 : decode cX3_unsweptSpans 25 = .ok (.goto (-21), 3) := by decide +kernel
theorem dX3_unsweptSpans_28 : decode cX3_unsweptSpans 28 = .ok (.iload_n 1, 1) := by decide +kernel
theorem dX3_unsweptSpans_29 : decode cX3_unsweptSpans 29 = .ok (.ireturn, 1) := by decide +kernel
