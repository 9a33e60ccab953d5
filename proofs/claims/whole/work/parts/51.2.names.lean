def RX2 : String := "FiberHeap$Fiber"
def TX2 : u_T := fun k => match k with
  | 0 => ("FiberHeap$Fiber", "cells", "[I", true)
  | 1 => ("FiberHeap$Fiber", "refs", "[I", true)
  | 2 => ("FiberHeap$Fiber", "state", "I", false)
  | 3 => ("FiberHeap$Fiber", "frames", "I", false)
  | 4 => ("FiberHeap$Fiber", "room", "I", false)
  | 5 => ("FiberHeap$Fiber", "copied", "I", false)
  | 6 => ("FiberHeap$Fiber", "scanned", "Z", false)
  | 7 => ("FiberHeap$Fiber", "tookFrom", "I", false)
  | 8 => ("FiberHeap$Fiber", "waitCell", "I", false)
  | 9 => ("FiberHeap$Fiber", "waitChannel", "I", false)
  | 10 => ("FiberHeap$Fiber", "otherWaitChannel", "I", false)
  | _ => ("FiberHeap$Fiber", "ticket", "I", false)
def tyX2 : Nat → FieldType := fun k => match k with
  | 0 => .array .int
  | 1 => .array .int
  | 2 => .int
  | 3 => .int
  | 4 => .int
  | 5 => .int
  | 6 => .boolean
  | 7 => .int
  | 8 => .int
  | 9 => .int
  | 10 => .int
  | _ => .int
theorem nmX2 : ∀ a, a < 12 → ∀ b, b < 12 → a ≠ b → (TX2 a).2.1 ≠ (TX2 b).2.1 := by decide +kernel
theorem tyX2_ok : ∀ k, k < 12 → parseFieldDescriptor (TX2 k).2.2.1 = some (tyX2 k) := by decide +kernel
abbrev cX2_init : ByteArray := prog_4_method_1_code
def yX2_init : MethodName := ⟨RX2, "<init>", "()V"⟩
theorem dX2_init_0 : decode cX2_init 0 = .ok (.aload_n 0, 1) := by decide +kernel
theorem dX2_init_1 : decode cX2_init 1 = .ok (.invokespecial 3, 3) := by decide +kernel
theorem dX2_init_4 : decode cX2_init 4 = .ok (.aload_n 0, 1) := by decide +kernel
theorem dX2_init_5 : decode cX2_init 5 = .ok (.bipush 64, 2) := by decide +kernel
theorem dX2_init_7 : decode cX2_init 7 = .ok (.newarray .int, 2) := by decide +kernel
theorem dX2_init_9 : decode cX2_init 9 = .ok (.putfield 9, 3) := by decide +kernel
theorem dX2_init_12 : decode cX2_init 12 = .ok (.aload_n 0, 1) := by decide +kernel
theorem dX2_init_13 : decode cX2_init 13 = .ok (.bipush 16, 2) := by decide +kernel
theorem dX2_init_15 : decode cX2_init 15 = .ok (.newarray .int, 2) := by decide +kernel
theorem dX2_init_17 : decode cX2_init 17 = .ok (.putfield 15, 3) := by decide +kernel
theorem dX2_init_20 : decode cX2_init 20 = .ok (.aload_n 0, 1) := by decide +kernel
theorem dX2_init_21 : decode cX2_init 21 = .ok (.iconst 0, 1) := by decide +kernel
theorem dX2_init_22 : decode cX2_init 22 = .ok (.putfield 18, 3) := by decide +kernel
theorem dX2_init_25 : decode cX2_init 25 = .ok (.aload_n 0, 1) := by decide +kernel
theorem dX2_init_26 : decode cX2_init 26 = .ok (.iconst 1, 1) := by decide +kernel
theorem dX2_init_27 : decode cX2_init 27 = .ok (.putfield 22, 3) := by decide +kernel
theorem dX2_init_30 : decode cX2_init 30 = .ok (.aload_n 0, 1) := by decide +kernel
theorem dX2_init_31 : decode cX2_init 31 = .ok (.iconst 2, 1) := by decide +kernel
theorem dX2_init_32 : decode cX2_init 32 = .ok (.putfield 25, 3) := by decide +kernel
theorem dX2_init_35 : decode cX2_init 35 = .ok (.aload_n 0, 1) := by decide +kernel
theorem dX2_init_36 : decode cX2_init 36 = .ok (.iconst (-1), 1) := by decide +kernel
theorem dX2_init_37 : decode cX2_init 37 = .ok (.putfield 28, 3) := by decide +kernel
theorem dX2_init_40 : decode cX2_init 40 = .ok (.return_, 1) := by decide +kernel
abbrev cX2_beginToLive : ByteArray := prog_4_method_2_code
def yX2_beginToLive : MethodName := ⟨RX2, "beginToLive", "(I)V"⟩
theorem dX2_beginToLive_0 : decode cX2_beginToLive 0 = .ok (.aload_n 0, 1) := by decide +kernel
theorem dX2_beginToLive_1 : decode cX2_beginToLive 1 = .ok (.iconst 1, 1) := by decide +kernel
theorem dX2_beginToLive_2 : decode cX2_beginToLive 2 = .ok (.putfield 18, 3) := by decide +kernel
theorem dX2_beginToLive_5 : decode cX2_beginToLive 5 = .ok (.aload_n 0, 1) := by decide +kernel
theorem dX2_beginToLive_6 : decode cX2_beginToLive 6 = .ok (.iconst 1, 1) := by decide +kernel
theorem dX2_beginToLive_7 : decode cX2_beginToLive 7 = .ok (.putfield 22, 3) := by decide +kernel
theorem dX2_beginToLive_10 : decode cX2_beginToLive 10 = .ok (.aload_n 0, 1) := by decide +kernel
theorem dX2_beginToLive_11 : decode cX2_beginToLive 11 = .ok (.iconst 2, 1) := by decide +kernel
theorem dX2_beginToLive_12 : decode cX2_beginToLive 12 = .ok (.putfield 25, 3) := by decide +kernel
theorem dX2_beginToLive_15 : decode cX2_beginToLive 15 = .ok (.aload_n 0, 1) := by decide +kernel
theorem dX2_beginToLive_16 : decode cX2_beginToLive 16 = .ok (.iconst 0, 1) := by decide +kernel
theorem dX2_beginToLive_17 : decode cX2_beginToLive 17 = .ok (.putfield 31, 3) := by decide +kernel
theorem dX2_beginToLive_20 : decode cX2_beginToLive 20 = .ok (.aload_n 0, 1) := by decide +kernel
theorem dX2_beginToLive_21 : decode cX2_beginToLive 21 = .ok (.iconst (-1), 1) := by decide +kernel
theorem dX2_beginToLive_22 : decode cX2_beginToLive 22 = .ok (.putfield 28, 3) := by decide +kernel
theorem dX2_beginToLive_25 : decode cX2_beginToLive 25 = .ok (.aload_n 0, 1) := by decide +kernel
theorem dX2_beginToLive_26 : decode cX2_beginToLive 26 = .ok (.getfield 9, 3) := by decide +kernel
theorem dX2_beginToLive_29 : decode cX2_beginToLive 29 = .ok (.iconst 0, 1) := by decide +kernel
theorem dX2_beginToLive_30 : decode cX2_beginToLive 30 = .ok (.iload_n 1, 1) := by decide +kernel
theorem dX2_beginToLive_31 : decode cX2_beginToLive 31 = .ok (.iastore, 1) := by decide +kernel
theorem dX2_beginToLive_32 : decode cX2_beginToLive 32 = .ok (.iconst 1, 1) := by decide +kernel
theorem dX2_beginToLive_33 : decode cX2_beginToLive 33 = .ok (.istore_n 2, 1) := by decide +kernel
theorem dX2_beginToLive_34 : decode cX2_beginToLive 34 = .ok (.iload_n 2, 1) := by decide +kernel
theorem dX2_beginToLive_35 : decode cX2_beginToLive 35 = .ok (.iconst 4, 1) := by decide +kernel
theorem dX2_beginToLive_36 : decode cX2_beginToLive 36 = .ok (.if_icmp .ge 16, 3) := by decide +kernel
theorem dX2_beginToLive_39 : decode cX2_beginToLive 39 = .ok (.aload_n 0, 1) := by decide +kernel
theorem dX2_beginToLive_40 : decode cX2_beginToLive 40 = .ok (.getfield 9, 3) := by decide +kernel
theorem dX2_beginToLive_43 : decode cX2_beginToLive 43 = .ok (.iload_n 2, 1) := by decide +kernel
theorem dX2_beginToLive_44 : decode cX2_beginToLive 44 = .ok (.iconst (-1), 1) := by decide +kernel
theorem dX2_beginToLive_45 : decode cX2_beginToLive 45 = .ok (.iastore, 1) := by decide +kernel
theorem dX2_beginToLive_46 : decode cX2_beginToLive 46 = .ok (.iinc 2 1, 3) := by decide +kernel
theorem dX2_beginToLive_49 : decode cX2_beginToLive 49 = .ok (.goto (-15), 3) := by decide +kernel
theorem dX2_beginToLive_52 : decode cX2_beginToLive 52 = .ok (.aload_n 0, 1) := by decide +kernel
theorem dX2_beginToLive_53 : decode cX2_beginToLive 53 = .ok (.getfield 15, 3) := by decide +kernel
theorem dX2_beginToLive_56 : decode cX2_beginToLive 56 = .ok (.iconst 0, 1) := by decide +kernel
theorem dX2_beginToLive_57 : decode cX2_beginToLive 57 = .ok (.iconst (-1), 1) := by decide +kernel
theorem dX2_beginToLive_58 : decode cX2_beginToLive 58 = .ok (.iastore, 1) := by decide +kernel
theorem dX2_beginToLive_59 : decode cX2_beginToLive 59 = .ok (.return_, 1) := by decide +kernel
abbrev cX2_cellIndex : ByteArray := prog_4_method_3_code
def yX2_cellIndex : MethodName := ⟨RX2, "cellIndex", "(I)I"⟩
theorem dX2_cellIndex_0 : decode cX2_cellIndex 0 = .ok (.iload_n 1, 1) := by decide +kernel
theorem dX2_cellIndex_1 : decode cX2_cellIndex 1 = .ok (.ifCond .lt 19, 3) := by decide +kernel
theorem dX2_cellIndex_4 : decode cX2_cellIndex 4 = .ok (.iload_n 1, 1) := by decide +kernel
theorem dX2_cellIndex_5 : decode cX2_cellIndex 5 = .ok (.iconst 4, 1) := by decide +kernel
theorem dX2_cellIndex_6 : decode cX2_cellIndex 6 = .ok (.if_icmp .ge 14, 3) := by decide +kernel
theorem dX2_cellIndex_9 : decode cX2_cellIndex 9 = .ok (.aload_n 0, 1) := by decide +kernel
theorem dX2_cellIndex_10 : decode cX2_cellIndex 10 = .ok (.getfield 22, 3) := by decide +kernel
theorem dX2_cellIndex_13 : decode cX2_cellIndex 13 = .ok (.iconst 1, 1) := by decide +kernel
theorem dX2_cellIndex_14 : decode cX2_cellIndex 14 = .ok (.isub, 1) := by decide +kernel
theorem dX2_cellIndex_15 : decode cX2_cellIndex 15 = .ok (.iconst 4, 1) := by decide +kernel
theorem dX2_cellIndex_16 : decode cX2_cellIndex 16 = .ok (.imul, 1) := by decide +kernel
theorem dX2_cellIndex_17 : decode cX2_cellIndex 17 = .ok (.iload_n 1, 1) := by decide +kernel
theorem dX2_cellIndex_18 : decode cX2_cellIndex 18 = .ok (.iadd, 1) := by decide +kernel
theorem dX2_cellIndex_19 : decode cX2_cellIndex 19 = .ok (.ireturn, 1) := by decide +kernel
theorem dX2_cellIndex_20 : decode cX2_cellIndex 20 = .ok (.iload_n 1, 1) := by decide +kernel
theorem dX2_cellIndex_21 : decode cX2_cellIndex 21 = .ok (.iconst 4, 1) := by decide +kernel
theorem dX2_cellIndex_22 : decode cX2_cellIndex 22 = .ok (.if_icmp .ne 17, 3) := by decide +kernel
theorem dX2_cellIndex_25 : decode cX2_cellIndex 25 = .ok (.aload_n 0, 1) := by decide +kernel
theorem dX2_cellIndex_26 : decode cX2_cellIndex 26 = .ok (.getfield 15, 3) := by decide +kernel
theorem dX2_cellIndex_29 : decode cX2_cellIndex 29 = .ok (.aload_n 0, 1) := by decide +kernel
theorem dX2_cellIndex_30 : decode cX2_cellIndex 30 = .ok (.getfield 22, 3) := by decide +kernel
theorem dX2_cellIndex_33 : decode cX2_cellIndex 33 = .ok (.iconst 1, 1) := by decide +kernel
theorem dX2_cellIndex_34 : decode cX2_cellIndex 34 = .ok (.isub, 1) := by decide +kernel
theorem dX2_cellIndex_35 : decode cX2_cellIndex 35 = .ok (.iaload, 1) := by decide +kernel
theorem dX2_cellIndex_36 : decode cX2_cellIndex 36 = .ok (.goto 4, 3) := by decide +kernel
theorem dX2_cellIndex_39 : decode cX2_cellIndex 39 = .ok (.iconst (-1), 1) := by decide +kernel
theorem dX2_cellIndex_40 : decode cX2_cellIndex 40 = .ok (.ireturn, 1) := by decide +kernel
abbrev cX2_isCell : ByteArray := prog_4_method_4_code
def yX2_isCell : MethodName := ⟨RX2, "isCell", "(I)Z"⟩
theorem dX2_isCell_0 : decode cX2_isCell 0 = .ok (.aload_n 0, 1) := by decide +kernel
theorem dX2_isCell_1 : decode cX2_isCell 1 = .ok (.iload_n 1, 1) := by decide +kernel
theorem dX2_isCell_2 : decode cX2_isCell 2 = .ok (.invokevirtual 35, 3) := by decide +kernel
theorem dX2_isCell_5 : decode cX2_isCell 5 = .ok (.iconst (-1), 1) := by decide +kernel
theorem dX2_isCell_6 : decode cX2_isCell 6 = .ok (.if_icmp .eq 7, 3) := by decide +kernel
theorem dX2_isCell_9 : decode cX2_isCell 9 = .ok (.iconst 1, 1) := by decide +kernel
theorem dX2_isCell_10 : decode cX2_isCell 10 = .ok (.goto 4, 3) := by decide +kernel
theorem dX2_isCell_13 : decode cX2_isCell 13 = .ok (.iconst 0, 1) := by decide +kernel
theorem dX2_isCell_14 : decode cX2_isCell 14 = .ok (.ireturn, 1) := by decide +kernel
abbrev cX2_isSource : ByteArray := prog_4_method_5_code
def yX2_isSource : MethodName := ⟨RX2, "isSource", "(I)Z"⟩
theorem dX2_isSource_0 : decode cX2_isSource 0 = .ok (.iload_n 1, 1) := by decide +kernel
theorem dX2_isSource_1 : decode cX2_isSource 1 = .ok (.iconst (-1), 1) := by decide +kernel
theorem dX2_isSource_2 : decode cX2_isSource 2 = .ok (.if_icmp .eq 11, 3) := by decide +kernel
theorem dX2_isSource_5 : decode cX2_isSource 5 = .ok (.aload_n 0, 1) := by decide +kernel
theorem dX2_isSource_6 : decode cX2_isSource 6 = .ok (.iload_n 1, 1) := by decide +kernel
theorem dX2_isSource_7 : decode cX2_isSource 7 = .ok (.invokevirtual 39, 3) := by decide +kernel
theorem dX2_isSource_10 : decode cX2_isSource 10 = .ok (.ifCond .eq 7, 3) := by decide +kernel
theorem dX2_isSource_13 : decode cX2_isSource 13 = .ok (.iconst 1, 1) := by decide +kernel
theorem dX2_isSource_14 : decode cX2_isSource 14 = .ok (.goto 4, 3) := by decide +kernel
theorem dX2_isSource_17 : decode cX2_isSource 17 = .ok (.iconst 0, 1) := by decide +kernel
theorem dX2_isSource_18 : decode cX2_isSource 18 = .ok (.ireturn, 1) := by decide +kernel
abbrev cX2_pointerFrom : ByteArray := prog_4_method_6_code
def yX2_pointerFrom : MethodName := ⟨RX2, "pointerFrom", "(I)I"⟩
theorem dX2_pointerFrom_0 : decode cX2_pointerFrom 0 = .ok (.aload_n 0, 1) := by decide +kernel
theorem dX2_pointerFrom_1 : decode cX2_pointerFrom 1 = .ok (.iload_n 1, 1) := by decide +kernel
theorem dX2_pointerFrom_2 : decode cX2_pointerFrom 2 = .ok (.invokevirtual 35, 3) := by decide +kernel
theorem dX2_pointerFrom_5 : decode cX2_pointerFrom 5 = .ok (.istore_n 2, 1) := by decide +kernel
theorem dX2_pointerFrom_6 : decode cX2_pointerFrom 6 = .ok (.iload_n 2, 1) := by decide +kernel
theorem dX2_pointerFrom_7 : decode cX2_pointerFrom 7 = .ok (.iconst (-1), 1) := by decide +kernel
theorem dX2_pointerFrom_8 : decode cX2_pointerFrom 8 = .ok (.if_icmp .ne 7, 3) := by decide +kernel
theorem dX2_pointerFrom_11 : decode cX2_pointerFrom 11 = .ok (.iconst (-1), 1) := by decide +kernel
theorem dX2_pointerFrom_12 : decode cX2_pointerFrom 12 = .ok (.goto 9, 3) := by decide +kernel
theorem dX2_pointerFrom_15 : decode cX2_pointerFrom 15 = .ok (.aload_n 0, 1) := by decide +kernel
theorem dX2_pointerFrom_16 : decode cX2_pointerFrom 16 = .ok (.getfield 9, 3) := by decide +kernel
theorem dX2_pointerFrom_19 : decode cX2_pointerFrom 19 = .ok (.iload_n 2, 1) := by decide +kernel
theorem dX2_pointerFrom_20 : decode cX2_pointerFrom 20 = .ok (.iaload, 1) := by decide +kernel
theorem dX2_pointerFrom_21 : decode cX2_pointerFrom 21 = .ok (.ireturn, 1) := by decide +kernel
abbrev cX2_fillCell : ByteArray := prog_4_method_7_code
def yX2_fillCell : MethodName := ⟨RX2, "fillCell", "(II)V"⟩
theorem dX2_fillCell_0 : decode cX2_fillCell 0 = .ok (.aload_n 0, 1) := by decide +kernel
theorem dX2_fillCell_1 : decode cX2_fillCell 1 = .ok (.iload_n 1, 1) := by decide +kernel
theorem dX2_fillCell_2 : decode cX2_fillCell 2 = .ok (.invokevirtual 35, 3) := by decide +kernel
theorem dX2_fillCell_5 : decode cX2_fillCell 5 = .ok (.istore_n 3, 1) := by decide +kernel
theorem dX2_fillCell_6 : decode cX2_fillCell 6 = .ok (.iload_n 3, 1) := by decide +kernel
theorem dX2_fillCell_7 : decode cX2_fillCell 7 = .ok (.iconst (-1), 1) := by decide +kernel
theorem dX2_fillCell_8 : decode cX2_fillCell 8 = .ok (.if_icmp .eq 10, 3) := by decide +kernel
theorem dX2_fillCell_11 : decode cX2_fillCell 11 = .ok (.aload_n 0, 1) := by decide +kernel
theorem dX2_fillCell_12 : decode cX2_fillCell 12 = .ok (.getfield 9, 3) := by decide +kernel
theorem dX2_fillCell_15 : decode cX2_fillCell 15 = .ok (.iload_n 3, 1) := by decide +kernel
theorem dX2_fillCell_16 : decode cX2_fillCell 16 = .ok (.iload_n 2, 1) := by decide +kernel
theorem dX2_fillCell_17 : decode cX2_fillCell 17 = .ok (.iastore, 1) := by decide +kernel
theorem dX2_fillCell_18 : decode cX2_fillCell 18 = .ok (.return_, 1) := by decide +kernel
abbrev cX2_addFrame : ByteArray := prog_4_method_8_code
def yX2_addFrame : MethodName := ⟨RX2, "addFrame", "()V"⟩
theorem dX2_addFrame_0 : decode cX2_addFrame 0 = .ok (.aload_n 0, 1) := by decide +kernel
theorem dX2_addFrame_1 : decode cX2_addFrame 1 = .ok (.getfield 22, 3) := by decide +kernel
theorem dX2_addFrame_4 : decode cX2_addFrame 4 = .ok (.aload_n 0, 1) := by decide +kernel
theorem dX2_addFrame_5 : decode cX2_addFrame 5 = .ok (.getfield 25, 3) := by decide +kernel
theorem dX2_addFrame_8 : decode cX2_addFrame 8 = .ok (.if_icmp .ne 13, 3) := by decide +kernel
theorem dX2_addFrame_11 : decode cX2_addFrame 11 = .ok (.aload_n 0, 1) := by decide +kernel
theorem dX2_addFrame_12 : decode cX2_addFrame 12 = .ok (.aload_n 0, 1) := by decide +kernel
theorem dX2_addFrame_13 : decode cX2_addFrame 13 = .ok (.getfield 25, 3) := by decide +kernel
theorem dX2_addFrame_16 : decode cX2_addFrame 16 = .ok (.iconst 2, 1) := by decide +kernel
theorem dX2_addFrame_17 : decode cX2_addFrame 17 = .ok (.imul, 1) := by decide +kernel
theorem dX2_addFrame_18 : decode cX2_addFrame 18 = .ok (.invokevirtual 43, 3) := by decide +kernel
theorem dX2_addFrame_21 : decode cX2_addFrame 21 = .ok (.aload_n 0, 1) := by decide +kernel
theorem dX2_addFrame_22 : decode cX2_addFrame 22 = .ok (.getfield 9, 3) := by decide +kernel
theorem dX2_addFrame_25 : decode cX2_addFrame 25 = .ok (.aload_n 0, 1) := by decide +kernel
theorem dX2_addFrame_26 : decode cX2_addFrame 26 = .ok (.getfield 22, 3) := by decide +kernel
theorem dX2_addFrame_29 : decode cX2_addFrame 29 = .ok (.iconst 1, 1) := by decide +kernel
theorem dX2_addFrame_30 : decode cX2_addFrame 30 = .ok (.isub, 1) := by decide +kernel
theorem dX2_addFrame_31 : decode cX2_addFrame 31 = .ok (.iconst 4, 1) := by decide +kernel
theorem dX2_addFrame_32 : decode cX2_addFrame 32 = .ok (.imul, 1) := by decide +kernel
theorem dX2_addFrame_33 : decode cX2_addFrame 33 = .ok (.aload_n 0, 1) := by decide +kernel
theorem dX2_addFrame_34 : decode cX2_addFrame 34 = .ok (.getfield 9, 3) := by decide +kernel
theorem dX2_addFrame_37 : decode cX2_addFrame 37 = .ok (.aload_n 0, 1) := by decide +kernel
theorem dX2_addFrame_38 : decode cX2_addFrame 38 = .ok (.getfield 22, 3) := by decide +kernel
theorem dX2_addFrame_41 : decode cX2_addFrame 41 = .ok (.iconst 4, 1) := by decide +kernel
theorem dX2_addFrame_42 : decode cX2_addFrame 42 = .ok (.imul, 1) := by decide +kernel
theorem dX2_addFrame_43 : decode cX2_addFrame 43 = .ok (.iconst 4, 1) := by decide +kernel
theorem dX2_addFrame_44 : decode cX2_addFrame 44 = .ok (.invokestatic 47, 3) := by decide +kernel
theorem dX2_addFrame_47 : decode cX2_addFrame 47 = .ok (.aload_n 0, 1) := by decide +kernel
theorem dX2_addFrame_48 : decode cX2_addFrame 48 = .ok (.getfield 15, 3) := by decide +kernel
theorem dX2_addFrame_51 : decode cX2_addFrame 51 = .ok (.aload_n 0, 1) := by decide +kernel
theorem dX2_addFrame_52 : decode cX2_addFrame 52 = .ok (.getfield 22, 3) := by decide +kernel
theorem dX2_addFrame_55 : decode cX2_addFrame 55 = .ok (.aload_n 0, 1) := by decide +kernel
theorem dX2_addFrame_56 : decode cX2_addFrame 56 = .ok (.getfield 15, 3) := by decide +kernel
theorem dX2_addFrame_59 : decode cX2_addFrame 59 = .ok (.aload_n 0, 1) := by decide +kernel
theorem dX2_addFrame_60 : decode cX2_addFrame 60 = .ok (.getfield 22, 3) := by decide +kernel
theorem dX2_addFrame_63 : decode cX2_addFrame 63 = .ok (.iconst 1, 1) := by decide +kernel
theorem dX2_addFrame_64 : decode cX2_addFrame 64 = .ok (.isub, 1) := by decide +kernel
theorem dX2_addFrame_65 : decode cX2_addFrame 65 = .ok (.iaload, 1) := by decide +kernel
theorem dX2_addFrame_66 : decode cX2_addFrame 66 = .ok (.iastore, 1) := by decide +kernel
theorem dX2_addFrame_67 : decode cX2_addFrame 67 = .ok (.aload_n 0, 1) := by decide +kernel
theorem dX2_addFrame_68 : decode cX2_addFrame 68 = .ok (.dup, 1) := by decide +kernel
theorem dX2_addFrame_69 : decode cX2_addFrame 69 = .ok (.getfield 22, 3) := by decide +kernel
theorem dX2_addFrame_72 : decode cX2_addFrame 72 = .ok (.iconst 1, 1) := by decide +kernel
theorem dX2_addFrame_73 : decode cX2_addFrame 73 = .ok (.iadd, 1) := by decide +kernel
theorem dX2_addFrame_74 : decode cX2_addFrame 74 = .ok (.putfield 22, 3) := by decide +kernel
theorem dX2_addFrame_77 : decode cX2_addFrame 77 = .ok (.return_, 1) := by decide +kernel
abbrev cX2_dropFrame : ByteArray := prog_4_method_9_code
def yX2_dropFrame : MethodName := ⟨RX2, "dropFrame", "()V"⟩
theorem dX2_dropFrame_0 : decode cX2_dropFrame 0 = .ok (.aload_n 0, 1) := by decide +kernel
theorem dX2_dropFrame_1 : decode cX2_dropFrame 1 = .ok (.getfield 9, 3) := by decide +kernel
theorem dX2_dropFrame_4 : decode cX2_dropFrame 4 = .ok (.aload_n 0, 1) := by decide +kernel
theorem dX2_dropFrame_5 : decode cX2_dropFrame 5 = .ok (.getfield 22, 3) := by decide +kernel
theorem dX2_dropFrame_8 : decode cX2_dropFrame 8 = .ok (.iconst 1, 1) := by decide +kernel
theorem dX2_dropFrame_9 : decode cX2_dropFrame 9 = .ok (.isub, 1) := by decide +kernel
theorem dX2_dropFrame_10 : decode cX2_dropFrame 10 = .ok (.iconst 4, 1) := by decide +kernel
theorem dX2_dropFrame_11 : decode cX2_dropFrame 11 = .ok (.imul, 1) := by decide +kernel
theorem dX2_dropFrame_12 : decode cX2_dropFrame 12 = .ok (.iaload, 1) := by decide +kernel
theorem dX2_dropFrame_13 : decode cX2_dropFrame 13 = .ok (.istore_n 1, 1) := by decide +kernel
theorem dX2_dropFrame_14 : decode cX2_dropFrame 14 = .ok (.aload_n 0, 1) := by decide +kernel
theorem dX2_dropFrame_15 : decode cX2_dropFrame 15 = .ok (.dup, 1) := by decide +kernel
theorem dX2_dropFrame_16 : decode cX2_dropFrame 16 = .ok (.getfield 22, 3) := by decide +kernel
theorem dX2_dropFrame_19 : decode cX2_dropFrame 19 = .ok (.iconst 1, 1) := by decide +kernel
theorem dX2_dropFrame_20 : decode cX2_dropFrame 20 = .ok (.isub, 1) := by decide +kernel
theorem dX2_dropFrame_21 : decode cX2_dropFrame 21 = .ok (.putfield 22, 3) := by decide +kernel
theorem dX2_dropFrame_24 : decode cX2_dropFrame 24 = .ok (.aload_n 0, 1) := by decide +kernel
theorem dX2_dropFrame_25 : decode cX2_dropFrame 25 = .ok (.getfield 9, 3) := by decide +kernel
theorem dX2_dropFrame_28 : decode cX2_dropFrame 28 = .ok (.aload_n 0, 1) := by decide +kernel
theorem dX2_dropFrame_29 : decode cX2_dropFrame 29 = .ok (.getfield 22, 3) := by decide +kernel
theorem dX2_dropFrame_32 : decode cX2_dropFrame 32 = .ok (.iconst 1, 1) := by decide +kernel
theorem dX2_dropFrame_33 : decode cX2_dropFrame 33 = .ok (.isub, 1) := by decide +kernel
theorem dX2_dropFrame_34 : decode cX2_dropFrame 34 = .ok (.iconst 4, 1) := by decide +kernel
theorem dX2_dropFrame_35 : decode cX2_dropFrame 35 = .ok (.imul, 1) := by decide +kernel
theorem dX2_dropFrame_36 : decode cX2_dropFrame 36 = .ok (.iload_n 1, 1) := by decide +kernel
theorem dX2_dropFrame_37 : decode cX2_dropFrame 37 = .ok (.iastore, 1) := by decide +kernel
theorem dX2_dropFrame_38 : decode cX2_dropFrame 38 = .ok (.return_, 1) := by decide +kernel
abbrev cX2_shrinkRoom : ByteArray := prog_4_method_10_code
def yX2_shrinkRoom : MethodName := ⟨RX2, "shrinkRoom", "()V"⟩
theorem dX2_shrinkRoom_0 : decode cX2_shrinkRoom 0 = .ok (.aload_n 0, 1) := by decide +kernel
theorem dX2_shrinkRoom_1 : decode cX2_shrinkRoom 1 = .ok (.getfield 25, 3) := by decide +kernel
theorem dX2_shrinkRoom_4 : decode cX2_shrinkRoom 4 = .ok (.iconst 2, 1) := by decide +kernel
theorem dX2_shrinkRoom_5 : decode cX2_shrinkRoom 5 = .ok (.if_icmp .le 26, 3) := by decide +kernel
theorem dX2_shrinkRoom_8 : decode cX2_shrinkRoom 8 = .ok (.aload_n 0, 1) := by decide +kernel
theorem dX2_shrinkRoom_9 : decode cX2_shrinkRoom 9 = .ok (.getfield 22, 3) := by decide +kernel
theorem dX2_shrinkRoom_12 : decode cX2_shrinkRoom 12 = .ok (.iconst 4, 1) := by decide +kernel
theorem dX2_shrinkRoom_13 : decode cX2_shrinkRoom 13 = .ok (.imul, 1) := by decide +kernel
theorem dX2_shrinkRoom_14 : decode cX2_shrinkRoom 14 = .ok (.aload_n 0, 1) := by decide +kernel
theorem dX2_shrinkRoom_15 : decode cX2_shrinkRoom 15 = .ok (.getfield 25, 3) := by decide +kernel
theorem dX2_shrinkRoom_18 : decode cX2_shrinkRoom 18 = .ok (.if_icmp .gt 13, 3) := by decide +kernel
theorem dX2_shrinkRoom_21 : decode cX2_shrinkRoom 21 = .ok (.aload_n 0, 1) := by decide +kernel
theorem dX2_shrinkRoom_22 : decode cX2_shrinkRoom 22 = .ok (.aload_n 0, 1) := by decide +kernel
theorem dX2_shrinkRoom_23 : decode cX2_shrinkRoom 23 = .ok (.getfield 25, 3) := by decide +kernel
theorem dX2_shrinkRoom_26 : decode cX2_shrinkRoom 26 = .ok (.iconst 2, 1) := by decide +kernel
theorem dX2_shrinkRoom_27 : decode cX2_shrinkRoom 27 = .ok (.idiv, 1) := by decide +kernel
theorem dX2_shrinkRoom_28 : decode cX2_shrinkRoom 28 = .ok (.invokevirtual 43, 3) := by decide +kernel
theorem dX2_shrinkRoom_31 : decode cX2_shrinkRoom 31 = .ok (.return_, 1) := by decide +kernel
abbrev cX2_moveTo : ByteArray := prog_4_method_11_code
def yX2_moveTo : MethodName := ⟨RX2, "moveTo", "(I)V"⟩
theorem dX2_moveTo_0 : decode cX2_moveTo 0 = .ok (.aload_n 0, 1) := by decide +kernel
theorem dX2_moveTo_1 : decode cX2_moveTo 1 = .ok (.iload_n 1, 1) := by decide +kernel
theorem dX2_moveTo_2 : decode cX2_moveTo 2 = .ok (.putfield 25, 3) := by decide +kernel
theorem dX2_moveTo_5 : decode cX2_moveTo 5 = .ok (.aload_n 0, 1) := by decide +kernel
theorem dX2_moveTo_6 : decode cX2_moveTo 6 = .ok (.dup, 1) := by decide +kernel
theorem dX2_moveTo_7 : decode cX2_moveTo 7 = .ok (.getfield 53, 3) := by decide +kernel
theorem dX2_moveTo_10 : decode cX2_moveTo 10 = .ok (.aload_n 0, 1) := by decide +kernel
theorem dX2_moveTo_11 : decode cX2_moveTo 11 = .ok (.getfield 22, 3) := by decide +kernel
theorem dX2_moveTo_14 : decode cX2_moveTo 14 = .ok (.iadd, 1) := by decide +kernel
theorem dX2_moveTo_15 : decode cX2_moveTo 15 = .ok (.putfield 53, 3) := by decide +kernel
theorem dX2_moveTo_18 : decode cX2_moveTo 18 = .ok (.return_, 1) := by decide +kernel
abbrev cX2_beginToWait : ByteArray := prog_4_method_12_code
def yX2_beginToWait : MethodName := ⟨RX2, "beginToWait", "(IIIII)V"⟩
theorem dX2_beginToWait_0 : decode cX2_beginToWait 0 = .ok (.aload_n 0, 1) := by decide +kernel
theorem dX2_beginToWait_1 : decode cX2_beginToWait 1 = .ok (.iload_n 1, 1) := by decide +kernel
theorem dX2_beginToWait_2 : decode cX2_beginToWait 2 = .ok (.putfield 18, 3) := by decide +kernel
theorem dX2_beginToWait_5 : decode cX2_beginToWait 5 = .ok (.aload_n 0, 1) := by decide +kernel
theorem dX2_beginToWait_6 : decode cX2_beginToWait 6 = .ok (.aload_n 0, 1) := by decide +kernel
theorem dX2_beginToWait_7 : decode cX2_beginToWait 7 = .ok (.iload_n 2, 1) := by decide +kernel
theorem dX2_beginToWait_8 : decode cX2_beginToWait 8 = .ok (.invokevirtual 35, 3) := by decide +kernel
theorem dX2_beginToWait_11 : decode cX2_beginToWait 11 = .ok (.putfield 56, 3) := by decide +kernel
theorem dX2_beginToWait_14 : decode cX2_beginToWait 14 = .ok (.aload_n 0, 1) := by decide +kernel
theorem dX2_beginToWait_15 : decode cX2_beginToWait 15 = .ok (.iload_n 3, 1) := by decide +kernel
theorem dX2_beginToWait_16 : decode cX2_beginToWait 16 = .ok (.putfield 59, 3) := by decide +kernel
theorem dX2_beginToWait_19 : decode cX2_beginToWait 19 = .ok (.aload_n 0, 1) := by decide +kernel
theorem dX2_beginToWait_20 : decode cX2_beginToWait 20 = .ok (.iload 4, 2) := by decide +kernel
theorem dX2_beginToWait_22 : decode cX2_beginToWait 22 = .ok (.putfield 62, 3) := by decide +kernel
theorem dX2_beginToWait_25 : decode cX2_beginToWait 25 = .ok (.aload_n 0, 1) := by decide +kernel
theorem dX2_beginToWait_26 : decode cX2_beginToWait 26 = .ok (.iload 5, 2) := by decide +kernel
theorem dX2_beginToWait_28 : decode cX2_beginToWait 28 = .ok (.putfield 65, 3) := by decide +kernel
theorem dX2_beginToWait_31 : decode cX2_beginToWait 31 = .ok (.return_, 1) := by decide +kernel
abbrev cX2_waitsAt : ByteArray := prog_4_method_13_code
def yX2_waitsAt : MethodName := ⟨RX2, "waitsAt", "(II)Z"⟩
theorem dX2_waitsAt_0 : decode cX2_waitsAt 0 = .ok (.aload_n 0, 1) := by decide +kernel
theorem dX2_waitsAt_1 : decode cX2_waitsAt 1 = .ok (.getfield 18, 3) := by decide +kernel
theorem dX2_waitsAt_4 : decode cX2_waitsAt 4 = .ok (.iload_n 1, 1) := by decide +kernel
theorem dX2_waitsAt_5 : decode cX2_waitsAt 5 = .ok (.if_icmp .ne 23, 3) := by decide +kernel
theorem dX2_waitsAt_8 : decode cX2_waitsAt 8 = .ok (.aload_n 0, 1) := by decide +kernel
theorem dX2_waitsAt_9 : decode cX2_waitsAt 9 = .ok (.getfield 59, 3) := by decide +kernel
theorem dX2_waitsAt_12 : decode cX2_waitsAt 12 = .ok (.iload_n 2, 1) := by decide +kernel
theorem dX2_waitsAt_13 : decode cX2_waitsAt 13 = .ok (.if_icmp .eq 11, 3) := by decide +kernel
theorem dX2_waitsAt_16 : decode cX2_waitsAt 16 = .ok (.aload_n 0, 1) := by decide +kernel
theorem dX2_waitsAt_17 : decode cX2_waitsAt 17 = .ok (.getfield 62, 3) := by decide +kernel
theorem dX2_waitsAt_20 : decode cX2_waitsAt 20 = .ok (.iload_n 2, 1) := by decide +kernel
theorem dX2_waitsAt_21 : decode cX2_waitsAt 21 = .ok (.if_icmp .ne 7, 3) := by decide +kernel
theorem dX2_waitsAt_24 : decode cX2_waitsAt 24 = .ok (.iconst 1, 1) := by decide +kernel
theorem dX2_waitsAt_25 : decode cX2_waitsAt 25 = .ok (.goto 4, 3) := by decide +kernel
theorem dX2_waitsAt_28 : decode cX2_waitsAt 28 = .ok (.iconst 0, 1) := by decide +kernel
theorem dX2_waitsAt_29 : decode cX2_waitsAt 29 = .ok (.ireturn, 1) := by decide +kernel
abbrev cX2_endSending : ByteArray := prog_4_method_14_code
def yX2_endSending : MethodName := ⟨RX2, "endSending", "()I"⟩
theorem dX2_endSending_0 : decode cX2_endSending 0 = .ok (.aload_n 0, 1) := by decide +kernel
theorem dX2_endSending_1 : decode cX2_endSending 1 = .ok (.iconst 1, 1) := by decide +kernel
theorem dX2_endSending_2 : decode cX2_endSending 2 = .ok (.putfield 18, 3) := by decide +kernel
theorem dX2_endSending_5 : decode cX2_endSending 5 = .ok (.aload_n 0, 1) := by decide +kernel
theorem dX2_endSending_6 : decode cX2_endSending 6 = .ok (.getfield 9, 3) := by decide +kernel
theorem dX2_endSending_9 : decode cX2_endSending 9 = .ok (.aload_n 0, 1) := by decide +kernel
theorem dX2_endSending_10 : decode cX2_endSending 10 = .ok (.getfield 56, 3) := by decide +kernel
theorem dX2_endSending_13 : decode cX2_endSending 13 = .ok (.iaload, 1) := by decide +kernel
theorem dX2_endSending_14 : decode cX2_endSending 14 = .ok (.ireturn, 1) := by decide +kernel
abbrev cX2_endTaking : ByteArray := prog_4_method_15_code
def yX2_endTaking : MethodName := ⟨RX2, "endTaking", "(II)V"⟩
theorem dX2_endTaking_0 : decode cX2_endTaking 0 = .ok (.aload_n 0, 1) := by decide +kernel
theorem dX2_endTaking_1 : decode cX2_endTaking 1 = .ok (.iconst 1, 1) := by decide +kernel
theorem dX2_endTaking_2 : decode cX2_endTaking 2 = .ok (.putfield 18, 3) := by decide +kernel
theorem dX2_endTaking_5 : decode cX2_endTaking 5 = .ok (.aload_n 0, 1) := by decide +kernel
theorem dX2_endTaking_6 : decode cX2_endTaking 6 = .ok (.getfield 9, 3) := by decide +kernel
theorem dX2_endTaking_9 : decode cX2_endTaking 9 = .ok (.aload_n 0, 1) := by decide +kernel
theorem dX2_endTaking_10 : decode cX2_endTaking 10 = .ok (.getfield 56, 3) := by decide +kernel
theorem dX2_endTaking_13 : decode cX2_endTaking 13 = .ok (.iload_n 1, 1) := by decide +kernel
theorem dX2_endTaking_14 : decode cX2_endTaking 14 = .ok (.iastore, 1) := by decide +kernel
theorem dX2_endTaking_15 : decode cX2_endTaking 15 = .ok (.aload_n 0, 1) := by decide +kernel
theorem dX2_endTaking_16 : decode cX2_endTaking 16 = .ok (.iload_n 2, 1) := by decide +kernel
theorem dX2_endTaking_17 : decode cX2_endTaking 17 = .ok (.putfield 28, 3) := by decide +kernel
theorem dX2_endTaking_20 : decode cX2_endTaking 20 = .ok (.return_, 1) := by decide +kernel
