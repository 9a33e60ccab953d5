def RX1 : String := "FiberHeap$Collector"
def TX1 : u_T := fun k => match k with
  | 0 => ("FiberHeap$Collector", "heap", "LFiberHeap$Heap;", true)
  | 1 => ("FiberHeap$Collector", "fibers", "[LFiberHeap$Fiber;", true)
  | 2 => ("FiberHeap$Collector", "channels", "[LFiberHeap$Channel;", true)
  | 3 => ("FiberHeap$Collector", "pending", "[I", true)
  | 4 => ("FiberHeap$Collector", "pendingCount", "I", false)
  | 5 => ("FiberHeap$Collector", "marking", "Z", false)
  | 6 => ("FiberHeap$Collector", "cycles", "I", false)
  | 7 => ("FiberHeap$Collector", "pieces", "I", false)
  | 8 => ("FiberHeap$Collector", "fresh", "I", false)
  | _ => ("FiberHeap$Collector", "trigger", "I", false)
def tyX1 : Nat → FieldType := fun k => match k with
  | 0 => .object "FiberHeap$Heap"
  | 1 => .array (.object "FiberHeap$Fiber")
  | 2 => .array (.object "FiberHeap$Channel")
  | 3 => .array .int
  | 4 => .int
  | 5 => .boolean
  | 6 => .int
  | 7 => .int
  | 8 => .int
  | _ => .int
theorem nmX1 : ∀ a, a < 10 → ∀ b, b < 10 → a ≠ b → (TX1 a).2.1 ≠ (TX1 b).2.1 := by decide +kernel
theorem tyX1_ok : ∀ k, k < 10 → parseFieldDescriptor (TX1 k).2.2.1 = some (tyX1 k) := by decide +kernel
abbrev cX1_init : ByteArray := prog_3_method_1_code
def yX1_init : MethodName := ⟨RX1, "<init>", "(LFiberHeap$Heap;[LFiberHeap$Fiber;[LFiberHeap$Channel;)V"⟩
theorem dX1_init_0 : decode cX1_init 0 = .ok (.aload_n 0, 1) := by decide +kernel
theorem dX1_init_1 : decode cX1_init 1 = .ok (.invokespecial 3, 3) := by decide +kernel
theorem dX1_init_4 : decode cX1_init 4 = .ok (.aload_n 0, 1) := by decide +kernel
theorem dX1_init_5 : decode cX1_init 5 = .ok (.aload_n 1, 1) := by decide +kernel
theorem dX1_init_6 : decode cX1_init 6 = .ok (.putfield 9, 3) := by decide +kernel
theorem dX1_init_9 : decode cX1_init 9 = .ok (.aload_n 0, 1) := by decide +kernel
theorem dX1_init_10 : decode cX1_init 10 = .ok (.aload_n 2, 1) := by decide +kernel
theorem dX1_init_11 : decode cX1_init 11 = .ok (.putfield 15, 3) := by decide +kernel
theorem dX1_init_14 : decode cX1_init 14 = .ok (.aload_n 0, 1) := by decide +kernel
theorem dX1_init_15 : decode cX1_init 15 = .ok (.aload_n 3, 1) := by decide +kernel
theorem dX1_init_16 : decode cX1_init 16 = .ok (.putfield 19, 3) := by decide +kernel
theorem dX1_init_19 : decode cX1_init 19 = .ok (.aload_n 0, 1) := by decide +kernel
theorem dX1_init_20 : decode cX1_init 20 = .ok (.sipush 128, 3) := by decide +kernel
theorem dX1_init_23 : decode cX1_init 23 = .ok (.newarray .int, 2) := by decide +kernel
theorem dX1_init_25 : decode cX1_init 25 = .ok (.putfield 23, 3) := by decide +kernel
theorem dX1_init_28 : decode cX1_init 28 = .ok (.aload_n 0, 1) := by decide +kernel
theorem dX1_init_29 : decode cX1_init 29 = .ok (.iconst 0, 1) := by decide +kernel
theorem dX1_init_30 : decode cX1_init 30 = .ok (.putfield 27, 3) := by decide +kernel
theorem dX1_init_33 : decode cX1_init 33 = .ok (.aload_n 0, 1) := by decide +kernel
theorem dX1_init_34 : decode cX1_init 34 = .ok (.iconst 0, 1) := by decide +kernel
theorem dX1_init_35 : decode cX1_init 35 = .ok (.putfield 31, 3) := by decide +kernel
theorem dX1_init_38 : decode cX1_init 38 = .ok (.aload_n 0, 1) := by decide +kernel
theorem dX1_init_39 : decode cX1_init 39 = .ok (.iconst 0, 1) := by decide +kernel
theorem dX1_init_40 : decode cX1_init 40 = .ok (.putfield 35, 3) := by decide +kernel
theorem dX1_init_43 : decode cX1_init 43 = .ok (.aload_n 0, 1) := by decide +kernel
theorem dX1_init_44 : decode cX1_init 44 = .ok (.iconst 0, 1) := by decide +kernel
theorem dX1_init_45 : decode cX1_init 45 = .ok (.putfield 38, 3) := by decide +kernel
theorem dX1_init_48 : decode cX1_init 48 = .ok (.aload_n 0, 1) := by decide +kernel
theorem dX1_init_49 : decode cX1_init 49 = .ok (.iconst 0, 1) := by decide +kernel
theorem dX1_init_50 : decode cX1_init 50 = .ok (.putfield 41, 3) := by decide +kernel
theorem dX1_init_53 : decode cX1_init 53 = .ok (.aload_n 0, 1) := by decide +kernel
theorem dX1_init_54 : decode cX1_init 54 = .ok (.bipush 64, 2) := by decide +kernel
theorem dX1_init_56 : decode cX1_init 56 = .ok (.putfield 44, 3) := by decide +kernel
theorem dX1_init_59 : decode cX1_init 59 = .ok (.return_, 1) := by decide +kernel
abbrev cX1_beginCycle : ByteArray := prog_3_method_2_code
def yX1_beginCycle : MethodName := ⟨RX1, "beginCycle", "()V"⟩
theorem dX1_beginCycle_0 : decode cX1_beginCycle 0 = .ok (.aload_n 0, 1) := by decide +kernel
theorem dX1_beginCycle_1 : decode cX1_beginCycle 1 = .ok (.getfield 9, 3) := by decide +kernel
theorem dX1_beginCycle_4 : decode cX1_beginCycle 4 = .ok (.bipush 16, 2) := by decide +kernel
theorem dX1_beginCycle_6 : decode cX1_beginCycle 6 = .ok (.invokevirtual 47, 3) := by decide +kernel
theorem dX1_beginCycle_9 : decode cX1_beginCycle 9 = .ok (.pop, 1) := by decide +kernel
theorem dX1_beginCycle_10 : decode cX1_beginCycle 10 = .ok (.aload_n 0, 1) := by decide +kernel
theorem dX1_beginCycle_11 : decode cX1_beginCycle 11 = .ok (.dup, 1) := by decide +kernel
theorem dX1_beginCycle_12 : decode cX1_beginCycle 12 = .ok (.getfield 35, 3) := by decide +kernel
theorem dX1_beginCycle_15 : decode cX1_beginCycle 15 = .ok (.iconst 1, 1) := by decide +kernel
theorem dX1_beginCycle_16 : decode cX1_beginCycle 16 = .ok (.iadd, 1) := by decide +kernel
theorem dX1_beginCycle_17 : decode cX1_beginCycle 17 = .ok (.putfield 35, 3) := by decide +kernel
theorem dX1_beginCycle_20 : decode cX1_beginCycle 20 = .ok (.aload_n 0, 1) := by decide +kernel
theorem dX1_beginCycle_21 : decode cX1_beginCycle 21 = .ok (.iconst 1, 1) := by decide +kernel
theorem dX1_beginCycle_22 : decode cX1_beginCycle 22 = .ok (.putfield 31, 3) := by decide +kernel
theorem dX1_beginCycle_25 : decode cX1_beginCycle 25 = .ok (.aload_n 0, 1) := by decide +kernel
theorem dX1_beginCycle_26 : decode cX1_beginCycle 26 = .ok (.iconst 0, 1) := by decide +kernel
theorem dX1_beginCycle_27 : decode cX1_beginCycle 27 = .ok (.putfield 27, 3) := by decide +kernel
theorem dX1_beginCycle_30 : decode cX1_beginCycle 30 = .ok (.aload_n 0, 1) := by decide +kernel
theorem dX1_beginCycle_31 : decode cX1_beginCycle 31 = .ok (.getfield 9, 3) := by decide +kernel
theorem dX1_beginCycle_34 : decode cX1_beginCycle 34 = .ok (.getfield 53, 3) := by decide +kernel
theorem dX1_beginCycle_37 : decode cX1_beginCycle 37 = .ok (.iconst 0, 1) := by decide +kernel
theorem dX1_beginCycle_38 : decode cX1_beginCycle 38 = .ok (.invokestatic 56, 3) := by decide +kernel
theorem dX1_beginCycle_41 : decode cX1_beginCycle 41 = .ok (.iconst 0, 1) := by decide +kernel
theorem dX1_beginCycle_42 : decode cX1_beginCycle 42 = .ok (.istore_n 1, 1) := by decide +kernel
theorem dX1_beginCycle_43 : decode cX1_beginCycle 43 = .ok (.iload_n 1, 1) := by decide +kernel
theorem dX1_beginCycle_44 : decode cX1_beginCycle 44 = .ok (.bipush 6, 2) := by decide +kernel
theorem dX1_beginCycle_46 : decode cX1_beginCycle 46 = .ok (.if_icmp .ge 19, 3) := by decide +kernel
theorem dX1_beginCycle_49 : decode cX1_beginCycle 49 = .ok (.aload_n 0, 1) := by decide +kernel
theorem dX1_beginCycle_50 : decode cX1_beginCycle 50 = .ok (.getfield 15, 3) := by decide +kernel
theorem dX1_beginCycle_53 : decode cX1_beginCycle 53 = .ok (.iload_n 1, 1) := by decide +kernel
theorem dX1_beginCycle_54 : decode cX1_beginCycle 54 = .ok (.aaload, 1) := by decide +kernel
theorem dX1_beginCycle_55 : decode cX1_beginCycle 55 = .ok (.iconst 0, 1) := by decide +kernel
theorem dX1_beginCycle_56 : decode cX1_beginCycle 56 = .ok (.putfield 62, 3) := by decide +kernel
theorem dX1_beginCycle_59 : decode cX1_beginCycle 59 = .ok (.iinc 1 1, 3) := by decide +kernel
theorem dX1_beginCycle_62 : decode cX1_beginCycle 62 = .ok (.goto (-19), 3) := by decide +kernel
theorem dX1_beginCycle_65 : decode cX1_beginCycle 65 = .ok (.iconst 0, 1) := by decide +kernel
theorem dX1_beginCycle_66 : decode cX1_beginCycle 66 = .ok (.istore_n 1, 1) := by decide +kernel
theorem dX1_beginCycle_67 : decode cX1_beginCycle 67 = .ok (.iload_n 1, 1) := by decide +kernel
theorem dX1_beginCycle_68 : decode cX1_beginCycle 68 = .ok (.iconst 4, 1) := by decide +kernel
theorem dX1_beginCycle_69 : decode cX1_beginCycle 69 = .ok (.if_icmp .ge 45, 3) := by decide +kernel
theorem dX1_beginCycle_72 : decode cX1_beginCycle 72 = .ok (.iconst 0, 1) := by decide +kernel
theorem dX1_beginCycle_73 : decode cX1_beginCycle 73 = .ok (.istore_n 2, 1) := by decide +kernel
theorem dX1_beginCycle_74 : decode cX1_beginCycle 74 = .ok (.iload_n 2, 1) := by decide +kernel
theorem dX1_beginCycle_75 : decode cX1_beginCycle 75 = .ok (.aload_n 0, 1) := by decide +kernel
theorem dX1_beginCycle_76 : decode cX1_beginCycle 76 = .ok (.getfield 19, 3) := by decide +kernel
theorem dX1_beginCycle_79 : decode cX1_beginCycle 79 = .ok (.iload_n 1, 1) := by decide +kernel
theorem dX1_beginCycle_80 : decode cX1_beginCycle 80 = .ok (.aaload, 1) := by decide +kernel
theorem dX1_beginCycle_81 : decode cX1_beginCycle 81 = .ok (.getfield 67, 3) := by decide +kernel
theorem dX1_beginCycle_84 : decode cX1_beginCycle 84 = .ok (.if_icmp .ge 24, 3) := by decide +kernel
theorem dX1_beginCycle_87 : decode cX1_beginCycle 87 = .ok (.aload_n 0, 1) := by decide +kernel
theorem dX1_beginCycle_88 : decode cX1_beginCycle 88 = .ok (.aload_n 0, 1) := by decide +kernel
theorem dX1_beginCycle_89 : decode cX1_beginCycle 89 = .ok (.getfield 19, 3) := by decide +kernel
theorem dX1_beginCycle_92 : decode cX1_beginCycle 92 = .ok (.iload_n 1, 1) := by decide +kernel
theorem dX1_beginCycle_93 : decode cX1_beginCycle 93 = .ok (.aaload, 1) := by decide +kernel
theorem dX1_beginCycle_94 : decode cX1_beginCycle 94 = .ok (.getfield 72, 3) := by decide +kernel
theorem dX1_beginCycle_97 : decode cX1_beginCycle 97 = .ok (.iload_n 2, 1) := by decide +kernel
theorem dX1_beginCycle_98 : decode cX1_beginCycle 98 = .ok (.iaload, 1) := by decide +kernel
theorem dX1_beginCycle_99 : decode cX1_beginCycle 99 = .ok (.invokevirtual 75, 3) := by decide +kernel
theorem dX1_beginCycle_102 : decode cX1_beginCycle 102 = .ok (.iinc 2 1, 3) := by decide +kernel
theorem dX1_beginCycle_105 : decode cX1_beginCycle 105 = .ok (.goto (-31), 3) := by decide +kernel
theorem dX1_beginCycle_108 : decode cX1_beginCycle 108 = .ok (.iinc 1 1, 3) := by decide +kernel
theorem dX1_beginCycle_111 : decode cX1_beginCycle 111 = .ok (.goto (-44), 3) := by decide +kernel
theorem dX1_beginCycle_114 : decode cX1_beginCycle 114 = .ok (.return_, 1) := by decide +kernel
abbrev cX1_workBeforePlacing : ByteArray := prog_3_method_3_code
def yX1_workBeforePlacing : MethodName := ⟨RX1, "workBeforePlacing", "(I)V"⟩
theorem dX1_workBeforePlacing_0 : decode cX1_workBeforePlacing 0 = .ok (.aload_n 0, 1) := by decide +kernel
theorem dX1_workBeforePlacing_1 : decode cX1_workBeforePlacing 1 = .ok (.getfield 31, 3) := by decide +kernel
theorem dX1_workBeforePlacing_4 : decode cX1_workBeforePlacing 4 = .ok (.ifCond .ne 18, 3) := by decide +kernel
theorem dX1_workBeforePlacing_7 : decode cX1_workBeforePlacing 7 = .ok (.aload_n 0, 1) := by decide +kernel
theorem dX1_workBeforePlacing_8 : decode cX1_workBeforePlacing 8 = .ok (.getfield 41, 3) := by decide +kernel
theorem dX1_workBeforePlacing_11 : decode cX1_workBeforePlacing 11 = .ok (.aload_n 0, 1) := by decide +kernel
theorem dX1_workBeforePlacing_12 : decode cX1_workBeforePlacing 12 = .ok (.getfield 44, 3) := by decide +kernel
theorem dX1_workBeforePlacing_15 : decode cX1_workBeforePlacing 15 = .ok (.if_icmp .lt 7, 3) := by decide +kernel
theorem dX1_workBeforePlacing_18 : decode cX1_workBeforePlacing 18 = .ok (.aload_n 0, 1) := by decide +kernel
theorem dX1_workBeforePlacing_19 : decode cX1_workBeforePlacing 19 = .ok (.invokevirtual 79, 3) := by decide +kernel
theorem dX1_workBeforePlacing_22 : decode cX1_workBeforePlacing 22 = .ok (.aload_n 0, 1) := by decide +kernel
theorem dX1_workBeforePlacing_23 : decode cX1_workBeforePlacing 23 = .ok (.getfield 31, 3) := by decide +kernel
theorem dX1_workBeforePlacing_26 : decode cX1_workBeforePlacing 26 = .ok (.ifCond .eq 9, 3) := by decide +kernel
theorem dX1_workBeforePlacing_29 : decode cX1_workBeforePlacing 29 = .ok (.aload_n 0, 1) := by decide +kernel
theorem dX1_workBeforePlacing_30 : decode cX1_workBeforePlacing 30 = .ok (.iload_n 1, 1) := by decide +kernel
theorem dX1_workBeforePlacing_31 : decode cX1_workBeforePlacing 31 = .ok (.invokevirtual 82, 3) := by decide +kernel
theorem dX1_workBeforePlacing_34 : decode cX1_workBeforePlacing 34 = .ok (.pop, 1) := by decide +kernel
theorem dX1_workBeforePlacing_35 : decode cX1_workBeforePlacing 35 = .ok (.return_, 1) := by decide +kernel
abbrev cX1_markOfPlaced : ByteArray := prog_3_method_4_code
def yX1_markOfPlaced : MethodName := ⟨RX1, "markOfPlaced", "()I"⟩
theorem dX1_markOfPlaced_0 : decode cX1_markOfPlaced 0 = .ok (.aload_n 0, 1) := by decide +kernel
theorem dX1_markOfPlaced_1 : decode cX1_markOfPlaced 1 = .ok (.getfield 31, 3) := by decide +kernel
theorem dX1_markOfPlaced_4 : decode cX1_markOfPlaced 4 = .ok (.ifCond .eq 7, 3) := by decide +kernel
theorem dX1_markOfPlaced_7 : decode cX1_markOfPlaced 7 = .ok (.iconst 1, 1) := by decide +kernel
theorem dX1_markOfPlaced_8 : decode cX1_markOfPlaced 8 = .ok (.goto 4, 3) := by decide +kernel
theorem dX1_markOfPlaced_11 : decode cX1_markOfPlaced 11 = .ok (.iconst 0, 1) := by decide +kernel
theorem dX1_markOfPlaced_12 : decode cX1_markOfPlaced 12 = .ok (.ireturn, 1) := by decide +kernel
abbrev cX1_finishMarking : ByteArray := prog_3_method_5_code
def yX1_finishMarking : MethodName := ⟨RX1, "finishMarking", "()V"⟩
theorem dX1_finishMarking_0 : decode cX1_finishMarking 0 = .ok (.aload_n 0, 1) := by decide +kernel
theorem dX1_finishMarking_1 : decode cX1_finishMarking 1 = .ok (.getfield 31, 3) := by decide +kernel
theorem dX1_finishMarking_4 : decode cX1_finishMarking 4 = .ok (.ifCond .eq 11, 3) := by decide +kernel
theorem dX1_finishMarking_7 : decode cX1_finishMarking 7 = .ok (.aload_n 0, 1) := by decide +kernel
theorem dX1_finishMarking_8 : decode cX1_finishMarking 8 = .ok (.sipush 134, 3) := by decide +kernel
theorem dX1_finishMarking_11 : decode cX1_finishMarking 11 = .ok (.invokevirtual 82, 3) := by decide +kernel
theorem dX1_finishMarking_14 : decode cX1_finishMarking 14 = .ok (.pop, 1) := by decide +kernel
theorem dX1_finishMarking_15 : decode cX1_finishMarking 15 = .ok (.return_, 1) := by decide +kernel
abbrev cX1_work : ByteArray := prog_3_method_6_code
def yX1_work : MethodName := ⟨RX1, "work", "(I)I"⟩
theorem dX1_work_0 : decode cX1_work 0 = .ok (.iload_n 1, 1) := by decide +kernel
theorem dX1_work_1 : decode cX1_work 1 = .ok (.sipush 134, 3) := by decide +kernel
theorem dX1_work_4 : decode cX1_work 4 = .ok (.invokestatic 85, 3) := by decide +kernel
theorem dX1_work_7 : decode cX1_work 7 = .ok (.istore_n 2, 1) := by decide +kernel
theorem dX1_work_8 : decode cX1_work 8 = .ok (.iconst 0, 1) := by decide +kernel
theorem dX1_work_9 : decode cX1_work 9 = .ok (.istore_n 3, 1) := by decide +kernel
theorem dX1_work_10 : decode cX1_work 10 = .ok (.iload_n 3, 1) := by decide +kernel
theorem dX1_work_11 : decode cX1_work 11 = .ok (.iload_n 2, 1) := by decide +kernel
theorem dX1_work_12 : decode cX1_work 12 = .ok (.if_icmp .ge 20, 3) := by decide +kernel
theorem dX1_work_15 : decode cX1_work 15 = .ok (.aload_n 0, 1) := by decide +kernel
theorem dX1_work_16 : decode cX1_work 16 = .ok (.invokevirtual 91, 3) := by decide +kernel
theorem dX1_work_19 : decode cX1_work 19 = .ok (.ifCond .eq 13, 3) := by decide +kernel
theorem dX1_work_22 : decode cX1_work 22 = .ok (.aload_n 0, 1) := by decide +kernel
theorem dX1_work_23 : decode cX1_work 23 = .ok (.invokevirtual 95, 3) := by decide +kernel
theorem dX1_work_26 : decode cX1_work 26 = .ok (.iinc 3 1, 3) := by decide +kernel
theorem dX1_work_29 : decode cX1_work 29 = .ok (.goto (-19), 3) := by decide +kernel
theorem dX1_work_32 : decode cX1_work 32 = .ok (.aload_n 0, 1) := by decide +kernel
theorem dX1_work_33 : decode cX1_work 33 = .ok (.dup, 1) := by decide +kernel
theorem dX1_work_34 : decode cX1_work 34 = .ok (.getfield 38, 3) := by decide +kernel
theorem dX1_work_37 : decode cX1_work 37 = .ok (.iload_n 3, 1) := by decide +kernel
theorem dX1_work_38 : decode cX1_work 38 = .ok (.iadd, 1) := by decide +kernel
theorem dX1_work_39 : decode cX1_work 39 = .ok (.putfield 38, 3) := by decide +kernel
theorem dX1_work_42 : decode cX1_work 42 = .ok (.aload_n 0, 1) := by decide +kernel
theorem dX1_work_43 : decode cX1_work 43 = .ok (.invokevirtual 91, 3) := by decide +kernel
theorem dX1_work_46 : decode cX1_work 46 = .ok (.ifCond .ne 7, 3) := by decide +kernel
theorem dX1_work_49 : decode cX1_work 49 = .ok (.aload_n 0, 1) := by decide +kernel
theorem dX1_work_50 : decode cX1_work 50 = .ok (.invokevirtual 98, 3) := by decide +kernel
theorem dX1_work_53 : decode cX1_work 53 = .ok (.iload_n 3, 1) := by decide +kernel
theorem dX1_work_54 : decode cX1_work 54 = .ok (.ireturn, 1) := by decide +kernel
abbrev cX1_note : ByteArray := prog_3_method_7_code
def yX1_note : MethodName := ⟨RX1, "note", "(I)V"⟩
theorem dX1_note_0 : decode cX1_note 0 = .ok (.aload_n 0, 1) := by decide +kernel
theorem dX1_note_1 : decode cX1_note 1 = .ok (.getfield 31, 3) := by decide +kernel
theorem dX1_note_4 : decode cX1_note 4 = .ok (.ifCond .eq 14, 3) := by decide +kernel
theorem dX1_note_7 : decode cX1_note 7 = .ok (.iload_n 1, 1) := by decide +kernel
theorem dX1_note_8 : decode cX1_note 8 = .ok (.ifCond .lt 10, 3) := by decide +kernel
theorem dX1_note_11 : decode cX1_note 11 = .ok (.iload_n 1, 1) := by decide +kernel
theorem dX1_note_12 : decode cX1_note 12 = .ok (.sipush 256, 3) := by decide +kernel
theorem dX1_note_15 : decode cX1_note 15 = .ok (.if_icmp .lt 4, 3) := by decide +kernel
theorem dX1_note_18 : decode cX1_note 18 = .ok (.return_, 1) := by decide +kernel
theorem dX1_note_19 : decode cX1_note 19 = .ok (.iload_n 1, 1) := by decide +kernel
theorem dX1_note_20 : decode cX1_note 20 = .ok (.iconst 2, 1) := by decide +kernel
theorem dX1_note_21 : decode cX1_note 21 = .ok (.idiv, 1) := by decide +kernel
theorem dX1_note_22 : decode cX1_note 22 = .ok (.istore_n 2, 1) := by decide +kernel
theorem dX1_note_23 : decode cX1_note 23 = .ok (.aload_n 0, 1) := by decide +kernel
theorem dX1_note_24 : decode cX1_note 24 = .ok (.getfield 9, 3) := by decide +kernel
theorem dX1_note_27 : decode cX1_note 27 = .ok (.getfield 53, 3) := by decide +kernel
theorem dX1_note_30 : decode cX1_note 30 = .ok (.iload_n 2, 1) := by decide +kernel
theorem dX1_note_31 : decode cX1_note 31 = .ok (.iaload, 1) := by decide +kernel
theorem dX1_note_32 : decode cX1_note 32 = .ok (.ifCond .ne 43, 3) := by decide +kernel
theorem dX1_note_35 : decode cX1_note 35 = .ok (.aload_n 0, 1) := by decide +kernel
theorem dX1_note_36 : decode cX1_note 36 = .ok (.getfield 27, 3) := by decide +kernel
theorem dX1_note_39 : decode cX1_note 39 = .ok (.sipush 128, 3) := by decide +kernel
theorem dX1_note_42 : decode cX1_note 42 = .ok (.if_icmp .ge 33, 3) := by decide +kernel
theorem dX1_note_45 : decode cX1_note 45 = .ok (.aload_n 0, 1) := by decide +kernel
theorem dX1_note_46 : decode cX1_note 46 = .ok (.getfield 9, 3) := by decide +kernel
theorem dX1_note_49 : decode cX1_note 49 = .ok (.getfield 53, 3) := by decide +kernel
theorem dX1_note_52 : decode cX1_note 52 = .ok (.iload_n 2, 1) := by decide +kernel
theorem dX1_note_53 : decode cX1_note 53 = .ok (.iconst 2, 1) := by decide +kernel
theorem dX1_note_54 : decode cX1_note 54 = .ok (.iastore, 1) := by decide +kernel
theorem dX1_note_55 : decode cX1_note 55 = .ok (.aload_n 0, 1) := by decide +kernel
theorem dX1_note_56 : decode cX1_note 56 = .ok (.getfield 23, 3) := by decide +kernel
theorem dX1_note_59 : decode cX1_note 59 = .ok (.aload_n 0, 1) := by decide +kernel
theorem dX1_note_60 : decode cX1_note 60 = .ok (.getfield 27, 3) := by decide +kernel
theorem dX1_note_63 : decode cX1_note 63 = .ok (.iload_n 1, 1) := by decide +kernel
theorem dX1_note_64 : decode cX1_note 64 = .ok (.iastore, 1) := by decide +kernel
theorem dX1_note_65 : decode cX1_note 65 = .ok (.aload_n 0, 1) := by decide +kernel
theorem dX1_note_66 : decode cX1_note 66 = .ok (.dup, 1) := by decide +kernel
theorem dX1_note_67 : decode cX1_note 67 = .ok (.getfield 27, 3) := by decide +kernel
theorem dX1_note_70 : decode cX1_note 70 = .ok (.iconst 1, 1) := by decide +kernel
theorem dX1_note_71 : decode cX1_note 71 = .ok (.iadd, 1) := by decide +kernel
theorem dX1_note_72 : decode cX1_note 72 = .ok (.putfield 27, 3) := by decide +kernel
theorem dX1_note_75 : decode cX1_note 75 = .ok (.return_, 1) := by decide +kernel
abbrev cX1_workIsLeft : ByteArray := prog_3_method_8_code
def yX1_workIsLeft : MethodName := ⟨RX1, "workIsLeft", "()Z"⟩
theorem dX1_workIsLeft_0 : decode cX1_workIsLeft 0 = .ok (.aload_n 0, 1) := by decide +kernel
theorem dX1_workIsLeft_1 : decode cX1_workIsLeft 1 = .ok (.getfield 27, 3) := by decide +kernel
theorem dX1_workIsLeft_4 : decode cX1_workIsLeft 4 = .ok (.ifCond .gt 10, 3) := by decide +kernel
theorem dX1_workIsLeft_7 : decode cX1_workIsLeft 7 = .ok (.aload_n 0, 1) := by decide +kernel
theorem dX1_workIsLeft_8 : decode cX1_workIsLeft 8 = .ok (.invokevirtual 101, 3) := by decide +kernel
theorem dX1_workIsLeft_11 : decode cX1_workIsLeft 11 = .ok (.ifnull 7, 3) := by decide +kernel
theorem dX1_workIsLeft_14 : decode cX1_workIsLeft 14 = .ok (.iconst 1, 1) := by decide +kernel
theorem dX1_workIsLeft_15 : decode cX1_workIsLeft 15 = .ok (.goto 4, 3) := by decide +kernel
theorem dX1_workIsLeft_18 : decode cX1_workIsLeft 18 = .ok (.iconst 0, 1) := by decide +kernel
theorem dX1_workIsLeft_19 : decode cX1_workIsLeft 19 = .ok (.ireturn, 1) := by decide +kernel
abbrev cX1_nextToScan : ByteArray := prog_3_method_9_code
def yX1_nextToScan : MethodName := ⟨RX1, "nextToScan", "()LFiberHeap$Fiber;"⟩
theorem dX1_nextToScan_0 : decode cX1_nextToScan 0 = .ok (.iconst 0, 1) := by decide +kernel
theorem dX1_nextToScan_1 : decode cX1_nextToScan 1 = .ok (.istore_n 1, 1) := by decide +kernel
theorem dX1_nextToScan_2 : decode cX1_nextToScan 2 = .ok (.iload_n 1, 1) := by decide +kernel
theorem dX1_nextToScan_3 : decode cX1_nextToScan 3 = .ok (.bipush 6, 2) := by decide +kernel
theorem dX1_nextToScan_5 : decode cX1_nextToScan 5 = .ok (.if_icmp .ge 40, 3) := by decide +kernel
theorem dX1_nextToScan_8 : decode cX1_nextToScan 8 = .ok (.aload_n 0, 1) := by decide +kernel
theorem dX1_nextToScan_9 : decode cX1_nextToScan 9 = .ok (.getfield 15, 3) := by decide +kernel
theorem dX1_nextToScan_12 : decode cX1_nextToScan 12 = .ok (.iload_n 1, 1) := by decide +kernel
theorem dX1_nextToScan_13 : decode cX1_nextToScan 13 = .ok (.aaload, 1) := by decide +kernel
theorem dX1_nextToScan_14 : decode cX1_nextToScan 14 = .ok (.getfield 105, 3) := by decide +kernel
theorem dX1_nextToScan_17 : decode cX1_nextToScan 17 = .ok (.ifCond .eq 22, 3) := by decide +kernel
theorem dX1_nextToScan_20 : decode cX1_nextToScan 20 = .ok (.aload_n 0, 1) := by decide +kernel
theorem dX1_nextToScan_21 : decode cX1_nextToScan 21 = .ok (.getfield 15, 3) := by decide +kernel
theorem dX1_nextToScan_24 : decode cX1_nextToScan 24 = .ok (.iload_n 1, 1) := by decide +kernel
theorem dX1_nextToScan_25 : decode cX1_nextToScan 25 = .ok (.aaload, 1) := by decide +kernel
theorem dX1_nextToScan_26 : decode cX1_nextToScan 26 = .ok (.getfield 62, 3) := by decide +kernel
theorem dX1_nextToScan_29 : decode cX1_nextToScan 29 = .ok (.ifCond .ne 10, 3) := by decide +kernel
theorem dX1_nextToScan_32 : decode cX1_nextToScan 32 = .ok (.aload_n 0, 1) := by decide +kernel
theorem dX1_nextToScan_33 : decode cX1_nextToScan 33 = .ok (.getfield 15, 3) := by decide +kernel
theorem dX1_nextToScan_36 : decode cX1_nextToScan 36 = .ok (.iload_n 1, 1) := by decide +kernel
theorem dX1_nextToScan_37 : decode cX1_nextToScan 37 = .ok (.aaload, 1) := by decide +kernel
theorem dX1_nextToScan_38 : decode cX1_nextToScan 38 = .ok (.areturn, 1) := by decide +kernel
theorem dX1_nextToScan_39 : decode cX1_nextToScan 39 = .ok (.iinc 1 1, 3) := by decide +kernel
theorem dX1_nextToScan_42 : decode cX1_nextToScan 42 = .ok (.goto (-40), 3) := by decide +kernel
theorem dX1_nextToScan_45 : decode cX1_nextToScan 45 = .ok (.aconst_null, 1) := by decide +kernel
theorem dX1_nextToScan_46 : decode cX1_nextToScan 46 = .ok (.areturn, 1) := by decide +kernel
abbrev cX1_doPiece : ByteArray := prog_3_method_10_code
def yX1_doPiece : MethodName := ⟨RX1, "doPiece", "()V"⟩
theorem dX1_doPiece_0 : decode cX1_doPiece 0 = .ok (.aload_n 0, 1) := by decide +kernel
theorem dX1_doPiece_1 : decode cX1_doPiece 1 = .ok (.invokevirtual 101, 3) := by decide +kernel
theorem dX1_doPiece_4 : decode cX1_doPiece 4 = .ok (.astore_n 1, 1) := by decide +kernel
theorem dX1_doPiece_5 : decode cX1_doPiece 5 = .ok (.aload_n 1, 1) := by decide +kernel
theorem dX1_doPiece_6 : decode cX1_doPiece 6 = .ok (.ifnull 11, 3) := by decide +kernel
theorem dX1_doPiece_9 : decode cX1_doPiece 9 = .ok (.aload_n 0, 1) := by decide +kernel
theorem dX1_doPiece_10 : decode cX1_doPiece 10 = .ok (.aload_n 1, 1) := by decide +kernel
theorem dX1_doPiece_11 : decode cX1_doPiece 11 = .ok (.invokevirtual 108, 3) := by decide +kernel
theorem dX1_doPiece_14 : decode cX1_doPiece 14 = .ok (.goto 33, 3) := by decide +kernel
theorem dX1_doPiece_17 : decode cX1_doPiece 17 = .ok (.aload_n 0, 1) := by decide +kernel
theorem dX1_doPiece_18 : decode cX1_doPiece 18 = .ok (.getfield 27, 3) := by decide +kernel
theorem dX1_doPiece_21 : decode cX1_doPiece 21 = .ok (.ifCond .le 26, 3) := by decide +kernel
theorem dX1_doPiece_24 : decode cX1_doPiece 24 = .ok (.aload_n 0, 1) := by decide +kernel
theorem dX1_doPiece_25 : decode cX1_doPiece 25 = .ok (.dup, 1) := by decide +kernel
theorem dX1_doPiece_26 : decode cX1_doPiece 26 = .ok (.getfield 27, 3) := by decide +kernel
theorem dX1_doPiece_29 : decode cX1_doPiece 29 = .ok (.iconst 1, 1) := by decide +kernel
theorem dX1_doPiece_30 : decode cX1_doPiece 30 = .ok (.isub, 1) := by decide +kernel
theorem dX1_doPiece_31 : decode cX1_doPiece 31 = .ok (.putfield 27, 3) := by decide +kernel
theorem dX1_doPiece_34 : decode cX1_doPiece 34 = .ok (.aload_n 0, 1) := by decide +kernel
theorem dX1_doPiece_35 : decode cX1_doPiece 35 = .ok (.aload_n 0, 1) := by decide +kernel
theorem dX1_doPiece_36 : decode cX1_doPiece 36 = .ok (.getfield 23, 3) := by decide +kernel
theorem dX1_doPiece_39 : decode cX1_doPiece 39 = .ok (.aload_n 0, 1) := by decide +kernel
theorem dX1_doPiece_40 : decode cX1_doPiece 40 = .ok (.getfield 27, 3) := by decide +kernel
theorem dX1_doPiece_43 : decode cX1_doPiece 43 = .ok (.iaload, 1) := by decide +kernel
theorem dX1_doPiece_44 : decode cX1_doPiece 44 = .ok (.invokevirtual 112, 3) := by decide +kernel
theorem dX1_doPiece_47 : decode cX1_doPiece 47 = .ok (.return_, 1) := by decide +kernel
abbrev cX1_scan : ByteArray := prog_3_method_11_code
def yX1_scan : MethodName := ⟨RX1, "scan", "(LFiberHeap$Fiber;)V"⟩
theorem dX1_scan_0 : decode cX1_scan 0 = .ok (.iconst 0, 1) := by decide +kernel
theorem dX1_scan_1 : decode cX1_scan 1 = .ok (.istore_n 2, 1) := by decide +kernel
theorem dX1_scan_2 : decode cX1_scan 2 = .ok (.iload_n 2, 1) := by decide +kernel
theorem dX1_scan_3 : decode cX1_scan 3 = .ok (.aload_n 1, 1) := by decide +kernel
theorem dX1_scan_4 : decode cX1_scan 4 = .ok (.getfield 115, 3) := by decide +kernel
theorem dX1_scan_7 : decode cX1_scan 7 = .ok (.iconst 4, 1) := by decide +kernel
theorem dX1_scan_8 : decode cX1_scan 8 = .ok (.imul, 1) := by decide +kernel
theorem dX1_scan_9 : decode cX1_scan 9 = .ok (.if_icmp .ge 19, 3) := by decide +kernel
theorem dX1_scan_12 : decode cX1_scan 12 = .ok (.aload_n 0, 1) := by decide +kernel
theorem dX1_scan_13 : decode cX1_scan 13 = .ok (.aload_n 1, 1) := by decide +kernel
theorem dX1_scan_14 : decode cX1_scan 14 = .ok (.getfield 118, 3) := by decide +kernel
theorem dX1_scan_17 : decode cX1_scan 17 = .ok (.iload_n 2, 1) := by decide +kernel
theorem dX1_scan_18 : decode cX1_scan 18 = .ok (.iaload, 1) := by decide +kernel
theorem dX1_scan_19 : decode cX1_scan 19 = .ok (.invokevirtual 75, 3) := by decide +kernel
theorem dX1_scan_22 : decode cX1_scan 22 = .ok (.iinc 2 1, 3) := by decide +kernel
theorem dX1_scan_25 : decode cX1_scan 25 = .ok (.goto (-23), 3) := by decide +kernel
theorem dX1_scan_28 : decode cX1_scan 28 = .ok (.aload_n 1, 1) := by decide +kernel
theorem dX1_scan_29 : decode cX1_scan 29 = .ok (.iconst 1, 1) := by decide +kernel
theorem dX1_scan_30 : decode cX1_scan 30 = .ok (.putfield 62, 3) := by decide +kernel
theorem dX1_scan_33 : decode cX1_scan 33 = .ok (.aload_n 1, 1) := by decide +kernel
theorem dX1_scan_34 : decode cX1_scan 34 = .ok (.invokevirtual 121, 3) := by decide +kernel
theorem dX1_scan_37 : decode cX1_scan 37 = .ok (.return_, 1) := by decide +kernel
abbrev cX1_lookAt : ByteArray := prog_3_method_12_code
def yX1_lookAt : MethodName := ⟨RX1, "lookAt", "(I)V"⟩
theorem dX1_lookAt_0 : decode cX1_lookAt 0 = .ok (.aload_n 0, 1) := by decide +kernel
theorem dX1_lookAt_1 : decode cX1_lookAt 1 = .ok (.getfield 9, 3) := by decide +kernel
theorem dX1_lookAt_4 : decode cX1_lookAt 4 = .ok (.getfield 124, 3) := by decide +kernel
theorem dX1_lookAt_7 : decode cX1_lookAt 7 = .ok (.iload_n 1, 1) := by decide +kernel
theorem dX1_lookAt_8 : decode cX1_lookAt 8 = .ok (.iconst 2, 1) := by decide +kernel
theorem dX1_lookAt_9 : decode cX1_lookAt 9 = .ok (.idiv, 1) := by decide +kernel
theorem dX1_lookAt_10 : decode cX1_lookAt 10 = .ok (.iaload, 1) := by decide +kernel
theorem dX1_lookAt_11 : decode cX1_lookAt 11 = .ok (.istore_n 2, 1) := by decide +kernel
theorem dX1_lookAt_12 : decode cX1_lookAt 12 = .ok (.iconst 0, 1) := by decide +kernel
theorem dX1_lookAt_13 : decode cX1_lookAt 13 = .ok (.istore_n 3, 1) := by decide +kernel
theorem dX1_lookAt_14 : decode cX1_lookAt 14 = .ok (.iload_n 3, 1) := by decide +kernel
theorem dX1_lookAt_15 : decode cX1_lookAt 15 = .ok (.iload_n 2, 1) := by decide +kernel
theorem dX1_lookAt_16 : decode cX1_lookAt 16 = .ok (.if_icmp .ge 24, 3) := by decide +kernel
theorem dX1_lookAt_19 : decode cX1_lookAt 19 = .ok (.aload_n 0, 1) := by decide +kernel
theorem dX1_lookAt_20 : decode cX1_lookAt 20 = .ok (.aload_n 0, 1) := by decide +kernel
theorem dX1_lookAt_21 : decode cX1_lookAt 21 = .ok (.getfield 9, 3) := by decide +kernel
theorem dX1_lookAt_24 : decode cX1_lookAt 24 = .ok (.getfield 127, 3) := by decide +kernel
theorem dX1_lookAt_27 : decode cX1_lookAt 27 = .ok (.iload_n 1, 1) := by decide +kernel
theorem dX1_lookAt_28 : decode cX1_lookAt 28 = .ok (.iload_n 3, 1) := by decide +kernel
theorem dX1_lookAt_29 : decode cX1_lookAt 29 = .ok (.iadd, 1) := by decide +kernel
theorem dX1_lookAt_30 : decode cX1_lookAt 30 = .ok (.iaload, 1) := by decide +kernel
theorem dX1_lookAt_31 : decode cX1_lookAt 31 = .ok (.invokevirtual 75, 3) := by decide +kernel
theorem dX1_lookAt_34 : decode cX1_lookAt 34 = .ok (.iinc 3 1, 3) := by decide +kernel
theorem dX1_lookAt_37 : decode cX1_lookAt 37 = .ok (.goto (-23), 3) := by decide +kernel
theorem dX1_lookAt_40 : decode cX1_lookAt 40 = .ok (.return_, 1) := by decide +kernel
abbrev cX1_endMarking : ByteArray := prog_3_method_13_code
def yX1_endMarking : MethodName := ⟨RX1, "endMarking", "()V"⟩
theorem dX1_endMarking_0 : decode cX1_endMarking 0 = .ok (.aload_n 0, 1) := by decide +kernel
theorem dX1_endMarking_1 : decode cX1_endMarking 1 = .ok (.iconst 0, 1) := by decide +kernel
theorem dX1_endMarking_2 : decode cX1_endMarking 2 = .ok (.putfield 31, 3) := by decide +kernel
theorem dX1_endMarking_5 : decode cX1_endMarking 5 = .ok (.aload_n 0, 1) := by decide +kernel
theorem dX1_endMarking_6 : decode cX1_endMarking 6 = .ok (.getfield 9, 3) := by decide +kernel
theorem dX1_endMarking_9 : decode cX1_endMarking 9 = .ok (.invokevirtual 130, 3) := by decide +kernel
theorem dX1_endMarking_12 : decode cX1_endMarking 12 = .ok (.aload_n 0, 1) := by decide +kernel
theorem dX1_endMarking_13 : decode cX1_endMarking 13 = .ok (.iconst 0, 1) := by decide +kernel
theorem dX1_endMarking_14 : decode cX1_endMarking 14 = .ok (.putfield 41, 3) := by decide +kernel
theorem dX1_endMarking_17 : decode cX1_endMarking 17 = .ok (.aload_n 0, 1) := by decide +kernel
theorem dX1_endMarking_18 : decode cX1_endMarking 18 = .ok (.bipush 64, 2) := by decide +kernel
theorem dX1_endMarking_20 : decode cX1_endMarking 20 = .ok (.aload_n 0, 1) := by decide +kernel
theorem dX1_endMarking_21 : decode cX1_endMarking 21 = .ok (.getfield 9, 3) := by decide +kernel
theorem dX1_endMarking_24 : decode cX1_endMarking 24 = .ok (.invokevirtual 133, 3) := by decide +kernel
theorem dX1_endMarking_27 : decode cX1_endMarking 27 = .ok (.iconst 2, 1) := by decide +kernel
theorem dX1_endMarking_28 : decode cX1_endMarking 28 = .ok (.idiv, 1) := by decide +kernel
theorem dX1_endMarking_29 : decode cX1_endMarking 29 = .ok (.invokestatic 137, 3) := by decide +kernel
theorem dX1_endMarking_32 : decode cX1_endMarking 32 = .ok (.putfield 44, 3) := by decide +kernel
theorem dX1_endMarking_35 : decode cX1_endMarking 35 = .ok (.return_, 1) := by decide +kernel
