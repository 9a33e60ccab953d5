def RX4 : String := "FiberHeap"
def TX4 : u_T := fun k => match k with
  | 0 => ("FiberHeap", "heap", "LFiberHeap$Heap;", true)
  | 1 => ("FiberHeap", "fibers", "[LFiberHeap$Fiber;", true)
  | 2 => ("FiberHeap", "channels", "[LFiberHeap$Channel;", true)
  | 3 => ("FiberHeap", "collector", "LFiberHeap$Collector;", true)
  | _ => ("FiberHeap", "nextTicket", "I", false)
def tyX4 : Nat → FieldType := fun k => match k with
  | 0 => .object "FiberHeap$Heap"
  | 1 => .array (.object "FiberHeap$Fiber")
  | 2 => .array (.object "FiberHeap$Channel")
  | 3 => .object "FiberHeap$Collector"
  | _ => .int
theorem nmX4 : ∀ a, a < 5 → ∀ b, b < 5 → a ≠ b → (TX4 a).2.1 ≠ (TX4 b).2.1 := by decide +kernel
theorem tyX4_ok : ∀ k, k < 5 → parseFieldDescriptor (TX4 k).2.2.1 = some (tyX4 k) := by decide +kernel
abbrev cX4_init : ByteArray := prog_1_method_1_code
def yX4_init : MethodName := ⟨RX4, "<init>", "()V"⟩
theorem dX4_init_0 : decode cX4_init 0 = .ok (.aload_n 0, 1) := by decide +kernel
theorem dX4_init_1 : decode cX4_init 1 = .ok (.invokespecial 3, 3) := by decide +kernel
theorem dX4_init_4 : decode cX4_init 4 = .ok (.aload_n 0, 1) := by decide +kernel
theorem dX4_init_5 : decode cX4_init 5 = .ok (.new 9, 3) := by decide +kernel
theorem dX4_init_8 : decode cX4_init 8 = .ok (.dup, 1) := by decide +kernel
theorem dX4_init_9 : decode cX4_init 9 = .ok (.invokespecial 11, 3) := by decide +kernel
theorem dX4_init_12 : decode cX4_init 12 = .ok (.putfield 12, 3) := by decide +kernel
theorem dX4_init_15 : decode cX4_init 15 = .ok (.aload_n 0, 1) := by decide +kernel
theorem dX4_init_16 : decode cX4_init 16 = .ok (.bipush 6, 2) := by decide +kernel
theorem dX4_init_18 : decode cX4_init 18 = .ok (.anewarray 16, 3) := by decide +kernel
theorem dX4_init_21 : decode cX4_init 21 = .ok (.putfield 18, 3) := by decide +kernel
theorem dX4_init_24 : decode cX4_init 24 = .ok (.iconst 0, 1) := by decide +kernel
theorem dX4_init_25 : decode cX4_init 25 = .ok (.istore_n 1, 1) := by decide +kernel
theorem dX4_init_26 : decode cX4_init 26 = .ok (.iload_n 1, 1) := by decide +kernel
theorem dX4_init_27 : decode cX4_init 27 = .ok (.bipush 6, 2) := by decide +kernel
theorem dX4_init_29 : decode cX4_init 29 = .ok (.if_icmp .ge 22, 3) := by decide +kernel
theorem dX4_init_32 : decode cX4_init 32 = .ok (.aload_n 0, 1) := by decide +kernel
theorem dX4_init_33 : decode cX4_init 33 = .ok (.getfield 18, 3) := by decide +kernel
theorem dX4_init_36 : decode cX4_init 36 = .ok (.iload_n 1, 1) := by decide +kernel
theorem dX4_init_37 : decode cX4_init 37 = .ok (.new 16, 3) := by decide +kernel
theorem dX4_init_40 : decode cX4_init 40 = .ok (.dup, 1) := by decide +kernel
theorem dX4_init_41 : decode cX4_init 41 = .ok (.invokespecial 22, 3) := by decide +kernel
theorem dX4_init_44 : decode cX4_init 44 = .ok (.aastore, 1) := by decide +kernel
theorem dX4_init_45 : decode cX4_init 45 = .ok (.iinc 1 1, 3) := by decide +kernel
theorem dX4_init_48 : decode cX4_init 48 = .ok (.goto (-22), 3) := by decide +kernel
theorem dX4_init_51 : decode cX4_init 51 = .ok (.aload_n 0, 1) := by decide +kernel
theorem dX4_init_52 : decode cX4_init 52 = .ok (.iconst 4, 1) := by decide +kernel
theorem dX4_init_53 : decode cX4_init 53 = .ok (.anewarray 23, 3) := by decide +kernel
theorem dX4_init_56 : decode cX4_init 56 = .ok (.putfield 25, 3) := by decide +kernel
theorem dX4_init_59 : decode cX4_init 59 = .ok (.iconst 0, 1) := by decide +kernel
theorem dX4_init_60 : decode cX4_init 60 = .ok (.istore_n 1, 1) := by decide +kernel
theorem dX4_init_61 : decode cX4_init 61 = .ok (.iload_n 1, 1) := by decide +kernel
theorem dX4_init_62 : decode cX4_init 62 = .ok (.iconst 4, 1) := by decide +kernel
theorem dX4_init_63 : decode cX4_init 63 = .ok (.if_icmp .ge 23, 3) := by decide +kernel
theorem dX4_init_66 : decode cX4_init 66 = .ok (.aload_n 0, 1) := by decide +kernel
theorem dX4_init_67 : decode cX4_init 67 = .ok (.getfield 25, 3) := by decide +kernel
theorem dX4_init_70 : decode cX4_init 70 = .ok (.iload_n 1, 1) := by decide +kernel
theorem dX4_init_71 : decode cX4_init 71 = .ok (.new 23, 3) := by decide +kernel
theorem dX4_init_74 : decode cX4_init 74 = .ok (.dup, 1) := by decide +kernel
theorem dX4_init_75 : decode cX4_init 75 = .ok (.iload_n 1, 1) := by decide +kernel
theorem dX4_init_76 : decode cX4_init 76 = .ok (.invokespecial 29, 3) := by decide +kernel
theorem dX4_init_79 : decode cX4_init 79 = .ok (.aastore, 1) := by decide +kernel
theorem dX4_init_80 : decode cX4_init 80 = .ok (.iinc 1 1, 3) := by decide +kernel
theorem dX4_init_83 : decode cX4_init 83 = .ok (.goto (-22), 3) := by decide +kernel
theorem dX4_init_86 : decode cX4_init 86 = .ok (.aload_n 0, 1) := by decide +kernel
theorem dX4_init_87 : decode cX4_init 87 = .ok (.new 32, 3) := by decide +kernel
theorem dX4_init_90 : decode cX4_init 90 = .ok (.dup, 1) := by decide +kernel
theorem dX4_init_91 : decode cX4_init 91 = .ok (.aload_n 0, 1) := by decide +kernel
theorem dX4_init_92 : decode cX4_init 92 = .ok (.getfield 12, 3) := by decide +kernel
theorem dX4_init_95 : decode cX4_init 95 = .ok (.aload_n 0, 1) := by decide +kernel
theorem dX4_init_96 : decode cX4_init 96 = .ok (.getfield 18, 3) := by decide +kernel
theorem dX4_init_99 : decode cX4_init 99 = .ok (.aload_n 0, 1) := by decide +kernel
theorem dX4_init_100 : decode cX4_init 100 = .ok (.getfield 25, 3) := by decide +kernel
theorem dX4_init_103 : decode cX4_init 103 = .ok (.invokespecial 34, 3) := by decide +kernel
theorem dX4_init_106 : decode cX4_init 106 = .ok (.putfield 37, 3) := by decide +kernel
theorem dX4_init_109 : decode cX4_init 109 = .ok (.aload_n 0, 1) := by decide +kernel
theorem dX4_init_110 : decode cX4_init 110 = .ok (.iconst 0, 1) := by decide +kernel
theorem dX4_init_111 : decode cX4_init 111 = .ok (.putfield 41, 3) := by decide +kernel
theorem dX4_init_114 : decode cX4_init 114 = .ok (.aload_n 0, 1) := by decide +kernel
theorem dX4_init_115 : decode cX4_init 115 = .ok (.getfield 18, 3) := by decide +kernel
theorem dX4_init_118 : decode cX4_init 118 = .ok (.iconst 0, 1) := by decide +kernel
theorem dX4_init_119 : decode cX4_init 119 = .ok (.aaload, 1) := by decide +kernel
theorem dX4_init_120 : decode cX4_init 120 = .ok (.iconst (-1), 1) := by decide +kernel
theorem dX4_init_121 : decode cX4_init 121 = .ok (.invokevirtual 45, 3) := by decide +kernel
theorem dX4_init_124 : decode cX4_init 124 = .ok (.return_, 1) := by decide +kernel
abbrev cX4_spawn : ByteArray := prog_1_method_2_code
def yX4_spawn : MethodName := ⟨RX4, "spawn", "(II)I"⟩
theorem dX4_spawn_0 : decode cX4_spawn 0 = .ok (.aload_n 0, 1) := by decide +kernel
theorem dX4_spawn_1 : decode cX4_spawn 1 = .ok (.iload_n 1, 1) := by decide +kernel
theorem dX4_spawn_2 : decode cX4_spawn 2 = .ok (.invokevirtual 48, 3) := by decide +kernel
theorem dX4_spawn_5 : decode cX4_spawn 5 = .ok (.astore_n 3, 1) := by decide +kernel
theorem dX4_spawn_6 : decode cX4_spawn 6 = .ok (.aload_n 0, 1) := by decide +kernel
theorem dX4_spawn_7 : decode cX4_spawn 7 = .ok (.invokevirtual 52, 3) := by decide +kernel
theorem dX4_spawn_10 : decode cX4_spawn 10 = .ok (.istore 4, 2) := by decide +kernel
theorem dX4_spawn_12 : decode cX4_spawn 12 = .ok (.aload_n 3, 1) := by decide +kernel
theorem dX4_spawn_13 : decode cX4_spawn 13 = .ok (.ifnull 17, 3) := by decide +kernel
theorem dX4_spawn_16 : decode cX4_spawn 16 = .ok (.aload_n 3, 1) := by decide +kernel
theorem dX4_spawn_17 : decode cX4_spawn 17 = .ok (.iload_n 2, 1) := by decide +kernel
theorem dX4_spawn_18 : decode cX4_spawn 18 = .ok (.invokevirtual 56, 3) := by decide +kernel
theorem dX4_spawn_21 : decode cX4_spawn 21 = .ok (.ifCond .eq 9, 3) := by decide +kernel
theorem dX4_spawn_24 : decode cX4_spawn 24 = .ok (.iload 4, 2) := by decide +kernel
theorem dX4_spawn_26 : decode cX4_spawn 26 = .ok (.iconst (-1), 1) := by decide +kernel
theorem dX4_spawn_27 : decode cX4_spawn 27 = .ok (.if_icmp .ne 5, 3) := by decide +kernel
theorem dX4_spawn_30 : decode cX4_spawn 30 = .ok (.iconst (-1), 1) := by decide +kernel
theorem dX4_spawn_31 : decode cX4_spawn 31 = .ok (.ireturn, 1) := by decide +kernel
theorem dX4_spawn_32 : decode cX4_spawn 32 = .ok (.aload_n 0, 1) := by decide +kernel
theorem dX4_spawn_33 : decode cX4_spawn 33 = .ok (.getfield 18, 3) := by decide +kernel
theorem dX4_spawn_36 : decode cX4_spawn 36 = .ok (.iload 4, 2) := by decide +kernel
theorem dX4_spawn_38 : decode cX4_spawn 38 = .ok (.aaload, 1) := by decide +kernel
theorem dX4_spawn_39 : decode cX4_spawn 39 = .ok (.aload_n 3, 1) := by decide +kernel
theorem dX4_spawn_40 : decode cX4_spawn 40 = .ok (.iload_n 2, 1) := by decide +kernel
theorem dX4_spawn_41 : decode cX4_spawn 41 = .ok (.invokevirtual 60, 3) := by decide +kernel
theorem dX4_spawn_44 : decode cX4_spawn 44 = .ok (.invokevirtual 45, 3) := by decide +kernel
theorem dX4_spawn_47 : decode cX4_spawn 47 = .ok (.iload 4, 2) := by decide +kernel
theorem dX4_spawn_49 : decode cX4_spawn 49 = .ok (.ireturn, 1) := by decide +kernel
abbrev cX4_end : ByteArray := prog_1_method_3_code
def yX4_end : MethodName := ⟨RX4, "end", "(I)Z"⟩
theorem dX4_end_0 : decode cX4_end 0 = .ok (.aload_n 0, 1) := by decide +kernel
theorem dX4_end_1 : decode cX4_end 1 = .ok (.iload_n 1, 1) := by decide +kernel
theorem dX4_end_2 : decode cX4_end 2 = .ok (.invokevirtual 64, 3) := by decide +kernel
theorem dX4_end_5 : decode cX4_end 5 = .ok (.ifCond .eq 11, 3) := by decide +kernel
theorem dX4_end_8 : decode cX4_end 8 = .ok (.aload_n 0, 1) := by decide +kernel
theorem dX4_end_9 : decode cX4_end 9 = .ok (.invokevirtual 67, 3) := by decide +kernel
theorem dX4_end_12 : decode cX4_end 12 = .ok (.iconst 1, 1) := by decide +kernel
theorem dX4_end_13 : decode cX4_end 13 = .ok (.if_icmp .ne 5, 3) := by decide +kernel
theorem dX4_end_16 : decode cX4_end 16 = .ok (.iconst 0, 1) := by decide +kernel
theorem dX4_end_17 : decode cX4_end 17 = .ok (.ireturn, 1) := by decide +kernel
theorem dX4_end_18 : decode cX4_end 18 = .ok (.aload_n 0, 1) := by decide +kernel
theorem dX4_end_19 : decode cX4_end 19 = .ok (.getfield 18, 3) := by decide +kernel
theorem dX4_end_22 : decode cX4_end 22 = .ok (.iload_n 1, 1) := by decide +kernel
theorem dX4_end_23 : decode cX4_end 23 = .ok (.aaload, 1) := by decide +kernel
theorem dX4_end_24 : decode cX4_end 24 = .ok (.iconst 0, 1) := by decide +kernel
theorem dX4_end_25 : decode cX4_end 25 = .ok (.putfield 70, 3) := by decide +kernel
theorem dX4_end_28 : decode cX4_end 28 = .ok (.iconst 1, 1) := by decide +kernel
theorem dX4_end_29 : decode cX4_end 29 = .ok (.ireturn, 1) := by decide +kernel
abbrev cX4_wake : ByteArray := prog_1_method_4_code
def yX4_wake : MethodName := ⟨RX4, "wake", "(I)Z"⟩
theorem dX4_wake_0 : decode cX4_wake 0 = .ok (.aload_n 0, 1) := by decide +kernel
theorem dX4_wake_1 : decode cX4_wake 1 = .ok (.iload_n 1, 1) := by decide +kernel
theorem dX4_wake_2 : decode cX4_wake 2 = .ok (.invokevirtual 64, 3) := by decide +kernel
theorem dX4_wake_5 : decode cX4_wake 5 = .ok (.ifCond .eq 16, 3) := by decide +kernel
theorem dX4_wake_8 : decode cX4_wake 8 = .ok (.aload_n 0, 1) := by decide +kernel
theorem dX4_wake_9 : decode cX4_wake 9 = .ok (.getfield 18, 3) := by decide +kernel
theorem dX4_wake_12 : decode cX4_wake 12 = .ok (.iload_n 1, 1) := by decide +kernel
theorem dX4_wake_13 : decode cX4_wake 13 = .ok (.aaload, 1) := by decide +kernel
theorem dX4_wake_14 : decode cX4_wake 14 = .ok (.getfield 70, 3) := by decide +kernel
theorem dX4_wake_17 : decode cX4_wake 17 = .ok (.iconst 1, 1) := by decide +kernel
theorem dX4_wake_18 : decode cX4_wake 18 = .ok (.if_icmp .ne 5, 3) := by decide +kernel
theorem dX4_wake_21 : decode cX4_wake 21 = .ok (.iconst 0, 1) := by decide +kernel
theorem dX4_wake_22 : decode cX4_wake 22 = .ok (.ireturn, 1) := by decide +kernel
theorem dX4_wake_23 : decode cX4_wake 23 = .ok (.aload_n 0, 1) := by decide +kernel
theorem dX4_wake_24 : decode cX4_wake 24 = .ok (.getfield 18, 3) := by decide +kernel
theorem dX4_wake_27 : decode cX4_wake 27 = .ok (.iload_n 1, 1) := by decide +kernel
theorem dX4_wake_28 : decode cX4_wake 28 = .ok (.aaload, 1) := by decide +kernel
theorem dX4_wake_29 : decode cX4_wake 29 = .ok (.iconst 1, 1) := by decide +kernel
theorem dX4_wake_30 : decode cX4_wake 30 = .ok (.putfield 70, 3) := by decide +kernel
theorem dX4_wake_33 : decode cX4_wake 33 = .ok (.iconst 1, 1) := by decide +kernel
theorem dX4_wake_34 : decode cX4_wake 34 = .ok (.ireturn, 1) := by decide +kernel
abbrev cX4_call : ByteArray := prog_1_method_5_code
def yX4_call : MethodName := ⟨RX4, "call", "(I)Z"⟩
theorem dX4_call_0 : decode cX4_call 0 = .ok (.aload_n 0, 1) := by decide +kernel
theorem dX4_call_1 : decode cX4_call 1 = .ok (.iload_n 1, 1) := by decide +kernel
theorem dX4_call_2 : decode cX4_call 2 = .ok (.invokevirtual 48, 3) := by decide +kernel
theorem dX4_call_5 : decode cX4_call 5 = .ok (.astore_n 2, 1) := by decide +kernel
theorem dX4_call_6 : decode cX4_call 6 = .ok (.aload_n 2, 1) := by decide +kernel
theorem dX4_call_7 : decode cX4_call 7 = .ok (.ifnull 12, 3) := by decide +kernel
theorem dX4_call_10 : decode cX4_call 10 = .ok (.aload_n 2, 1) := by decide +kernel
theorem dX4_call_11 : decode cX4_call 11 = .ok (.getfield 73, 3) := by decide +kernel
theorem dX4_call_14 : decode cX4_call 14 = .ok (.bipush 16, 2) := by decide +kernel
theorem dX4_call_16 : decode cX4_call 16 = .ok (.if_icmp .lt 5, 3) := by decide +kernel
theorem dX4_call_19 : decode cX4_call 19 = .ok (.iconst 0, 1) := by decide +kernel
theorem dX4_call_20 : decode cX4_call 20 = .ok (.ireturn, 1) := by decide +kernel
theorem dX4_call_21 : decode cX4_call 21 = .ok (.aload_n 2, 1) := by decide +kernel
theorem dX4_call_22 : decode cX4_call 22 = .ok (.invokevirtual 76, 3) := by decide +kernel
theorem dX4_call_25 : decode cX4_call 25 = .ok (.iconst 1, 1) := by decide +kernel
theorem dX4_call_26 : decode cX4_call 26 = .ok (.ireturn, 1) := by decide +kernel
abbrev cX4_leave : ByteArray := prog_1_method_6_code
def yX4_leave : MethodName := ⟨RX4, "leave", "(I)Z"⟩
theorem dX4_leave_0 : decode cX4_leave 0 = .ok (.aload_n 0, 1) := by decide +kernel
theorem dX4_leave_1 : decode cX4_leave 1 = .ok (.iload_n 1, 1) := by decide +kernel
theorem dX4_leave_2 : decode cX4_leave 2 = .ok (.invokevirtual 48, 3) := by decide +kernel
theorem dX4_leave_5 : decode cX4_leave 5 = .ok (.astore_n 2, 1) := by decide +kernel
theorem dX4_leave_6 : decode cX4_leave 6 = .ok (.aload_n 2, 1) := by decide +kernel
theorem dX4_leave_7 : decode cX4_leave 7 = .ok (.ifnull 11, 3) := by decide +kernel
theorem dX4_leave_10 : decode cX4_leave 10 = .ok (.aload_n 2, 1) := by decide +kernel
theorem dX4_leave_11 : decode cX4_leave 11 = .ok (.getfield 73, 3) := by decide +kernel
theorem dX4_leave_14 : decode cX4_leave 14 = .ok (.iconst 1, 1) := by decide +kernel
theorem dX4_leave_15 : decode cX4_leave 15 = .ok (.if_icmp .gt 5, 3) := by decide +kernel
theorem dX4_leave_18 : decode cX4_leave 18 = .ok (.iconst 0, 1) := by decide +kernel
theorem dX4_leave_19 : decode cX4_leave 19 = .ok (.ireturn, 1) := by decide +kernel
theorem dX4_leave_20 : decode cX4_leave 20 = .ok (.aload_n 2, 1) := by decide +kernel
theorem dX4_leave_21 : decode cX4_leave 21 = .ok (.invokevirtual 79, 3) := by decide +kernel
theorem dX4_leave_24 : decode cX4_leave 24 = .ok (.iconst 1, 1) := by decide +kernel
theorem dX4_leave_25 : decode cX4_leave 25 = .ok (.ireturn, 1) := by decide +kernel
abbrev cX4_aim : ByteArray := prog_1_method_7_code
def yX4_aim : MethodName := ⟨RX4, "aim", "(II)Z"⟩
theorem dX4_aim_0 : decode cX4_aim 0 = .ok (.aload_n 0, 1) := by decide +kernel
theorem dX4_aim_1 : decode cX4_aim 1 = .ok (.iload_n 1, 1) := by decide +kernel
theorem dX4_aim_2 : decode cX4_aim 2 = .ok (.invokevirtual 48, 3) := by decide +kernel
theorem dX4_aim_5 : decode cX4_aim 5 = .ok (.astore_n 3, 1) := by decide +kernel
theorem dX4_aim_6 : decode cX4_aim 6 = .ok (.aload_n 3, 1) := by decide +kernel
theorem dX4_aim_7 : decode cX4_aim 7 = .ok (.ifnull 12, 3) := by decide +kernel
theorem dX4_aim_10 : decode cX4_aim 10 = .ok (.iload_n 2, 1) := by decide +kernel
theorem dX4_aim_11 : decode cX4_aim 11 = .ok (.ifCond .lt 8, 3) := by decide +kernel
theorem dX4_aim_14 : decode cX4_aim 14 = .ok (.iload_n 2, 1) := by decide +kernel
theorem dX4_aim_15 : decode cX4_aim 15 = .ok (.iconst 4, 1) := by decide +kernel
theorem dX4_aim_16 : decode cX4_aim 16 = .ok (.if_icmp .lt 5, 3) := by decide +kernel
theorem dX4_aim_19 : decode cX4_aim 19 = .ok (.iconst 0, 1) := by decide +kernel
theorem dX4_aim_20 : decode cX4_aim 20 = .ok (.ireturn, 1) := by decide +kernel
theorem dX4_aim_21 : decode cX4_aim 21 = .ok (.aload_n 3, 1) := by decide +kernel
theorem dX4_aim_22 : decode cX4_aim 22 = .ok (.getfield 82, 3) := by decide +kernel
theorem dX4_aim_25 : decode cX4_aim 25 = .ok (.aload_n 3, 1) := by decide +kernel
theorem dX4_aim_26 : decode cX4_aim 26 = .ok (.getfield 73, 3) := by decide +kernel
theorem dX4_aim_29 : decode cX4_aim 29 = .ok (.iconst 1, 1) := by decide +kernel
theorem dX4_aim_30 : decode cX4_aim 30 = .ok (.isub, 1) := by decide +kernel
theorem dX4_aim_31 : decode cX4_aim 31 = .ok (.aload_n 3, 1) := by decide +kernel
theorem dX4_aim_32 : decode cX4_aim 32 = .ok (.iload_n 2, 1) := by decide +kernel
theorem dX4_aim_33 : decode cX4_aim 33 = .ok (.invokevirtual 86, 3) := by decide +kernel
theorem dX4_aim_36 : decode cX4_aim 36 = .ok (.iastore, 1) := by decide +kernel
theorem dX4_aim_37 : decode cX4_aim 37 = .ok (.iconst 1, 1) := by decide +kernel
theorem dX4_aim_38 : decode cX4_aim 38 = .ok (.ireturn, 1) := by decide +kernel
abbrev cX4_copy : ByteArray := prog_1_method_8_code
def yX4_copy : MethodName := ⟨RX4, "copy", "(III)Z"⟩
theorem dX4_copy_0 : decode cX4_copy 0 = .ok (.aload_n 0, 1) := by decide +kernel
theorem dX4_copy_1 : decode cX4_copy 1 = .ok (.iload_n 1, 1) := by decide +kernel
theorem dX4_copy_2 : decode cX4_copy 2 = .ok (.invokevirtual 48, 3) := by decide +kernel
theorem dX4_copy_5 : decode cX4_copy 5 = .ok (.astore 4, 2) := by decide +kernel
theorem dX4_copy_7 : decode cX4_copy 7 = .ok (.aload 4, 2) := by decide +kernel
theorem dX4_copy_9 : decode cX4_copy 9 = .ok (.ifnull 21, 3) := by decide +kernel
theorem dX4_copy_12 : decode cX4_copy 12 = .ok (.aload 4, 2) := by decide +kernel
theorem dX4_copy_14 : decode cX4_copy 14 = .ok (.iload_n 2, 1) := by decide +kernel
theorem dX4_copy_15 : decode cX4_copy 15 = .ok (.invokevirtual 89, 3) := by decide +kernel
theorem dX4_copy_18 : decode cX4_copy 18 = .ok (.ifCond .eq 12, 3) := by decide +kernel
theorem dX4_copy_21 : decode cX4_copy 21 = .ok (.aload 4, 2) := by decide +kernel
theorem dX4_copy_23 : decode cX4_copy 23 = .ok (.iload_n 3, 1) := by decide +kernel
theorem dX4_copy_24 : decode cX4_copy 24 = .ok (.invokevirtual 56, 3) := by decide +kernel
theorem dX4_copy_27 : decode cX4_copy 27 = .ok (.ifCond .ne 5, 3) := by decide +kernel
theorem dX4_copy_30 : decode cX4_copy 30 = .ok (.iconst 0, 1) := by decide +kernel
theorem dX4_copy_31 : decode cX4_copy 31 = .ok (.ireturn, 1) := by decide +kernel
theorem dX4_copy_32 : decode cX4_copy 32 = .ok (.aload 4, 2) := by decide +kernel
theorem dX4_copy_34 : decode cX4_copy 34 = .ok (.iload_n 2, 1) := by decide +kernel
theorem dX4_copy_35 : decode cX4_copy 35 = .ok (.aload 4, 2) := by decide +kernel
theorem dX4_copy_37 : decode cX4_copy 37 = .ok (.iload_n 3, 1) := by decide +kernel
theorem dX4_copy_38 : decode cX4_copy 38 = .ok (.invokevirtual 60, 3) := by decide +kernel
theorem dX4_copy_41 : decode cX4_copy 41 = .ok (.invokevirtual 92, 3) := by decide +kernel
theorem dX4_copy_44 : decode cX4_copy 44 = .ok (.iconst 1, 1) := by decide +kernel
theorem dX4_copy_45 : decode cX4_copy 45 = .ok (.ireturn, 1) := by decide +kernel
abbrev cX4_make : ByteArray := prog_1_method_9_code
def yX4_make : MethodName := ⟨RX4, "make", "(IIII)I"⟩
theorem dX4_make_0 : decode cX4_make 0 = .ok (.aload_n 0, 1) := by decide +kernel
theorem dX4_make_1 : decode cX4_make 1 = .ok (.iload_n 1, 1) := by decide +kernel
theorem dX4_make_2 : decode cX4_make 2 = .ok (.invokevirtual 48, 3) := by decide +kernel
theorem dX4_make_5 : decode cX4_make 5 = .ok (.astore 5, 2) := by decide +kernel
theorem dX4_make_7 : decode cX4_make 7 = .ok (.aload 5, 2) := by decide +kernel
theorem dX4_make_9 : decode cX4_make 9 = .ok (.ifnull 12, 3) := by decide +kernel
theorem dX4_make_12 : decode cX4_make 12 = .ok (.aload 5, 2) := by decide +kernel
theorem dX4_make_14 : decode cX4_make 14 = .ok (.iload_n 2, 1) := by decide +kernel
theorem dX4_make_15 : decode cX4_make 15 = .ok (.invokevirtual 89, 3) := by decide +kernel
theorem dX4_make_18 : decode cX4_make 18 = .ok (.ifCond .ne 5, 3) := by decide +kernel
theorem dX4_make_21 : decode cX4_make 21 = .ok (.iconst (-1), 1) := by decide +kernel
theorem dX4_make_22 : decode cX4_make 22 = .ok (.ireturn, 1) := by decide +kernel
theorem dX4_make_23 : decode cX4_make 23 = .ok (.iload_n 3, 1) := by decide +kernel
theorem dX4_make_24 : decode cX4_make 24 = .ok (.iconst 1, 1) := by decide +kernel
theorem dX4_make_25 : decode cX4_make 25 = .ok (.if_icmp .lt 20, 3) := by decide +kernel
theorem dX4_make_28 : decode cX4_make 28 = .ok (.iload_n 3, 1) := by decide +kernel
theorem dX4_make_29 : decode cX4_make 29 = .ok (.bipush 64, 2) := by decide +kernel
theorem dX4_make_31 : decode cX4_make 31 = .ok (.if_icmp .gt 14, 3) := by decide +kernel
theorem dX4_make_34 : decode cX4_make 34 = .ok (.iload 4, 2) := by decide +kernel
theorem dX4_make_36 : decode cX4_make 36 = .ok (.ifCond .lt 9, 3) := by decide +kernel
theorem dX4_make_39 : decode cX4_make 39 = .ok (.iload 4, 2) := by decide +kernel
theorem dX4_make_41 : decode cX4_make 41 = .ok (.iload_n 3, 1) := by decide +kernel
theorem dX4_make_42 : decode cX4_make 42 = .ok (.if_icmp .le 5, 3) := by decide +kernel
theorem dX4_make_45 : decode cX4_make 45 = .ok (.iconst (-1), 1) := by decide +kernel
theorem dX4_make_46 : decode cX4_make 46 = .ok (.ireturn, 1) := by decide +kernel
theorem dX4_make_47 : decode cX4_make 47 = .ok (.aload_n 0, 1) := by decide +kernel
theorem dX4_make_48 : decode cX4_make 48 = .ok (.getfield 37, 3) := by decide +kernel
theorem dX4_make_51 : decode cX4_make 51 = .ok (.iload_n 3, 1) := by decide +kernel
theorem dX4_make_52 : decode cX4_make 52 = .ok (.invokestatic 96, 3) := by decide +kernel
theorem dX4_make_55 : decode cX4_make 55 = .ok (.invokevirtual 99, 3) := by decide +kernel
theorem dX4_make_58 : decode cX4_make 58 = .ok (.aload_n 0, 1) := by decide +kernel
theorem dX4_make_59 : decode cX4_make 59 = .ok (.iload_n 3, 1) := by decide +kernel
theorem dX4_make_60 : decode cX4_make 60 = .ok (.iload 4, 2) := by decide +kernel
theorem dX4_make_62 : decode cX4_make 62 = .ok (.invokevirtual 102, 3) := by decide +kernel
theorem dX4_make_65 : decode cX4_make 65 = .ok (.istore 6, 2) := by decide +kernel
theorem dX4_make_67 : decode cX4_make 67 = .ok (.iload 6, 2) := by decide +kernel
theorem dX4_make_69 : decode cX4_make 69 = .ok (.iconst (-1), 1) := by decide +kernel
theorem dX4_make_70 : decode cX4_make 70 = .ok (.if_icmp .ne 6, 3) := by decide +kernel
theorem dX4_make_73 : decode cX4_make 73 = .ok (.bipush (-2), 2) := by decide +kernel
theorem dX4_make_75 : decode cX4_make 75 = .ok (.ireturn, 1) := by decide +kernel
theorem dX4_make_76 : decode cX4_make 76 = .ok (.aload_n 0, 1) := by decide +kernel
theorem dX4_make_77 : decode cX4_make 77 = .ok (.getfield 37, 3) := by decide +kernel
theorem dX4_make_80 : decode cX4_make 80 = .ok (.dup, 1) := by decide +kernel
theorem dX4_make_81 : decode cX4_make 81 = .ok (.getfield 106, 3) := by decide +kernel
theorem dX4_make_84 : decode cX4_make 84 = .ok (.iload_n 3, 1) := by decide +kernel
theorem dX4_make_85 : decode cX4_make 85 = .ok (.invokestatic 96, 3) := by decide +kernel
theorem dX4_make_88 : decode cX4_make 88 = .ok (.iadd, 1) := by decide +kernel
theorem dX4_make_89 : decode cX4_make 89 = .ok (.putfield 106, 3) := by decide +kernel
theorem dX4_make_92 : decode cX4_make 92 = .ok (.aload 5, 2) := by decide +kernel
theorem dX4_make_94 : decode cX4_make 94 = .ok (.iload_n 2, 1) := by decide +kernel
theorem dX4_make_95 : decode cX4_make 95 = .ok (.iload 6, 2) := by decide +kernel
theorem dX4_make_97 : decode cX4_make 97 = .ok (.invokevirtual 92, 3) := by decide +kernel
theorem dX4_make_100 : decode cX4_make 100 = .ok (.iload 6, 2) := by decide +kernel
theorem dX4_make_102 : decode cX4_make 102 = .ok (.ireturn, 1) := by decide +kernel
abbrev cX4_set : ByteArray := prog_1_method_10_code
def yX4_set : MethodName := ⟨RX4, "set", "(IIII)Z"⟩
theorem dX4_set_0 : decode cX4_set 0 = .ok (.aload_n 0, 1) := by decide +kernel
theorem dX4_set_1 : decode cX4_set 1 = .ok (.iload_n 1, 1) := by decide +kernel
theorem dX4_set_2 : decode cX4_set 2 = .ok (.invokevirtual 48, 3) := by decide +kernel
theorem dX4_set_5 : decode cX4_set 5 = .ok (.astore 5, 2) := by decide +kernel
theorem dX4_set_7 : decode cX4_set 7 = .ok (.aload 5, 2) := by decide +kernel
theorem dX4_set_9 : decode cX4_set 9 = .ok (.ifnull 22, 3) := by decide +kernel
theorem dX4_set_12 : decode cX4_set 12 = .ok (.aload 5, 2) := by decide +kernel
theorem dX4_set_14 : decode cX4_set 14 = .ok (.iload_n 2, 1) := by decide +kernel
theorem dX4_set_15 : decode cX4_set 15 = .ok (.invokevirtual 89, 3) := by decide +kernel
theorem dX4_set_18 : decode cX4_set 18 = .ok (.ifCond .eq 13, 3) := by decide +kernel
theorem dX4_set_21 : decode cX4_set 21 = .ok (.aload 5, 2) := by decide +kernel
theorem dX4_set_23 : decode cX4_set 23 = .ok (.iload 4, 2) := by decide +kernel
theorem dX4_set_25 : decode cX4_set 25 = .ok (.invokevirtual 56, 3) := by decide +kernel
theorem dX4_set_28 : decode cX4_set 28 = .ok (.ifCond .ne 5, 3) := by decide +kernel
theorem dX4_set_31 : decode cX4_set 31 = .ok (.iconst 0, 1) := by decide +kernel
theorem dX4_set_32 : decode cX4_set 32 = .ok (.ireturn, 1) := by decide +kernel
theorem dX4_set_33 : decode cX4_set 33 = .ok (.aload 5, 2) := by decide +kernel
theorem dX4_set_35 : decode cX4_set 35 = .ok (.iload_n 2, 1) := by decide +kernel
theorem dX4_set_36 : decode cX4_set 36 = .ok (.invokevirtual 60, 3) := by decide +kernel
theorem dX4_set_39 : decode cX4_set 39 = .ok (.istore 6, 2) := by decide +kernel
theorem dX4_set_41 : decode cX4_set 41 = .ok (.aload_n 0, 1) := by decide +kernel
theorem dX4_set_42 : decode cX4_set 42 = .ok (.getfield 12, 3) := by decide +kernel
theorem dX4_set_45 : decode cX4_set 45 = .ok (.iload 6, 2) := by decide +kernel
theorem dX4_set_47 : decode cX4_set 47 = .ok (.iload_n 3, 1) := by decide +kernel
theorem dX4_set_48 : decode cX4_set 48 = .ok (.invokevirtual 109, 3) := by decide +kernel
theorem dX4_set_51 : decode cX4_set 51 = .ok (.ifCond .ne 5, 3) := by decide +kernel
theorem dX4_set_54 : decode cX4_set 54 = .ok (.iconst 0, 1) := by decide +kernel
theorem dX4_set_55 : decode cX4_set 55 = .ok (.ireturn, 1) := by decide +kernel
theorem dX4_set_56 : decode cX4_set 56 = .ok (.aload 5, 2) := by decide +kernel
theorem dX4_set_58 : decode cX4_set 58 = .ok (.iload 4, 2) := by decide +kernel
theorem dX4_set_60 : decode cX4_set 60 = .ok (.invokevirtual 60, 3) := by decide +kernel
theorem dX4_set_63 : decode cX4_set 63 = .ok (.istore 7, 2) := by decide +kernel
theorem dX4_set_65 : decode cX4_set 65 = .ok (.aload_n 0, 1) := by decide +kernel
theorem dX4_set_66 : decode cX4_set 66 = .ok (.getfield 37, 3) := by decide +kernel
theorem dX4_set_69 : decode cX4_set 69 = .ok (.aload_n 0, 1) := by decide +kernel
theorem dX4_set_70 : decode cX4_set 70 = .ok (.getfield 12, 3) := by decide +kernel
theorem dX4_set_73 : decode cX4_set 73 = .ok (.getfield 113, 3) := by decide +kernel
theorem dX4_set_76 : decode cX4_set 76 = .ok (.iload 6, 2) := by decide +kernel
theorem dX4_set_78 : decode cX4_set 78 = .ok (.iload_n 3, 1) := by decide +kernel
theorem dX4_set_79 : decode cX4_set 79 = .ok (.iadd, 1) := by decide +kernel
theorem dX4_set_80 : decode cX4_set 80 = .ok (.iaload, 1) := by decide +kernel
theorem dX4_set_81 : decode cX4_set 81 = .ok (.invokevirtual 116, 3) := by decide +kernel
theorem dX4_set_84 : decode cX4_set 84 = .ok (.aload_n 0, 1) := by decide +kernel
theorem dX4_set_85 : decode cX4_set 85 = .ok (.getfield 37, 3) := by decide +kernel
theorem dX4_set_88 : decode cX4_set 88 = .ok (.iload 7, 2) := by decide +kernel
theorem dX4_set_90 : decode cX4_set 90 = .ok (.invokevirtual 116, 3) := by decide +kernel
theorem dX4_set_93 : decode cX4_set 93 = .ok (.aload_n 0, 1) := by decide +kernel
theorem dX4_set_94 : decode cX4_set 94 = .ok (.getfield 12, 3) := by decide +kernel
theorem dX4_set_97 : decode cX4_set 97 = .ok (.getfield 113, 3) := by decide +kernel
theorem dX4_set_100 : decode cX4_set 100 = .ok (.iload 6, 2) := by decide +kernel
theorem dX4_set_102 : decode cX4_set 102 = .ok (.iload_n 3, 1) := by decide +kernel
theorem dX4_set_103 : decode cX4_set 103 = .ok (.iadd, 1) := by decide +kernel
theorem dX4_set_104 : decode cX4_set 104 = .ok (.iload 7, 2) := by decide +kernel
theorem dX4_set_106 : decode cX4_set 106 = .ok (.iastore, 1) := by decide +kernel
theorem dX4_set_107 : decode cX4_set 107 = .ok (.iconst 1, 1) := by decide +kernel
theorem dX4_set_108 : decode cX4_set 108 = .ok (.ireturn, 1) := by decide +kernel
abbrev cX4_get : ByteArray := prog_1_method_11_code
def yX4_get : MethodName := ⟨RX4, "get", "(IIII)Z"⟩
theorem dX4_get_0 : decode cX4_get 0 = .ok (.aload_n 0, 1) := by decide +kernel
theorem dX4_get_1 : decode cX4_get 1 = .ok (.iload_n 1, 1) := by decide +kernel
theorem dX4_get_2 : decode cX4_get 2 = .ok (.invokevirtual 48, 3) := by decide +kernel
theorem dX4_get_5 : decode cX4_get 5 = .ok (.astore 5, 2) := by decide +kernel
theorem dX4_get_7 : decode cX4_get 7 = .ok (.aload 5, 2) := by decide +kernel
theorem dX4_get_9 : decode cX4_get 9 = .ok (.ifnull 21, 3) := by decide +kernel
theorem dX4_get_12 : decode cX4_get 12 = .ok (.aload 5, 2) := by decide +kernel
theorem dX4_get_14 : decode cX4_get 14 = .ok (.iload_n 2, 1) := by decide +kernel
theorem dX4_get_15 : decode cX4_get 15 = .ok (.invokevirtual 89, 3) := by decide +kernel
theorem dX4_get_18 : decode cX4_get 18 = .ok (.ifCond .eq 12, 3) := by decide +kernel
theorem dX4_get_21 : decode cX4_get 21 = .ok (.aload 5, 2) := by decide +kernel
theorem dX4_get_23 : decode cX4_get 23 = .ok (.iload_n 3, 1) := by decide +kernel
theorem dX4_get_24 : decode cX4_get 24 = .ok (.invokevirtual 89, 3) := by decide +kernel
theorem dX4_get_27 : decode cX4_get 27 = .ok (.ifCond .ne 5, 3) := by decide +kernel
theorem dX4_get_30 : decode cX4_get 30 = .ok (.iconst 0, 1) := by decide +kernel
theorem dX4_get_31 : decode cX4_get 31 = .ok (.ireturn, 1) := by decide +kernel
theorem dX4_get_32 : decode cX4_get 32 = .ok (.aload 5, 2) := by decide +kernel
theorem dX4_get_34 : decode cX4_get 34 = .ok (.iload_n 3, 1) := by decide +kernel
theorem dX4_get_35 : decode cX4_get 35 = .ok (.invokevirtual 60, 3) := by decide +kernel
theorem dX4_get_38 : decode cX4_get 38 = .ok (.istore 6, 2) := by decide +kernel
theorem dX4_get_40 : decode cX4_get 40 = .ok (.aload_n 0, 1) := by decide +kernel
theorem dX4_get_41 : decode cX4_get 41 = .ok (.getfield 12, 3) := by decide +kernel
theorem dX4_get_44 : decode cX4_get 44 = .ok (.iload 6, 2) := by decide +kernel
theorem dX4_get_46 : decode cX4_get 46 = .ok (.iload 4, 2) := by decide +kernel
theorem dX4_get_48 : decode cX4_get 48 = .ok (.invokevirtual 109, 3) := by decide +kernel
theorem dX4_get_51 : decode cX4_get 51 = .ok (.ifCond .ne 5, 3) := by decide +kernel
theorem dX4_get_54 : decode cX4_get 54 = .ok (.iconst 0, 1) := by decide +kernel
theorem dX4_get_55 : decode cX4_get 55 = .ok (.ireturn, 1) := by decide +kernel
theorem dX4_get_56 : decode cX4_get 56 = .ok (.aload 5, 2) := by decide +kernel
theorem dX4_get_58 : decode cX4_get 58 = .ok (.iload_n 2, 1) := by decide +kernel
theorem dX4_get_59 : decode cX4_get 59 = .ok (.aload_n 0, 1) := by decide +kernel
theorem dX4_get_60 : decode cX4_get 60 = .ok (.getfield 12, 3) := by decide +kernel
theorem dX4_get_63 : decode cX4_get 63 = .ok (.getfield 113, 3) := by decide +kernel
theorem dX4_get_66 : decode cX4_get 66 = .ok (.iload 6, 2) := by decide +kernel
theorem dX4_get_68 : decode cX4_get 68 = .ok (.iload 4, 2) := by decide +kernel
theorem dX4_get_70 : decode cX4_get 70 = .ok (.iadd, 1) := by decide +kernel
theorem dX4_get_71 : decode cX4_get 71 = .ok (.iaload, 1) := by decide +kernel
theorem dX4_get_72 : decode cX4_get 72 = .ok (.invokevirtual 92, 3) := by decide +kernel
theorem dX4_get_75 : decode cX4_get 75 = .ok (.iconst 1, 1) := by decide +kernel
theorem dX4_get_76 : decode cX4_get 76 = .ok (.ireturn, 1) := by decide +kernel
abbrev cX4_store : ByteArray := prog_1_method_12_code
def yX4_store : MethodName := ⟨RX4, "store", "(IIII)Z"⟩
theorem dX4_store_0 : decode cX4_store 0 = .ok (.aload_n 0, 1) := by decide +kernel
theorem dX4_store_1 : decode cX4_store 1 = .ok (.iload_n 1, 1) := by decide +kernel
theorem dX4_store_2 : decode cX4_store 2 = .ok (.iload_n 2, 1) := by decide +kernel
theorem dX4_store_3 : decode cX4_store 3 = .ok (.iload_n 3, 1) := by decide +kernel
theorem dX4_store_4 : decode cX4_store 4 = .ok (.invokevirtual 119, 3) := by decide +kernel
theorem dX4_store_7 : decode cX4_store 7 = .ok (.istore 5, 2) := by decide +kernel
theorem dX4_store_9 : decode cX4_store 9 = .ok (.iload 5, 2) := by decide +kernel
theorem dX4_store_11 : decode cX4_store 11 = .ok (.iconst (-1), 1) := by decide +kernel
theorem dX4_store_12 : decode cX4_store 12 = .ok (.if_icmp .ne 5, 3) := by decide +kernel
theorem dX4_store_15 : decode cX4_store 15 = .ok (.iconst 0, 1) := by decide +kernel
theorem dX4_store_16 : decode cX4_store 16 = .ok (.ireturn, 1) := by decide +kernel
theorem dX4_store_17 : decode cX4_store 17 = .ok (.aload_n 0, 1) := by decide +kernel
theorem dX4_store_18 : decode cX4_store 18 = .ok (.getfield 12, 3) := by decide +kernel
theorem dX4_store_21 : decode cX4_store 21 = .ok (.getfield 113, 3) := by decide +kernel
theorem dX4_store_24 : decode cX4_store 24 = .ok (.iload 5, 2) := by decide +kernel
theorem dX4_store_26 : decode cX4_store 26 = .ok (.iload 4, 2) := by decide +kernel
theorem dX4_store_28 : decode cX4_store 28 = .ok (.iastore, 1) := by decide +kernel
theorem dX4_store_29 : decode cX4_store 29 = .ok (.iconst 1, 1) := by decide +kernel
theorem dX4_store_30 : decode cX4_store 30 = .ok (.ireturn, 1) := by decide +kernel
abbrev cX4_load : ByteArray := prog_1_method_13_code
def yX4_load : MethodName := ⟨RX4, "load", "(III)I"⟩
theorem dX4_load_0 : decode cX4_load 0 = .ok (.aload_n 0, 1) := by decide +kernel
theorem dX4_load_1 : decode cX4_load 1 = .ok (.iload_n 1, 1) := by decide +kernel
theorem dX4_load_2 : decode cX4_load 2 = .ok (.iload_n 2, 1) := by decide +kernel
theorem dX4_load_3 : decode cX4_load 3 = .ok (.iload_n 3, 1) := by decide +kernel
theorem dX4_load_4 : decode cX4_load 4 = .ok (.invokevirtual 119, 3) := by decide +kernel
theorem dX4_load_7 : decode cX4_load 7 = .ok (.istore 4, 2) := by decide +kernel
theorem dX4_load_9 : decode cX4_load 9 = .ok (.iload 4, 2) := by decide +kernel
theorem dX4_load_11 : decode cX4_load 11 = .ok (.iconst (-1), 1) := by decide +kernel
theorem dX4_load_12 : decode cX4_load 12 = .ok (.if_icmp .ne 7, 3) := by decide +kernel
theorem dX4_load_15 : decode cX4_load 15 = .ok (.iconst 0, 1) := by decide +kernel
theorem dX4_load_16 : decode cX4_load 16 = .ok (.goto 13, 3) := by decide +kernel
theorem dX4_load_19 : decode cX4_load 19 = .ok (.aload_n 0, 1) := by decide +kernel
theorem dX4_load_20 : decode cX4_load 20 = .ok (.getfield 12, 3) := by decide +kernel
theorem dX4_load_23 : decode cX4_load 23 = .ok (.getfield 113, 3) := by decide +kernel
theorem dX4_load_26 : decode cX4_load 26 = .ok (.iload 4, 2) := by decide +kernel
theorem dX4_load_28 : decode cX4_load 28 = .ok (.iaload, 1) := by decide +kernel
theorem dX4_load_29 : decode cX4_load 29 = .ok (.ireturn, 1) := by decide +kernel
abbrev cX4_send : ByteArray := prog_1_method_14_code
def yX4_send : MethodName := ⟨RX4, "send", "(III)I"⟩
theorem dX4_send_0 : decode cX4_send 0 = .ok (.aload_n 0, 1) := by decide +kernel
theorem dX4_send_1 : decode cX4_send 1 = .ok (.iload_n 1, 1) := by decide +kernel
theorem dX4_send_2 : decode cX4_send 2 = .ok (.invokevirtual 48, 3) := by decide +kernel
theorem dX4_send_5 : decode cX4_send 5 = .ok (.astore 4, 2) := by decide +kernel
theorem dX4_send_7 : decode cX4_send 7 = .ok (.aload 4, 2) := by decide +kernel
theorem dX4_send_9 : decode cX4_send 9 = .ok (.ifnull 19, 3) := by decide +kernel
theorem dX4_send_12 : decode cX4_send 12 = .ok (.aload 4, 2) := by decide +kernel
theorem dX4_send_14 : decode cX4_send 14 = .ok (.iload_n 2, 1) := by decide +kernel
theorem dX4_send_15 : decode cX4_send 15 = .ok (.invokevirtual 89, 3) := by decide +kernel
theorem dX4_send_18 : decode cX4_send 18 = .ok (.ifCond .eq 10, 3) := by decide +kernel
theorem dX4_send_21 : decode cX4_send 21 = .ok (.iload_n 3, 1) := by decide +kernel
theorem dX4_send_22 : decode cX4_send 22 = .ok (.invokestatic 123, 3) := by decide +kernel
theorem dX4_send_25 : decode cX4_send 25 = .ok (.ifCond .ne 5, 3) := by decide +kernel
theorem dX4_send_28 : decode cX4_send 28 = .ok (.iconst (-1), 1) := by decide +kernel
theorem dX4_send_29 : decode cX4_send 29 = .ok (.ireturn, 1) := by decide +kernel
theorem dX4_send_30 : decode cX4_send 30 = .ok (.aload 4, 2) := by decide +kernel
theorem dX4_send_32 : decode cX4_send 32 = .ok (.iload_n 2, 1) := by decide +kernel
theorem dX4_send_33 : decode cX4_send 33 = .ok (.invokevirtual 60, 3) := by decide +kernel
theorem dX4_send_36 : decode cX4_send 36 = .ok (.istore 5, 2) := by decide +kernel
theorem dX4_send_38 : decode cX4_send 38 = .ok (.aload_n 0, 1) := by decide +kernel
theorem dX4_send_39 : decode cX4_send 39 = .ok (.iconst 3, 1) := by decide +kernel
theorem dX4_send_40 : decode cX4_send 40 = .ok (.iload_n 3, 1) := by decide +kernel
theorem dX4_send_41 : decode cX4_send 41 = .ok (.invokevirtual 126, 3) := by decide +kernel
theorem dX4_send_44 : decode cX4_send 44 = .ok (.astore 6, 2) := by decide +kernel
theorem dX4_send_46 : decode cX4_send 46 = .ok (.aload 6, 2) := by decide +kernel
theorem dX4_send_48 : decode cX4_send 48 = .ok (.ifnull 22, 3) := by decide +kernel
theorem dX4_send_51 : decode cX4_send 51 = .ok (.aload_n 0, 1) := by decide +kernel
theorem dX4_send_52 : decode cX4_send 52 = .ok (.getfield 37, 3) := by decide +kernel
theorem dX4_send_55 : decode cX4_send 55 = .ok (.iload 5, 2) := by decide +kernel
theorem dX4_send_57 : decode cX4_send 57 = .ok (.invokevirtual 116, 3) := by decide +kernel
theorem dX4_send_60 : decode cX4_send 60 = .ok (.aload 6, 2) := by decide +kernel
theorem dX4_send_62 : decode cX4_send 62 = .ok (.iload 5, 2) := by decide +kernel
theorem dX4_send_64 : decode cX4_send 64 = .ok (.iload_n 3, 1) := by decide +kernel
theorem dX4_send_65 : decode cX4_send 65 = .ok (.invokevirtual 130, 3) := by decide +kernel
theorem dX4_send_68 : decode cX4_send 68 = .ok (.iload_n 3, 1) := by decide +kernel
theorem dX4_send_69 : decode cX4_send 69 = .ok (.ireturn, 1) := by decide +kernel
theorem dX4_send_70 : decode cX4_send 70 = .ok (.aload_n 0, 1) := by decide +kernel
theorem dX4_send_71 : decode cX4_send 71 = .ok (.getfield 25, 3) := by decide +kernel
theorem dX4_send_74 : decode cX4_send 74 = .ok (.iload_n 3, 1) := by decide +kernel
theorem dX4_send_75 : decode cX4_send 75 = .ok (.aaload, 1) := by decide +kernel
theorem dX4_send_76 : decode cX4_send 76 = .ok (.invokevirtual 133, 3) := by decide +kernel
theorem dX4_send_79 : decode cX4_send 79 = .ok (.ifCond .eq 25, 3) := by decide +kernel
theorem dX4_send_82 : decode cX4_send 82 = .ok (.aload_n 0, 1) := by decide +kernel
theorem dX4_send_83 : decode cX4_send 83 = .ok (.getfield 37, 3) := by decide +kernel
theorem dX4_send_86 : decode cX4_send 86 = .ok (.iload 5, 2) := by decide +kernel
theorem dX4_send_88 : decode cX4_send 88 = .ok (.invokevirtual 116, 3) := by decide +kernel
theorem dX4_send_91 : decode cX4_send 91 = .ok (.aload_n 0, 1) := by decide +kernel
theorem dX4_send_92 : decode cX4_send 92 = .ok (.getfield 25, 3) := by decide +kernel
theorem dX4_send_95 : decode cX4_send 95 = .ok (.iload_n 3, 1) := by decide +kernel
theorem dX4_send_96 : decode cX4_send 96 = .ok (.aaload, 1) := by decide +kernel
theorem dX4_send_97 : decode cX4_send 97 = .ok (.iload 5, 2) := by decide +kernel
theorem dX4_send_99 : decode cX4_send 99 = .ok (.invokevirtual 137, 3) := by decide +kernel
theorem dX4_send_102 : decode cX4_send 102 = .ok (.iload_n 3, 1) := by decide +kernel
theorem dX4_send_103 : decode cX4_send 103 = .ok (.ireturn, 1) := by decide +kernel
theorem dX4_send_104 : decode cX4_send 104 = .ok (.aload 4, 2) := by decide +kernel
theorem dX4_send_106 : decode cX4_send 106 = .ok (.iconst 2, 1) := by decide +kernel
theorem dX4_send_107 : decode cX4_send 107 = .ok (.iload_n 2, 1) := by decide +kernel
theorem dX4_send_108 : decode cX4_send 108 = .ok (.iload_n 3, 1) := by decide +kernel
theorem dX4_send_109 : decode cX4_send 109 = .ok (.iload_n 3, 1) := by decide +kernel
theorem dX4_send_110 : decode cX4_send 110 = .ok (.aload_n 0, 1) := by decide +kernel
theorem dX4_send_111 : decode cX4_send 111 = .ok (.invokevirtual 140, 3) := by decide +kernel
theorem dX4_send_114 : decode cX4_send 114 = .ok (.invokevirtual 143, 3) := by decide +kernel
theorem dX4_send_117 : decode cX4_send 117 = .ok (.iconst 4, 1) := by decide +kernel
theorem dX4_send_118 : decode cX4_send 118 = .ok (.ireturn, 1) := by decide +kernel
abbrev cX4_take : ByteArray := prog_1_method_15_code
def yX4_take : MethodName := ⟨RX4, "take", "(IIII)I"⟩
theorem dX4_take_0 : decode cX4_take 0 = .ok (.aload_n 0, 1) := by decide +kernel
theorem dX4_take_1 : decode cX4_take 1 = .ok (.iload_n 1, 1) := by decide +kernel
theorem dX4_take_2 : decode cX4_take 2 = .ok (.invokevirtual 48, 3) := by decide +kernel
theorem dX4_take_5 : decode cX4_take 5 = .ok (.astore 5, 2) := by decide +kernel
theorem dX4_take_7 : decode cX4_take 7 = .ok (.aload 5, 2) := by decide +kernel
theorem dX4_take_9 : decode cX4_take 9 = .ok (.ifnull 27, 3) := by decide +kernel
theorem dX4_take_12 : decode cX4_take 12 = .ok (.aload 5, 2) := by decide +kernel
theorem dX4_take_14 : decode cX4_take 14 = .ok (.iload_n 2, 1) := by decide +kernel
theorem dX4_take_15 : decode cX4_take 15 = .ok (.invokevirtual 89, 3) := by decide +kernel
theorem dX4_take_18 : decode cX4_take 18 = .ok (.ifCond .eq 18, 3) := by decide +kernel
theorem dX4_take_21 : decode cX4_take 21 = .ok (.iload_n 3, 1) := by decide +kernel
theorem dX4_take_22 : decode cX4_take 22 = .ok (.invokestatic 123, 3) := by decide +kernel
theorem dX4_take_25 : decode cX4_take 25 = .ok (.ifCond .eq 11, 3) := by decide +kernel
theorem dX4_take_28 : decode cX4_take 28 = .ok (.iload 4, 2) := by decide +kernel
theorem dX4_take_30 : decode cX4_take 30 = .ok (.invokestatic 123, 3) := by decide +kernel
theorem dX4_take_33 : decode cX4_take 33 = .ok (.ifCond .ne 5, 3) := by decide +kernel
theorem dX4_take_36 : decode cX4_take 36 = .ok (.iconst (-1), 1) := by decide +kernel
theorem dX4_take_37 : decode cX4_take 37 = .ok (.ireturn, 1) := by decide +kernel
theorem dX4_take_38 : decode cX4_take 38 = .ok (.aload_n 0, 1) := by decide +kernel
theorem dX4_take_39 : decode cX4_take 39 = .ok (.iload_n 3, 1) := by decide +kernel
theorem dX4_take_40 : decode cX4_take 40 = .ok (.invokevirtual 147, 3) := by decide +kernel
theorem dX4_take_43 : decode cX4_take 43 = .ok (.ifCond .eq 7, 3) := by decide +kernel
theorem dX4_take_46 : decode cX4_take 46 = .ok (.iload_n 3, 1) := by decide +kernel
theorem dX4_take_47 : decode cX4_take 47 = .ok (.goto 5, 3) := by decide +kernel
theorem dX4_take_50 : decode cX4_take 50 = .ok (.iload 4, 2) := by decide +kernel
theorem dX4_take_52 : decode cX4_take 52 = .ok (.istore 6, 2) := by decide +kernel
theorem dX4_take_54 : decode cX4_take 54 = .ok (.aload_n 0, 1) := by decide +kernel
theorem dX4_take_55 : decode cX4_take 55 = .ok (.iload 6, 2) := by decide +kernel
theorem dX4_take_57 : decode cX4_take 57 = .ok (.invokevirtual 147, 3) := by decide +kernel
theorem dX4_take_60 : decode cX4_take 60 = .ok (.ifCond .ne 19, 3) := by decide +kernel
theorem dX4_take_63 : decode cX4_take 63 = .ok (.aload 5, 2) := by decide +kernel
theorem dX4_take_65 : decode cX4_take 65 = .ok (.iconst 3, 1) := by decide +kernel
theorem dX4_take_66 : decode cX4_take 66 = .ok (.iload_n 2, 1) := by decide +kernel
theorem dX4_take_67 : decode cX4_take 67 = .ok (.iload_n 3, 1) := by decide +kernel
theorem dX4_take_68 : decode cX4_take 68 = .ok (.iload 4, 2) := by decide +kernel
theorem dX4_take_70 : decode cX4_take 70 = .ok (.aload_n 0, 1) := by decide +kernel
theorem dX4_take_71 : decode cX4_take 71 = .ok (.invokevirtual 140, 3) := by decide +kernel
theorem dX4_take_74 : decode cX4_take 74 = .ok (.invokevirtual 143, 3) := by decide +kernel
theorem dX4_take_77 : decode cX4_take 77 = .ok (.iconst 4, 1) := by decide +kernel
theorem dX4_take_78 : decode cX4_take 78 = .ok (.ireturn, 1) := by decide +kernel
theorem dX4_take_79 : decode cX4_take 79 = .ok (.aload 5, 2) := by decide +kernel
theorem dX4_take_81 : decode cX4_take 81 = .ok (.iload_n 2, 1) := by decide +kernel
theorem dX4_take_82 : decode cX4_take 82 = .ok (.aload_n 0, 1) := by decide +kernel
theorem dX4_take_83 : decode cX4_take 83 = .ok (.iload 6, 2) := by decide +kernel
theorem dX4_take_85 : decode cX4_take 85 = .ok (.invokevirtual 150, 3) := by decide +kernel
theorem dX4_take_88 : decode cX4_take 88 = .ok (.invokevirtual 92, 3) := by decide +kernel
theorem dX4_take_91 : decode cX4_take 91 = .ok (.aload 5, 2) := by decide +kernel
theorem dX4_take_93 : decode cX4_take 93 = .ok (.iload 6, 2) := by decide +kernel
theorem dX4_take_95 : decode cX4_take 95 = .ok (.putfield 153, 3) := by decide +kernel
theorem dX4_take_98 : decode cX4_take 98 = .ok (.iload 6, 2) := by decide +kernel
theorem dX4_take_100 : decode cX4_take 100 = .ok (.ireturn, 1) := by decide +kernel
abbrev cX4_mark : ByteArray := prog_1_method_16_code
def yX4_mark : MethodName := ⟨RX4, "mark", "(I)I"⟩
theorem dX4_mark_0 : decode cX4_mark 0 = .ok (.iload_n 1, 1) := by decide +kernel
theorem dX4_mark_1 : decode cX4_mark 1 = .ok (.iconst 1, 1) := by decide +kernel
theorem dX4_mark_2 : decode cX4_mark 2 = .ok (.if_icmp .lt 13, 3) := by decide +kernel
theorem dX4_mark_5 : decode cX4_mark 5 = .ok (.aload_n 0, 1) := by decide +kernel
theorem dX4_mark_6 : decode cX4_mark 6 = .ok (.getfield 37, 3) := by decide +kernel
theorem dX4_mark_9 : decode cX4_mark 9 = .ok (.getfield 156, 3) := by decide +kernel
theorem dX4_mark_12 : decode cX4_mark 12 = .ok (.ifCond .ne 7, 3) := by decide +kernel
theorem dX4_mark_15 : decode cX4_mark 15 = .ok (.iconst 0, 1) := by decide +kernel
theorem dX4_mark_16 : decode cX4_mark 16 = .ok (.goto 11, 3) := by decide +kernel
theorem dX4_mark_19 : decode cX4_mark 19 = .ok (.aload_n 0, 1) := by decide +kernel
theorem dX4_mark_20 : decode cX4_mark 20 = .ok (.getfield 37, 3) := by decide +kernel
theorem dX4_mark_23 : decode cX4_mark 23 = .ok (.iload_n 1, 1) := by decide +kernel
theorem dX4_mark_24 : decode cX4_mark 24 = .ok (.invokevirtual 160, 3) := by decide +kernel
theorem dX4_mark_27 : decode cX4_mark 27 = .ok (.ireturn, 1) := by decide +kernel
abbrev cX4_sweep : ByteArray := prog_1_method_17_code
def yX4_sweep : MethodName := ⟨RX4, "sweep", "(I)I"⟩
theorem dX4_sweep_0 : decode cX4_sweep 0 = .ok (.aload_n 0, 1) := by decide +kernel
theorem dX4_sweep_1 : decode cX4_sweep 1 = .ok (.getfield 12, 3) := by decide +kernel
theorem dX4_sweep_4 : decode cX4_sweep 4 = .ok (.iload_n 1, 1) := by decide +kernel
theorem dX4_sweep_5 : decode cX4_sweep 5 = .ok (.invokevirtual 163, 3) := by decide +kernel
theorem dX4_sweep_8 : decode cX4_sweep 8 = .ok (.ireturn, 1) := by decide +kernel
abbrev cX4_collect : ByteArray := prog_1_method_18_code
def yX4_collect : MethodName := ⟨RX4, "collect", "()Z"⟩
theorem dX4_collect_0 : decode cX4_collect 0 = .ok (.aload_n 0, 1) := by decide +kernel
theorem dX4_collect_1 : decode cX4_collect 1 = .ok (.getfield 37, 3) := by decide +kernel
theorem dX4_collect_4 : decode cX4_collect 4 = .ok (.getfield 156, 3) := by decide +kernel
theorem dX4_collect_7 : decode cX4_collect 7 = .ok (.ifCond .eq 5, 3) := by decide +kernel
theorem dX4_collect_10 : decode cX4_collect 10 = .ok (.iconst 0, 1) := by decide +kernel
theorem dX4_collect_11 : decode cX4_collect 11 = .ok (.ireturn, 1) := by decide +kernel
theorem dX4_collect_12 : decode cX4_collect 12 = .ok (.aload_n 0, 1) := by decide +kernel
theorem dX4_collect_13 : decode cX4_collect 13 = .ok (.getfield 37, 3) := by decide +kernel
theorem dX4_collect_16 : decode cX4_collect 16 = .ok (.invokevirtual 166, 3) := by decide +kernel
theorem dX4_collect_19 : decode cX4_collect 19 = .ok (.iconst 1, 1) := by decide +kernel
theorem dX4_collect_20 : decode cX4_collect 20 = .ok (.ireturn, 1) := by decide +kernel
abbrev cX4_fiber : ByteArray := prog_1_method_19_code
def yX4_fiber : MethodName := ⟨RX4, "fiber", "(II)I"⟩
theorem dX4_fiber_0 : decode cX4_fiber 0 = .ok (.iload_n 1, 1) := by decide +kernel
theorem dX4_fiber_1 : decode cX4_fiber 1 = .ok (.ifCond .lt 9, 3) := by decide +kernel
theorem dX4_fiber_4 : decode cX4_fiber 4 = .ok (.iload_n 1, 1) := by decide +kernel
theorem dX4_fiber_5 : decode cX4_fiber 5 = .ok (.bipush 6, 2) := by decide +kernel
theorem dX4_fiber_7 : decode cX4_fiber 7 = .ok (.if_icmp .lt 5, 3) := by decide +kernel
theorem dX4_fiber_10 : decode cX4_fiber 10 = .ok (.iconst (-1), 1) := by decide +kernel
theorem dX4_fiber_11 : decode cX4_fiber 11 = .ok (.ireturn, 1) := by decide +kernel
theorem dX4_fiber_12 : decode cX4_fiber 12 = .ok (.aload_n 0, 1) := by decide +kernel
theorem dX4_fiber_13 : decode cX4_fiber 13 = .ok (.getfield 18, 3) := by decide +kernel
theorem dX4_fiber_16 : decode cX4_fiber 16 = .ok (.iload_n 1, 1) := by decide +kernel
theorem dX4_fiber_17 : decode cX4_fiber 17 = .ok (.aaload, 1) := by decide +kernel
theorem dX4_fiber_18 : decode cX4_fiber 18 = .ok (.astore_n 3, 1) := by decide +kernel
theorem dX4_fiber_19 : decode cX4_fiber 19 = .ok (.iload_n 2, 1) := by decide +kernel
theorem dX4_fiber_20 : decode cX4_fiber 20 = .ok (.ifCond .ne 8, 3) := by decide +kernel
theorem dX4_fiber_23 : decode cX4_fiber 23 = .ok (.aload_n 3, 1) := by decide +kernel
theorem dX4_fiber_24 : decode cX4_fiber 24 = .ok (.getfield 70, 3) := by decide +kernel
theorem dX4_fiber_27 : decode cX4_fiber 27 = .ok (.ireturn, 1) := by decide +kernel
theorem dX4_fiber_28 : decode cX4_fiber 28 = .ok (.aload_n 3, 1) := by decide +kernel
theorem dX4_fiber_29 : decode cX4_fiber 29 = .ok (.getfield 70, 3) := by decide +kernel
theorem dX4_fiber_32 : decode cX4_fiber 32 = .ok (.ifCond .ne 5, 3) := by decide +kernel
theorem dX4_fiber_35 : decode cX4_fiber 35 = .ok (.iconst (-1), 1) := by decide +kernel
theorem dX4_fiber_36 : decode cX4_fiber 36 = .ok (.ireturn, 1) := by decide +kernel
theorem dX4_fiber_37 : decode cX4_fiber 37 = .ok (.iload_n 2, 1) := by decide +kernel
theorem dX4_fiber_38 : decode cX4_fiber 38 = .ok (.tableswitch 108 1 9 #[50, 55, 60, 83, 83, 83, 83, 91, 103], 50) := by decide +kernel
theorem dX4_fiber_88 : decode cX4_fiber 88 = .ok (.aload_n 3, 1) := by decide +kernel
theorem dX4_fiber_89 : decode cX4_fiber 89 = .ok (.getfield 73, 3) := by decide +kernel
theorem dX4_fiber_92 : decode cX4_fiber 92 = .ok (.ireturn, 1) := by decide +kernel
theorem dX4_fiber_93 : decode cX4_fiber 93 = .ok (.aload_n 3, 1) := by decide +kernel
theorem dX4_fiber_94 : decode cX4_fiber 94 = .ok (.getfield 169, 3) := by decide +kernel
theorem dX4_fiber_97 : decode cX4_fiber 97 = .ok (.ireturn, 1) := by decide +kernel
theorem dX4_fiber_98 : decode cX4_fiber 98 = .ok (.aload_n 0, 1) := by decide +kernel
theorem dX4_fiber_99 : decode cX4_fiber 99 = .ok (.getfield 37, 3) := by decide +kernel
theorem dX4_fiber_102 : decode cX4_fiber 102 = .ok (.getfield 156, 3) := by decide +kernel
theorem dX4_fiber_105 : decode cX4_fiber 105 = .ok (.ifCond .eq 14, 3) := by decide +kernel
theorem dX4_fiber_108 : decode cX4_fiber 108 = .ok (.aload_n 3, 1) := by decide +kernel
theorem dX4_fiber_109 : decode cX4_fiber 109 = .ok (.getfield 172, 3) := by decide +kernel
theorem dX4_fiber_112 : decode cX4_fiber 112 = .ok (.ifCond .eq 7, 3) := by decide +kernel
theorem dX4_fiber_115 : decode cX4_fiber 115 = .ok (.iconst 1, 1) := by decide +kernel
theorem dX4_fiber_116 : decode cX4_fiber 116 = .ok (.goto 4, 3) := by decide +kernel
theorem dX4_fiber_119 : decode cX4_fiber 119 = .ok (.iconst 0, 1) := by decide +kernel
theorem dX4_fiber_120 : decode cX4_fiber 120 = .ok (.ireturn, 1) := by decide +kernel
theorem dX4_fiber_121 : decode cX4_fiber 121 = .ok (.aload_n 3, 1) := by decide +kernel
theorem dX4_fiber_122 : decode cX4_fiber 122 = .ok (.iload_n 2, 1) := by decide +kernel
theorem dX4_fiber_123 : decode cX4_fiber 123 = .ok (.iconst 4, 1) := by decide +kernel
theorem dX4_fiber_124 : decode cX4_fiber 124 = .ok (.isub, 1) := by decide +kernel
theorem dX4_fiber_125 : decode cX4_fiber 125 = .ok (.invokevirtual 60, 3) := by decide +kernel
theorem dX4_fiber_128 : decode cX4_fiber 128 = .ok (.ireturn, 1) := by decide +kernel
theorem dX4_fiber_129 : decode cX4_fiber 129 = .ok (.aload_n 3, 1) := by decide +kernel
theorem dX4_fiber_130 : decode cX4_fiber 130 = .ok (.getfield 82, 3) := by decide +kernel
theorem dX4_fiber_133 : decode cX4_fiber 133 = .ok (.aload_n 3, 1) := by decide +kernel
theorem dX4_fiber_134 : decode cX4_fiber 134 = .ok (.getfield 73, 3) := by decide +kernel
theorem dX4_fiber_137 : decode cX4_fiber 137 = .ok (.iconst 1, 1) := by decide +kernel
theorem dX4_fiber_138 : decode cX4_fiber 138 = .ok (.isub, 1) := by decide +kernel
theorem dX4_fiber_139 : decode cX4_fiber 139 = .ok (.iaload, 1) := by decide +kernel
theorem dX4_fiber_140 : decode cX4_fiber 140 = .ok (.ireturn, 1) := by decide +kernel
theorem dX4_fiber_141 : decode cX4_fiber 141 = .ok (.aload_n 3, 1) := by decide +kernel
theorem dX4_fiber_142 : decode cX4_fiber 142 = .ok (.getfield 153, 3) := by decide +kernel
theorem dX4_fiber_145 : decode cX4_fiber 145 = .ok (.ireturn, 1) := by decide +kernel
theorem dX4_fiber_146 : decode cX4_fiber 146 = .ok (.iconst (-1), 1) := by decide +kernel
theorem dX4_fiber_147 : decode cX4_fiber 147 = .ok (.ireturn, 1) := by decide +kernel
abbrev cX4_count : ByteArray := prog_1_method_20_code
def yX4_count : MethodName := ⟨RX4, "count", "(I)I"⟩
theorem dX4_count_0 : decode cX4_count 0 = .ok (.iload_n 1, 1) := by decide +kernel
theorem dX4_count_1 : decode cX4_count 1 = .ok (.tableswitch 164 0 11 #[63, 71, 79, 87, 95, 111, 119, 127, 135, 140, 148, 156], 63) := by decide +kernel
theorem dX4_count_64 : decode cX4_count 64 = .ok (.aload_n 0, 1) := by decide +kernel
theorem dX4_count_65 : decode cX4_count 65 = .ok (.getfield 12, 3) := by decide +kernel
theorem dX4_count_68 : decode cX4_count 68 = .ok (.invokevirtual 175, 3) := by decide +kernel
theorem dX4_count_71 : decode cX4_count 71 = .ok (.ireturn, 1) := by decide +kernel
theorem dX4_count_72 : decode cX4_count 72 = .ok (.aload_n 0, 1) := by decide +kernel
theorem dX4_count_73 : decode cX4_count 73 = .ok (.getfield 12, 3) := by decide +kernel
theorem dX4_count_76 : decode cX4_count 76 = .ok (.invokevirtual 178, 3) := by decide +kernel
theorem dX4_count_79 : decode cX4_count 79 = .ok (.ireturn, 1) := by decide +kernel
theorem dX4_count_80 : decode cX4_count 80 = .ok (.aload_n 0, 1) := by decide +kernel
theorem dX4_count_81 : decode cX4_count 81 = .ok (.getfield 12, 3) := by decide +kernel
theorem dX4_count_84 : decode cX4_count 84 = .ok (.invokevirtual 181, 3) := by decide +kernel
theorem dX4_count_87 : decode cX4_count 87 = .ok (.ireturn, 1) := by decide +kernel
theorem dX4_count_88 : decode cX4_count 88 = .ok (.aload_n 0, 1) := by decide +kernel
theorem dX4_count_89 : decode cX4_count 89 = .ok (.getfield 12, 3) := by decide +kernel
theorem dX4_count_92 : decode cX4_count 92 = .ok (.invokevirtual 184, 3) := by decide +kernel
theorem dX4_count_95 : decode cX4_count 95 = .ok (.ireturn, 1) := by decide +kernel
theorem dX4_count_96 : decode cX4_count 96 = .ok (.aload_n 0, 1) := by decide +kernel
theorem dX4_count_97 : decode cX4_count 97 = .ok (.getfield 37, 3) := by decide +kernel
theorem dX4_count_100 : decode cX4_count 100 = .ok (.getfield 156, 3) := by decide +kernel
theorem dX4_count_103 : decode cX4_count 103 = .ok (.ifCond .eq 7, 3) := by decide +kernel
theorem dX4_count_106 : decode cX4_count 106 = .ok (.iconst 1, 1) := by decide +kernel
theorem dX4_count_107 : decode cX4_count 107 = .ok (.goto 4, 3) := by decide +kernel
theorem dX4_count_110 : decode cX4_count 110 = .ok (.iconst 0, 1) := by decide +kernel
theorem dX4_count_111 : decode cX4_count 111 = .ok (.ireturn, 1) := by decide +kernel
theorem dX4_count_112 : decode cX4_count 112 = .ok (.aload_n 0, 1) := by decide +kernel
theorem dX4_count_113 : decode cX4_count 113 = .ok (.getfield 12, 3) := by decide +kernel
theorem dX4_count_116 : decode cX4_count 116 = .ok (.invokevirtual 187, 3) := by decide +kernel
theorem dX4_count_119 : decode cX4_count 119 = .ok (.ireturn, 1) := by decide +kernel
theorem dX4_count_120 : decode cX4_count 120 = .ok (.aload_n 0, 1) := by decide +kernel
theorem dX4_count_121 : decode cX4_count 121 = .ok (.getfield 37, 3) := by decide +kernel
theorem dX4_count_124 : decode cX4_count 124 = .ok (.getfield 190, 3) := by decide +kernel
theorem dX4_count_127 : decode cX4_count 127 = .ok (.ireturn, 1) := by decide +kernel
theorem dX4_count_128 : decode cX4_count 128 = .ok (.aload_n 0, 1) := by decide +kernel
theorem dX4_count_129 : decode cX4_count 129 = .ok (.getfield 37, 3) := by decide +kernel
theorem dX4_count_132 : decode cX4_count 132 = .ok (.getfield 193, 3) := by decide +kernel
theorem dX4_count_135 : decode cX4_count 135 = .ok (.ireturn, 1) := by decide +kernel
theorem dX4_count_136 : decode cX4_count 136 = .ok (.aload_n 0, 1) := by decide +kernel
theorem dX4_count_137 : decode cX4_count 137 = .ok (.invokevirtual 196, 3) := by decide +kernel
theorem dX4_count_140 : decode cX4_count 140 = .ok (.ireturn, 1) := by decide +kernel
theorem dX4_count_141 : decode cX4_count 141 = .ok (.aload_n 0, 1) := by decide +kernel
theorem dX4_count_142 : decode cX4_count 142 = .ok (.getfield 37, 3) := by decide +kernel
theorem dX4_count_145 : decode cX4_count 145 = .ok (.getfield 106, 3) := by decide +kernel
theorem dX4_count_148 : decode cX4_count 148 = .ok (.ireturn, 1) := by decide +kernel
theorem dX4_count_149 : decode cX4_count 149 = .ok (.aload_n 0, 1) := by decide +kernel
theorem dX4_count_150 : decode cX4_count 150 = .ok (.getfield 37, 3) := by decide +kernel
theorem dX4_count_153 : decode cX4_count 153 = .ok (.getfield 199, 3) := by decide +kernel
theorem dX4_count_156 : decode cX4_count 156 = .ok (.ireturn, 1) := by decide +kernel
theorem dX4_count_157 : decode cX4_count 157 = .ok (.aload_n 0, 1) := by decide +kernel
theorem dX4_count_158 : decode cX4_count 158 = .ok (.getfield 12, 3) := by decide +kernel
theorem dX4_count_161 : decode cX4_count 161 = .ok (.getfield 202, 3) := by decide +kernel
theorem dX4_count_164 : decode cX4_count 164 = .ok (.ireturn, 1) := by decide +kernel
theorem dX4_count_165 : decode cX4_count 165 = .ok (.iconst (-1), 1) := by decide +kernel
theorem dX4_count_166 : decode cX4_count 166 = .ok (.ireturn, 1) := by decide +kernel
abbrev cX4_page : ByteArray := prog_1_method_21_code
def yX4_page : MethodName := ⟨RX4, "page", "(I)I"⟩
theorem dX4_page_0 : decode cX4_page 0 = .ok (.iload_n 1, 1) := by decide +kernel
theorem dX4_page_1 : decode cX4_page 1 = .ok (.ifCond .lt 9, 3) := by decide +kernel
theorem dX4_page_4 : decode cX4_page 4 = .ok (.iload_n 1, 1) := by decide +kernel
theorem dX4_page_5 : decode cX4_page 5 = .ok (.bipush 16, 2) := by decide +kernel
theorem dX4_page_7 : decode cX4_page 7 = .ok (.if_icmp .lt 7, 3) := by decide +kernel
theorem dX4_page_10 : decode cX4_page 10 = .ok (.iconst (-1), 1) := by decide +kernel
theorem dX4_page_11 : decode cX4_page 11 = .ok (.goto 12, 3) := by decide +kernel
theorem dX4_page_14 : decode cX4_page 14 = .ok (.aload_n 0, 1) := by decide +kernel
theorem dX4_page_15 : decode cX4_page 15 = .ok (.getfield 12, 3) := by decide +kernel
theorem dX4_page_18 : decode cX4_page 18 = .ok (.getfield 205, 3) := by decide +kernel
theorem dX4_page_21 : decode cX4_page 21 = .ok (.iload_n 1, 1) := by decide +kernel
theorem dX4_page_22 : decode cX4_page 22 = .ok (.iaload, 1) := by decide +kernel
theorem dX4_page_23 : decode cX4_page 23 = .ok (.ireturn, 1) := by decide +kernel
abbrev cX4_lives : ByteArray := prog_1_method_22_code
def yX4_lives : MethodName := ⟨RX4, "lives", "(I)Z"⟩
theorem dX4_lives_0 : decode cX4_lives 0 = .ok (.iload_n 1, 1) := by decide +kernel
theorem dX4_lives_1 : decode cX4_lives 1 = .ok (.ifCond .lt 25, 3) := by decide +kernel
theorem dX4_lives_4 : decode cX4_lives 4 = .ok (.iload_n 1, 1) := by decide +kernel
theorem dX4_lives_5 : decode cX4_lives 5 = .ok (.bipush 6, 2) := by decide +kernel
theorem dX4_lives_7 : decode cX4_lives 7 = .ok (.if_icmp .ge 19, 3) := by decide +kernel
theorem dX4_lives_10 : decode cX4_lives 10 = .ok (.aload_n 0, 1) := by decide +kernel
theorem dX4_lives_11 : decode cX4_lives 11 = .ok (.getfield 18, 3) := by decide +kernel
theorem dX4_lives_14 : decode cX4_lives 14 = .ok (.iload_n 1, 1) := by decide +kernel
theorem dX4_lives_15 : decode cX4_lives 15 = .ok (.aaload, 1) := by decide +kernel
theorem dX4_lives_16 : decode cX4_lives 16 = .ok (.getfield 70, 3) := by decide +kernel
theorem dX4_lives_19 : decode cX4_lives 19 = .ok (.ifCond .eq 7, 3) := by decide +kernel
theorem dX4_lives_22 : decode cX4_lives 22 = .ok (.iconst 1, 1) := by decide +kernel
theorem dX4_lives_23 : decode cX4_lives 23 = .ok (.goto 4, 3) := by decide +kernel
theorem dX4_lives_26 : decode cX4_lives 26 = .ok (.iconst 0, 1) := by decide +kernel
theorem dX4_lives_27 : decode cX4_lives 27 = .ok (.ireturn, 1) := by decide +kernel
abbrev cX4_readyFiber : ByteArray := prog_1_method_23_code
def yX4_readyFiber : MethodName := ⟨RX4, "readyFiber", "(I)LFiberHeap$Fiber;"⟩
theorem dX4_readyFiber_0 : decode cX4_readyFiber 0 = .ok (.aload_n 0, 1) := by decide +kernel
theorem dX4_readyFiber_1 : decode cX4_readyFiber 1 = .ok (.iload_n 1, 1) := by decide +kernel
theorem dX4_readyFiber_2 : decode cX4_readyFiber 2 = .ok (.invokevirtual 64, 3) := by decide +kernel
theorem dX4_readyFiber_5 : decode cX4_readyFiber 5 = .ok (.ifCond .eq 25, 3) := by decide +kernel
theorem dX4_readyFiber_8 : decode cX4_readyFiber 8 = .ok (.aload_n 0, 1) := by decide +kernel
theorem dX4_readyFiber_9 : decode cX4_readyFiber 9 = .ok (.getfield 18, 3) := by decide +kernel
theorem dX4_readyFiber_12 : decode cX4_readyFiber 12 = .ok (.iload_n 1, 1) := by decide +kernel
theorem dX4_readyFiber_13 : decode cX4_readyFiber 13 = .ok (.aaload, 1) := by decide +kernel
theorem dX4_readyFiber_14 : decode cX4_readyFiber 14 = .ok (.getfield 70, 3) := by decide +kernel
theorem dX4_readyFiber_17 : decode cX4_readyFiber 17 = .ok (.iconst 1, 1) := by decide +kernel
theorem dX4_readyFiber_18 : decode cX4_readyFiber 18 = .ok (.if_icmp .ne 12, 3) := by decide +kernel
theorem dX4_readyFiber_21 : decode cX4_readyFiber 21 = .ok (.aload_n 0, 1) := by decide +kernel
theorem dX4_readyFiber_22 : decode cX4_readyFiber 22 = .ok (.getfield 18, 3) := by decide +kernel
theorem dX4_readyFiber_25 : decode cX4_readyFiber 25 = .ok (.iload_n 1, 1) := by decide +kernel
theorem dX4_readyFiber_26 : decode cX4_readyFiber 26 = .ok (.aaload, 1) := by decide +kernel
theorem dX4_readyFiber_27 : decode cX4_readyFiber 27 = .ok (.goto 4, 3) := by decide +kernel
theorem dX4_readyFiber_30 : decode cX4_readyFiber 30 = .ok (.aconst_null, 1) := by decide +kernel
theorem dX4_readyFiber_31 : decode cX4_readyFiber 31 = .ok (.areturn, 1) := by decide +kernel
abbrev cX4_livingFibers : ByteArray := prog_1_method_24_code
def yX4_livingFibers : MethodName := ⟨RX4, "livingFibers", "()I"⟩
theorem dX4_livingFibers_0 : decode cX4_livingFibers 0 = .ok (.iconst 0, 1) := by decide +kernel
theorem dX4_livingFibers_1 : decode cX4_livingFibers 1 = .ok (.istore_n 1, 1) := by decide +kernel
theorem dX4_livingFibers_2 : decode cX4_livingFibers 2 = .ok (.iconst 0, 1) := by decide +kernel
theorem dX4_livingFibers_3 : decode cX4_livingFibers 3 = .ok (.istore_n 2, 1) := by decide +kernel
theorem dX4_livingFibers_4 : decode cX4_livingFibers 4 = .ok (.iload_n 2, 1) := by decide +kernel
theorem dX4_livingFibers_5 : decode cX4_livingFibers 5 = .ok (.bipush 6, 2) := by decide +kernel
theorem dX4_livingFibers_7 : decode cX4_livingFibers 7 = .ok (.if_icmp .ge 20, 3) := by decide +kernel
theorem dX4_livingFibers_10 : decode cX4_livingFibers 10 = .ok (.aload_n 0, 1) := by decide +kernel
theorem dX4_livingFibers_11 : decode cX4_livingFibers 11 = .ok (.iload_n 2, 1) := by decide +kernel
theorem dX4_livingFibers_12 : decode cX4_livingFibers 12 = .ok (.invokevirtual 64, 3) := by decide +kernel
theorem dX4_livingFibers_15 : decode cX4_livingFibers 15 = .ok (.ifCond .eq 6, 3) := by decide +kernel
theorem dX4_livingFibers_18 : decode cX4_livingFibers 18 = .ok (.iinc 1 1, 3) := by decide +kernel
theorem dX4_livingFibers_21 : decode cX4_livingFibers 21 = .ok (.iinc 2 1, 3) := by decide +kernel
theorem dX4_livingFibers_24 : decode cX4_livingFibers 24 = .ok (.goto (-20), 3) := by decide +kernel
theorem dX4_livingFibers_27 : decode cX4_livingFibers 27 = .ok (.iload_n 1, 1) := by decide +kernel
theorem dX4_livingFibers_28 : decode cX4_livingFibers 28 = .ok (.ireturn, 1) := by decide +kernel
abbrev cX4_lowestGoneFiber : ByteArray := prog_1_method_25_code
def yX4_lowestGoneFiber : MethodName := ⟨RX4, "lowestGoneFiber", "()I"⟩
theorem dX4_lowestGoneFiber_0 : decode cX4_lowestGoneFiber 0 = .ok (.iconst 0, 1) := by decide +kernel
theorem dX4_lowestGoneFiber_1 : decode cX4_lowestGoneFiber 1 = .ok (.istore_n 1, 1) := by decide +kernel
theorem dX4_lowestGoneFiber_2 : decode cX4_lowestGoneFiber 2 = .ok (.iload_n 1, 1) := by decide +kernel
theorem dX4_lowestGoneFiber_3 : decode cX4_lowestGoneFiber 3 = .ok (.bipush 6, 2) := by decide +kernel
theorem dX4_lowestGoneFiber_5 : decode cX4_lowestGoneFiber 5 = .ok (.if_icmp .ge 19, 3) := by decide +kernel
theorem dX4_lowestGoneFiber_8 : decode cX4_lowestGoneFiber 8 = .ok (.aload_n 0, 1) := by decide +kernel
theorem dX4_lowestGoneFiber_9 : decode cX4_lowestGoneFiber 9 = .ok (.iload_n 1, 1) := by decide +kernel
theorem dX4_lowestGoneFiber_10 : decode cX4_lowestGoneFiber 10 = .ok (.invokevirtual 64, 3) := by decide +kernel
theorem dX4_lowestGoneFiber_13 : decode cX4_lowestGoneFiber 13 = .ok (.ifCond .ne 5, 3) := by decide +kernel
theorem dX4_lowestGoneFiber_16 : decode cX4_lowestGoneFiber 16 = .ok (.iload_n 1, 1) := by decide +kernel
theorem dX4_lowestGoneFiber_17 : decode cX4_lowestGoneFiber 17 = .ok (.ireturn, 1) := by decide +kernel
theorem dX4_lowestGoneFiber_18 : decode cX4_lowestGoneFiber 18 = .ok (.iinc 1 1, 3) := by decide +kernel
theorem dX4_lowestGoneFiber_21 : decode cX4_lowestGoneFiber 21 = .ok (.goto (-19), 3) := by decide +kernel
theorem dX4_lowestGoneFiber_24 : decode cX4_lowestGoneFiber 24 = .ok (.iconst (-1), 1) := by decide +kernel
theorem dX4_lowestGoneFiber_25 : decode cX4_lowestGoneFiber 25 = .ok (.ireturn, 1) := by decide +kernel
abbrev cX4_copiedFrames : ByteArray := prog_1_method_26_code
def yX4_copiedFrames : MethodName := ⟨RX4, "copiedFrames", "()I"⟩
theorem dX4_copiedFrames_0 : decode cX4_copiedFrames 0 = .ok (.iconst 0, 1) := by decide +kernel
theorem dX4_copiedFrames_1 : decode cX4_copiedFrames 1 = .ok (.istore_n 1, 1) := by decide +kernel
theorem dX4_copiedFrames_2 : decode cX4_copiedFrames 2 = .ok (.iconst 0, 1) := by decide +kernel
theorem dX4_copiedFrames_3 : decode cX4_copiedFrames 3 = .ok (.istore_n 2, 1) := by decide +kernel
theorem dX4_copiedFrames_4 : decode cX4_copiedFrames 4 = .ok (.iload_n 2, 1) := by decide +kernel
theorem dX4_copiedFrames_5 : decode cX4_copiedFrames 5 = .ok (.bipush 6, 2) := by decide +kernel
theorem dX4_copiedFrames_7 : decode cX4_copiedFrames 7 = .ok (.if_icmp .ge 21, 3) := by decide +kernel
theorem dX4_copiedFrames_10 : decode cX4_copiedFrames 10 = .ok (.iload_n 1, 1) := by decide +kernel
theorem dX4_copiedFrames_11 : decode cX4_copiedFrames 11 = .ok (.aload_n 0, 1) := by decide +kernel
theorem dX4_copiedFrames_12 : decode cX4_copiedFrames 12 = .ok (.getfield 18, 3) := by decide +kernel
theorem dX4_copiedFrames_15 : decode cX4_copiedFrames 15 = .ok (.iload_n 2, 1) := by decide +kernel
theorem dX4_copiedFrames_16 : decode cX4_copiedFrames 16 = .ok (.aaload, 1) := by decide +kernel
theorem dX4_copiedFrames_17 : decode cX4_copiedFrames 17 = .ok (.getfield 208, 3) := by decide +kernel
theorem dX4_copiedFrames_20 : decode cX4_copiedFrames 20 = .ok (.iadd, 1) := by decide +kernel
theorem dX4_copiedFrames_21 : decode cX4_copiedFrames 21 = .ok (.istore_n 1, 1) := by decide +kernel
theorem dX4_copiedFrames_22 : decode cX4_copiedFrames 22 = .ok (.iinc 2 1, 3) := by decide +kernel
theorem dX4_copiedFrames_25 : decode cX4_copiedFrames 25 = .ok (.goto (-21), 3) := by decide +kernel
theorem dX4_copiedFrames_28 : decode cX4_copiedFrames 28 = .ok (.iload_n 1, 1) := by decide +kernel
theorem dX4_copiedFrames_29 : decode cX4_copiedFrames 29 = .ok (.ireturn, 1) := by decide +kernel
abbrev cX4_placeAtAnyCost : ByteArray := prog_1_method_27_code
def yX4_placeAtAnyCost : MethodName := ⟨RX4, "placeAtAnyCost", "(II)I"⟩
theorem dX4_placeAtAnyCost_0 : decode cX4_placeAtAnyCost 0 = .ok (.aload_n 0, 1) := by decide +kernel
theorem dX4_placeAtAnyCost_1 : decode cX4_placeAtAnyCost 1 = .ok (.getfield 12, 3) := by decide +kernel
theorem dX4_placeAtAnyCost_4 : decode cX4_placeAtAnyCost 4 = .ok (.iload_n 1, 1) := by decide +kernel
theorem dX4_placeAtAnyCost_5 : decode cX4_placeAtAnyCost 5 = .ok (.iload_n 2, 1) := by decide +kernel
theorem dX4_placeAtAnyCost_6 : decode cX4_placeAtAnyCost 6 = .ok (.aload_n 0, 1) := by decide +kernel
theorem dX4_placeAtAnyCost_7 : decode cX4_placeAtAnyCost 7 = .ok (.getfield 37, 3) := by decide +kernel
theorem dX4_placeAtAnyCost_10 : decode cX4_placeAtAnyCost 10 = .ok (.invokevirtual 211, 3) := by decide +kernel
theorem dX4_placeAtAnyCost_13 : decode cX4_placeAtAnyCost 13 = .ok (.invokevirtual 214, 3) := by decide +kernel
theorem dX4_placeAtAnyCost_16 : decode cX4_placeAtAnyCost 16 = .ok (.istore_n 3, 1) := by decide +kernel
theorem dX4_placeAtAnyCost_17 : decode cX4_placeAtAnyCost 17 = .ok (.iload_n 3, 1) := by decide +kernel
theorem dX4_placeAtAnyCost_18 : decode cX4_placeAtAnyCost 18 = .ok (.iconst (-1), 1) := by decide +kernel
theorem dX4_placeAtAnyCost_19 : decode cX4_placeAtAnyCost 19 = .ok (.if_icmp .ne 31, 3) := by decide +kernel
theorem dX4_placeAtAnyCost_22 : decode cX4_placeAtAnyCost 22 = .ok (.aload_n 0, 1) := by decide +kernel
theorem dX4_placeAtAnyCost_23 : decode cX4_placeAtAnyCost 23 = .ok (.getfield 37, 3) := by decide +kernel
theorem dX4_placeAtAnyCost_26 : decode cX4_placeAtAnyCost 26 = .ok (.invokevirtual 217, 3) := by decide +kernel
theorem dX4_placeAtAnyCost_29 : decode cX4_placeAtAnyCost 29 = .ok (.aload_n 0, 1) := by decide +kernel
theorem dX4_placeAtAnyCost_30 : decode cX4_placeAtAnyCost 30 = .ok (.getfield 12, 3) := by decide +kernel
theorem dX4_placeAtAnyCost_33 : decode cX4_placeAtAnyCost 33 = .ok (.bipush 16, 2) := by decide +kernel
theorem dX4_placeAtAnyCost_35 : decode cX4_placeAtAnyCost 35 = .ok (.invokevirtual 163, 3) := by decide +kernel
theorem dX4_placeAtAnyCost_38 : decode cX4_placeAtAnyCost 38 = .ok (.pop, 1) := by decide +kernel
theorem dX4_placeAtAnyCost_39 : decode cX4_placeAtAnyCost 39 = .ok (.aload_n 0, 1) := by decide +kernel
theorem dX4_placeAtAnyCost_40 : decode cX4_placeAtAnyCost 40 = .ok (.getfield 12, 3) := by decide +kernel
theorem dX4_placeAtAnyCost_43 : decode cX4_placeAtAnyCost 43 = .ok (.iload_n 1, 1) := by decide +kernel
theorem dX4_placeAtAnyCost_44 : decode cX4_placeAtAnyCost 44 = .ok (.iload_n 2, 1) := by decide +kernel
theorem dX4_placeAtAnyCost_45 : decode cX4_placeAtAnyCost 45 = .ok (.iconst 0, 1) := by decide +kernel
theorem dX4_placeAtAnyCost_46 : decode cX4_placeAtAnyCost 46 = .ok (.invokevirtual 214, 3) := by decide +kernel
theorem dX4_placeAtAnyCost_49 : decode cX4_placeAtAnyCost 49 = .ok (.istore_n 3, 1) := by decide +kernel
theorem dX4_placeAtAnyCost_50 : decode cX4_placeAtAnyCost 50 = .ok (.iload_n 3, 1) := by decide +kernel
theorem dX4_placeAtAnyCost_51 : decode cX4_placeAtAnyCost 51 = .ok (.iconst (-1), 1) := by decide +kernel
theorem dX4_placeAtAnyCost_52 : decode cX4_placeAtAnyCost 52 = .ok (.if_icmp .ne 38, 3) := by decide +kernel
theorem dX4_placeAtAnyCost_55 : decode cX4_placeAtAnyCost 55 = .ok (.aload_n 0, 1) := by decide +kernel
theorem dX4_placeAtAnyCost_56 : decode cX4_placeAtAnyCost 56 = .ok (.getfield 37, 3) := by decide +kernel
theorem dX4_placeAtAnyCost_59 : decode cX4_placeAtAnyCost 59 = .ok (.invokevirtual 166, 3) := by decide +kernel
theorem dX4_placeAtAnyCost_62 : decode cX4_placeAtAnyCost 62 = .ok (.aload_n 0, 1) := by decide +kernel
theorem dX4_placeAtAnyCost_63 : decode cX4_placeAtAnyCost 63 = .ok (.getfield 37, 3) := by decide +kernel
theorem dX4_placeAtAnyCost_66 : decode cX4_placeAtAnyCost 66 = .ok (.invokevirtual 217, 3) := by decide +kernel
theorem dX4_placeAtAnyCost_69 : decode cX4_placeAtAnyCost 69 = .ok (.aload_n 0, 1) := by decide +kernel
theorem dX4_placeAtAnyCost_70 : decode cX4_placeAtAnyCost 70 = .ok (.getfield 12, 3) := by decide +kernel
theorem dX4_placeAtAnyCost_73 : decode cX4_placeAtAnyCost 73 = .ok (.bipush 16, 2) := by decide +kernel
theorem dX4_placeAtAnyCost_75 : decode cX4_placeAtAnyCost 75 = .ok (.invokevirtual 163, 3) := by decide +kernel
theorem dX4_placeAtAnyCost_78 : decode cX4_placeAtAnyCost 78 = .ok (.pop, 1) := by decide +kernel
theorem dX4_placeAtAnyCost_79 : decode cX4_placeAtAnyCost 79 = .ok (.aload_n 0, 1) := by decide +kernel
theorem dX4_placeAtAnyCost_80 : decode cX4_placeAtAnyCost 80 = .ok (.getfield 12, 3) := by decide +kernel
theorem dX4_placeAtAnyCost_83 : decode cX4_placeAtAnyCost 83 = .ok (.iload_n 1, 1) := by decide +kernel
theorem dX4_placeAtAnyCost_84 : decode cX4_placeAtAnyCost 84 = .ok (.iload_n 2, 1) := by decide +kernel
theorem dX4_placeAtAnyCost_85 : decode cX4_placeAtAnyCost 85 = .ok (.iconst 0, 1) := by decide +kernel
theorem dX4_placeAtAnyCost_86 : decode cX4_placeAtAnyCost 86 = .ok (.invokevirtual 214, 3) := by decide +kernel
theorem dX4_placeAtAnyCost_89 : decode cX4_placeAtAnyCost 89 = .ok (.istore_n 3, 1) := by decide +kernel
theorem dX4_placeAtAnyCost_90 : decode cX4_placeAtAnyCost 90 = .ok (.iload_n 3, 1) := by decide +kernel
theorem dX4_placeAtAnyCost_91 : decode cX4_placeAtAnyCost 91 = .ok (.ireturn, 1) := by decide +kernel
abbrev cX4_intWordIndex : ByteArray := prog_1_method_28_code
def yX4_intWordIndex : MethodName := ⟨RX4, "intWordIndex", "(III)I"⟩
theorem dX4_intWordIndex_0 : decode cX4_intWordIndex 0 = .ok (.aload_n 0, 1) := by decide +kernel
theorem dX4_intWordIndex_1 : decode cX4_intWordIndex 1 = .ok (.iload_n 1, 1) := by decide +kernel
theorem dX4_intWordIndex_2 : decode cX4_intWordIndex 2 = .ok (.invokevirtual 48, 3) := by decide +kernel
theorem dX4_intWordIndex_5 : decode cX4_intWordIndex 5 = .ok (.astore 4, 2) := by decide +kernel
theorem dX4_intWordIndex_7 : decode cX4_intWordIndex 7 = .ok (.aload 4, 2) := by decide +kernel
theorem dX4_intWordIndex_9 : decode cX4_intWordIndex 9 = .ok (.ifnull 12, 3) := by decide +kernel
theorem dX4_intWordIndex_12 : decode cX4_intWordIndex 12 = .ok (.aload 4, 2) := by decide +kernel
theorem dX4_intWordIndex_14 : decode cX4_intWordIndex 14 = .ok (.iload_n 2, 1) := by decide +kernel
theorem dX4_intWordIndex_15 : decode cX4_intWordIndex 15 = .ok (.invokevirtual 89, 3) := by decide +kernel
theorem dX4_intWordIndex_18 : decode cX4_intWordIndex 18 = .ok (.ifCond .ne 5, 3) := by decide +kernel
theorem dX4_intWordIndex_21 : decode cX4_intWordIndex 21 = .ok (.iconst (-1), 1) := by decide +kernel
theorem dX4_intWordIndex_22 : decode cX4_intWordIndex 22 = .ok (.ireturn, 1) := by decide +kernel
theorem dX4_intWordIndex_23 : decode cX4_intWordIndex 23 = .ok (.aload 4, 2) := by decide +kernel
theorem dX4_intWordIndex_25 : decode cX4_intWordIndex 25 = .ok (.iload_n 2, 1) := by decide +kernel
theorem dX4_intWordIndex_26 : decode cX4_intWordIndex 26 = .ok (.invokevirtual 60, 3) := by decide +kernel
theorem dX4_intWordIndex_29 : decode cX4_intWordIndex 29 = .ok (.istore 5, 2) := by decide +kernel
theorem dX4_intWordIndex_31 : decode cX4_intWordIndex 31 = .ok (.aload_n 0, 1) := by decide +kernel
theorem dX4_intWordIndex_32 : decode cX4_intWordIndex 32 = .ok (.getfield 12, 3) := by decide +kernel
theorem dX4_intWordIndex_35 : decode cX4_intWordIndex 35 = .ok (.iload 5, 2) := by decide +kernel
theorem dX4_intWordIndex_37 : decode cX4_intWordIndex 37 = .ok (.iload_n 3, 1) := by decide +kernel
theorem dX4_intWordIndex_38 : decode cX4_intWordIndex 38 = .ok (.invokevirtual 220, 3) := by decide +kernel
theorem dX4_intWordIndex_41 : decode cX4_intWordIndex 41 = .ok (.ifCond .eq 10, 3) := by decide +kernel
theorem dX4_intWordIndex_44 : decode cX4_intWordIndex 44 = .ok (.iload 5, 2) := by decide +kernel
theorem dX4_intWordIndex_46 : decode cX4_intWordIndex 46 = .ok (.iload_n 3, 1) := by decide +kernel
theorem dX4_intWordIndex_47 : decode cX4_intWordIndex 47 = .ok (.iadd, 1) := by decide +kernel
theorem dX4_intWordIndex_48 : decode cX4_intWordIndex 48 = .ok (.goto 4, 3) := by decide +kernel
theorem dX4_intWordIndex_51 : decode cX4_intWordIndex 51 = .ok (.iconst (-1), 1) := by decide +kernel
theorem dX4_intWordIndex_52 : decode cX4_intWordIndex 52 = .ok (.ireturn, 1) := by decide +kernel
abbrev cX4_isChannel : ByteArray := prog_1_method_29_code
def yX4_isChannel : MethodName := ⟨RX4, "isChannel", "(I)Z"⟩
theorem dX4_isChannel_0 : decode cX4_isChannel 0 = .ok (.iload_n 0, 1) := by decide +kernel
theorem dX4_isChannel_1 : decode cX4_isChannel 1 = .ok (.ifCond .lt 12, 3) := by decide +kernel
theorem dX4_isChannel_4 : decode cX4_isChannel 4 = .ok (.iload_n 0, 1) := by decide +kernel
theorem dX4_isChannel_5 : decode cX4_isChannel 5 = .ok (.iconst 4, 1) := by decide +kernel
theorem dX4_isChannel_6 : decode cX4_isChannel 6 = .ok (.if_icmp .ge 7, 3) := by decide +kernel
theorem dX4_isChannel_9 : decode cX4_isChannel 9 = .ok (.iconst 1, 1) := by decide +kernel
theorem dX4_isChannel_10 : decode cX4_isChannel 10 = .ok (.goto 4, 3) := by decide +kernel
theorem dX4_isChannel_13 : decode cX4_isChannel 13 = .ok (.iconst 0, 1) := by decide +kernel
theorem dX4_isChannel_14 : decode cX4_isChannel 14 = .ok (.ireturn, 1) := by decide +kernel
abbrev cX4_newTicket : ByteArray := prog_1_method_30_code
def yX4_newTicket : MethodName := ⟨RX4, "newTicket", "()I"⟩
theorem dX4_newTicket_0 : decode cX4_newTicket 0 = .ok (.aload_n 0, 1) := by decide +kernel
theorem dX4_newTicket_1 : decode cX4_newTicket 1 = .ok (.dup, 1) := by decide +kernel
theorem dX4_newTicket_2 : decode cX4_newTicket 2 = .ok (.getfield 41, 3) := by decide +kernel
theorem dX4_newTicket_5 : decode cX4_newTicket 5 = .ok (.dup_x1, 1) := by decide +kernel
theorem dX4_newTicket_6 : decode cX4_newTicket 6 = .ok (.iconst 1, 1) := by decide +kernel
theorem dX4_newTicket_7 : decode cX4_newTicket 7 = .ok (.iadd, 1) := by decide +kernel
theorem dX4_newTicket_8 : decode cX4_newTicket 8 = .ok (.putfield 41, 3) := by decide +kernel
theorem dX4_newTicket_11 : decode cX4_newTicket 11 = .ok (.ireturn, 1) := by decide +kernel
abbrev cX4_firstWaiting : ByteArray := prog_1_method_31_code
def yX4_firstWaiting : MethodName := ⟨RX4, "firstWaiting", "(II)LFiberHeap$Fiber;"⟩
theorem dX4_firstWaiting_0 : decode cX4_firstWaiting 0 = .ok (.aconst_null, 1) := by decide +kernel
theorem dX4_firstWaiting_1 : decode cX4_firstWaiting 1 = .ok (.astore_n 3, 1) := by decide +kernel
theorem dX4_firstWaiting_2 : decode cX4_firstWaiting 2 = .ok (.iconst 0, 1) := by decide +kernel
theorem dX4_firstWaiting_3 : decode cX4_firstWaiting 3 = .ok (.istore 4, 2) := by decide +kernel
theorem dX4_firstWaiting_5 : decode cX4_firstWaiting 5 = .ok (.iload 4, 2) := by decide +kernel
theorem dX4_firstWaiting_7 : decode cX4_firstWaiting 7 = .ok (.bipush 6, 2) := by decide +kernel
theorem dX4_firstWaiting_9 : decode cX4_firstWaiting 9 = .ok (.if_icmp .ge 47, 3) := by decide +kernel
theorem dX4_firstWaiting_12 : decode cX4_firstWaiting 12 = .ok (.aload_n 0, 1) := by decide +kernel
theorem dX4_firstWaiting_13 : decode cX4_firstWaiting 13 = .ok (.getfield 18, 3) := by decide +kernel
theorem dX4_firstWaiting_16 : decode cX4_firstWaiting 16 = .ok (.iload 4, 2) := by decide +kernel
theorem dX4_firstWaiting_18 : decode cX4_firstWaiting 18 = .ok (.aaload, 1) := by decide +kernel
theorem dX4_firstWaiting_19 : decode cX4_firstWaiting 19 = .ok (.astore 5, 2) := by decide +kernel
theorem dX4_firstWaiting_21 : decode cX4_firstWaiting 21 = .ok (.aload 5, 2) := by decide +kernel
theorem dX4_firstWaiting_23 : decode cX4_firstWaiting 23 = .ok (.iload_n 1, 1) := by decide +kernel
theorem dX4_firstWaiting_24 : decode cX4_firstWaiting 24 = .ok (.iload_n 2, 1) := by decide +kernel
theorem dX4_firstWaiting_25 : decode cX4_firstWaiting 25 = .ok (.invokevirtual 223, 3) := by decide +kernel
theorem dX4_firstWaiting_28 : decode cX4_firstWaiting 28 = .ok (.ifCond .eq 22, 3) := by decide +kernel
theorem dX4_firstWaiting_31 : decode cX4_firstWaiting 31 = .ok (.aload_n 3, 1) := by decide +kernel
theorem dX4_firstWaiting_32 : decode cX4_firstWaiting 32 = .ok (.ifnull 15, 3) := by decide +kernel
theorem dX4_firstWaiting_35 : decode cX4_firstWaiting 35 = .ok (.aload 5, 2) := by decide +kernel
theorem dX4_firstWaiting_37 : decode cX4_firstWaiting 37 = .ok (.getfield 226, 3) := by decide +kernel
theorem dX4_firstWaiting_40 : decode cX4_firstWaiting 40 = .ok (.aload_n 3, 1) := by decide +kernel
theorem dX4_firstWaiting_41 : decode cX4_firstWaiting 41 = .ok (.getfield 226, 3) := by decide +kernel
theorem dX4_firstWaiting_44 : decode cX4_firstWaiting 44 = .ok (.if_icmp .ge 6, 3) := by decide +kernel
theorem dX4_firstWaiting_47 : decode cX4_firstWaiting 47 = .ok (.aload 5, 2) := by decide +kernel
theorem dX4_firstWaiting_49 : decode cX4_firstWaiting 49 = .ok (.astore_n 3, 1) := by decide +kernel
theorem dX4_firstWaiting_50 : decode cX4_firstWaiting 50 = .ok (.iinc 4 1, 3) := by decide +kernel
theorem dX4_firstWaiting_53 : decode cX4_firstWaiting 53 = .ok (.goto (-48), 3) := by decide +kernel
theorem dX4_firstWaiting_56 : decode cX4_firstWaiting 56 = .ok (.aload_n 3, 1) := by decide +kernel
theorem dX4_firstWaiting_57 : decode cX4_firstWaiting 57 = .ok (.areturn, 1) := by decide +kernel
abbrev cX4_canGive : ByteArray := prog_1_method_32_code
def yX4_canGive : MethodName := ⟨RX4, "canGive", "(I)Z"⟩
theorem dX4_canGive_0 : decode cX4_canGive 0 = .ok (.aload_n 0, 1) := by decide +kernel
theorem dX4_canGive_1 : decode cX4_canGive 1 = .ok (.getfield 25, 3) := by decide +kernel
theorem dX4_canGive_4 : decode cX4_canGive 4 = .ok (.iload_n 1, 1) := by decide +kernel
theorem dX4_canGive_5 : decode cX4_canGive 5 = .ok (.aaload, 1) := by decide +kernel
theorem dX4_canGive_6 : decode cX4_canGive 6 = .ok (.getfield 229, 3) := by decide +kernel
theorem dX4_canGive_9 : decode cX4_canGive 9 = .ok (.ifCond .gt 12, 3) := by decide +kernel
theorem dX4_canGive_12 : decode cX4_canGive 12 = .ok (.aload_n 0, 1) := by decide +kernel
theorem dX4_canGive_13 : decode cX4_canGive 13 = .ok (.iconst 2, 1) := by decide +kernel
theorem dX4_canGive_14 : decode cX4_canGive 14 = .ok (.iload_n 1, 1) := by decide +kernel
theorem dX4_canGive_15 : decode cX4_canGive 15 = .ok (.invokevirtual 126, 3) := by decide +kernel
theorem dX4_canGive_18 : decode cX4_canGive 18 = .ok (.ifnull 7, 3) := by decide +kernel
theorem dX4_canGive_21 : decode cX4_canGive 21 = .ok (.iconst 1, 1) := by decide +kernel
theorem dX4_canGive_22 : decode cX4_canGive 22 = .ok (.goto 4, 3) := by decide +kernel
theorem dX4_canGive_25 : decode cX4_canGive 25 = .ok (.iconst 0, 1) := by decide +kernel
theorem dX4_canGive_26 : decode cX4_canGive 26 = .ok (.ireturn, 1) := by decide +kernel
abbrev cX4_pointerOutOf : ByteArray := prog_1_method_33_code
def yX4_pointerOutOf : MethodName := ⟨RX4, "pointerOutOf", "(I)I"⟩
theorem dX4_pointerOutOf_0 : decode cX4_pointerOutOf 0 = .ok (.aload_n 0, 1) := by decide +kernel
theorem dX4_pointerOutOf_1 : decode cX4_pointerOutOf 1 = .ok (.iconst 2, 1) := by decide +kernel
theorem dX4_pointerOutOf_2 : decode cX4_pointerOutOf 2 = .ok (.iload_n 1, 1) := by decide +kernel
theorem dX4_pointerOutOf_3 : decode cX4_pointerOutOf 3 = .ok (.invokevirtual 126, 3) := by decide +kernel
theorem dX4_pointerOutOf_6 : decode cX4_pointerOutOf 6 = .ok (.astore_n 2, 1) := by decide +kernel
theorem dX4_pointerOutOf_7 : decode cX4_pointerOutOf 7 = .ok (.aload_n 2, 1) := by decide +kernel
theorem dX4_pointerOutOf_8 : decode cX4_pointerOutOf 8 = .ok (.ifnonnull 7, 3) := by decide +kernel
theorem dX4_pointerOutOf_11 : decode cX4_pointerOutOf 11 = .ok (.iconst (-1), 1) := by decide +kernel
theorem dX4_pointerOutOf_12 : decode cX4_pointerOutOf 12 = .ok (.goto 7, 3) := by decide +kernel
theorem dX4_pointerOutOf_15 : decode cX4_pointerOutOf 15 = .ok (.aload_n 2, 1) := by decide +kernel
theorem dX4_pointerOutOf_16 : decode cX4_pointerOutOf 16 = .ok (.invokevirtual 232, 3) := by decide +kernel
theorem dX4_pointerOutOf_19 : decode cX4_pointerOutOf 19 = .ok (.istore_n 3, 1) := by decide +kernel
theorem dX4_pointerOutOf_20 : decode cX4_pointerOutOf 20 = .ok (.aload_n 0, 1) := by decide +kernel
theorem dX4_pointerOutOf_21 : decode cX4_pointerOutOf 21 = .ok (.getfield 37, 3) := by decide +kernel
theorem dX4_pointerOutOf_24 : decode cX4_pointerOutOf 24 = .ok (.iload_n 3, 1) := by decide +kernel
theorem dX4_pointerOutOf_25 : decode cX4_pointerOutOf 25 = .ok (.invokevirtual 116, 3) := by decide +kernel
theorem dX4_pointerOutOf_28 : decode cX4_pointerOutOf 28 = .ok (.aload_n 0, 1) := by decide +kernel
theorem dX4_pointerOutOf_29 : decode cX4_pointerOutOf 29 = .ok (.getfield 25, 3) := by decide +kernel
theorem dX4_pointerOutOf_32 : decode cX4_pointerOutOf 32 = .ok (.iload_n 1, 1) := by decide +kernel
theorem dX4_pointerOutOf_33 : decode cX4_pointerOutOf 33 = .ok (.aaload, 1) := by decide +kernel
theorem dX4_pointerOutOf_34 : decode cX4_pointerOutOf 34 = .ok (.astore 4, 2) := by decide +kernel
theorem dX4_pointerOutOf_36 : decode cX4_pointerOutOf 36 = .ok (.aload 4, 2) := by decide +kernel
theorem dX4_pointerOutOf_38 : decode cX4_pointerOutOf 38 = .ok (.getfield 229, 3) := by decide +kernel
theorem dX4_pointerOutOf_41 : decode cX4_pointerOutOf 41 = .ok (.ifCond .ne 5, 3) := by decide +kernel
theorem dX4_pointerOutOf_44 : decode cX4_pointerOutOf 44 = .ok (.iload_n 3, 1) := by decide +kernel
theorem dX4_pointerOutOf_45 : decode cX4_pointerOutOf 45 = .ok (.ireturn, 1) := by decide +kernel
theorem dX4_pointerOutOf_46 : decode cX4_pointerOutOf 46 = .ok (.aload 4, 2) := by decide +kernel
theorem dX4_pointerOutOf_48 : decode cX4_pointerOutOf 48 = .ok (.invokevirtual 235, 3) := by decide +kernel
theorem dX4_pointerOutOf_51 : decode cX4_pointerOutOf 51 = .ok (.istore 5, 2) := by decide +kernel
theorem dX4_pointerOutOf_53 : decode cX4_pointerOutOf 53 = .ok (.aload_n 2, 1) := by decide +kernel
theorem dX4_pointerOutOf_54 : decode cX4_pointerOutOf 54 = .ok (.ifnull 9, 3) := by decide +kernel
theorem dX4_pointerOutOf_57 : decode cX4_pointerOutOf 57 = .ok (.aload 4, 2) := by decide +kernel
theorem dX4_pointerOutOf_59 : decode cX4_pointerOutOf 59 = .ok (.iload_n 3, 1) := by decide +kernel
theorem dX4_pointerOutOf_60 : decode cX4_pointerOutOf 60 = .ok (.invokevirtual 137, 3) := by decide +kernel
theorem dX4_pointerOutOf_63 : decode cX4_pointerOutOf 63 = .ok (.iload 5, 2) := by decide +kernel
theorem dX4_pointerOutOf_65 : decode cX4_pointerOutOf 65 = .ok (.ireturn, 1) := by decide +kernel
