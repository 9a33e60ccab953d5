def RX5 : String := "FiberHeapModel"
def TX5 : u_T := fun k => match k with
  | 0 => ("FiberHeapModel", "mem", "[I", true)
  | 1 => ("FiberHeapModel", "words", "[I", true)
  | 2 => ("FiberHeapModel", "pointers", "[I", true)
  | 3 => ("FiberHeapModel", "young", "[Z", true)
  | 4 => ("FiberHeapModel", "noted", "[Z", true)
  | 5 => ("FiberHeapModel", "kept", "[Z", true)
  | 6 => ("FiberHeapModel", "due", "[Z", true)
  | 7 => ("FiberHeapModel", "kind", "[I", true)
  | 8 => ("FiberHeapModel", "unswept", "[Z", true)
  | 9 => ("FiberHeapModel", "state", "[I", true)
  | 10 => ("FiberHeapModel", "frames", "[I", true)
  | 11 => ("FiberHeapModel", "room", "[I", true)
  | 12 => ("FiberHeapModel", "cells", "[I", true)
  | 13 => ("FiberHeapModel", "refs", "[I", true)
  | 14 => ("FiberHeapModel", "scanned", "[Z", true)
  | 15 => ("FiberHeapModel", "since", "[I", true)
  | 16 => ("FiberHeapModel", "at", "[I", true)
  | 17 => ("FiberHeapModel", "orAt", "[I", true)
  | 18 => ("FiberHeapModel", "into", "[I", true)
  | 19 => ("FiberHeapModel", "from", "[I", true)
  | 20 => ("FiberHeapModel", "queue", "[I", true)
  | 21 => ("FiberHeapModel", "length", "[I", true)
  | 22 => ("FiberHeapModel", "clock", "I", false)
  | 23 => ("FiberHeapModel", "marking", "Z", false)
  | 24 => ("FiberHeapModel", "looked", "I", false)
  | 25 => ("FiberHeapModel", "cycles", "I", false)
  | 26 => ("FiberHeapModel", "pieces", "I", false)
  | 27 => ("FiberHeapModel", "copied", "I", false)
  | 28 => ("FiberHeapModel", "fresh", "I", false)
  | 29 => ("FiberHeapModel", "trigger", "I", false)
  | _ => ("FiberHeapModel", "freed", "I", false)
def tyX5 : Nat → FieldType := fun k => match k with
  | 0 => .array .int
  | 1 => .array .int
  | 2 => .array .int
  | 3 => .array .boolean
  | 4 => .array .boolean
  | 5 => .array .boolean
  | 6 => .array .boolean
  | 7 => .array .int
  | 8 => .array .boolean
  | 9 => .array .int
  | 10 => .array .int
  | 11 => .array .int
  | 12 => .array .int
  | 13 => .array .int
  | 14 => .array .boolean
  | 15 => .array .int
  | 16 => .array .int
  | 17 => .array .int
  | 18 => .array .int
  | 19 => .array .int
  | 20 => .array .int
  | 21 => .array .int
  | 22 => .int
  | 23 => .boolean
  | 24 => .int
  | 25 => .int
  | 26 => .int
  | 27 => .int
  | 28 => .int
  | 29 => .int
  | _ => .int
theorem nmX5 : ∀ a, a < 31 → ∀ b, b < 31 → a ≠ b → (TX5 a).2.1 ≠ (TX5 b).2.1 := by decide +kernel
theorem tyX5_ok : ∀ k, k < 31 → parseFieldDescriptor (TX5 k).2.2.1 = some (tyX5 k) := by decide +kernel
abbrev cX5_init : ByteArray := prog_7_method_1_code
def yX5_init : MethodName := ⟨RX5, "<init>", "()V"⟩
theorem dX5_init_0 : decode cX5_init 0 = .ok (.aload_n 0, 1) := by decide +kernel
theorem dX5_init_1 : decode cX5_init 1 = .ok (.invokespecial 1, 3) := by decide +kernel
theorem dX5_init_4 : decode cX5_init 4 = .ok (.aload_n 0, 1) := by decide +kernel
theorem dX5_init_5 : decode cX5_init 5 = .ok (.sipush 256, 3) := by decide +kernel
theorem dX5_init_8 : decode cX5_init 8 = .ok (.newarray .int, 2) := by decide +kernel
theorem dX5_init_10 : decode cX5_init 10 = .ok (.putfield 7, 3) := by decide +kernel
theorem dX5_init_13 : decode cX5_init 13 = .ok (.aload_n 0, 1) := by decide +kernel
theorem dX5_init_14 : decode cX5_init 14 = .ok (.sipush 256, 3) := by decide +kernel
theorem dX5_init_17 : decode cX5_init 17 = .ok (.newarray .int, 2) := by decide +kernel
theorem dX5_init_19 : decode cX5_init 19 = .ok (.putfield 13, 3) := by decide +kernel
theorem dX5_init_22 : decode cX5_init 22 = .ok (.aload_n 0, 1) := by decide +kernel
theorem dX5_init_23 : decode cX5_init 23 = .ok (.sipush 256, 3) := by decide +kernel
theorem dX5_init_26 : decode cX5_init 26 = .ok (.newarray .int, 2) := by decide +kernel
theorem dX5_init_28 : decode cX5_init 28 = .ok (.putfield 16, 3) := by decide +kernel
theorem dX5_init_31 : decode cX5_init 31 = .ok (.aload_n 0, 1) := by decide +kernel
theorem dX5_init_32 : decode cX5_init 32 = .ok (.sipush 256, 3) := by decide +kernel
theorem dX5_init_35 : decode cX5_init 35 = .ok (.newarray .boolean, 2) := by decide +kernel
theorem dX5_init_37 : decode cX5_init 37 = .ok (.putfield 19, 3) := by decide +kernel
theorem dX5_init_40 : decode cX5_init 40 = .ok (.aload_n 0, 1) := by decide +kernel
theorem dX5_init_41 : decode cX5_init 41 = .ok (.sipush 256, 3) := by decide +kernel
theorem dX5_init_44 : decode cX5_init 44 = .ok (.newarray .boolean, 2) := by decide +kernel
theorem dX5_init_46 : decode cX5_init 46 = .ok (.putfield 23, 3) := by decide +kernel
theorem dX5_init_49 : decode cX5_init 49 = .ok (.aload_n 0, 1) := by decide +kernel
theorem dX5_init_50 : decode cX5_init 50 = .ok (.sipush 256, 3) := by decide +kernel
theorem dX5_init_53 : decode cX5_init 53 = .ok (.newarray .boolean, 2) := by decide +kernel
theorem dX5_init_55 : decode cX5_init 55 = .ok (.putfield 26, 3) := by decide +kernel
theorem dX5_init_58 : decode cX5_init 58 = .ok (.aload_n 0, 1) := by decide +kernel
theorem dX5_init_59 : decode cX5_init 59 = .ok (.sipush 256, 3) := by decide +kernel
theorem dX5_init_62 : decode cX5_init 62 = .ok (.newarray .boolean, 2) := by decide +kernel
theorem dX5_init_64 : decode cX5_init 64 = .ok (.putfield 29, 3) := by decide +kernel
theorem dX5_init_67 : decode cX5_init 67 = .ok (.aload_n 0, 1) := by decide +kernel
theorem dX5_init_68 : decode cX5_init 68 = .ok (.bipush 16, 2) := by decide +kernel
theorem dX5_init_70 : decode cX5_init 70 = .ok (.newarray .int, 2) := by decide +kernel
theorem dX5_init_72 : decode cX5_init 72 = .ok (.putfield 32, 3) := by decide +kernel
theorem dX5_init_75 : decode cX5_init 75 = .ok (.aload_n 0, 1) := by decide +kernel
theorem dX5_init_76 : decode cX5_init 76 = .ok (.bipush 16, 2) := by decide +kernel
theorem dX5_init_78 : decode cX5_init 78 = .ok (.newarray .boolean, 2) := by decide +kernel
theorem dX5_init_80 : decode cX5_init 80 = .ok (.putfield 35, 3) := by decide +kernel
theorem dX5_init_83 : decode cX5_init 83 = .ok (.aload_n 0, 1) := by decide +kernel
theorem dX5_init_84 : decode cX5_init 84 = .ok (.bipush 6, 2) := by decide +kernel
theorem dX5_init_86 : decode cX5_init 86 = .ok (.newarray .int, 2) := by decide +kernel
theorem dX5_init_88 : decode cX5_init 88 = .ok (.putfield 38, 3) := by decide +kernel
theorem dX5_init_91 : decode cX5_init 91 = .ok (.aload_n 0, 1) := by decide +kernel
theorem dX5_init_92 : decode cX5_init 92 = .ok (.bipush 6, 2) := by decide +kernel
theorem dX5_init_94 : decode cX5_init 94 = .ok (.newarray .int, 2) := by decide +kernel
theorem dX5_init_96 : decode cX5_init 96 = .ok (.putfield 41, 3) := by decide +kernel
theorem dX5_init_99 : decode cX5_init 99 = .ok (.aload_n 0, 1) := by decide +kernel
theorem dX5_init_100 : decode cX5_init 100 = .ok (.bipush 6, 2) := by decide +kernel
theorem dX5_init_102 : decode cX5_init 102 = .ok (.newarray .int, 2) := by decide +kernel
theorem dX5_init_104 : decode cX5_init 104 = .ok (.putfield 44, 3) := by decide +kernel
theorem dX5_init_107 : decode cX5_init 107 = .ok (.aload_n 0, 1) := by decide +kernel
theorem dX5_init_108 : decode cX5_init 108 = .ok (.sipush 384, 3) := by decide +kernel
theorem dX5_init_111 : decode cX5_init 111 = .ok (.newarray .int, 2) := by decide +kernel
theorem dX5_init_113 : decode cX5_init 113 = .ok (.putfield 47, 3) := by decide +kernel
theorem dX5_init_116 : decode cX5_init 116 = .ok (.aload_n 0, 1) := by decide +kernel
theorem dX5_init_117 : decode cX5_init 117 = .ok (.bipush 96, 2) := by decide +kernel
theorem dX5_init_119 : decode cX5_init 119 = .ok (.newarray .int, 2) := by decide +kernel
theorem dX5_init_121 : decode cX5_init 121 = .ok (.putfield 50, 3) := by decide +kernel
theorem dX5_init_124 : decode cX5_init 124 = .ok (.aload_n 0, 1) := by decide +kernel
theorem dX5_init_125 : decode cX5_init 125 = .ok (.bipush 6, 2) := by decide +kernel
theorem dX5_init_127 : decode cX5_init 127 = .ok (.newarray .boolean, 2) := by decide +kernel
theorem dX5_init_129 : decode cX5_init 129 = .ok (.putfield 53, 3) := by decide +kernel
theorem dX5_init_132 : decode cX5_init 132 = .ok (.aload_n 0, 1) := by decide +kernel
theorem dX5_init_133 : decode cX5_init 133 = .ok (.bipush 6, 2) := by decide +kernel
theorem dX5_init_135 : decode cX5_init 135 = .ok (.newarray .int, 2) := by decide +kernel
theorem dX5_init_137 : decode cX5_init 137 = .ok (.putfield 56, 3) := by decide +kernel
theorem dX5_init_140 : decode cX5_init 140 = .ok (.aload_n 0, 1) := by decide +kernel
theorem dX5_init_141 : decode cX5_init 141 = .ok (.bipush 6, 2) := by decide +kernel
theorem dX5_init_143 : decode cX5_init 143 = .ok (.newarray .int, 2) := by decide +kernel
theorem dX5_init_145 : decode cX5_init 145 = .ok (.putfield 59, 3) := by decide +kernel
theorem dX5_init_148 : decode cX5_init 148 = .ok (.aload_n 0, 1) := by decide +kernel
theorem dX5_init_149 : decode cX5_init 149 = .ok (.bipush 6, 2) := by decide +kernel
theorem dX5_init_151 : decode cX5_init 151 = .ok (.newarray .int, 2) := by decide +kernel
theorem dX5_init_153 : decode cX5_init 153 = .ok (.putfield 62, 3) := by decide +kernel
theorem dX5_init_156 : decode cX5_init 156 = .ok (.aload_n 0, 1) := by decide +kernel
theorem dX5_init_157 : decode cX5_init 157 = .ok (.bipush 6, 2) := by decide +kernel
theorem dX5_init_159 : decode cX5_init 159 = .ok (.newarray .int, 2) := by decide +kernel
theorem dX5_init_161 : decode cX5_init 161 = .ok (.putfield 65, 3) := by decide +kernel
theorem dX5_init_164 : decode cX5_init 164 = .ok (.aload_n 0, 1) := by decide +kernel
theorem dX5_init_165 : decode cX5_init 165 = .ok (.bipush 6, 2) := by decide +kernel
theorem dX5_init_167 : decode cX5_init 167 = .ok (.newarray .int, 2) := by decide +kernel
theorem dX5_init_169 : decode cX5_init 169 = .ok (.putfield 68, 3) := by decide +kernel
theorem dX5_init_172 : decode cX5_init 172 = .ok (.aload_n 0, 1) := by decide +kernel
theorem dX5_init_173 : decode cX5_init 173 = .ok (.bipush 16, 2) := by decide +kernel
theorem dX5_init_175 : decode cX5_init 175 = .ok (.newarray .int, 2) := by decide +kernel
theorem dX5_init_177 : decode cX5_init 177 = .ok (.putfield 71, 3) := by decide +kernel
theorem dX5_init_180 : decode cX5_init 180 = .ok (.aload_n 0, 1) := by decide +kernel
theorem dX5_init_181 : decode cX5_init 181 = .ok (.iconst 4, 1) := by decide +kernel
theorem dX5_init_182 : decode cX5_init 182 = .ok (.newarray .int, 2) := by decide +kernel
theorem dX5_init_184 : decode cX5_init 184 = .ok (.putfield 74, 3) := by decide +kernel
theorem dX5_init_187 : decode cX5_init 187 = .ok (.aload_n 0, 1) := by decide +kernel
theorem dX5_init_188 : decode cX5_init 188 = .ok (.bipush 64, 2) := by decide +kernel
theorem dX5_init_190 : decode cX5_init 190 = .ok (.putfield 77, 3) := by decide +kernel
theorem dX5_init_193 : decode cX5_init 193 = .ok (.aload_n 0, 1) := by decide +kernel
theorem dX5_init_194 : decode cX5_init 194 = .ok (.iconst 0, 1) := by decide +kernel
theorem dX5_init_195 : decode cX5_init 195 = .ok (.iconst (-1), 1) := by decide +kernel
theorem dX5_init_196 : decode cX5_init 196 = .ok (.invokevirtual 81, 3) := by decide +kernel
theorem dX5_init_199 : decode cX5_init 199 = .ok (.return_, 1) := by decide +kernel
abbrev cX5_begin : ByteArray := prog_7_method_2_code
def yX5_begin : MethodName := ⟨RX5, "begin", "(II)V"⟩
theorem dX5_begin_0 : decode cX5_begin 0 = .ok (.aload_n 0, 1) := by decide +kernel
theorem dX5_begin_1 : decode cX5_begin 1 = .ok (.getfield 38, 3) := by decide +kernel
theorem dX5_begin_4 : decode cX5_begin 4 = .ok (.iload_n 1, 1) := by decide +kernel
theorem dX5_begin_5 : decode cX5_begin 5 = .ok (.iconst 1, 1) := by decide +kernel
theorem dX5_begin_6 : decode cX5_begin 6 = .ok (.iastore, 1) := by decide +kernel
theorem dX5_begin_7 : decode cX5_begin 7 = .ok (.aload_n 0, 1) := by decide +kernel
theorem dX5_begin_8 : decode cX5_begin 8 = .ok (.getfield 41, 3) := by decide +kernel
theorem dX5_begin_11 : decode cX5_begin 11 = .ok (.iload_n 1, 1) := by decide +kernel
theorem dX5_begin_12 : decode cX5_begin 12 = .ok (.iconst 1, 1) := by decide +kernel
theorem dX5_begin_13 : decode cX5_begin 13 = .ok (.iastore, 1) := by decide +kernel
theorem dX5_begin_14 : decode cX5_begin 14 = .ok (.aload_n 0, 1) := by decide +kernel
theorem dX5_begin_15 : decode cX5_begin 15 = .ok (.getfield 44, 3) := by decide +kernel
theorem dX5_begin_18 : decode cX5_begin 18 = .ok (.iload_n 1, 1) := by decide +kernel
theorem dX5_begin_19 : decode cX5_begin 19 = .ok (.iconst 2, 1) := by decide +kernel
theorem dX5_begin_20 : decode cX5_begin 20 = .ok (.iastore, 1) := by decide +kernel
theorem dX5_begin_21 : decode cX5_begin 21 = .ok (.aload_n 0, 1) := by decide +kernel
theorem dX5_begin_22 : decode cX5_begin 22 = .ok (.getfield 53, 3) := by decide +kernel
theorem dX5_begin_25 : decode cX5_begin 25 = .ok (.iload_n 1, 1) := by decide +kernel
theorem dX5_begin_26 : decode cX5_begin 26 = .ok (.iconst 0, 1) := by decide +kernel
theorem dX5_begin_27 : decode cX5_begin 27 = .ok (.bastore, 1) := by decide +kernel
theorem dX5_begin_28 : decode cX5_begin 28 = .ok (.aload_n 0, 1) := by decide +kernel
theorem dX5_begin_29 : decode cX5_begin 29 = .ok (.getfield 68, 3) := by decide +kernel
theorem dX5_begin_32 : decode cX5_begin 32 = .ok (.iload_n 1, 1) := by decide +kernel
theorem dX5_begin_33 : decode cX5_begin 33 = .ok (.iconst (-1), 1) := by decide +kernel
theorem dX5_begin_34 : decode cX5_begin 34 = .ok (.iastore, 1) := by decide +kernel
theorem dX5_begin_35 : decode cX5_begin 35 = .ok (.aload_n 0, 1) := by decide +kernel
theorem dX5_begin_36 : decode cX5_begin 36 = .ok (.getfield 50, 3) := by decide +kernel
theorem dX5_begin_39 : decode cX5_begin 39 = .ok (.bipush 16, 2) := by decide +kernel
theorem dX5_begin_41 : decode cX5_begin 41 = .ok (.iload_n 1, 1) := by decide +kernel
theorem dX5_begin_42 : decode cX5_begin 42 = .ok (.imul, 1) := by decide +kernel
theorem dX5_begin_43 : decode cX5_begin 43 = .ok (.iconst (-1), 1) := by decide +kernel
theorem dX5_begin_44 : decode cX5_begin 44 = .ok (.iastore, 1) := by decide +kernel
theorem dX5_begin_45 : decode cX5_begin 45 = .ok (.iconst 0, 1) := by decide +kernel
theorem dX5_begin_46 : decode cX5_begin 46 = .ok (.istore_n 3, 1) := by decide +kernel
theorem dX5_begin_47 : decode cX5_begin 47 = .ok (.iload_n 3, 1) := by decide +kernel
theorem dX5_begin_48 : decode cX5_begin 48 = .ok (.iconst 4, 1) := by decide +kernel
theorem dX5_begin_49 : decode cX5_begin 49 = .ok (.if_icmp .ge 29, 3) := by decide +kernel
theorem dX5_begin_52 : decode cX5_begin 52 = .ok (.aload_n 0, 1) := by decide +kernel
theorem dX5_begin_53 : decode cX5_begin 53 = .ok (.getfield 47, 3) := by decide +kernel
theorem dX5_begin_56 : decode cX5_begin 56 = .ok (.bipush 64, 2) := by decide +kernel
theorem dX5_begin_58 : decode cX5_begin 58 = .ok (.iload_n 1, 1) := by decide +kernel
theorem dX5_begin_59 : decode cX5_begin 59 = .ok (.imul, 1) := by decide +kernel
theorem dX5_begin_60 : decode cX5_begin 60 = .ok (.iload_n 3, 1) := by decide +kernel
theorem dX5_begin_61 : decode cX5_begin 61 = .ok (.iadd, 1) := by decide +kernel
theorem dX5_begin_62 : decode cX5_begin 62 = .ok (.iload_n 3, 1) := by decide +kernel
theorem dX5_begin_63 : decode cX5_begin 63 = .ok (.ifCond .ne 7, 3) := by decide +kernel
theorem dX5_begin_66 : decode cX5_begin 66 = .ok (.iload_n 2, 1) := by decide +kernel
theorem dX5_begin_67 : decode cX5_begin 67 = .ok (.goto 4, 3) := by decide +kernel
theorem dX5_begin_70 : decode cX5_begin 70 = .ok (.iconst (-1), 1) := by decide +kernel
theorem dX5_begin_71 : decode cX5_begin 71 = .ok (.iastore, 1) := by decide +kernel
theorem dX5_begin_72 : decode cX5_begin 72 = .ok (.iinc 3 1, 3) := by decide +kernel
theorem dX5_begin_75 : decode cX5_begin 75 = .ok (.goto (-28), 3) := by decide +kernel
theorem dX5_begin_78 : decode cX5_begin 78 = .ok (.return_, 1) := by decide +kernel
abbrev cX5_lives : ByteArray := prog_7_method_3_code
def yX5_lives : MethodName := ⟨RX5, "lives", "(I)Z"⟩
theorem dX5_lives_0 : decode cX5_lives 0 = .ok (.iload_n 1, 1) := by decide +kernel
theorem dX5_lives_1 : decode cX5_lives 1 = .ok (.ifCond .lt 22, 3) := by decide +kernel
theorem dX5_lives_4 : decode cX5_lives 4 = .ok (.iload_n 1, 1) := by decide +kernel
theorem dX5_lives_5 : decode cX5_lives 5 = .ok (.bipush 6, 2) := by decide +kernel
theorem dX5_lives_7 : decode cX5_lives 7 = .ok (.if_icmp .ge 16, 3) := by decide +kernel
theorem dX5_lives_10 : decode cX5_lives 10 = .ok (.aload_n 0, 1) := by decide +kernel
theorem dX5_lives_11 : decode cX5_lives 11 = .ok (.getfield 38, 3) := by decide +kernel
theorem dX5_lives_14 : decode cX5_lives 14 = .ok (.iload_n 1, 1) := by decide +kernel
theorem dX5_lives_15 : decode cX5_lives 15 = .ok (.iaload, 1) := by decide +kernel
theorem dX5_lives_16 : decode cX5_lives 16 = .ok (.ifCond .le 7, 3) := by decide +kernel
theorem dX5_lives_19 : decode cX5_lives 19 = .ok (.iconst 1, 1) := by decide +kernel
theorem dX5_lives_20 : decode cX5_lives 20 = .ok (.goto 4, 3) := by decide +kernel
theorem dX5_lives_23 : decode cX5_lives 23 = .ok (.iconst 0, 1) := by decide +kernel
theorem dX5_lives_24 : decode cX5_lives 24 = .ok (.ireturn, 1) := by decide +kernel
abbrev cX5_ready : ByteArray := prog_7_method_4_code
def yX5_ready : MethodName := ⟨RX5, "ready", "(I)Z"⟩
theorem dX5_ready_0 : decode cX5_ready 0 = .ok (.aload_n 0, 1) := by decide +kernel
theorem dX5_ready_1 : decode cX5_ready 1 = .ok (.iload_n 1, 1) := by decide +kernel
theorem dX5_ready_2 : decode cX5_ready 2 = .ok (.invokevirtual 85, 3) := by decide +kernel
theorem dX5_ready_5 : decode cX5_ready 5 = .ok (.ifCond .eq 17, 3) := by decide +kernel
theorem dX5_ready_8 : decode cX5_ready 8 = .ok (.aload_n 0, 1) := by decide +kernel
theorem dX5_ready_9 : decode cX5_ready 9 = .ok (.getfield 38, 3) := by decide +kernel
theorem dX5_ready_12 : decode cX5_ready 12 = .ok (.iload_n 1, 1) := by decide +kernel
theorem dX5_ready_13 : decode cX5_ready 13 = .ok (.iaload, 1) := by decide +kernel
theorem dX5_ready_14 : decode cX5_ready 14 = .ok (.iconst 1, 1) := by decide +kernel
theorem dX5_ready_15 : decode cX5_ready 15 = .ok (.if_icmp .ne 7, 3) := by decide +kernel
theorem dX5_ready_18 : decode cX5_ready 18 = .ok (.iconst 1, 1) := by decide +kernel
theorem dX5_ready_19 : decode cX5_ready 19 = .ok (.goto 4, 3) := by decide +kernel
theorem dX5_ready_22 : decode cX5_ready 22 = .ok (.iconst 0, 1) := by decide +kernel
theorem dX5_ready_23 : decode cX5_ready 23 = .ok (.ireturn, 1) := by decide +kernel
abbrev cX5_place : ByteArray := prog_7_method_5_code
def yX5_place : MethodName := ⟨RX5, "place", "(II)I"⟩
theorem dX5_place_0 : decode cX5_place 0 = .ok (.aload_n 0, 1) := by decide +kernel
theorem dX5_place_1 : decode cX5_place 1 = .ok (.getfield 41, 3) := by decide +kernel
theorem dX5_place_4 : decode cX5_place 4 = .ok (.iload_n 1, 1) := by decide +kernel
theorem dX5_place_5 : decode cX5_place 5 = .ok (.iaload, 1) := by decide +kernel
theorem dX5_place_6 : decode cX5_place 6 = .ok (.iconst 1, 1) := by decide +kernel
theorem dX5_place_7 : decode cX5_place 7 = .ok (.isub, 1) := by decide +kernel
theorem dX5_place_8 : decode cX5_place 8 = .ok (.istore_n 3, 1) := by decide +kernel
theorem dX5_place_9 : decode cX5_place 9 = .ok (.iload_n 2, 1) := by decide +kernel
theorem dX5_place_10 : decode cX5_place 10 = .ok (.ifCond .lt 19, 3) := by decide +kernel
theorem dX5_place_13 : decode cX5_place 13 = .ok (.iload_n 2, 1) := by decide +kernel
theorem dX5_place_14 : decode cX5_place 14 = .ok (.iconst 4, 1) := by decide +kernel
theorem dX5_place_15 : decode cX5_place 15 = .ok (.if_icmp .ge 14, 3) := by decide +kernel
theorem dX5_place_18 : decode cX5_place 18 = .ok (.bipush 64, 2) := by decide +kernel
theorem dX5_place_20 : decode cX5_place 20 = .ok (.iload_n 1, 1) := by decide +kernel
theorem dX5_place_21 : decode cX5_place 21 = .ok (.imul, 1) := by decide +kernel
theorem dX5_place_22 : decode cX5_place 22 = .ok (.iconst 4, 1) := by decide +kernel
theorem dX5_place_23 : decode cX5_place 23 = .ok (.iload_n 3, 1) := by decide +kernel
theorem dX5_place_24 : decode cX5_place 24 = .ok (.imul, 1) := by decide +kernel
theorem dX5_place_25 : decode cX5_place 25 = .ok (.iadd, 1) := by decide +kernel
theorem dX5_place_26 : decode cX5_place 26 = .ok (.iload_n 2, 1) := by decide +kernel
theorem dX5_place_27 : decode cX5_place 27 = .ok (.iadd, 1) := by decide +kernel
theorem dX5_place_28 : decode cX5_place 28 = .ok (.ireturn, 1) := by decide +kernel
theorem dX5_place_29 : decode cX5_place 29 = .ok (.iload_n 2, 1) := by decide +kernel
theorem dX5_place_30 : decode cX5_place 30 = .ok (.iconst 4, 1) := by decide +kernel
theorem dX5_place_31 : decode cX5_place 31 = .ok (.if_icmp .ne 17, 3) := by decide +kernel
theorem dX5_place_34 : decode cX5_place 34 = .ok (.aload_n 0, 1) := by decide +kernel
theorem dX5_place_35 : decode cX5_place 35 = .ok (.getfield 50, 3) := by decide +kernel
theorem dX5_place_38 : decode cX5_place 38 = .ok (.bipush 16, 2) := by decide +kernel
theorem dX5_place_40 : decode cX5_place 40 = .ok (.iload_n 1, 1) := by decide +kernel
theorem dX5_place_41 : decode cX5_place 41 = .ok (.imul, 1) := by decide +kernel
theorem dX5_place_42 : decode cX5_place 42 = .ok (.iload_n 3, 1) := by decide +kernel
theorem dX5_place_43 : decode cX5_place 43 = .ok (.iadd, 1) := by decide +kernel
theorem dX5_place_44 : decode cX5_place 44 = .ok (.iaload, 1) := by decide +kernel
theorem dX5_place_45 : decode cX5_place 45 = .ok (.goto 4, 3) := by decide +kernel
theorem dX5_place_48 : decode cX5_place 48 = .ok (.iconst (-1), 1) := by decide +kernel
theorem dX5_place_49 : decode cX5_place 49 = .ok (.istore 4, 2) := by decide +kernel
theorem dX5_place_51 : decode cX5_place 51 = .ok (.iload 4, 2) := by decide +kernel
theorem dX5_place_53 : decode cX5_place 53 = .ok (.iconst (-1), 1) := by decide +kernel
theorem dX5_place_54 : decode cX5_place 54 = .ok (.if_icmp .ne 7, 3) := by decide +kernel
theorem dX5_place_57 : decode cX5_place 57 = .ok (.iconst (-1), 1) := by decide +kernel
theorem dX5_place_58 : decode cX5_place 58 = .ok (.goto 10, 3) := by decide +kernel
theorem dX5_place_61 : decode cX5_place 61 = .ok (.bipush 64, 2) := by decide +kernel
theorem dX5_place_63 : decode cX5_place 63 = .ok (.iload_n 1, 1) := by decide +kernel
theorem dX5_place_64 : decode cX5_place 64 = .ok (.imul, 1) := by decide +kernel
theorem dX5_place_65 : decode cX5_place 65 = .ok (.iload 4, 2) := by decide +kernel
theorem dX5_place_67 : decode cX5_place 67 = .ok (.iadd, 1) := by decide +kernel
theorem dX5_place_68 : decode cX5_place 68 = .ok (.ireturn, 1) := by decide +kernel
abbrev cX5_cell : ByteArray := prog_7_method_6_code
def yX5_cell : MethodName := ⟨RX5, "cell", "(IIZ)Z"⟩
theorem dX5_cell_0 : decode cX5_cell 0 = .ok (.aload_n 0, 1) := by decide +kernel
theorem dX5_cell_1 : decode cX5_cell 1 = .ok (.iload_n 1, 1) := by decide +kernel
theorem dX5_cell_2 : decode cX5_cell 2 = .ok (.invokevirtual 89, 3) := by decide +kernel
theorem dX5_cell_5 : decode cX5_cell 5 = .ok (.ifCond .eq 25, 3) := by decide +kernel
theorem dX5_cell_8 : decode cX5_cell 8 = .ok (.iload_n 3, 1) := by decide +kernel
theorem dX5_cell_9 : decode cX5_cell 9 = .ok (.ifCond .eq 8, 3) := by decide +kernel
theorem dX5_cell_12 : decode cX5_cell 12 = .ok (.iload_n 2, 1) := by decide +kernel
theorem dX5_cell_13 : decode cX5_cell 13 = .ok (.iconst (-1), 1) := by decide +kernel
theorem dX5_cell_14 : decode cX5_cell 14 = .ok (.if_icmp .eq 12, 3) := by decide +kernel
theorem dX5_cell_17 : decode cX5_cell 17 = .ok (.aload_n 0, 1) := by decide +kernel
theorem dX5_cell_18 : decode cX5_cell 18 = .ok (.iload_n 1, 1) := by decide +kernel
theorem dX5_cell_19 : decode cX5_cell 19 = .ok (.iload_n 2, 1) := by decide +kernel
theorem dX5_cell_20 : decode cX5_cell 20 = .ok (.invokevirtual 92, 3) := by decide +kernel
theorem dX5_cell_23 : decode cX5_cell 23 = .ok (.ifCond .lt 7, 3) := by decide +kernel
theorem dX5_cell_26 : decode cX5_cell 26 = .ok (.iconst 1, 1) := by decide +kernel
theorem dX5_cell_27 : decode cX5_cell 27 = .ok (.goto 4, 3) := by decide +kernel
theorem dX5_cell_30 : decode cX5_cell 30 = .ok (.iconst 0, 1) := by decide +kernel
theorem dX5_cell_31 : decode cX5_cell 31 = .ok (.ireturn, 1) := by decide +kernel
abbrev cX5_value : ByteArray := prog_7_method_7_code
def yX5_value : MethodName := ⟨RX5, "value", "(II)I"⟩
theorem dX5_value_0 : decode cX5_value 0 = .ok (.iload_n 2, 1) := by decide +kernel
theorem dX5_value_1 : decode cX5_value 1 = .ok (.iconst (-1), 1) := by decide +kernel
theorem dX5_value_2 : decode cX5_value 2 = .ok (.if_icmp .ne 7, 3) := by decide +kernel
theorem dX5_value_5 : decode cX5_value 5 = .ok (.iconst (-1), 1) := by decide +kernel
theorem dX5_value_6 : decode cX5_value 6 = .ok (.goto 9, 3) := by decide +kernel
theorem dX5_value_9 : decode cX5_value 9 = .ok (.aload_n 0, 1) := by decide +kernel
theorem dX5_value_10 : decode cX5_value 10 = .ok (.iload_n 1, 1) := by decide +kernel
theorem dX5_value_11 : decode cX5_value 11 = .ok (.iload_n 2, 1) := by decide +kernel
theorem dX5_value_12 : decode cX5_value 12 = .ok (.invokevirtual 92, 3) := by decide +kernel
theorem dX5_value_15 : decode cX5_value 15 = .ok (.istore_n 3, 1) := by decide +kernel
theorem dX5_value_16 : decode cX5_value 16 = .ok (.iload_n 3, 1) := by decide +kernel
theorem dX5_value_17 : decode cX5_value 17 = .ok (.ifCond .ge 7, 3) := by decide +kernel
theorem dX5_value_20 : decode cX5_value 20 = .ok (.iconst (-1), 1) := by decide +kernel
theorem dX5_value_21 : decode cX5_value 21 = .ok (.goto 9, 3) := by decide +kernel
theorem dX5_value_24 : decode cX5_value 24 = .ok (.aload_n 0, 1) := by decide +kernel
theorem dX5_value_25 : decode cX5_value 25 = .ok (.getfield 47, 3) := by decide +kernel
theorem dX5_value_28 : decode cX5_value 28 = .ok (.iload_n 3, 1) := by decide +kernel
theorem dX5_value_29 : decode cX5_value 29 = .ok (.iaload, 1) := by decide +kernel
theorem dX5_value_30 : decode cX5_value 30 = .ok (.ireturn, 1) := by decide +kernel
abbrev cX5_object : ByteArray := prog_7_method_8_code
def yX5_object : MethodName := ⟨RX5, "object", "(II)I"⟩
theorem dX5_object_0 : decode cX5_object 0 = .ok (.aload_n 0, 1) := by decide +kernel
theorem dX5_object_1 : decode cX5_object 1 = .ok (.iload_n 1, 1) := by decide +kernel
theorem dX5_object_2 : decode cX5_object 2 = .ok (.iload_n 2, 1) := by decide +kernel
theorem dX5_object_3 : decode cX5_object 3 = .ok (.iconst 0, 1) := by decide +kernel
theorem dX5_object_4 : decode cX5_object 4 = .ok (.invokevirtual 96, 3) := by decide +kernel
theorem dX5_object_7 : decode cX5_object 7 = .ok (.ifCond .eq 12, 3) := by decide +kernel
theorem dX5_object_10 : decode cX5_object 10 = .ok (.aload_n 0, 1) := by decide +kernel
theorem dX5_object_11 : decode cX5_object 11 = .ok (.iload_n 1, 1) := by decide +kernel
theorem dX5_object_12 : decode cX5_object 12 = .ok (.iload_n 2, 1) := by decide +kernel
theorem dX5_object_13 : decode cX5_object 13 = .ok (.invokevirtual 100, 3) := by decide +kernel
theorem dX5_object_16 : decode cX5_object 16 = .ok (.goto 4, 3) := by decide +kernel
theorem dX5_object_19 : decode cX5_object 19 = .ok (.iconst (-1), 1) := by decide +kernel
theorem dX5_object_20 : decode cX5_object 20 = .ok (.ireturn, 1) := by decide +kernel
abbrev cX5_note : ByteArray := prog_7_method_9_code
def yX5_note : MethodName := ⟨RX5, "note", "(I)V"⟩
theorem dX5_note_0 : decode cX5_note 0 = .ok (.aload_n 0, 1) := by decide +kernel
theorem dX5_note_1 : decode cX5_note 1 = .ok (.getfield 103, 3) := by decide +kernel
theorem dX5_note_4 : decode cX5_note 4 = .ok (.ifCond .eq 15, 3) := by decide +kernel
theorem dX5_note_7 : decode cX5_note 7 = .ok (.iload_n 1, 1) := by decide +kernel
theorem dX5_note_8 : decode cX5_note 8 = .ok (.iconst (-1), 1) := by decide +kernel
theorem dX5_note_9 : decode cX5_note 9 = .ok (.if_icmp .eq 10, 3) := by decide +kernel
theorem dX5_note_12 : decode cX5_note 12 = .ok (.aload_n 0, 1) := by decide +kernel
theorem dX5_note_13 : decode cX5_note 13 = .ok (.getfield 23, 3) := by decide +kernel
theorem dX5_note_16 : decode cX5_note 16 = .ok (.iload_n 1, 1) := by decide +kernel
theorem dX5_note_17 : decode cX5_note 17 = .ok (.iconst 1, 1) := by decide +kernel
theorem dX5_note_18 : decode cX5_note 18 = .ok (.bastore, 1) := by decide +kernel
theorem dX5_note_19 : decode cX5_note 19 = .ok (.return_, 1) := by decide +kernel
abbrev cX5_spawn : ByteArray := prog_7_method_10_code
def yX5_spawn : MethodName := ⟨RX5, "spawn", "(II)I"⟩
theorem dX5_spawn_0 : decode cX5_spawn 0 = .ok (.iconst 0, 1) := by decide +kernel
theorem dX5_spawn_1 : decode cX5_spawn 1 = .ok (.istore_n 3, 1) := by decide +kernel
theorem dX5_spawn_2 : decode cX5_spawn 2 = .ok (.iload_n 3, 1) := by decide +kernel
theorem dX5_spawn_3 : decode cX5_spawn 3 = .ok (.bipush 6, 2) := by decide +kernel
theorem dX5_spawn_5 : decode cX5_spawn 5 = .ok (.if_icmp .ge 18, 3) := by decide +kernel
theorem dX5_spawn_8 : decode cX5_spawn 8 = .ok (.aload_n 0, 1) := by decide +kernel
theorem dX5_spawn_9 : decode cX5_spawn 9 = .ok (.getfield 38, 3) := by decide +kernel
theorem dX5_spawn_12 : decode cX5_spawn 12 = .ok (.iload_n 3, 1) := by decide +kernel
theorem dX5_spawn_13 : decode cX5_spawn 13 = .ok (.iaload, 1) := by decide +kernel
theorem dX5_spawn_14 : decode cX5_spawn 14 = .ok (.ifCond .le 9, 3) := by decide +kernel
theorem dX5_spawn_17 : decode cX5_spawn 17 = .ok (.iinc 3 1, 3) := by decide +kernel
theorem dX5_spawn_20 : decode cX5_spawn 20 = .ok (.goto (-18), 3) := by decide +kernel
theorem dX5_spawn_23 : decode cX5_spawn 23 = .ok (.iload_n 3, 1) := by decide +kernel
theorem dX5_spawn_24 : decode cX5_spawn 24 = .ok (.bipush 6, 2) := by decide +kernel
theorem dX5_spawn_26 : decode cX5_spawn 26 = .ok (.if_icmp .eq 13, 3) := by decide +kernel
theorem dX5_spawn_29 : decode cX5_spawn 29 = .ok (.aload_n 0, 1) := by decide +kernel
theorem dX5_spawn_30 : decode cX5_spawn 30 = .ok (.iload_n 1, 1) := by decide +kernel
theorem dX5_spawn_31 : decode cX5_spawn 31 = .ok (.iload_n 2, 1) := by decide +kernel
theorem dX5_spawn_32 : decode cX5_spawn 32 = .ok (.iconst 1, 1) := by decide +kernel
theorem dX5_spawn_33 : decode cX5_spawn 33 = .ok (.invokevirtual 96, 3) := by decide +kernel
theorem dX5_spawn_36 : decode cX5_spawn 36 = .ok (.ifCond .ne 5, 3) := by decide +kernel
theorem dX5_spawn_39 : decode cX5_spawn 39 = .ok (.iconst (-1), 1) := by decide +kernel
theorem dX5_spawn_40 : decode cX5_spawn 40 = .ok (.ireturn, 1) := by decide +kernel
theorem dX5_spawn_41 : decode cX5_spawn 41 = .ok (.aload_n 0, 1) := by decide +kernel
theorem dX5_spawn_42 : decode cX5_spawn 42 = .ok (.iload_n 1, 1) := by decide +kernel
theorem dX5_spawn_43 : decode cX5_spawn 43 = .ok (.iload_n 2, 1) := by decide +kernel
theorem dX5_spawn_44 : decode cX5_spawn 44 = .ok (.invokevirtual 100, 3) := by decide +kernel
theorem dX5_spawn_47 : decode cX5_spawn 47 = .ok (.istore 4, 2) := by decide +kernel
theorem dX5_spawn_49 : decode cX5_spawn 49 = .ok (.aload_n 0, 1) := by decide +kernel
theorem dX5_spawn_50 : decode cX5_spawn 50 = .ok (.iload_n 3, 1) := by decide +kernel
theorem dX5_spawn_51 : decode cX5_spawn 51 = .ok (.iload 4, 2) := by decide +kernel
theorem dX5_spawn_53 : decode cX5_spawn 53 = .ok (.invokevirtual 81, 3) := by decide +kernel
theorem dX5_spawn_56 : decode cX5_spawn 56 = .ok (.iload_n 3, 1) := by decide +kernel
theorem dX5_spawn_57 : decode cX5_spawn 57 = .ok (.ireturn, 1) := by decide +kernel
abbrev cX5_end : ByteArray := prog_7_method_11_code
def yX5_end : MethodName := ⟨RX5, "end", "(I)Z"⟩
theorem dX5_end_0 : decode cX5_end 0 = .ok (.iconst 0, 1) := by decide +kernel
theorem dX5_end_1 : decode cX5_end 1 = .ok (.istore_n 2, 1) := by decide +kernel
theorem dX5_end_2 : decode cX5_end 2 = .ok (.iconst 0, 1) := by decide +kernel
theorem dX5_end_3 : decode cX5_end 3 = .ok (.istore_n 3, 1) := by decide +kernel
theorem dX5_end_4 : decode cX5_end 4 = .ok (.iload_n 3, 1) := by decide +kernel
theorem dX5_end_5 : decode cX5_end 5 = .ok (.bipush 6, 2) := by decide +kernel
theorem dX5_end_7 : decode cX5_end 7 = .ok (.if_icmp .ge 26, 3) := by decide +kernel
theorem dX5_end_10 : decode cX5_end 10 = .ok (.iload_n 2, 1) := by decide +kernel
theorem dX5_end_11 : decode cX5_end 11 = .ok (.aload_n 0, 1) := by decide +kernel
theorem dX5_end_12 : decode cX5_end 12 = .ok (.getfield 38, 3) := by decide +kernel
theorem dX5_end_15 : decode cX5_end 15 = .ok (.iload_n 3, 1) := by decide +kernel
theorem dX5_end_16 : decode cX5_end 16 = .ok (.iaload, 1) := by decide +kernel
theorem dX5_end_17 : decode cX5_end 17 = .ok (.ifCond .le 7, 3) := by decide +kernel
theorem dX5_end_20 : decode cX5_end 20 = .ok (.iconst 1, 1) := by decide +kernel
theorem dX5_end_21 : decode cX5_end 21 = .ok (.goto 4, 3) := by decide +kernel
theorem dX5_end_24 : decode cX5_end 24 = .ok (.iconst 0, 1) := by decide +kernel
theorem dX5_end_25 : decode cX5_end 25 = .ok (.iadd, 1) := by decide +kernel
theorem dX5_end_26 : decode cX5_end 26 = .ok (.istore_n 2, 1) := by decide +kernel
theorem dX5_end_27 : decode cX5_end 27 = .ok (.iinc 3 1, 3) := by decide +kernel
theorem dX5_end_30 : decode cX5_end 30 = .ok (.goto (-26), 3) := by decide +kernel
theorem dX5_end_33 : decode cX5_end 33 = .ok (.aload_n 0, 1) := by decide +kernel
theorem dX5_end_34 : decode cX5_end 34 = .ok (.iload_n 1, 1) := by decide +kernel
theorem dX5_end_35 : decode cX5_end 35 = .ok (.invokevirtual 85, 3) := by decide +kernel
theorem dX5_end_38 : decode cX5_end 38 = .ok (.ifCond .eq 8, 3) := by decide +kernel
theorem dX5_end_41 : decode cX5_end 41 = .ok (.iload_n 2, 1) := by decide +kernel
theorem dX5_end_42 : decode cX5_end 42 = .ok (.iconst 1, 1) := by decide +kernel
theorem dX5_end_43 : decode cX5_end 43 = .ok (.if_icmp .ne 5, 3) := by decide +kernel
theorem dX5_end_46 : decode cX5_end 46 = .ok (.iconst 0, 1) := by decide +kernel
theorem dX5_end_47 : decode cX5_end 47 = .ok (.ireturn, 1) := by decide +kernel
theorem dX5_end_48 : decode cX5_end 48 = .ok (.aload_n 0, 1) := by decide +kernel
theorem dX5_end_49 : decode cX5_end 49 = .ok (.getfield 38, 3) := by decide +kernel
theorem dX5_end_52 : decode cX5_end 52 = .ok (.iload_n 1, 1) := by decide +kernel
theorem dX5_end_53 : decode cX5_end 53 = .ok (.iconst 0, 1) := by decide +kernel
theorem dX5_end_54 : decode cX5_end 54 = .ok (.iastore, 1) := by decide +kernel
theorem dX5_end_55 : decode cX5_end 55 = .ok (.iconst 1, 1) := by decide +kernel
theorem dX5_end_56 : decode cX5_end 56 = .ok (.ireturn, 1) := by decide +kernel
abbrev cX5_wake : ByteArray := prog_7_method_12_code
def yX5_wake : MethodName := ⟨RX5, "wake", "(I)Z"⟩
theorem dX5_wake_0 : decode cX5_wake 0 = .ok (.aload_n 0, 1) := by decide +kernel
theorem dX5_wake_1 : decode cX5_wake 1 = .ok (.iload_n 1, 1) := by decide +kernel
theorem dX5_wake_2 : decode cX5_wake 2 = .ok (.invokevirtual 85, 3) := by decide +kernel
theorem dX5_wake_5 : decode cX5_wake 5 = .ok (.ifCond .eq 13, 3) := by decide +kernel
theorem dX5_wake_8 : decode cX5_wake 8 = .ok (.aload_n 0, 1) := by decide +kernel
theorem dX5_wake_9 : decode cX5_wake 9 = .ok (.getfield 38, 3) := by decide +kernel
theorem dX5_wake_12 : decode cX5_wake 12 = .ok (.iload_n 1, 1) := by decide +kernel
theorem dX5_wake_13 : decode cX5_wake 13 = .ok (.iaload, 1) := by decide +kernel
theorem dX5_wake_14 : decode cX5_wake 14 = .ok (.iconst 1, 1) := by decide +kernel
theorem dX5_wake_15 : decode cX5_wake 15 = .ok (.if_icmp .ne 5, 3) := by decide +kernel
theorem dX5_wake_18 : decode cX5_wake 18 = .ok (.iconst 0, 1) := by decide +kernel
theorem dX5_wake_19 : decode cX5_wake 19 = .ok (.ireturn, 1) := by decide +kernel
theorem dX5_wake_20 : decode cX5_wake 20 = .ok (.aload_n 0, 1) := by decide +kernel
theorem dX5_wake_21 : decode cX5_wake 21 = .ok (.getfield 38, 3) := by decide +kernel
theorem dX5_wake_24 : decode cX5_wake 24 = .ok (.iload_n 1, 1) := by decide +kernel
theorem dX5_wake_25 : decode cX5_wake 25 = .ok (.iconst 1, 1) := by decide +kernel
theorem dX5_wake_26 : decode cX5_wake 26 = .ok (.iastore, 1) := by decide +kernel
theorem dX5_wake_27 : decode cX5_wake 27 = .ok (.iconst 1, 1) := by decide +kernel
theorem dX5_wake_28 : decode cX5_wake 28 = .ok (.ireturn, 1) := by decide +kernel
abbrev cX5_call : ByteArray := prog_7_method_13_code
def yX5_call : MethodName := ⟨RX5, "call", "(I)Z"⟩
theorem dX5_call_0 : decode cX5_call 0 = .ok (.aload_n 0, 1) := by decide +kernel
theorem dX5_call_1 : decode cX5_call 1 = .ok (.iload_n 1, 1) := by decide +kernel
theorem dX5_call_2 : decode cX5_call 2 = .ok (.invokevirtual 89, 3) := by decide +kernel
theorem dX5_call_5 : decode cX5_call 5 = .ok (.ifCond .eq 14, 3) := by decide +kernel
theorem dX5_call_8 : decode cX5_call 8 = .ok (.aload_n 0, 1) := by decide +kernel
theorem dX5_call_9 : decode cX5_call 9 = .ok (.getfield 41, 3) := by decide +kernel
theorem dX5_call_12 : decode cX5_call 12 = .ok (.iload_n 1, 1) := by decide +kernel
theorem dX5_call_13 : decode cX5_call 13 = .ok (.iaload, 1) := by decide +kernel
theorem dX5_call_14 : decode cX5_call 14 = .ok (.bipush 16, 2) := by decide +kernel
theorem dX5_call_16 : decode cX5_call 16 = .ok (.if_icmp .ne 5, 3) := by decide +kernel
theorem dX5_call_19 : decode cX5_call 19 = .ok (.iconst 0, 1) := by decide +kernel
theorem dX5_call_20 : decode cX5_call 20 = .ok (.ireturn, 1) := by decide +kernel
theorem dX5_call_21 : decode cX5_call 21 = .ok (.aload_n 0, 1) := by decide +kernel
theorem dX5_call_22 : decode cX5_call 22 = .ok (.getfield 41, 3) := by decide +kernel
theorem dX5_call_25 : decode cX5_call 25 = .ok (.iload_n 1, 1) := by decide +kernel
theorem dX5_call_26 : decode cX5_call 26 = .ok (.iaload, 1) := by decide +kernel
theorem dX5_call_27 : decode cX5_call 27 = .ok (.aload_n 0, 1) := by decide +kernel
theorem dX5_call_28 : decode cX5_call 28 = .ok (.getfield 44, 3) := by decide +kernel
theorem dX5_call_31 : decode cX5_call 31 = .ok (.iload_n 1, 1) := by decide +kernel
theorem dX5_call_32 : decode cX5_call 32 = .ok (.iaload, 1) := by decide +kernel
theorem dX5_call_33 : decode cX5_call 33 = .ok (.if_icmp .ne 28, 3) := by decide +kernel
theorem dX5_call_36 : decode cX5_call 36 = .ok (.aload_n 0, 1) := by decide +kernel
theorem dX5_call_37 : decode cX5_call 37 = .ok (.getfield 44, 3) := by decide +kernel
theorem dX5_call_40 : decode cX5_call 40 = .ok (.iload_n 1, 1) := by decide +kernel
theorem dX5_call_41 : decode cX5_call 41 = .ok (.dup2, 1) := by decide +kernel
theorem dX5_call_42 : decode cX5_call 42 = .ok (.iaload, 1) := by decide +kernel
theorem dX5_call_43 : decode cX5_call 43 = .ok (.iconst 2, 1) := by decide +kernel
theorem dX5_call_44 : decode cX5_call 44 = .ok (.imul, 1) := by decide +kernel
theorem dX5_call_45 : decode cX5_call 45 = .ok (.iastore, 1) := by decide +kernel
theorem dX5_call_46 : decode cX5_call 46 = .ok (.aload_n 0, 1) := by decide +kernel
theorem dX5_call_47 : decode cX5_call 47 = .ok (.dup, 1) := by decide +kernel
theorem dX5_call_48 : decode cX5_call 48 = .ok (.getfield 107, 3) := by decide +kernel
theorem dX5_call_51 : decode cX5_call 51 = .ok (.aload_n 0, 1) := by decide +kernel
theorem dX5_call_52 : decode cX5_call 52 = .ok (.getfield 41, 3) := by decide +kernel
theorem dX5_call_55 : decode cX5_call 55 = .ok (.iload_n 1, 1) := by decide +kernel
theorem dX5_call_56 : decode cX5_call 56 = .ok (.iaload, 1) := by decide +kernel
theorem dX5_call_57 : decode cX5_call 57 = .ok (.iadd, 1) := by decide +kernel
theorem dX5_call_58 : decode cX5_call 58 = .ok (.putfield 107, 3) := by decide +kernel
theorem dX5_call_61 : decode cX5_call 61 = .ok (.bipush 16, 2) := by decide +kernel
theorem dX5_call_63 : decode cX5_call 63 = .ok (.iload_n 1, 1) := by decide +kernel
theorem dX5_call_64 : decode cX5_call 64 = .ok (.imul, 1) := by decide +kernel
theorem dX5_call_65 : decode cX5_call 65 = .ok (.aload_n 0, 1) := by decide +kernel
theorem dX5_call_66 : decode cX5_call 66 = .ok (.getfield 41, 3) := by decide +kernel
theorem dX5_call_69 : decode cX5_call 69 = .ok (.iload_n 1, 1) := by decide +kernel
theorem dX5_call_70 : decode cX5_call 70 = .ok (.iaload, 1) := by decide +kernel
theorem dX5_call_71 : decode cX5_call 71 = .ok (.iadd, 1) := by decide +kernel
theorem dX5_call_72 : decode cX5_call 72 = .ok (.iconst 1, 1) := by decide +kernel
theorem dX5_call_73 : decode cX5_call 73 = .ok (.isub, 1) := by decide +kernel
theorem dX5_call_74 : decode cX5_call 74 = .ok (.istore_n 2, 1) := by decide +kernel
theorem dX5_call_75 : decode cX5_call 75 = .ok (.iconst 0, 1) := by decide +kernel
theorem dX5_call_76 : decode cX5_call 76 = .ok (.istore_n 3, 1) := by decide +kernel
theorem dX5_call_77 : decode cX5_call 77 = .ok (.iload_n 3, 1) := by decide +kernel
theorem dX5_call_78 : decode cX5_call 78 = .ok (.iconst 4, 1) := by decide +kernel
theorem dX5_call_79 : decode cX5_call 79 = .ok (.if_icmp .ge 31, 3) := by decide +kernel
theorem dX5_call_82 : decode cX5_call 82 = .ok (.aload_n 0, 1) := by decide +kernel
theorem dX5_call_83 : decode cX5_call 83 = .ok (.getfield 47, 3) := by decide +kernel
theorem dX5_call_86 : decode cX5_call 86 = .ok (.iconst 4, 1) := by decide +kernel
theorem dX5_call_87 : decode cX5_call 87 = .ok (.iload_n 2, 1) := by decide +kernel
theorem dX5_call_88 : decode cX5_call 88 = .ok (.imul, 1) := by decide +kernel
theorem dX5_call_89 : decode cX5_call 89 = .ok (.iconst 4, 1) := by decide +kernel
theorem dX5_call_90 : decode cX5_call 90 = .ok (.iadd, 1) := by decide +kernel
theorem dX5_call_91 : decode cX5_call 91 = .ok (.iload_n 3, 1) := by decide +kernel
theorem dX5_call_92 : decode cX5_call 92 = .ok (.iadd, 1) := by decide +kernel
theorem dX5_call_93 : decode cX5_call 93 = .ok (.aload_n 0, 1) := by decide +kernel
theorem dX5_call_94 : decode cX5_call 94 = .ok (.getfield 47, 3) := by decide +kernel
theorem dX5_call_97 : decode cX5_call 97 = .ok (.iconst 4, 1) := by decide +kernel
theorem dX5_call_98 : decode cX5_call 98 = .ok (.iload_n 2, 1) := by decide +kernel
theorem dX5_call_99 : decode cX5_call 99 = .ok (.imul, 1) := by decide +kernel
theorem dX5_call_100 : decode cX5_call 100 = .ok (.iload_n 3, 1) := by decide +kernel
theorem dX5_call_101 : decode cX5_call 101 = .ok (.iadd, 1) := by decide +kernel
theorem dX5_call_102 : decode cX5_call 102 = .ok (.iaload, 1) := by decide +kernel
theorem dX5_call_103 : decode cX5_call 103 = .ok (.iastore, 1) := by decide +kernel
theorem dX5_call_104 : decode cX5_call 104 = .ok (.iinc 3 1, 3) := by decide +kernel
theorem dX5_call_107 : decode cX5_call 107 = .ok (.goto (-30), 3) := by decide +kernel
theorem dX5_call_110 : decode cX5_call 110 = .ok (.aload_n 0, 1) := by decide +kernel
theorem dX5_call_111 : decode cX5_call 111 = .ok (.getfield 50, 3) := by decide +kernel
theorem dX5_call_114 : decode cX5_call 114 = .ok (.iload_n 2, 1) := by decide +kernel
theorem dX5_call_115 : decode cX5_call 115 = .ok (.iconst 1, 1) := by decide +kernel
theorem dX5_call_116 : decode cX5_call 116 = .ok (.iadd, 1) := by decide +kernel
theorem dX5_call_117 : decode cX5_call 117 = .ok (.aload_n 0, 1) := by decide +kernel
theorem dX5_call_118 : decode cX5_call 118 = .ok (.getfield 50, 3) := by decide +kernel
theorem dX5_call_121 : decode cX5_call 121 = .ok (.iload_n 2, 1) := by decide +kernel
theorem dX5_call_122 : decode cX5_call 122 = .ok (.iaload, 1) := by decide +kernel
theorem dX5_call_123 : decode cX5_call 123 = .ok (.iastore, 1) := by decide +kernel
theorem dX5_call_124 : decode cX5_call 124 = .ok (.aload_n 0, 1) := by decide +kernel
theorem dX5_call_125 : decode cX5_call 125 = .ok (.getfield 41, 3) := by decide +kernel
theorem dX5_call_128 : decode cX5_call 128 = .ok (.iload_n 1, 1) := by decide +kernel
theorem dX5_call_129 : decode cX5_call 129 = .ok (.dup2, 1) := by decide +kernel
theorem dX5_call_130 : decode cX5_call 130 = .ok (.iaload, 1) := by decide +kernel
theorem dX5_call_131 : decode cX5_call 131 = .ok (.iconst 1, 1) := by decide +kernel
theorem dX5_call_132 : decode cX5_call 132 = .ok (.iadd, 1) := by decide +kernel
theorem dX5_call_133 : decode cX5_call 133 = .ok (.iastore, 1) := by decide +kernel
theorem dX5_call_134 : decode cX5_call 134 = .ok (.iconst 1, 1) := by decide +kernel
theorem dX5_call_135 : decode cX5_call 135 = .ok (.ireturn, 1) := by decide +kernel
abbrev cX5_leave : ByteArray := prog_7_method_14_code
def yX5_leave : MethodName := ⟨RX5, "leave", "(I)Z"⟩
theorem dX5_leave_0 : decode cX5_leave 0 = .ok (.aload_n 0, 1) := by decide +kernel
theorem dX5_leave_1 : decode cX5_leave 1 = .ok (.iload_n 1, 1) := by decide +kernel
theorem dX5_leave_2 : decode cX5_leave 2 = .ok (.invokevirtual 89, 3) := by decide +kernel
theorem dX5_leave_5 : decode cX5_leave 5 = .ok (.ifCond .eq 13, 3) := by decide +kernel
theorem dX5_leave_8 : decode cX5_leave 8 = .ok (.aload_n 0, 1) := by decide +kernel
theorem dX5_leave_9 : decode cX5_leave 9 = .ok (.getfield 41, 3) := by decide +kernel
theorem dX5_leave_12 : decode cX5_leave 12 = .ok (.iload_n 1, 1) := by decide +kernel
theorem dX5_leave_13 : decode cX5_leave 13 = .ok (.iaload, 1) := by decide +kernel
theorem dX5_leave_14 : decode cX5_leave 14 = .ok (.iconst 1, 1) := by decide +kernel
theorem dX5_leave_15 : decode cX5_leave 15 = .ok (.if_icmp .ne 5, 3) := by decide +kernel
theorem dX5_leave_18 : decode cX5_leave 18 = .ok (.iconst 0, 1) := by decide +kernel
theorem dX5_leave_19 : decode cX5_leave 19 = .ok (.ireturn, 1) := by decide +kernel
theorem dX5_leave_20 : decode cX5_leave 20 = .ok (.bipush 16, 2) := by decide +kernel
theorem dX5_leave_22 : decode cX5_leave 22 = .ok (.iload_n 1, 1) := by decide +kernel
theorem dX5_leave_23 : decode cX5_leave 23 = .ok (.imul, 1) := by decide +kernel
theorem dX5_leave_24 : decode cX5_leave 24 = .ok (.aload_n 0, 1) := by decide +kernel
theorem dX5_leave_25 : decode cX5_leave 25 = .ok (.getfield 41, 3) := by decide +kernel
theorem dX5_leave_28 : decode cX5_leave 28 = .ok (.iload_n 1, 1) := by decide +kernel
theorem dX5_leave_29 : decode cX5_leave 29 = .ok (.iaload, 1) := by decide +kernel
theorem dX5_leave_30 : decode cX5_leave 30 = .ok (.iadd, 1) := by decide +kernel
theorem dX5_leave_31 : decode cX5_leave 31 = .ok (.iconst 1, 1) := by decide +kernel
theorem dX5_leave_32 : decode cX5_leave 32 = .ok (.isub, 1) := by decide +kernel
theorem dX5_leave_33 : decode cX5_leave 33 = .ok (.istore_n 2, 1) := by decide +kernel
theorem dX5_leave_34 : decode cX5_leave 34 = .ok (.aload_n 0, 1) := by decide +kernel
theorem dX5_leave_35 : decode cX5_leave 35 = .ok (.getfield 47, 3) := by decide +kernel
theorem dX5_leave_38 : decode cX5_leave 38 = .ok (.iconst 4, 1) := by decide +kernel
theorem dX5_leave_39 : decode cX5_leave 39 = .ok (.iload_n 2, 1) := by decide +kernel
theorem dX5_leave_40 : decode cX5_leave 40 = .ok (.imul, 1) := by decide +kernel
theorem dX5_leave_41 : decode cX5_leave 41 = .ok (.iconst 4, 1) := by decide +kernel
theorem dX5_leave_42 : decode cX5_leave 42 = .ok (.isub, 1) := by decide +kernel
theorem dX5_leave_43 : decode cX5_leave 43 = .ok (.aload_n 0, 1) := by decide +kernel
theorem dX5_leave_44 : decode cX5_leave 44 = .ok (.getfield 47, 3) := by decide +kernel
theorem dX5_leave_47 : decode cX5_leave 47 = .ok (.iconst 4, 1) := by decide +kernel
theorem dX5_leave_48 : decode cX5_leave 48 = .ok (.iload_n 2, 1) := by decide +kernel
theorem dX5_leave_49 : decode cX5_leave 49 = .ok (.imul, 1) := by decide +kernel
theorem dX5_leave_50 : decode cX5_leave 50 = .ok (.iaload, 1) := by decide +kernel
theorem dX5_leave_51 : decode cX5_leave 51 = .ok (.iastore, 1) := by decide +kernel
theorem dX5_leave_52 : decode cX5_leave 52 = .ok (.aload_n 0, 1) := by decide +kernel
theorem dX5_leave_53 : decode cX5_leave 53 = .ok (.getfield 41, 3) := by decide +kernel
theorem dX5_leave_56 : decode cX5_leave 56 = .ok (.iload_n 1, 1) := by decide +kernel
theorem dX5_leave_57 : decode cX5_leave 57 = .ok (.dup2, 1) := by decide +kernel
theorem dX5_leave_58 : decode cX5_leave 58 = .ok (.iaload, 1) := by decide +kernel
theorem dX5_leave_59 : decode cX5_leave 59 = .ok (.iconst 1, 1) := by decide +kernel
theorem dX5_leave_60 : decode cX5_leave 60 = .ok (.isub, 1) := by decide +kernel
theorem dX5_leave_61 : decode cX5_leave 61 = .ok (.iastore, 1) := by decide +kernel
theorem dX5_leave_62 : decode cX5_leave 62 = .ok (.iconst 1, 1) := by decide +kernel
theorem dX5_leave_63 : decode cX5_leave 63 = .ok (.ireturn, 1) := by decide +kernel
abbrev cX5_aim : ByteArray := prog_7_method_15_code
def yX5_aim : MethodName := ⟨RX5, "aim", "(II)Z"⟩
theorem dX5_aim_0 : decode cX5_aim 0 = .ok (.aload_n 0, 1) := by decide +kernel
theorem dX5_aim_1 : decode cX5_aim 1 = .ok (.iload_n 1, 1) := by decide +kernel
theorem dX5_aim_2 : decode cX5_aim 2 = .ok (.invokevirtual 89, 3) := by decide +kernel
theorem dX5_aim_5 : decode cX5_aim 5 = .ok (.ifCond .eq 12, 3) := by decide +kernel
theorem dX5_aim_8 : decode cX5_aim 8 = .ok (.iload_n 2, 1) := by decide +kernel
theorem dX5_aim_9 : decode cX5_aim 9 = .ok (.ifCond .lt 8, 3) := by decide +kernel
theorem dX5_aim_12 : decode cX5_aim 12 = .ok (.iload_n 2, 1) := by decide +kernel
theorem dX5_aim_13 : decode cX5_aim 13 = .ok (.iconst 3, 1) := by decide +kernel
theorem dX5_aim_14 : decode cX5_aim 14 = .ok (.if_icmp .le 5, 3) := by decide +kernel
theorem dX5_aim_17 : decode cX5_aim 17 = .ok (.iconst 0, 1) := by decide +kernel
theorem dX5_aim_18 : decode cX5_aim 18 = .ok (.ireturn, 1) := by decide +kernel
theorem dX5_aim_19 : decode cX5_aim 19 = .ok (.aload_n 0, 1) := by decide +kernel
theorem dX5_aim_20 : decode cX5_aim 20 = .ok (.getfield 50, 3) := by decide +kernel
theorem dX5_aim_23 : decode cX5_aim 23 = .ok (.bipush 16, 2) := by decide +kernel
theorem dX5_aim_25 : decode cX5_aim 25 = .ok (.iload_n 1, 1) := by decide +kernel
theorem dX5_aim_26 : decode cX5_aim 26 = .ok (.imul, 1) := by decide +kernel
theorem dX5_aim_27 : decode cX5_aim 27 = .ok (.aload_n 0, 1) := by decide +kernel
theorem dX5_aim_28 : decode cX5_aim 28 = .ok (.getfield 41, 3) := by decide +kernel
theorem dX5_aim_31 : decode cX5_aim 31 = .ok (.iload_n 1, 1) := by decide +kernel
theorem dX5_aim_32 : decode cX5_aim 32 = .ok (.iaload, 1) := by decide +kernel
theorem dX5_aim_33 : decode cX5_aim 33 = .ok (.iadd, 1) := by decide +kernel
theorem dX5_aim_34 : decode cX5_aim 34 = .ok (.iconst 1, 1) := by decide +kernel
theorem dX5_aim_35 : decode cX5_aim 35 = .ok (.isub, 1) := by decide +kernel
theorem dX5_aim_36 : decode cX5_aim 36 = .ok (.iconst 4, 1) := by decide +kernel
theorem dX5_aim_37 : decode cX5_aim 37 = .ok (.aload_n 0, 1) := by decide +kernel
theorem dX5_aim_38 : decode cX5_aim 38 = .ok (.getfield 41, 3) := by decide +kernel
theorem dX5_aim_41 : decode cX5_aim 41 = .ok (.iload_n 1, 1) := by decide +kernel
theorem dX5_aim_42 : decode cX5_aim 42 = .ok (.iaload, 1) := by decide +kernel
theorem dX5_aim_43 : decode cX5_aim 43 = .ok (.iconst 1, 1) := by decide +kernel
theorem dX5_aim_44 : decode cX5_aim 44 = .ok (.isub, 1) := by decide +kernel
theorem dX5_aim_45 : decode cX5_aim 45 = .ok (.imul, 1) := by decide +kernel
theorem dX5_aim_46 : decode cX5_aim 46 = .ok (.iload_n 2, 1) := by decide +kernel
theorem dX5_aim_47 : decode cX5_aim 47 = .ok (.iadd, 1) := by decide +kernel
theorem dX5_aim_48 : decode cX5_aim 48 = .ok (.iastore, 1) := by decide +kernel
theorem dX5_aim_49 : decode cX5_aim 49 = .ok (.iconst 1, 1) := by decide +kernel
theorem dX5_aim_50 : decode cX5_aim 50 = .ok (.ireturn, 1) := by decide +kernel
abbrev cX5_copy : ByteArray := prog_7_method_16_code
def yX5_copy : MethodName := ⟨RX5, "copy", "(III)Z"⟩
theorem dX5_copy_0 : decode cX5_copy 0 = .ok (.aload_n 0, 1) := by decide +kernel
theorem dX5_copy_1 : decode cX5_copy 1 = .ok (.iload_n 1, 1) := by decide +kernel
theorem dX5_copy_2 : decode cX5_copy 2 = .ok (.iload_n 2, 1) := by decide +kernel
theorem dX5_copy_3 : decode cX5_copy 3 = .ok (.iconst 0, 1) := by decide +kernel
theorem dX5_copy_4 : decode cX5_copy 4 = .ok (.invokevirtual 96, 3) := by decide +kernel
theorem dX5_copy_7 : decode cX5_copy 7 = .ok (.ifCond .eq 13, 3) := by decide +kernel
theorem dX5_copy_10 : decode cX5_copy 10 = .ok (.aload_n 0, 1) := by decide +kernel
theorem dX5_copy_11 : decode cX5_copy 11 = .ok (.iload_n 1, 1) := by decide +kernel
theorem dX5_copy_12 : decode cX5_copy 12 = .ok (.iload_n 3, 1) := by decide +kernel
theorem dX5_copy_13 : decode cX5_copy 13 = .ok (.iconst 1, 1) := by decide +kernel
theorem dX5_copy_14 : decode cX5_copy 14 = .ok (.invokevirtual 96, 3) := by decide +kernel
theorem dX5_copy_17 : decode cX5_copy 17 = .ok (.ifCond .ne 5, 3) := by decide +kernel
theorem dX5_copy_20 : decode cX5_copy 20 = .ok (.iconst 0, 1) := by decide +kernel
theorem dX5_copy_21 : decode cX5_copy 21 = .ok (.ireturn, 1) := by decide +kernel
theorem dX5_copy_22 : decode cX5_copy 22 = .ok (.aload_n 0, 1) := by decide +kernel
theorem dX5_copy_23 : decode cX5_copy 23 = .ok (.getfield 47, 3) := by decide +kernel
theorem dX5_copy_26 : decode cX5_copy 26 = .ok (.aload_n 0, 1) := by decide +kernel
theorem dX5_copy_27 : decode cX5_copy 27 = .ok (.iload_n 1, 1) := by decide +kernel
theorem dX5_copy_28 : decode cX5_copy 28 = .ok (.iload_n 2, 1) := by decide +kernel
theorem dX5_copy_29 : decode cX5_copy 29 = .ok (.invokevirtual 92, 3) := by decide +kernel
theorem dX5_copy_32 : decode cX5_copy 32 = .ok (.aload_n 0, 1) := by decide +kernel
theorem dX5_copy_33 : decode cX5_copy 33 = .ok (.iload_n 1, 1) := by decide +kernel
theorem dX5_copy_34 : decode cX5_copy 34 = .ok (.iload_n 3, 1) := by decide +kernel
theorem dX5_copy_35 : decode cX5_copy 35 = .ok (.invokevirtual 100, 3) := by decide +kernel
theorem dX5_copy_38 : decode cX5_copy 38 = .ok (.iastore, 1) := by decide +kernel
theorem dX5_copy_39 : decode cX5_copy 39 = .ok (.iconst 1, 1) := by decide +kernel
theorem dX5_copy_40 : decode cX5_copy 40 = .ok (.ireturn, 1) := by decide +kernel
abbrev cX5_slotOf : ByteArray := prog_7_method_17_code
def yX5_slotOf : MethodName := ⟨RX5, "slotOf", "(I)I"⟩
theorem dX5_slotOf_0 : decode cX5_slotOf 0 = .ok (.iload_n 1, 1) := by decide +kernel
theorem dX5_slotOf_1 : decode cX5_slotOf 1 = .ok (.iconst 2, 1) := by decide +kernel
theorem dX5_slotOf_2 : decode cX5_slotOf 2 = .ok (.if_icmp .gt 7, 3) := by decide +kernel
theorem dX5_slotOf_5 : decode cX5_slotOf 5 = .ok (.iconst 2, 1) := by decide +kernel
theorem dX5_slotOf_6 : decode cX5_slotOf 6 = .ok (.goto 33, 3) := by decide +kernel
theorem dX5_slotOf_9 : decode cX5_slotOf 9 = .ok (.iload_n 1, 1) := by decide +kernel
theorem dX5_slotOf_10 : decode cX5_slotOf 10 = .ok (.iconst 4, 1) := by decide +kernel
theorem dX5_slotOf_11 : decode cX5_slotOf 11 = .ok (.if_icmp .gt 7, 3) := by decide +kernel
theorem dX5_slotOf_14 : decode cX5_slotOf 14 = .ok (.iconst 4, 1) := by decide +kernel
theorem dX5_slotOf_15 : decode cX5_slotOf 15 = .ok (.goto 24, 3) := by decide +kernel
theorem dX5_slotOf_18 : decode cX5_slotOf 18 = .ok (.iload_n 1, 1) := by decide +kernel
theorem dX5_slotOf_19 : decode cX5_slotOf 19 = .ok (.bipush 8, 2) := by decide +kernel
theorem dX5_slotOf_21 : decode cX5_slotOf 21 = .ok (.if_icmp .gt 8, 3) := by decide +kernel
theorem dX5_slotOf_24 : decode cX5_slotOf 24 = .ok (.bipush 8, 2) := by decide +kernel
theorem dX5_slotOf_26 : decode cX5_slotOf 26 = .ok (.goto 13, 3) := by decide +kernel
theorem dX5_slotOf_29 : decode cX5_slotOf 29 = .ok (.iload_n 1, 1) := by decide +kernel
theorem dX5_slotOf_30 : decode cX5_slotOf 30 = .ok (.bipush 15, 2) := by decide +kernel
theorem dX5_slotOf_32 : decode cX5_slotOf 32 = .ok (.iadd, 1) := by decide +kernel
theorem dX5_slotOf_33 : decode cX5_slotOf 33 = .ok (.bipush 16, 2) := by decide +kernel
theorem dX5_slotOf_35 : decode cX5_slotOf 35 = .ok (.idiv, 1) := by decide +kernel
theorem dX5_slotOf_36 : decode cX5_slotOf 36 = .ok (.bipush 16, 2) := by decide +kernel
theorem dX5_slotOf_38 : decode cX5_slotOf 38 = .ok (.imul, 1) := by decide +kernel
theorem dX5_slotOf_39 : decode cX5_slotOf 39 = .ok (.ireturn, 1) := by decide +kernel
abbrev cX5_sweepSpan : ByteArray := prog_7_method_18_code
def yX5_sweepSpan : MethodName := ⟨RX5, "sweepSpan", "(I)V"⟩
theorem dX5_sweepSpan_0 : decode cX5_sweepSpan 0 = .ok (.aload_n 0, 1) := by decide +kernel
theorem dX5_sweepSpan_1 : decode cX5_sweepSpan 1 = .ok (.getfield 32, 3) := by decide +kernel
theorem dX5_sweepSpan_4 : decode cX5_sweepSpan 4 = .ok (.iload_n 1, 1) := by decide +kernel
theorem dX5_sweepSpan_5 : decode cX5_sweepSpan 5 = .ok (.iaload, 1) := by decide +kernel
theorem dX5_sweepSpan_6 : decode cX5_sweepSpan 6 = .ok (.bipush 16, 2) := by decide +kernel
theorem dX5_sweepSpan_8 : decode cX5_sweepSpan 8 = .ok (.if_icmp .ge 7, 3) := by decide +kernel
theorem dX5_sweepSpan_11 : decode cX5_sweepSpan 11 = .ok (.iconst 1, 1) := by decide +kernel
theorem dX5_sweepSpan_12 : decode cX5_sweepSpan 12 = .ok (.goto 12, 3) := by decide +kernel
theorem dX5_sweepSpan_15 : decode cX5_sweepSpan 15 = .ok (.aload_n 0, 1) := by decide +kernel
theorem dX5_sweepSpan_16 : decode cX5_sweepSpan 16 = .ok (.getfield 32, 3) := by decide +kernel
theorem dX5_sweepSpan_19 : decode cX5_sweepSpan 19 = .ok (.iload_n 1, 1) := by decide +kernel
theorem dX5_sweepSpan_20 : decode cX5_sweepSpan 20 = .ok (.iaload, 1) := by decide +kernel
theorem dX5_sweepSpan_21 : decode cX5_sweepSpan 21 = .ok (.bipush 16, 2) := by decide +kernel
theorem dX5_sweepSpan_23 : decode cX5_sweepSpan 23 = .ok (.idiv, 1) := by decide +kernel
theorem dX5_sweepSpan_24 : decode cX5_sweepSpan 24 = .ok (.istore_n 2, 1) := by decide +kernel
theorem dX5_sweepSpan_25 : decode cX5_sweepSpan 25 = .ok (.iconst 0, 1) := by decide +kernel
theorem dX5_sweepSpan_26 : decode cX5_sweepSpan 26 = .ok (.istore_n 3, 1) := by decide +kernel
theorem dX5_sweepSpan_27 : decode cX5_sweepSpan 27 = .ok (.bipush 16, 2) := by decide +kernel
theorem dX5_sweepSpan_29 : decode cX5_sweepSpan 29 = .ok (.iload_n 1, 1) := by decide +kernel
theorem dX5_sweepSpan_30 : decode cX5_sweepSpan 30 = .ok (.imul, 1) := by decide +kernel
theorem dX5_sweepSpan_31 : decode cX5_sweepSpan 31 = .ok (.istore 4, 2) := by decide +kernel
theorem dX5_sweepSpan_33 : decode cX5_sweepSpan 33 = .ok (.iload 4, 2) := by decide +kernel
theorem dX5_sweepSpan_35 : decode cX5_sweepSpan 35 = .ok (.bipush 16, 2) := by decide +kernel
theorem dX5_sweepSpan_37 : decode cX5_sweepSpan 37 = .ok (.iload_n 1, 1) := by decide +kernel
theorem dX5_sweepSpan_38 : decode cX5_sweepSpan 38 = .ok (.imul, 1) := by decide +kernel
theorem dX5_sweepSpan_39 : decode cX5_sweepSpan 39 = .ok (.bipush 16, 2) := by decide +kernel
theorem dX5_sweepSpan_41 : decode cX5_sweepSpan 41 = .ok (.iadd, 1) := by decide +kernel
theorem dX5_sweepSpan_42 : decode cX5_sweepSpan 42 = .ok (.if_icmp .ge 65, 3) := by decide +kernel
theorem dX5_sweepSpan_45 : decode cX5_sweepSpan 45 = .ok (.aload_n 0, 1) := by decide +kernel
theorem dX5_sweepSpan_46 : decode cX5_sweepSpan 46 = .ok (.getfield 13, 3) := by decide +kernel
theorem dX5_sweepSpan_49 : decode cX5_sweepSpan 49 = .ok (.iload 4, 2) := by decide +kernel
theorem dX5_sweepSpan_51 : decode cX5_sweepSpan 51 = .ok (.iaload, 1) := by decide +kernel
theorem dX5_sweepSpan_52 : decode cX5_sweepSpan 52 = .ok (.ifCond .le 31, 3) := by decide +kernel
theorem dX5_sweepSpan_55 : decode cX5_sweepSpan 55 = .ok (.aload_n 0, 1) := by decide +kernel
theorem dX5_sweepSpan_56 : decode cX5_sweepSpan 56 = .ok (.getfield 26, 3) := by decide +kernel
theorem dX5_sweepSpan_59 : decode cX5_sweepSpan 59 = .ok (.iload 4, 2) := by decide +kernel
theorem dX5_sweepSpan_61 : decode cX5_sweepSpan 61 = .ok (.baload, 1) := by decide +kernel
theorem dX5_sweepSpan_62 : decode cX5_sweepSpan 62 = .ok (.ifCond .ne 21, 3) := by decide +kernel
theorem dX5_sweepSpan_65 : decode cX5_sweepSpan 65 = .ok (.aload_n 0, 1) := by decide +kernel
theorem dX5_sweepSpan_66 : decode cX5_sweepSpan 66 = .ok (.getfield 13, 3) := by decide +kernel
theorem dX5_sweepSpan_69 : decode cX5_sweepSpan 69 = .ok (.iload 4, 2) := by decide +kernel
theorem dX5_sweepSpan_71 : decode cX5_sweepSpan 71 = .ok (.iconst 0, 1) := by decide +kernel
theorem dX5_sweepSpan_72 : decode cX5_sweepSpan 72 = .ok (.iastore, 1) := by decide +kernel
theorem dX5_sweepSpan_73 : decode cX5_sweepSpan 73 = .ok (.aload_n 0, 1) := by decide +kernel
theorem dX5_sweepSpan_74 : decode cX5_sweepSpan 74 = .ok (.dup, 1) := by decide +kernel
theorem dX5_sweepSpan_75 : decode cX5_sweepSpan 75 = .ok (.getfield 110, 3) := by decide +kernel
theorem dX5_sweepSpan_78 : decode cX5_sweepSpan 78 = .ok (.iconst 1, 1) := by decide +kernel
theorem dX5_sweepSpan_79 : decode cX5_sweepSpan 79 = .ok (.iadd, 1) := by decide +kernel
theorem dX5_sweepSpan_80 : decode cX5_sweepSpan 80 = .ok (.putfield 110, 3) := by decide +kernel
theorem dX5_sweepSpan_83 : decode cX5_sweepSpan 83 = .ok (.iload_n 3, 1) := by decide +kernel
theorem dX5_sweepSpan_84 : decode cX5_sweepSpan 84 = .ok (.aload_n 0, 1) := by decide +kernel
theorem dX5_sweepSpan_85 : decode cX5_sweepSpan 85 = .ok (.getfield 13, 3) := by decide +kernel
theorem dX5_sweepSpan_88 : decode cX5_sweepSpan 88 = .ok (.iload 4, 2) := by decide +kernel
theorem dX5_sweepSpan_90 : decode cX5_sweepSpan 90 = .ok (.iaload, 1) := by decide +kernel
theorem dX5_sweepSpan_91 : decode cX5_sweepSpan 91 = .ok (.ifCond .le 7, 3) := by decide +kernel
theorem dX5_sweepSpan_94 : decode cX5_sweepSpan 94 = .ok (.iconst 1, 1) := by decide +kernel
theorem dX5_sweepSpan_95 : decode cX5_sweepSpan 95 = .ok (.goto 4, 3) := by decide +kernel
theorem dX5_sweepSpan_98 : decode cX5_sweepSpan 98 = .ok (.iconst 0, 1) := by decide +kernel
theorem dX5_sweepSpan_99 : decode cX5_sweepSpan 99 = .ok (.iadd, 1) := by decide +kernel
theorem dX5_sweepSpan_100 : decode cX5_sweepSpan 100 = .ok (.istore_n 3, 1) := by decide +kernel
theorem dX5_sweepSpan_101 : decode cX5_sweepSpan 101 = .ok (.iinc 4 1, 3) := by decide +kernel
theorem dX5_sweepSpan_104 : decode cX5_sweepSpan 104 = .ok (.goto (-71), 3) := by decide +kernel
theorem dX5_sweepSpan_107 : decode cX5_sweepSpan 107 = .ok (.aload_n 0, 1) := by decide +kernel
theorem dX5_sweepSpan_108 : decode cX5_sweepSpan 108 = .ok (.getfield 35, 3) := by decide +kernel
theorem dX5_sweepSpan_111 : decode cX5_sweepSpan 111 = .ok (.iload_n 1, 1) := by decide +kernel
theorem dX5_sweepSpan_112 : decode cX5_sweepSpan 112 = .ok (.iconst 0, 1) := by decide +kernel
theorem dX5_sweepSpan_113 : decode cX5_sweepSpan 113 = .ok (.bastore, 1) := by decide +kernel
theorem dX5_sweepSpan_114 : decode cX5_sweepSpan 114 = .ok (.iload_n 1, 1) := by decide +kernel
theorem dX5_sweepSpan_115 : decode cX5_sweepSpan 115 = .ok (.istore 4, 2) := by decide +kernel
theorem dX5_sweepSpan_117 : decode cX5_sweepSpan 117 = .ok (.iload 4, 2) := by decide +kernel
theorem dX5_sweepSpan_119 : decode cX5_sweepSpan 119 = .ok (.iload_n 1, 1) := by decide +kernel
theorem dX5_sweepSpan_120 : decode cX5_sweepSpan 120 = .ok (.iload_n 2, 1) := by decide +kernel
theorem dX5_sweepSpan_121 : decode cX5_sweepSpan 121 = .ok (.iadd, 1) := by decide +kernel
theorem dX5_sweepSpan_122 : decode cX5_sweepSpan 122 = .ok (.if_icmp .ge 21, 3) := by decide +kernel
theorem dX5_sweepSpan_125 : decode cX5_sweepSpan 125 = .ok (.iload_n 3, 1) := by decide +kernel
theorem dX5_sweepSpan_126 : decode cX5_sweepSpan 126 = .ok (.ifCond .ne 17, 3) := by decide +kernel
theorem dX5_sweepSpan_129 : decode cX5_sweepSpan 129 = .ok (.aload_n 0, 1) := by decide +kernel
theorem dX5_sweepSpan_130 : decode cX5_sweepSpan 130 = .ok (.getfield 32, 3) := by decide +kernel
theorem dX5_sweepSpan_133 : decode cX5_sweepSpan 133 = .ok (.iload 4, 2) := by decide +kernel
theorem dX5_sweepSpan_135 : decode cX5_sweepSpan 135 = .ok (.iconst 0, 1) := by decide +kernel
theorem dX5_sweepSpan_136 : decode cX5_sweepSpan 136 = .ok (.iastore, 1) := by decide +kernel
theorem dX5_sweepSpan_137 : decode cX5_sweepSpan 137 = .ok (.iinc 4 1, 3) := by decide +kernel
theorem dX5_sweepSpan_140 : decode cX5_sweepSpan 140 = .ok (.goto (-23), 3) := by decide +kernel
theorem dX5_sweepSpan_143 : decode cX5_sweepSpan 143 = .ok (.return_, 1) := by decide +kernel
abbrev cX5_sweepUpTo : ByteArray := prog_7_method_19_code
def yX5_sweepUpTo : MethodName := ⟨RX5, "sweepUpTo", "(I)I"⟩
theorem dX5_sweepUpTo_0 : decode cX5_sweepUpTo 0 = .ok (.iconst 0, 1) := by decide +kernel
theorem dX5_sweepUpTo_1 : decode cX5_sweepUpTo 1 = .ok (.istore_n 2, 1) := by decide +kernel
theorem dX5_sweepUpTo_2 : decode cX5_sweepUpTo 2 = .ok (.iconst 0, 1) := by decide +kernel
theorem dX5_sweepUpTo_3 : decode cX5_sweepUpTo 3 = .ok (.istore_n 3, 1) := by decide +kernel
theorem dX5_sweepUpTo_4 : decode cX5_sweepUpTo 4 = .ok (.iload_n 3, 1) := by decide +kernel
theorem dX5_sweepUpTo_5 : decode cX5_sweepUpTo 5 = .ok (.bipush 16, 2) := by decide +kernel
theorem dX5_sweepUpTo_7 : decode cX5_sweepUpTo 7 = .ok (.if_icmp .ge 31, 3) := by decide +kernel
theorem dX5_sweepUpTo_10 : decode cX5_sweepUpTo 10 = .ok (.aload_n 0, 1) := by decide +kernel
theorem dX5_sweepUpTo_11 : decode cX5_sweepUpTo 11 = .ok (.getfield 35, 3) := by decide +kernel
theorem dX5_sweepUpTo_14 : decode cX5_sweepUpTo 14 = .ok (.iload_n 3, 1) := by decide +kernel
theorem dX5_sweepUpTo_15 : decode cX5_sweepUpTo 15 = .ok (.baload, 1) := by decide +kernel
theorem dX5_sweepUpTo_16 : decode cX5_sweepUpTo 16 = .ok (.ifCond .eq 16, 3) := by decide +kernel
theorem dX5_sweepUpTo_19 : decode cX5_sweepUpTo 19 = .ok (.iload_n 2, 1) := by decide +kernel
theorem dX5_sweepUpTo_20 : decode cX5_sweepUpTo 20 = .ok (.iload_n 1, 1) := by decide +kernel
theorem dX5_sweepUpTo_21 : decode cX5_sweepUpTo 21 = .ok (.if_icmp .ge 11, 3) := by decide +kernel
theorem dX5_sweepUpTo_24 : decode cX5_sweepUpTo 24 = .ok (.aload_n 0, 1) := by decide +kernel
theorem dX5_sweepUpTo_25 : decode cX5_sweepUpTo 25 = .ok (.iload_n 3, 1) := by decide +kernel
theorem dX5_sweepUpTo_26 : decode cX5_sweepUpTo 26 = .ok (.invokevirtual 113, 3) := by decide +kernel
theorem dX5_sweepUpTo_29 : decode cX5_sweepUpTo 29 = .ok (.iinc 2 1, 3) := by decide +kernel
theorem dX5_sweepUpTo_32 : decode cX5_sweepUpTo 32 = .ok (.iinc 3 1, 3) := by decide +kernel
theorem dX5_sweepUpTo_35 : decode cX5_sweepUpTo 35 = .ok (.goto (-31), 3) := by decide +kernel
theorem dX5_sweepUpTo_38 : decode cX5_sweepUpTo 38 = .ok (.iload_n 2, 1) := by decide +kernel
theorem dX5_sweepUpTo_39 : decode cX5_sweepUpTo 39 = .ok (.ireturn, 1) := by decide +kernel
abbrev cX5_runOf : ByteArray := prog_7_method_20_code
def yX5_runOf : MethodName := ⟨RX5, "runOf", "(IZ)I"⟩
theorem dX5_runOf_0 : decode cX5_runOf 0 = .ok (.iconst (-1), 1) := by decide +kernel
theorem dX5_runOf_1 : decode cX5_runOf 1 = .ok (.istore_n 3, 1) := by decide +kernel
theorem dX5_runOf_2 : decode cX5_runOf 2 = .ok (.iconst 0, 1) := by decide +kernel
theorem dX5_runOf_3 : decode cX5_runOf 3 = .ok (.istore 4, 2) := by decide +kernel
theorem dX5_runOf_5 : decode cX5_runOf 5 = .ok (.iconst 0, 1) := by decide +kernel
theorem dX5_runOf_6 : decode cX5_runOf 6 = .ok (.istore 5, 2) := by decide +kernel
theorem dX5_runOf_8 : decode cX5_runOf 8 = .ok (.iconst 0, 1) := by decide +kernel
theorem dX5_runOf_9 : decode cX5_runOf 9 = .ok (.istore 6, 2) := by decide +kernel
theorem dX5_runOf_11 : decode cX5_runOf 11 = .ok (.iload 6, 2) := by decide +kernel
theorem dX5_runOf_13 : decode cX5_runOf 13 = .ok (.bipush 16, 2) := by decide +kernel
theorem dX5_runOf_15 : decode cX5_runOf 15 = .ok (.if_icmp .gt 76, 3) := by decide +kernel
theorem dX5_runOf_18 : decode cX5_runOf 18 = .ok (.iload 6, 2) := by decide +kernel
theorem dX5_runOf_20 : decode cX5_runOf 20 = .ok (.bipush 16, 2) := by decide +kernel
theorem dX5_runOf_22 : decode cX5_runOf 22 = .ok (.if_icmp .ge 19, 3) := by decide +kernel
theorem dX5_runOf_25 : decode cX5_runOf 25 = .ok (.aload_n 0, 1) := by decide +kernel
theorem dX5_runOf_26 : decode cX5_runOf 26 = .ok (.getfield 32, 3) := by decide +kernel
theorem dX5_runOf_29 : decode cX5_runOf 29 = .ok (.iload 6, 2) := by decide +kernel
theorem dX5_runOf_31 : decode cX5_runOf 31 = .ok (.iaload, 1) := by decide +kernel
theorem dX5_runOf_32 : decode cX5_runOf 32 = .ok (.ifCond .ne 9, 3) := by decide +kernel
theorem dX5_runOf_35 : decode cX5_runOf 35 = .ok (.iinc 5 1, 3) := by decide +kernel
theorem dX5_runOf_38 : decode cX5_runOf 38 = .ok (.goto 47, 3) := by decide +kernel
theorem dX5_runOf_41 : decode cX5_runOf 41 = .ok (.iload 5, 2) := by decide +kernel
theorem dX5_runOf_43 : decode cX5_runOf 43 = .ok (.iload_n 1, 1) := by decide +kernel
theorem dX5_runOf_44 : decode cX5_runOf 44 = .ok (.if_icmp .lt 38, 3) := by decide +kernel
theorem dX5_runOf_47 : decode cX5_runOf 47 = .ok (.iload_n 3, 1) := by decide +kernel
theorem dX5_runOf_48 : decode cX5_runOf 48 = .ok (.ifCond .lt 24, 3) := by decide +kernel
theorem dX5_runOf_51 : decode cX5_runOf 51 = .ok (.iload_n 2, 1) := by decide +kernel
theorem dX5_runOf_52 : decode cX5_runOf 52 = .ok (.ifCond .eq 13, 3) := by decide +kernel
theorem dX5_runOf_55 : decode cX5_runOf 55 = .ok (.iload 5, 2) := by decide +kernel
theorem dX5_runOf_57 : decode cX5_runOf 57 = .ok (.iload 4, 2) := by decide +kernel
theorem dX5_runOf_59 : decode cX5_runOf 59 = .ok (.if_icmp .le 23, 3) := by decide +kernel
theorem dX5_runOf_62 : decode cX5_runOf 62 = .ok (.goto 10, 3) := by decide +kernel
theorem dX5_runOf_65 : decode cX5_runOf 65 = .ok (.iload 5, 2) := by decide +kernel
theorem dX5_runOf_67 : decode cX5_runOf 67 = .ok (.iload 4, 2) := by decide +kernel
theorem dX5_runOf_69 : decode cX5_runOf 69 = .ok (.if_icmp .ge 13, 3) := by decide +kernel
theorem dX5_runOf_72 : decode cX5_runOf 72 = .ok (.iload 6, 2) := by decide +kernel
theorem dX5_runOf_74 : decode cX5_runOf 74 = .ok (.iload 5, 2) := by decide +kernel
theorem dX5_runOf_76 : decode cX5_runOf 76 = .ok (.isub, 1) := by decide +kernel
theorem dX5_runOf_77 : decode cX5_runOf 77 = .ok (.istore_n 3, 1) := by decide +kernel
theorem dX5_runOf_78 : decode cX5_runOf 78 = .ok (.iload 5, 2) := by decide +kernel
theorem dX5_runOf_80 : decode cX5_runOf 80 = .ok (.istore 4, 2) := by decide +kernel
theorem dX5_runOf_82 : decode cX5_runOf 82 = .ok (.iconst 0, 1) := by decide +kernel
theorem dX5_runOf_83 : decode cX5_runOf 83 = .ok (.istore 5, 2) := by decide +kernel
theorem dX5_runOf_85 : decode cX5_runOf 85 = .ok (.iinc 6 1, 3) := by decide +kernel
theorem dX5_runOf_88 : decode cX5_runOf 88 = .ok (.goto (-77), 3) := by decide +kernel
theorem dX5_runOf_91 : decode cX5_runOf 91 = .ok (.iload_n 2, 1) := by decide +kernel
theorem dX5_runOf_92 : decode cX5_runOf 92 = .ok (.ifCond .eq 8, 3) := by decide +kernel
theorem dX5_runOf_95 : decode cX5_runOf 95 = .ok (.iload 4, 2) := by decide +kernel
theorem dX5_runOf_97 : decode cX5_runOf 97 = .ok (.goto 4, 3) := by decide +kernel
theorem dX5_runOf_100 : decode cX5_runOf 100 = .ok (.iload_n 3, 1) := by decide +kernel
theorem dX5_runOf_101 : decode cX5_runOf 101 = .ok (.ireturn, 1) := by decide +kernel
abbrev cX5_seat : ByteArray := prog_7_method_21_code
def yX5_seat : MethodName := ⟨RX5, "seat", "(I)I"⟩
theorem dX5_seat_0 : decode cX5_seat 0 = .ok (.iconst 0, 1) := by decide +kernel
theorem dX5_seat_1 : decode cX5_seat 1 = .ok (.istore_n 2, 1) := by decide +kernel
theorem dX5_seat_2 : decode cX5_seat 2 = .ok (.iload_n 2, 1) := by decide +kernel
theorem dX5_seat_3 : decode cX5_seat 3 = .ok (.bipush 16, 2) := by decide +kernel
theorem dX5_seat_5 : decode cX5_seat 5 = .ok (.if_icmp .ge 83, 3) := by decide +kernel
theorem dX5_seat_8 : decode cX5_seat 8 = .ok (.iload_n 1, 1) := by decide +kernel
theorem dX5_seat_9 : decode cX5_seat 9 = .ok (.bipush 16, 2) := by decide +kernel
theorem dX5_seat_11 : decode cX5_seat 11 = .ok (.if_icmp .ge 77, 3) := by decide +kernel
theorem dX5_seat_14 : decode cX5_seat 14 = .ok (.aload_n 0, 1) := by decide +kernel
theorem dX5_seat_15 : decode cX5_seat 15 = .ok (.getfield 32, 3) := by decide +kernel
theorem dX5_seat_18 : decode cX5_seat 18 = .ok (.iload_n 2, 1) := by decide +kernel
theorem dX5_seat_19 : decode cX5_seat 19 = .ok (.iaload, 1) := by decide +kernel
theorem dX5_seat_20 : decode cX5_seat 20 = .ok (.iload_n 1, 1) := by decide +kernel
theorem dX5_seat_21 : decode cX5_seat 21 = .ok (.if_icmp .ne 17, 3) := by decide +kernel
theorem dX5_seat_24 : decode cX5_seat 24 = .ok (.aload_n 0, 1) := by decide +kernel
theorem dX5_seat_25 : decode cX5_seat 25 = .ok (.getfield 35, 3) := by decide +kernel
theorem dX5_seat_28 : decode cX5_seat 28 = .ok (.iload_n 2, 1) := by decide +kernel
theorem dX5_seat_29 : decode cX5_seat 29 = .ok (.baload, 1) := by decide +kernel
theorem dX5_seat_30 : decode cX5_seat 30 = .ok (.ifCond .eq 8, 3) := by decide +kernel
theorem dX5_seat_33 : decode cX5_seat 33 = .ok (.aload_n 0, 1) := by decide +kernel
theorem dX5_seat_34 : decode cX5_seat 34 = .ok (.iload_n 2, 1) := by decide +kernel
theorem dX5_seat_35 : decode cX5_seat 35 = .ok (.invokevirtual 113, 3) := by decide +kernel
theorem dX5_seat_38 : decode cX5_seat 38 = .ok (.bipush 16, 2) := by decide +kernel
theorem dX5_seat_40 : decode cX5_seat 40 = .ok (.iload_n 2, 1) := by decide +kernel
theorem dX5_seat_41 : decode cX5_seat 41 = .ok (.imul, 1) := by decide +kernel
theorem dX5_seat_42 : decode cX5_seat 42 = .ok (.istore_n 3, 1) := by decide +kernel
theorem dX5_seat_43 : decode cX5_seat 43 = .ok (.iload_n 3, 1) := by decide +kernel
theorem dX5_seat_44 : decode cX5_seat 44 = .ok (.bipush 16, 2) := by decide +kernel
theorem dX5_seat_46 : decode cX5_seat 46 = .ok (.iload_n 2, 1) := by decide +kernel
theorem dX5_seat_47 : decode cX5_seat 47 = .ok (.imul, 1) := by decide +kernel
theorem dX5_seat_48 : decode cX5_seat 48 = .ok (.bipush 16, 2) := by decide +kernel
theorem dX5_seat_50 : decode cX5_seat 50 = .ok (.iadd, 1) := by decide +kernel
theorem dX5_seat_51 : decode cX5_seat 51 = .ok (.if_icmp .ge 31, 3) := by decide +kernel
theorem dX5_seat_54 : decode cX5_seat 54 = .ok (.aload_n 0, 1) := by decide +kernel
theorem dX5_seat_55 : decode cX5_seat 55 = .ok (.getfield 32, 3) := by decide +kernel
theorem dX5_seat_58 : decode cX5_seat 58 = .ok (.iload_n 2, 1) := by decide +kernel
theorem dX5_seat_59 : decode cX5_seat 59 = .ok (.iaload, 1) := by decide +kernel
theorem dX5_seat_60 : decode cX5_seat 60 = .ok (.iload_n 1, 1) := by decide +kernel
theorem dX5_seat_61 : decode cX5_seat 61 = .ok (.if_icmp .ne 21, 3) := by decide +kernel
theorem dX5_seat_64 : decode cX5_seat 64 = .ok (.aload_n 0, 1) := by decide +kernel
theorem dX5_seat_65 : decode cX5_seat 65 = .ok (.getfield 13, 3) := by decide +kernel
theorem dX5_seat_68 : decode cX5_seat 68 = .ok (.iload_n 3, 1) := by decide +kernel
theorem dX5_seat_69 : decode cX5_seat 69 = .ok (.iaload, 1) := by decide +kernel
theorem dX5_seat_70 : decode cX5_seat 70 = .ok (.ifCond .ne 5, 3) := by decide +kernel
theorem dX5_seat_73 : decode cX5_seat 73 = .ok (.iload_n 3, 1) := by decide +kernel
theorem dX5_seat_74 : decode cX5_seat 74 = .ok (.ireturn, 1) := by decide +kernel
theorem dX5_seat_75 : decode cX5_seat 75 = .ok (.iload_n 3, 1) := by decide +kernel
theorem dX5_seat_76 : decode cX5_seat 76 = .ok (.iload_n 1, 1) := by decide +kernel
theorem dX5_seat_77 : decode cX5_seat 77 = .ok (.iadd, 1) := by decide +kernel
theorem dX5_seat_78 : decode cX5_seat 78 = .ok (.istore_n 3, 1) := by decide +kernel
theorem dX5_seat_79 : decode cX5_seat 79 = .ok (.goto (-36), 3) := by decide +kernel
theorem dX5_seat_82 : decode cX5_seat 82 = .ok (.iinc 2 1, 3) := by decide +kernel
theorem dX5_seat_85 : decode cX5_seat 85 = .ok (.goto (-83), 3) := by decide +kernel
theorem dX5_seat_88 : decode cX5_seat 88 = .ok (.iload_n 1, 1) := by decide +kernel
theorem dX5_seat_89 : decode cX5_seat 89 = .ok (.bipush 16, 2) := by decide +kernel
theorem dX5_seat_91 : decode cX5_seat 91 = .ok (.if_icmp .ge 7, 3) := by decide +kernel
theorem dX5_seat_94 : decode cX5_seat 94 = .ok (.iconst 1, 1) := by decide +kernel
theorem dX5_seat_95 : decode cX5_seat 95 = .ok (.goto 7, 3) := by decide +kernel
theorem dX5_seat_98 : decode cX5_seat 98 = .ok (.iload_n 1, 1) := by decide +kernel
theorem dX5_seat_99 : decode cX5_seat 99 = .ok (.bipush 16, 2) := by decide +kernel
theorem dX5_seat_101 : decode cX5_seat 101 = .ok (.idiv, 1) := by decide +kernel
theorem dX5_seat_102 : decode cX5_seat 102 = .ok (.istore_n 2, 1) := by decide +kernel
theorem dX5_seat_103 : decode cX5_seat 103 = .ok (.aload_n 0, 1) := by decide +kernel
theorem dX5_seat_104 : decode cX5_seat 104 = .ok (.iload_n 2, 1) := by decide +kernel
theorem dX5_seat_105 : decode cX5_seat 105 = .ok (.iconst 0, 1) := by decide +kernel
theorem dX5_seat_106 : decode cX5_seat 106 = .ok (.invokevirtual 117, 3) := by decide +kernel
theorem dX5_seat_109 : decode cX5_seat 109 = .ok (.istore_n 3, 1) := by decide +kernel
theorem dX5_seat_110 : decode cX5_seat 110 = .ok (.iconst 0, 1) := by decide +kernel
theorem dX5_seat_111 : decode cX5_seat 111 = .ok (.istore 4, 2) := by decide +kernel
theorem dX5_seat_113 : decode cX5_seat 113 = .ok (.iload 4, 2) := by decide +kernel
theorem dX5_seat_115 : decode cX5_seat 115 = .ok (.iload_n 2, 1) := by decide +kernel
theorem dX5_seat_116 : decode cX5_seat 116 = .ok (.if_icmp .ge 32, 3) := by decide +kernel
theorem dX5_seat_119 : decode cX5_seat 119 = .ok (.iload_n 3, 1) := by decide +kernel
theorem dX5_seat_120 : decode cX5_seat 120 = .ok (.ifCond .lt 28, 3) := by decide +kernel
theorem dX5_seat_123 : decode cX5_seat 123 = .ok (.aload_n 0, 1) := by decide +kernel
theorem dX5_seat_124 : decode cX5_seat 124 = .ok (.getfield 32, 3) := by decide +kernel
theorem dX5_seat_127 : decode cX5_seat 127 = .ok (.iload_n 3, 1) := by decide +kernel
theorem dX5_seat_128 : decode cX5_seat 128 = .ok (.iload 4, 2) := by decide +kernel
theorem dX5_seat_130 : decode cX5_seat 130 = .ok (.iadd, 1) := by decide +kernel
theorem dX5_seat_131 : decode cX5_seat 131 = .ok (.iload 4, 2) := by decide +kernel
theorem dX5_seat_133 : decode cX5_seat 133 = .ok (.ifCond .ne 7, 3) := by decide +kernel
theorem dX5_seat_136 : decode cX5_seat 136 = .ok (.iload_n 1, 1) := by decide +kernel
theorem dX5_seat_137 : decode cX5_seat 137 = .ok (.goto 4, 3) := by decide +kernel
theorem dX5_seat_140 : decode cX5_seat 140 = .ok (.iconst 1, 1) := by decide +kernel
theorem dX5_seat_141 : decode cX5_seat 141 = .ok (.iastore, 1) := by decide +kernel
theorem dX5_seat_142 : decode cX5_seat 142 = .ok (.iinc 4 1, 3) := by decide +kernel
theorem dX5_seat_145 : decode cX5_seat 145 = .ok (.goto (-32), 3) := by decide +kernel
theorem dX5_seat_148 : decode cX5_seat 148 = .ok (.iload_n 3, 1) := by decide +kernel
theorem dX5_seat_149 : decode cX5_seat 149 = .ok (.ifCond .ge 7, 3) := by decide +kernel
theorem dX5_seat_152 : decode cX5_seat 152 = .ok (.iconst (-1), 1) := by decide +kernel
theorem dX5_seat_153 : decode cX5_seat 153 = .ok (.goto 7, 3) := by decide +kernel
theorem dX5_seat_156 : decode cX5_seat 156 = .ok (.bipush 16, 2) := by decide +kernel
theorem dX5_seat_158 : decode cX5_seat 158 = .ok (.iload_n 3, 1) := by decide +kernel
theorem dX5_seat_159 : decode cX5_seat 159 = .ok (.imul, 1) := by decide +kernel
theorem dX5_seat_160 : decode cX5_seat 160 = .ok (.ireturn, 1) := by decide +kernel
abbrev cX5_make : ByteArray := prog_7_method_22_code
def yX5_make : MethodName := ⟨RX5, "make", "(IIII)I"⟩
theorem dX5_make_0 : decode cX5_make 0 = .ok (.aload_n 0, 1) := by decide +kernel
theorem dX5_make_1 : decode cX5_make 1 = .ok (.iload_n 1, 1) := by decide +kernel
theorem dX5_make_2 : decode cX5_make 2 = .ok (.iload_n 2, 1) := by decide +kernel
theorem dX5_make_3 : decode cX5_make 3 = .ok (.iconst 0, 1) := by decide +kernel
theorem dX5_make_4 : decode cX5_make 4 = .ok (.invokevirtual 96, 3) := by decide +kernel
theorem dX5_make_7 : decode cX5_make 7 = .ok (.ifCond .eq 25, 3) := by decide +kernel
theorem dX5_make_10 : decode cX5_make 10 = .ok (.iload_n 3, 1) := by decide +kernel
theorem dX5_make_11 : decode cX5_make 11 = .ok (.iconst 1, 1) := by decide +kernel
theorem dX5_make_12 : decode cX5_make 12 = .ok (.if_icmp .lt 20, 3) := by decide +kernel
theorem dX5_make_15 : decode cX5_make 15 = .ok (.iload_n 3, 1) := by decide +kernel
theorem dX5_make_16 : decode cX5_make 16 = .ok (.bipush 64, 2) := by decide +kernel
theorem dX5_make_18 : decode cX5_make 18 = .ok (.if_icmp .gt 14, 3) := by decide +kernel
theorem dX5_make_21 : decode cX5_make 21 = .ok (.iload 4, 2) := by decide +kernel
theorem dX5_make_23 : decode cX5_make 23 = .ok (.ifCond .lt 9, 3) := by decide +kernel
theorem dX5_make_26 : decode cX5_make 26 = .ok (.iload 4, 2) := by decide +kernel
theorem dX5_make_28 : decode cX5_make 28 = .ok (.iload_n 3, 1) := by decide +kernel
theorem dX5_make_29 : decode cX5_make 29 = .ok (.if_icmp .le 5, 3) := by decide +kernel
theorem dX5_make_32 : decode cX5_make 32 = .ok (.iconst (-1), 1) := by decide +kernel
theorem dX5_make_33 : decode cX5_make 33 = .ok (.ireturn, 1) := by decide +kernel
theorem dX5_make_34 : decode cX5_make 34 = .ok (.aload_n 0, 1) := by decide +kernel
theorem dX5_make_35 : decode cX5_make 35 = .ok (.iload_n 3, 1) := by decide +kernel
theorem dX5_make_36 : decode cX5_make 36 = .ok (.invokevirtual 121, 3) := by decide +kernel
theorem dX5_make_39 : decode cX5_make 39 = .ok (.istore 5, 2) := by decide +kernel
theorem dX5_make_41 : decode cX5_make 41 = .ok (.aload_n 0, 1) := by decide +kernel
theorem dX5_make_42 : decode cX5_make 42 = .ok (.getfield 103, 3) := by decide +kernel
theorem dX5_make_45 : decode cX5_make 45 = .ok (.ifCond .ne 18, 3) := by decide +kernel
theorem dX5_make_48 : decode cX5_make 48 = .ok (.aload_n 0, 1) := by decide +kernel
theorem dX5_make_49 : decode cX5_make 49 = .ok (.getfield 125, 3) := by decide +kernel
theorem dX5_make_52 : decode cX5_make 52 = .ok (.aload_n 0, 1) := by decide +kernel
theorem dX5_make_53 : decode cX5_make 53 = .ok (.getfield 77, 3) := by decide +kernel
theorem dX5_make_56 : decode cX5_make 56 = .ok (.if_icmp .lt 7, 3) := by decide +kernel
theorem dX5_make_59 : decode cX5_make 59 = .ok (.aload_n 0, 1) := by decide +kernel
theorem dX5_make_60 : decode cX5_make 60 = .ok (.invokevirtual 128, 3) := by decide +kernel
theorem dX5_make_63 : decode cX5_make 63 = .ok (.aload_n 0, 1) := by decide +kernel
theorem dX5_make_64 : decode cX5_make 64 = .ok (.getfield 103, 3) := by decide +kernel
theorem dX5_make_67 : decode cX5_make 67 = .ok (.ifCond .eq 10, 3) := by decide +kernel
theorem dX5_make_70 : decode cX5_make 70 = .ok (.aload_n 0, 1) := by decide +kernel
theorem dX5_make_71 : decode cX5_make 71 = .ok (.iload 5, 2) := by decide +kernel
theorem dX5_make_73 : decode cX5_make 73 = .ok (.invokevirtual 131, 3) := by decide +kernel
theorem dX5_make_76 : decode cX5_make 76 = .ok (.pop, 1) := by decide +kernel
theorem dX5_make_77 : decode cX5_make 77 = .ok (.aload_n 0, 1) := by decide +kernel
theorem dX5_make_78 : decode cX5_make 78 = .ok (.iload 5, 2) := by decide +kernel
theorem dX5_make_80 : decode cX5_make 80 = .ok (.invokevirtual 134, 3) := by decide +kernel
theorem dX5_make_83 : decode cX5_make 83 = .ok (.istore 6, 2) := by decide +kernel
theorem dX5_make_85 : decode cX5_make 85 = .ok (.iconst 0, 1) := by decide +kernel
theorem dX5_make_86 : decode cX5_make 86 = .ok (.istore 7, 2) := by decide +kernel
theorem dX5_make_88 : decode cX5_make 88 = .ok (.iload 7, 2) := by decide +kernel
theorem dX5_make_90 : decode cX5_make 90 = .ok (.iconst 2, 1) := by decide +kernel
theorem dX5_make_91 : decode cX5_make 91 = .ok (.if_icmp .ge 53, 3) := by decide +kernel
theorem dX5_make_94 : decode cX5_make 94 = .ok (.iload 6, 2) := by decide +kernel
theorem dX5_make_96 : decode cX5_make 96 = .ok (.ifCond .ge 48, 3) := by decide +kernel
theorem dX5_make_99 : decode cX5_make 99 = .ok (.iload 7, 2) := by decide +kernel
theorem dX5_make_101 : decode cX5_make 101 = .ok (.iconst 1, 1) := by decide +kernel
theorem dX5_make_102 : decode cX5_make 102 = .ok (.if_icmp .ne 7, 3) := by decide +kernel
theorem dX5_make_105 : decode cX5_make 105 = .ok (.aload_n 0, 1) := by decide +kernel
theorem dX5_make_106 : decode cX5_make 106 = .ok (.invokevirtual 128, 3) := by decide +kernel
theorem dX5_make_109 : decode cX5_make 109 = .ok (.aload_n 0, 1) := by decide +kernel
theorem dX5_make_110 : decode cX5_make 110 = .ok (.getfield 103, 3) := by decide +kernel
theorem dX5_make_113 : decode cX5_make 113 = .ok (.ifCond .eq 10, 3) := by decide +kernel
theorem dX5_make_116 : decode cX5_make 116 = .ok (.aload_n 0, 1) := by decide +kernel
theorem dX5_make_117 : decode cX5_make 117 = .ok (.ldc 137, 2) := by decide +kernel
theorem dX5_make_119 : decode cX5_make 119 = .ok (.invokevirtual 131, 3) := by decide +kernel
theorem dX5_make_122 : decode cX5_make 122 = .ok (.pop, 1) := by decide +kernel
theorem dX5_make_123 : decode cX5_make 123 = .ok (.aload_n 0, 1) := by decide +kernel
theorem dX5_make_124 : decode cX5_make 124 = .ok (.bipush 16, 2) := by decide +kernel
theorem dX5_make_126 : decode cX5_make 126 = .ok (.invokevirtual 138, 3) := by decide +kernel
theorem dX5_make_129 : decode cX5_make 129 = .ok (.pop, 1) := by decide +kernel
theorem dX5_make_130 : decode cX5_make 130 = .ok (.aload_n 0, 1) := by decide +kernel
theorem dX5_make_131 : decode cX5_make 131 = .ok (.iload 5, 2) := by decide +kernel
theorem dX5_make_133 : decode cX5_make 133 = .ok (.invokevirtual 134, 3) := by decide +kernel
theorem dX5_make_136 : decode cX5_make 136 = .ok (.istore 6, 2) := by decide +kernel
theorem dX5_make_138 : decode cX5_make 138 = .ok (.iinc 7 1, 3) := by decide +kernel
theorem dX5_make_141 : decode cX5_make 141 = .ok (.goto (-53), 3) := by decide +kernel
theorem dX5_make_144 : decode cX5_make 144 = .ok (.iload 6, 2) := by decide +kernel
theorem dX5_make_146 : decode cX5_make 146 = .ok (.ifCond .ge 6, 3) := by decide +kernel
theorem dX5_make_149 : decode cX5_make 149 = .ok (.bipush (-2), 2) := by decide +kernel
theorem dX5_make_151 : decode cX5_make 151 = .ok (.ireturn, 1) := by decide +kernel
theorem dX5_make_152 : decode cX5_make 152 = .ok (.aload_n 0, 1) := by decide +kernel
theorem dX5_make_153 : decode cX5_make 153 = .ok (.getfield 13, 3) := by decide +kernel
theorem dX5_make_156 : decode cX5_make 156 = .ok (.iload 6, 2) := by decide +kernel
theorem dX5_make_158 : decode cX5_make 158 = .ok (.iload_n 3, 1) := by decide +kernel
theorem dX5_make_159 : decode cX5_make 159 = .ok (.iastore, 1) := by decide +kernel
theorem dX5_make_160 : decode cX5_make 160 = .ok (.aload_n 0, 1) := by decide +kernel
theorem dX5_make_161 : decode cX5_make 161 = .ok (.getfield 16, 3) := by decide +kernel
theorem dX5_make_164 : decode cX5_make 164 = .ok (.iload 6, 2) := by decide +kernel
theorem dX5_make_166 : decode cX5_make 166 = .ok (.iload 4, 2) := by decide +kernel
theorem dX5_make_168 : decode cX5_make 168 = .ok (.iastore, 1) := by decide +kernel
theorem dX5_make_169 : decode cX5_make 169 = .ok (.aload_n 0, 1) := by decide +kernel
theorem dX5_make_170 : decode cX5_make 170 = .ok (.getfield 19, 3) := by decide +kernel
theorem dX5_make_173 : decode cX5_make 173 = .ok (.iload 6, 2) := by decide +kernel
theorem dX5_make_175 : decode cX5_make 175 = .ok (.aload_n 0, 1) := by decide +kernel
theorem dX5_make_176 : decode cX5_make 176 = .ok (.getfield 103, 3) := by decide +kernel
theorem dX5_make_179 : decode cX5_make 179 = .ok (.bastore, 1) := by decide +kernel
theorem dX5_make_180 : decode cX5_make 180 = .ok (.iconst 0, 1) := by decide +kernel
theorem dX5_make_181 : decode cX5_make 181 = .ok (.istore 7, 2) := by decide +kernel
theorem dX5_make_183 : decode cX5_make 183 = .ok (.iload 7, 2) := by decide +kernel
theorem dX5_make_185 : decode cX5_make 185 = .ok (.iload_n 3, 1) := by decide +kernel
theorem dX5_make_186 : decode cX5_make 186 = .ok (.if_icmp .ge 31, 3) := by decide +kernel
theorem dX5_make_189 : decode cX5_make 189 = .ok (.aload_n 0, 1) := by decide +kernel
theorem dX5_make_190 : decode cX5_make 190 = .ok (.getfield 7, 3) := by decide +kernel
theorem dX5_make_193 : decode cX5_make 193 = .ok (.iload 6, 2) := by decide +kernel
theorem dX5_make_195 : decode cX5_make 195 = .ok (.iload 7, 2) := by decide +kernel
theorem dX5_make_197 : decode cX5_make 197 = .ok (.iadd, 1) := by decide +kernel
theorem dX5_make_198 : decode cX5_make 198 = .ok (.iload 7, 2) := by decide +kernel
theorem dX5_make_200 : decode cX5_make 200 = .ok (.iload 4, 2) := by decide +kernel
theorem dX5_make_202 : decode cX5_make 202 = .ok (.if_icmp .ge 7, 3) := by decide +kernel
theorem dX5_make_205 : decode cX5_make 205 = .ok (.iconst (-1), 1) := by decide +kernel
theorem dX5_make_206 : decode cX5_make 206 = .ok (.goto 4, 3) := by decide +kernel
theorem dX5_make_209 : decode cX5_make 209 = .ok (.iconst 0, 1) := by decide +kernel
theorem dX5_make_210 : decode cX5_make 210 = .ok (.iastore, 1) := by decide +kernel
theorem dX5_make_211 : decode cX5_make 211 = .ok (.iinc 7 1, 3) := by decide +kernel
theorem dX5_make_214 : decode cX5_make 214 = .ok (.goto (-31), 3) := by decide +kernel
theorem dX5_make_217 : decode cX5_make 217 = .ok (.aload_n 0, 1) := by decide +kernel
theorem dX5_make_218 : decode cX5_make 218 = .ok (.dup, 1) := by decide +kernel
theorem dX5_make_219 : decode cX5_make 219 = .ok (.getfield 125, 3) := by decide +kernel
theorem dX5_make_222 : decode cX5_make 222 = .ok (.iload 5, 2) := by decide +kernel
theorem dX5_make_224 : decode cX5_make 224 = .ok (.iadd, 1) := by decide +kernel
theorem dX5_make_225 : decode cX5_make 225 = .ok (.putfield 125, 3) := by decide +kernel
theorem dX5_make_228 : decode cX5_make 228 = .ok (.aload_n 0, 1) := by decide +kernel
theorem dX5_make_229 : decode cX5_make 229 = .ok (.getfield 47, 3) := by decide +kernel
theorem dX5_make_232 : decode cX5_make 232 = .ok (.aload_n 0, 1) := by decide +kernel
theorem dX5_make_233 : decode cX5_make 233 = .ok (.iload_n 1, 1) := by decide +kernel
theorem dX5_make_234 : decode cX5_make 234 = .ok (.iload_n 2, 1) := by decide +kernel
theorem dX5_make_235 : decode cX5_make 235 = .ok (.invokevirtual 92, 3) := by decide +kernel
theorem dX5_make_238 : decode cX5_make 238 = .ok (.iload 6, 2) := by decide +kernel
theorem dX5_make_240 : decode cX5_make 240 = .ok (.iastore, 1) := by decide +kernel
theorem dX5_make_241 : decode cX5_make 241 = .ok (.iload 6, 2) := by decide +kernel
theorem dX5_make_243 : decode cX5_make 243 = .ok (.ireturn, 1) := by decide +kernel
abbrev cX5_set : ByteArray := prog_7_method_23_code
def yX5_set : MethodName := ⟨RX5, "set", "(IIII)Z"⟩
theorem dX5_set_0 : decode cX5_set 0 = .ok (.aload_n 0, 1) := by decide +kernel
theorem dX5_set_1 : decode cX5_set 1 = .ok (.iload_n 1, 1) := by decide +kernel
theorem dX5_set_2 : decode cX5_set 2 = .ok (.iload_n 2, 1) := by decide +kernel
theorem dX5_set_3 : decode cX5_set 3 = .ok (.invokevirtual 141, 3) := by decide +kernel
theorem dX5_set_6 : decode cX5_set 6 = .ok (.istore 5, 2) := by decide +kernel
theorem dX5_set_8 : decode cX5_set 8 = .ok (.iload 5, 2) := by decide +kernel
theorem dX5_set_10 : decode cX5_set 10 = .ok (.ifCond .lt 29, 3) := by decide +kernel
theorem dX5_set_13 : decode cX5_set 13 = .ok (.iload_n 3, 1) := by decide +kernel
theorem dX5_set_14 : decode cX5_set 14 = .ok (.ifCond .lt 25, 3) := by decide +kernel
theorem dX5_set_17 : decode cX5_set 17 = .ok (.iload_n 3, 1) := by decide +kernel
theorem dX5_set_18 : decode cX5_set 18 = .ok (.aload_n 0, 1) := by decide +kernel
theorem dX5_set_19 : decode cX5_set 19 = .ok (.getfield 16, 3) := by decide +kernel
theorem dX5_set_22 : decode cX5_set 22 = .ok (.iload 5, 2) := by decide +kernel
theorem dX5_set_24 : decode cX5_set 24 = .ok (.iaload, 1) := by decide +kernel
theorem dX5_set_25 : decode cX5_set 25 = .ok (.if_icmp .ge 14, 3) := by decide +kernel
theorem dX5_set_28 : decode cX5_set 28 = .ok (.aload_n 0, 1) := by decide +kernel
theorem dX5_set_29 : decode cX5_set 29 = .ok (.iload_n 1, 1) := by decide +kernel
theorem dX5_set_30 : decode cX5_set 30 = .ok (.iload 4, 2) := by decide +kernel
theorem dX5_set_32 : decode cX5_set 32 = .ok (.iconst 1, 1) := by decide +kernel
theorem dX5_set_33 : decode cX5_set 33 = .ok (.invokevirtual 96, 3) := by decide +kernel
theorem dX5_set_36 : decode cX5_set 36 = .ok (.ifCond .ne 5, 3) := by decide +kernel
theorem dX5_set_39 : decode cX5_set 39 = .ok (.iconst 0, 1) := by decide +kernel
theorem dX5_set_40 : decode cX5_set 40 = .ok (.ireturn, 1) := by decide +kernel
theorem dX5_set_41 : decode cX5_set 41 = .ok (.aload_n 0, 1) := by decide +kernel
theorem dX5_set_42 : decode cX5_set 42 = .ok (.iload_n 1, 1) := by decide +kernel
theorem dX5_set_43 : decode cX5_set 43 = .ok (.iload 4, 2) := by decide +kernel
theorem dX5_set_45 : decode cX5_set 45 = .ok (.invokevirtual 100, 3) := by decide +kernel
theorem dX5_set_48 : decode cX5_set 48 = .ok (.istore 6, 2) := by decide +kernel
theorem dX5_set_50 : decode cX5_set 50 = .ok (.aload_n 0, 1) := by decide +kernel
theorem dX5_set_51 : decode cX5_set 51 = .ok (.aload_n 0, 1) := by decide +kernel
theorem dX5_set_52 : decode cX5_set 52 = .ok (.getfield 7, 3) := by decide +kernel
theorem dX5_set_55 : decode cX5_set 55 = .ok (.iload 5, 2) := by decide +kernel
theorem dX5_set_57 : decode cX5_set 57 = .ok (.iload_n 3, 1) := by decide +kernel
theorem dX5_set_58 : decode cX5_set 58 = .ok (.iadd, 1) := by decide +kernel
theorem dX5_set_59 : decode cX5_set 59 = .ok (.iaload, 1) := by decide +kernel
theorem dX5_set_60 : decode cX5_set 60 = .ok (.invokevirtual 144, 3) := by decide +kernel
theorem dX5_set_63 : decode cX5_set 63 = .ok (.aload_n 0, 1) := by decide +kernel
theorem dX5_set_64 : decode cX5_set 64 = .ok (.iload 6, 2) := by decide +kernel
theorem dX5_set_66 : decode cX5_set 66 = .ok (.invokevirtual 144, 3) := by decide +kernel
theorem dX5_set_69 : decode cX5_set 69 = .ok (.aload_n 0, 1) := by decide +kernel
theorem dX5_set_70 : decode cX5_set 70 = .ok (.getfield 7, 3) := by decide +kernel
theorem dX5_set_73 : decode cX5_set 73 = .ok (.iload 5, 2) := by decide +kernel
theorem dX5_set_75 : decode cX5_set 75 = .ok (.iload_n 3, 1) := by decide +kernel
theorem dX5_set_76 : decode cX5_set 76 = .ok (.iadd, 1) := by decide +kernel
theorem dX5_set_77 : decode cX5_set 77 = .ok (.iload 6, 2) := by decide +kernel
theorem dX5_set_79 : decode cX5_set 79 = .ok (.iastore, 1) := by decide +kernel
theorem dX5_set_80 : decode cX5_set 80 = .ok (.iconst 1, 1) := by decide +kernel
theorem dX5_set_81 : decode cX5_set 81 = .ok (.ireturn, 1) := by decide +kernel
abbrev cX5_get : ByteArray := prog_7_method_24_code
def yX5_get : MethodName := ⟨RX5, "get", "(IIII)Z"⟩
theorem dX5_get_0 : decode cX5_get 0 = .ok (.aload_n 0, 1) := by decide +kernel
theorem dX5_get_1 : decode cX5_get 1 = .ok (.iload_n 1, 1) := by decide +kernel
theorem dX5_get_2 : decode cX5_get 2 = .ok (.iload_n 3, 1) := by decide +kernel
theorem dX5_get_3 : decode cX5_get 3 = .ok (.invokevirtual 141, 3) := by decide +kernel
theorem dX5_get_6 : decode cX5_get 6 = .ok (.istore 5, 2) := by decide +kernel
theorem dX5_get_8 : decode cX5_get 8 = .ok (.iload 5, 2) := by decide +kernel
theorem dX5_get_10 : decode cX5_get 10 = .ok (.ifCond .lt 30, 3) := by decide +kernel
theorem dX5_get_13 : decode cX5_get 13 = .ok (.iload 4, 2) := by decide +kernel
theorem dX5_get_15 : decode cX5_get 15 = .ok (.ifCond .lt 25, 3) := by decide +kernel
theorem dX5_get_18 : decode cX5_get 18 = .ok (.iload 4, 2) := by decide +kernel
theorem dX5_get_20 : decode cX5_get 20 = .ok (.aload_n 0, 1) := by decide +kernel
theorem dX5_get_21 : decode cX5_get 21 = .ok (.getfield 16, 3) := by decide +kernel
theorem dX5_get_24 : decode cX5_get 24 = .ok (.iload 5, 2) := by decide +kernel
theorem dX5_get_26 : decode cX5_get 26 = .ok (.iaload, 1) := by decide +kernel
theorem dX5_get_27 : decode cX5_get 27 = .ok (.if_icmp .ge 13, 3) := by decide +kernel
theorem dX5_get_30 : decode cX5_get 30 = .ok (.aload_n 0, 1) := by decide +kernel
theorem dX5_get_31 : decode cX5_get 31 = .ok (.iload_n 1, 1) := by decide +kernel
theorem dX5_get_32 : decode cX5_get 32 = .ok (.iload_n 2, 1) := by decide +kernel
theorem dX5_get_33 : decode cX5_get 33 = .ok (.iconst 0, 1) := by decide +kernel
theorem dX5_get_34 : decode cX5_get 34 = .ok (.invokevirtual 96, 3) := by decide +kernel
theorem dX5_get_37 : decode cX5_get 37 = .ok (.ifCond .ne 5, 3) := by decide +kernel
theorem dX5_get_40 : decode cX5_get 40 = .ok (.iconst 0, 1) := by decide +kernel
theorem dX5_get_41 : decode cX5_get 41 = .ok (.ireturn, 1) := by decide +kernel
theorem dX5_get_42 : decode cX5_get 42 = .ok (.aload_n 0, 1) := by decide +kernel
theorem dX5_get_43 : decode cX5_get 43 = .ok (.getfield 47, 3) := by decide +kernel
theorem dX5_get_46 : decode cX5_get 46 = .ok (.aload_n 0, 1) := by decide +kernel
theorem dX5_get_47 : decode cX5_get 47 = .ok (.iload_n 1, 1) := by decide +kernel
theorem dX5_get_48 : decode cX5_get 48 = .ok (.iload_n 2, 1) := by decide +kernel
theorem dX5_get_49 : decode cX5_get 49 = .ok (.invokevirtual 92, 3) := by decide +kernel
theorem dX5_get_52 : decode cX5_get 52 = .ok (.aload_n 0, 1) := by decide +kernel
theorem dX5_get_53 : decode cX5_get 53 = .ok (.getfield 7, 3) := by decide +kernel
theorem dX5_get_56 : decode cX5_get 56 = .ok (.iload 5, 2) := by decide +kernel
theorem dX5_get_58 : decode cX5_get 58 = .ok (.iload 4, 2) := by decide +kernel
theorem dX5_get_60 : decode cX5_get 60 = .ok (.iadd, 1) := by decide +kernel
theorem dX5_get_61 : decode cX5_get 61 = .ok (.iaload, 1) := by decide +kernel
theorem dX5_get_62 : decode cX5_get 62 = .ok (.iastore, 1) := by decide +kernel
theorem dX5_get_63 : decode cX5_get 63 = .ok (.iconst 1, 1) := by decide +kernel
theorem dX5_get_64 : decode cX5_get 64 = .ok (.ireturn, 1) := by decide +kernel
abbrev cX5_store : ByteArray := prog_7_method_25_code
def yX5_store : MethodName := ⟨RX5, "store", "(IIII)Z"⟩
theorem dX5_store_0 : decode cX5_store 0 = .ok (.aload_n 0, 1) := by decide +kernel
theorem dX5_store_1 : decode cX5_store 1 = .ok (.iload_n 1, 1) := by decide +kernel
theorem dX5_store_2 : decode cX5_store 2 = .ok (.iload_n 2, 1) := by decide +kernel
theorem dX5_store_3 : decode cX5_store 3 = .ok (.invokevirtual 141, 3) := by decide +kernel
theorem dX5_store_6 : decode cX5_store 6 = .ok (.istore 5, 2) := by decide +kernel
theorem dX5_store_8 : decode cX5_store 8 = .ok (.iload 5, 2) := by decide +kernel
theorem dX5_store_10 : decode cX5_store 10 = .ok (.ifCond .lt 25, 3) := by decide +kernel
theorem dX5_store_13 : decode cX5_store 13 = .ok (.iload_n 3, 1) := by decide +kernel
theorem dX5_store_14 : decode cX5_store 14 = .ok (.aload_n 0, 1) := by decide +kernel
theorem dX5_store_15 : decode cX5_store 15 = .ok (.getfield 16, 3) := by decide +kernel
theorem dX5_store_18 : decode cX5_store 18 = .ok (.iload 5, 2) := by decide +kernel
theorem dX5_store_20 : decode cX5_store 20 = .ok (.iaload, 1) := by decide +kernel
theorem dX5_store_21 : decode cX5_store 21 = .ok (.if_icmp .lt 14, 3) := by decide +kernel
theorem dX5_store_24 : decode cX5_store 24 = .ok (.iload_n 3, 1) := by decide +kernel
theorem dX5_store_25 : decode cX5_store 25 = .ok (.aload_n 0, 1) := by decide +kernel
theorem dX5_store_26 : decode cX5_store 26 = .ok (.getfield 13, 3) := by decide +kernel
theorem dX5_store_29 : decode cX5_store 29 = .ok (.iload 5, 2) := by decide +kernel
theorem dX5_store_31 : decode cX5_store 31 = .ok (.iaload, 1) := by decide +kernel
theorem dX5_store_32 : decode cX5_store 32 = .ok (.if_icmp .lt 5, 3) := by decide +kernel
theorem dX5_store_35 : decode cX5_store 35 = .ok (.iconst 0, 1) := by decide +kernel
theorem dX5_store_36 : decode cX5_store 36 = .ok (.ireturn, 1) := by decide +kernel
theorem dX5_store_37 : decode cX5_store 37 = .ok (.aload_n 0, 1) := by decide +kernel
theorem dX5_store_38 : decode cX5_store 38 = .ok (.getfield 7, 3) := by decide +kernel
theorem dX5_store_41 : decode cX5_store 41 = .ok (.iload 5, 2) := by decide +kernel
theorem dX5_store_43 : decode cX5_store 43 = .ok (.iload_n 3, 1) := by decide +kernel
theorem dX5_store_44 : decode cX5_store 44 = .ok (.iadd, 1) := by decide +kernel
theorem dX5_store_45 : decode cX5_store 45 = .ok (.iload 4, 2) := by decide +kernel
theorem dX5_store_47 : decode cX5_store 47 = .ok (.iastore, 1) := by decide +kernel
theorem dX5_store_48 : decode cX5_store 48 = .ok (.iconst 1, 1) := by decide +kernel
theorem dX5_store_49 : decode cX5_store 49 = .ok (.ireturn, 1) := by decide +kernel
abbrev cX5_load : ByteArray := prog_7_method_26_code
def yX5_load : MethodName := ⟨RX5, "load", "(III)I"⟩
theorem dX5_load_0 : decode cX5_load 0 = .ok (.aload_n 0, 1) := by decide +kernel
theorem dX5_load_1 : decode cX5_load 1 = .ok (.iload_n 1, 1) := by decide +kernel
theorem dX5_load_2 : decode cX5_load 2 = .ok (.iload_n 2, 1) := by decide +kernel
theorem dX5_load_3 : decode cX5_load 3 = .ok (.invokevirtual 141, 3) := by decide +kernel
theorem dX5_load_6 : decode cX5_load 6 = .ok (.istore 4, 2) := by decide +kernel
theorem dX5_load_8 : decode cX5_load 8 = .ok (.iload 4, 2) := by decide +kernel
theorem dX5_load_10 : decode cX5_load 10 = .ok (.ifCond .lt 25, 3) := by decide +kernel
theorem dX5_load_13 : decode cX5_load 13 = .ok (.iload_n 3, 1) := by decide +kernel
theorem dX5_load_14 : decode cX5_load 14 = .ok (.aload_n 0, 1) := by decide +kernel
theorem dX5_load_15 : decode cX5_load 15 = .ok (.getfield 16, 3) := by decide +kernel
theorem dX5_load_18 : decode cX5_load 18 = .ok (.iload 4, 2) := by decide +kernel
theorem dX5_load_20 : decode cX5_load 20 = .ok (.iaload, 1) := by decide +kernel
theorem dX5_load_21 : decode cX5_load 21 = .ok (.if_icmp .lt 14, 3) := by decide +kernel
theorem dX5_load_24 : decode cX5_load 24 = .ok (.iload_n 3, 1) := by decide +kernel
theorem dX5_load_25 : decode cX5_load 25 = .ok (.aload_n 0, 1) := by decide +kernel
theorem dX5_load_26 : decode cX5_load 26 = .ok (.getfield 13, 3) := by decide +kernel
theorem dX5_load_29 : decode cX5_load 29 = .ok (.iload 4, 2) := by decide +kernel
theorem dX5_load_31 : decode cX5_load 31 = .ok (.iaload, 1) := by decide +kernel
theorem dX5_load_32 : decode cX5_load 32 = .ok (.if_icmp .lt 7, 3) := by decide +kernel
theorem dX5_load_35 : decode cX5_load 35 = .ok (.iconst 0, 1) := by decide +kernel
theorem dX5_load_36 : decode cX5_load 36 = .ok (.goto 12, 3) := by decide +kernel
theorem dX5_load_39 : decode cX5_load 39 = .ok (.aload_n 0, 1) := by decide +kernel
theorem dX5_load_40 : decode cX5_load 40 = .ok (.getfield 7, 3) := by decide +kernel
theorem dX5_load_43 : decode cX5_load 43 = .ok (.iload 4, 2) := by decide +kernel
theorem dX5_load_45 : decode cX5_load 45 = .ok (.iload_n 3, 1) := by decide +kernel
theorem dX5_load_46 : decode cX5_load 46 = .ok (.iadd, 1) := by decide +kernel
theorem dX5_load_47 : decode cX5_load 47 = .ok (.iaload, 1) := by decide +kernel
theorem dX5_load_48 : decode cX5_load 48 = .ok (.ireturn, 1) := by decide +kernel
abbrev cX5_firstAt : ByteArray := prog_7_method_27_code
def yX5_firstAt : MethodName := ⟨RX5, "firstAt", "(II)I"⟩
theorem dX5_firstAt_0 : decode cX5_firstAt 0 = .ok (.iconst (-1), 1) := by decide +kernel
theorem dX5_firstAt_1 : decode cX5_firstAt 1 = .ok (.istore_n 3, 1) := by decide +kernel
theorem dX5_firstAt_2 : decode cX5_firstAt 2 = .ok (.iconst 0, 1) := by decide +kernel
theorem dX5_firstAt_3 : decode cX5_firstAt 3 = .ok (.istore 4, 2) := by decide +kernel
theorem dX5_firstAt_5 : decode cX5_firstAt 5 = .ok (.iload 4, 2) := by decide +kernel
theorem dX5_firstAt_7 : decode cX5_firstAt 7 = .ok (.bipush 6, 2) := by decide +kernel
theorem dX5_firstAt_9 : decode cX5_firstAt 9 = .ok (.if_icmp .ge 77, 3) := by decide +kernel
theorem dX5_firstAt_12 : decode cX5_firstAt 12 = .ok (.aload_n 0, 1) := by decide +kernel
theorem dX5_firstAt_13 : decode cX5_firstAt 13 = .ok (.getfield 38, 3) := by decide +kernel
theorem dX5_firstAt_16 : decode cX5_firstAt 16 = .ok (.iload 4, 2) := by decide +kernel
theorem dX5_firstAt_18 : decode cX5_firstAt 18 = .ok (.iaload, 1) := by decide +kernel
theorem dX5_firstAt_19 : decode cX5_firstAt 19 = .ok (.iload_n 2, 1) := by decide +kernel
theorem dX5_firstAt_20 : decode cX5_firstAt 20 = .ok (.if_icmp .ne 29, 3) := by decide +kernel
theorem dX5_firstAt_23 : decode cX5_firstAt 23 = .ok (.aload_n 0, 1) := by decide +kernel
theorem dX5_firstAt_24 : decode cX5_firstAt 24 = .ok (.getfield 59, 3) := by decide +kernel
theorem dX5_firstAt_27 : decode cX5_firstAt 27 = .ok (.iload 4, 2) := by decide +kernel
theorem dX5_firstAt_29 : decode cX5_firstAt 29 = .ok (.iaload, 1) := by decide +kernel
theorem dX5_firstAt_30 : decode cX5_firstAt 30 = .ok (.iload_n 1, 1) := by decide +kernel
theorem dX5_firstAt_31 : decode cX5_firstAt 31 = .ok (.if_icmp .eq 14, 3) := by decide +kernel
theorem dX5_firstAt_34 : decode cX5_firstAt 34 = .ok (.aload_n 0, 1) := by decide +kernel
theorem dX5_firstAt_35 : decode cX5_firstAt 35 = .ok (.getfield 62, 3) := by decide +kernel
theorem dX5_firstAt_38 : decode cX5_firstAt 38 = .ok (.iload 4, 2) := by decide +kernel
theorem dX5_firstAt_40 : decode cX5_firstAt 40 = .ok (.iaload, 1) := by decide +kernel
theorem dX5_firstAt_41 : decode cX5_firstAt 41 = .ok (.iload_n 1, 1) := by decide +kernel
theorem dX5_firstAt_42 : decode cX5_firstAt 42 = .ok (.if_icmp .ne 7, 3) := by decide +kernel
theorem dX5_firstAt_45 : decode cX5_firstAt 45 = .ok (.iconst 1, 1) := by decide +kernel
theorem dX5_firstAt_46 : decode cX5_firstAt 46 = .ok (.goto 4, 3) := by decide +kernel
theorem dX5_firstAt_49 : decode cX5_firstAt 49 = .ok (.iconst 0, 1) := by decide +kernel
theorem dX5_firstAt_50 : decode cX5_firstAt 50 = .ok (.istore 5, 2) := by decide +kernel
theorem dX5_firstAt_52 : decode cX5_firstAt 52 = .ok (.iload 5, 2) := by decide +kernel
theorem dX5_firstAt_54 : decode cX5_firstAt 54 = .ok (.ifCond .eq 26, 3) := by decide +kernel
theorem dX5_firstAt_57 : decode cX5_firstAt 57 = .ok (.iload_n 3, 1) := by decide +kernel
theorem dX5_firstAt_58 : decode cX5_firstAt 58 = .ok (.ifCond .lt 19, 3) := by decide +kernel
theorem dX5_firstAt_61 : decode cX5_firstAt 61 = .ok (.aload_n 0, 1) := by decide +kernel
theorem dX5_firstAt_62 : decode cX5_firstAt 62 = .ok (.getfield 56, 3) := by decide +kernel
theorem dX5_firstAt_65 : decode cX5_firstAt 65 = .ok (.iload 4, 2) := by decide +kernel
theorem dX5_firstAt_67 : decode cX5_firstAt 67 = .ok (.iaload, 1) := by decide +kernel
theorem dX5_firstAt_68 : decode cX5_firstAt 68 = .ok (.aload_n 0, 1) := by decide +kernel
theorem dX5_firstAt_69 : decode cX5_firstAt 69 = .ok (.getfield 56, 3) := by decide +kernel
theorem dX5_firstAt_72 : decode cX5_firstAt 72 = .ok (.iload_n 3, 1) := by decide +kernel
theorem dX5_firstAt_73 : decode cX5_firstAt 73 = .ok (.iaload, 1) := by decide +kernel
theorem dX5_firstAt_74 : decode cX5_firstAt 74 = .ok (.if_icmp .ge 6, 3) := by decide +kernel
theorem dX5_firstAt_77 : decode cX5_firstAt 77 = .ok (.iload 4, 2) := by decide +kernel
theorem dX5_firstAt_79 : decode cX5_firstAt 79 = .ok (.istore_n 3, 1) := by decide +kernel
theorem dX5_firstAt_80 : decode cX5_firstAt 80 = .ok (.iinc 4 1, 3) := by decide +kernel
theorem dX5_firstAt_83 : decode cX5_firstAt 83 = .ok (.goto (-78), 3) := by decide +kernel
theorem dX5_firstAt_86 : decode cX5_firstAt 86 = .ok (.iload_n 3, 1) := by decide +kernel
theorem dX5_firstAt_87 : decode cX5_firstAt 87 = .ok (.ireturn, 1) := by decide +kernel
abbrev cX5_waitFor : ByteArray := prog_7_method_28_code
def yX5_waitFor : MethodName := ⟨RX5, "waitFor", "(IIIII)V"⟩
theorem dX5_waitFor_0 : decode cX5_waitFor 0 = .ok (.aload_n 0, 1) := by decide +kernel
theorem dX5_waitFor_1 : decode cX5_waitFor 1 = .ok (.dup, 1) := by decide +kernel
theorem dX5_waitFor_2 : decode cX5_waitFor 2 = .ok (.getfield 147, 3) := by decide +kernel
theorem dX5_waitFor_5 : decode cX5_waitFor 5 = .ok (.iconst 1, 1) := by decide +kernel
theorem dX5_waitFor_6 : decode cX5_waitFor 6 = .ok (.iadd, 1) := by decide +kernel
theorem dX5_waitFor_7 : decode cX5_waitFor 7 = .ok (.putfield 147, 3) := by decide +kernel
theorem dX5_waitFor_10 : decode cX5_waitFor 10 = .ok (.aload_n 0, 1) := by decide +kernel
theorem dX5_waitFor_11 : decode cX5_waitFor 11 = .ok (.getfield 38, 3) := by decide +kernel
theorem dX5_waitFor_14 : decode cX5_waitFor 14 = .ok (.iload_n 1, 1) := by decide +kernel
theorem dX5_waitFor_15 : decode cX5_waitFor 15 = .ok (.iload_n 2, 1) := by decide +kernel
theorem dX5_waitFor_16 : decode cX5_waitFor 16 = .ok (.iastore, 1) := by decide +kernel
theorem dX5_waitFor_17 : decode cX5_waitFor 17 = .ok (.aload_n 0, 1) := by decide +kernel
theorem dX5_waitFor_18 : decode cX5_waitFor 18 = .ok (.getfield 56, 3) := by decide +kernel
theorem dX5_waitFor_21 : decode cX5_waitFor 21 = .ok (.iload_n 1, 1) := by decide +kernel
theorem dX5_waitFor_22 : decode cX5_waitFor 22 = .ok (.aload_n 0, 1) := by decide +kernel
theorem dX5_waitFor_23 : decode cX5_waitFor 23 = .ok (.getfield 147, 3) := by decide +kernel
theorem dX5_waitFor_26 : decode cX5_waitFor 26 = .ok (.iastore, 1) := by decide +kernel
theorem dX5_waitFor_27 : decode cX5_waitFor 27 = .ok (.aload_n 0, 1) := by decide +kernel
theorem dX5_waitFor_28 : decode cX5_waitFor 28 = .ok (.getfield 65, 3) := by decide +kernel
theorem dX5_waitFor_31 : decode cX5_waitFor 31 = .ok (.iload_n 1, 1) := by decide +kernel
theorem dX5_waitFor_32 : decode cX5_waitFor 32 = .ok (.iload_n 3, 1) := by decide +kernel
theorem dX5_waitFor_33 : decode cX5_waitFor 33 = .ok (.iastore, 1) := by decide +kernel
theorem dX5_waitFor_34 : decode cX5_waitFor 34 = .ok (.aload_n 0, 1) := by decide +kernel
theorem dX5_waitFor_35 : decode cX5_waitFor 35 = .ok (.getfield 59, 3) := by decide +kernel
theorem dX5_waitFor_38 : decode cX5_waitFor 38 = .ok (.iload_n 1, 1) := by decide +kernel
theorem dX5_waitFor_39 : decode cX5_waitFor 39 = .ok (.iload 4, 2) := by decide +kernel
theorem dX5_waitFor_41 : decode cX5_waitFor 41 = .ok (.iastore, 1) := by decide +kernel
theorem dX5_waitFor_42 : decode cX5_waitFor 42 = .ok (.aload_n 0, 1) := by decide +kernel
theorem dX5_waitFor_43 : decode cX5_waitFor 43 = .ok (.getfield 62, 3) := by decide +kernel
theorem dX5_waitFor_46 : decode cX5_waitFor 46 = .ok (.iload_n 1, 1) := by decide +kernel
theorem dX5_waitFor_47 : decode cX5_waitFor 47 = .ok (.iload 5, 2) := by decide +kernel
theorem dX5_waitFor_49 : decode cX5_waitFor 49 = .ok (.iastore, 1) := by decide +kernel
theorem dX5_waitFor_50 : decode cX5_waitFor 50 = .ok (.return_, 1) := by decide +kernel
abbrev cX5_hand : ByteArray := prog_7_method_29_code
def yX5_hand : MethodName := ⟨RX5, "hand", "(IIII)V"⟩
theorem dX5_hand_0 : decode cX5_hand 0 = .ok (.aload_n 0, 1) := by decide +kernel
theorem dX5_hand_1 : decode cX5_hand 1 = .ok (.getfield 47, 3) := by decide +kernel
theorem dX5_hand_4 : decode cX5_hand 4 = .ok (.aload_n 0, 1) := by decide +kernel
theorem dX5_hand_5 : decode cX5_hand 5 = .ok (.iload_n 1, 1) := by decide +kernel
theorem dX5_hand_6 : decode cX5_hand 6 = .ok (.iload_n 2, 1) := by decide +kernel
theorem dX5_hand_7 : decode cX5_hand 7 = .ok (.invokevirtual 92, 3) := by decide +kernel
theorem dX5_hand_10 : decode cX5_hand 10 = .ok (.iload_n 3, 1) := by decide +kernel
theorem dX5_hand_11 : decode cX5_hand 11 = .ok (.iastore, 1) := by decide +kernel
theorem dX5_hand_12 : decode cX5_hand 12 = .ok (.aload_n 0, 1) := by decide +kernel
theorem dX5_hand_13 : decode cX5_hand 13 = .ok (.getfield 68, 3) := by decide +kernel
theorem dX5_hand_16 : decode cX5_hand 16 = .ok (.iload_n 1, 1) := by decide +kernel
theorem dX5_hand_17 : decode cX5_hand 17 = .ok (.iload 4, 2) := by decide +kernel
theorem dX5_hand_19 : decode cX5_hand 19 = .ok (.iastore, 1) := by decide +kernel
theorem dX5_hand_20 : decode cX5_hand 20 = .ok (.aload_n 0, 1) := by decide +kernel
theorem dX5_hand_21 : decode cX5_hand 21 = .ok (.getfield 38, 3) := by decide +kernel
theorem dX5_hand_24 : decode cX5_hand 24 = .ok (.iload_n 1, 1) := by decide +kernel
theorem dX5_hand_25 : decode cX5_hand 25 = .ok (.iconst 1, 1) := by decide +kernel
theorem dX5_hand_26 : decode cX5_hand 26 = .ok (.iastore, 1) := by decide +kernel
theorem dX5_hand_27 : decode cX5_hand 27 = .ok (.return_, 1) := by decide +kernel
abbrev cX5_send : ByteArray := prog_7_method_30_code
def yX5_send : MethodName := ⟨RX5, "send", "(III)I"⟩
theorem dX5_send_0 : decode cX5_send 0 = .ok (.aload_n 0, 1) := by decide +kernel
theorem dX5_send_1 : decode cX5_send 1 = .ok (.iload_n 1, 1) := by decide +kernel
theorem dX5_send_2 : decode cX5_send 2 = .ok (.iload_n 2, 1) := by decide +kernel
theorem dX5_send_3 : decode cX5_send 3 = .ok (.iconst 0, 1) := by decide +kernel
theorem dX5_send_4 : decode cX5_send 4 = .ok (.invokevirtual 96, 3) := by decide +kernel
theorem dX5_send_7 : decode cX5_send 7 = .ok (.ifCond .eq 12, 3) := by decide +kernel
theorem dX5_send_10 : decode cX5_send 10 = .ok (.iload_n 3, 1) := by decide +kernel
theorem dX5_send_11 : decode cX5_send 11 = .ok (.ifCond .lt 8, 3) := by decide +kernel
theorem dX5_send_14 : decode cX5_send 14 = .ok (.iload_n 3, 1) := by decide +kernel
theorem dX5_send_15 : decode cX5_send 15 = .ok (.iconst 3, 1) := by decide +kernel
theorem dX5_send_16 : decode cX5_send 16 = .ok (.if_icmp .le 5, 3) := by decide +kernel
theorem dX5_send_19 : decode cX5_send 19 = .ok (.iconst (-1), 1) := by decide +kernel
theorem dX5_send_20 : decode cX5_send 20 = .ok (.ireturn, 1) := by decide +kernel
theorem dX5_send_21 : decode cX5_send 21 = .ok (.aload_n 0, 1) := by decide +kernel
theorem dX5_send_22 : decode cX5_send 22 = .ok (.iload_n 1, 1) := by decide +kernel
theorem dX5_send_23 : decode cX5_send 23 = .ok (.iload_n 2, 1) := by decide +kernel
theorem dX5_send_24 : decode cX5_send 24 = .ok (.invokevirtual 100, 3) := by decide +kernel
theorem dX5_send_27 : decode cX5_send 27 = .ok (.istore 4, 2) := by decide +kernel
theorem dX5_send_29 : decode cX5_send 29 = .ok (.aload_n 0, 1) := by decide +kernel
theorem dX5_send_30 : decode cX5_send 30 = .ok (.iload_n 3, 1) := by decide +kernel
theorem dX5_send_31 : decode cX5_send 31 = .ok (.iconst 3, 1) := by decide +kernel
theorem dX5_send_32 : decode cX5_send 32 = .ok (.invokevirtual 150, 3) := by decide +kernel
theorem dX5_send_35 : decode cX5_send 35 = .ok (.istore 5, 2) := by decide +kernel
theorem dX5_send_37 : decode cX5_send 37 = .ok (.iload 5, 2) := by decide +kernel
theorem dX5_send_39 : decode cX5_send 39 = .ok (.ifCond .lt 27, 3) := by decide +kernel
theorem dX5_send_42 : decode cX5_send 42 = .ok (.aload_n 0, 1) := by decide +kernel
theorem dX5_send_43 : decode cX5_send 43 = .ok (.iload 4, 2) := by decide +kernel
theorem dX5_send_45 : decode cX5_send 45 = .ok (.invokevirtual 144, 3) := by decide +kernel
theorem dX5_send_48 : decode cX5_send 48 = .ok (.aload_n 0, 1) := by decide +kernel
theorem dX5_send_49 : decode cX5_send 49 = .ok (.iload 5, 2) := by decide +kernel
theorem dX5_send_51 : decode cX5_send 51 = .ok (.aload_n 0, 1) := by decide +kernel
theorem dX5_send_52 : decode cX5_send 52 = .ok (.getfield 65, 3) := by decide +kernel
theorem dX5_send_55 : decode cX5_send 55 = .ok (.iload 5, 2) := by decide +kernel
theorem dX5_send_57 : decode cX5_send 57 = .ok (.iaload, 1) := by decide +kernel
theorem dX5_send_58 : decode cX5_send 58 = .ok (.iload 4, 2) := by decide +kernel
theorem dX5_send_60 : decode cX5_send 60 = .ok (.iload_n 3, 1) := by decide +kernel
theorem dX5_send_61 : decode cX5_send 61 = .ok (.invokevirtual 153, 3) := by decide +kernel
theorem dX5_send_64 : decode cX5_send 64 = .ok (.iload_n 3, 1) := by decide +kernel
theorem dX5_send_65 : decode cX5_send 65 = .ok (.ireturn, 1) := by decide +kernel
theorem dX5_send_66 : decode cX5_send 66 = .ok (.aload_n 0, 1) := by decide +kernel
theorem dX5_send_67 : decode cX5_send 67 = .ok (.getfield 74, 3) := by decide +kernel
theorem dX5_send_70 : decode cX5_send 70 = .ok (.iload_n 3, 1) := by decide +kernel
theorem dX5_send_71 : decode cX5_send 71 = .ok (.iaload, 1) := by decide +kernel
theorem dX5_send_72 : decode cX5_send 72 = .ok (.iload_n 3, 1) := by decide +kernel
theorem dX5_send_73 : decode cX5_send 73 = .ok (.if_icmp .ge 12, 3) := by decide +kernel
theorem dX5_send_76 : decode cX5_send 76 = .ok (.aload_n 0, 1) := by decide +kernel
theorem dX5_send_77 : decode cX5_send 77 = .ok (.iload_n 3, 1) := by decide +kernel
theorem dX5_send_78 : decode cX5_send 78 = .ok (.iload 4, 2) := by decide +kernel
theorem dX5_send_80 : decode cX5_send 80 = .ok (.invokevirtual 157, 3) := by decide +kernel
theorem dX5_send_83 : decode cX5_send 83 = .ok (.iload_n 3, 1) := by decide +kernel
theorem dX5_send_84 : decode cX5_send 84 = .ok (.ireturn, 1) := by decide +kernel
theorem dX5_send_85 : decode cX5_send 85 = .ok (.aload_n 0, 1) := by decide +kernel
theorem dX5_send_86 : decode cX5_send 86 = .ok (.iload_n 1, 1) := by decide +kernel
theorem dX5_send_87 : decode cX5_send 87 = .ok (.iconst 2, 1) := by decide +kernel
theorem dX5_send_88 : decode cX5_send 88 = .ok (.iload_n 2, 1) := by decide +kernel
theorem dX5_send_89 : decode cX5_send 89 = .ok (.iload_n 3, 1) := by decide +kernel
theorem dX5_send_90 : decode cX5_send 90 = .ok (.iload_n 3, 1) := by decide +kernel
theorem dX5_send_91 : decode cX5_send 91 = .ok (.invokevirtual 160, 3) := by decide +kernel
theorem dX5_send_94 : decode cX5_send 94 = .ok (.iconst 4, 1) := by decide +kernel
theorem dX5_send_95 : decode cX5_send 95 = .ok (.ireturn, 1) := by decide +kernel
abbrev cX5_enter : ByteArray := prog_7_method_31_code
def yX5_enter : MethodName := ⟨RX5, "enter", "(II)V"⟩
theorem dX5_enter_0 : decode cX5_enter 0 = .ok (.aload_n 0, 1) := by decide +kernel
theorem dX5_enter_1 : decode cX5_enter 1 = .ok (.iload_n 2, 1) := by decide +kernel
theorem dX5_enter_2 : decode cX5_enter 2 = .ok (.invokevirtual 144, 3) := by decide +kernel
theorem dX5_enter_5 : decode cX5_enter 5 = .ok (.aload_n 0, 1) := by decide +kernel
theorem dX5_enter_6 : decode cX5_enter 6 = .ok (.getfield 71, 3) := by decide +kernel
theorem dX5_enter_9 : decode cX5_enter 9 = .ok (.iconst 4, 1) := by decide +kernel
theorem dX5_enter_10 : decode cX5_enter 10 = .ok (.iload_n 1, 1) := by decide +kernel
theorem dX5_enter_11 : decode cX5_enter 11 = .ok (.imul, 1) := by decide +kernel
theorem dX5_enter_12 : decode cX5_enter 12 = .ok (.aload_n 0, 1) := by decide +kernel
theorem dX5_enter_13 : decode cX5_enter 13 = .ok (.getfield 74, 3) := by decide +kernel
theorem dX5_enter_16 : decode cX5_enter 16 = .ok (.iload_n 1, 1) := by decide +kernel
theorem dX5_enter_17 : decode cX5_enter 17 = .ok (.iaload, 1) := by decide +kernel
theorem dX5_enter_18 : decode cX5_enter 18 = .ok (.iadd, 1) := by decide +kernel
theorem dX5_enter_19 : decode cX5_enter 19 = .ok (.iload_n 2, 1) := by decide +kernel
theorem dX5_enter_20 : decode cX5_enter 20 = .ok (.iastore, 1) := by decide +kernel
theorem dX5_enter_21 : decode cX5_enter 21 = .ok (.aload_n 0, 1) := by decide +kernel
theorem dX5_enter_22 : decode cX5_enter 22 = .ok (.getfield 74, 3) := by decide +kernel
theorem dX5_enter_25 : decode cX5_enter 25 = .ok (.iload_n 1, 1) := by decide +kernel
theorem dX5_enter_26 : decode cX5_enter 26 = .ok (.dup2, 1) := by decide +kernel
theorem dX5_enter_27 : decode cX5_enter 27 = .ok (.iaload, 1) := by decide +kernel
theorem dX5_enter_28 : decode cX5_enter 28 = .ok (.iconst 1, 1) := by decide +kernel
theorem dX5_enter_29 : decode cX5_enter 29 = .ok (.iadd, 1) := by decide +kernel
theorem dX5_enter_30 : decode cX5_enter 30 = .ok (.iastore, 1) := by decide +kernel
theorem dX5_enter_31 : decode cX5_enter 31 = .ok (.return_, 1) := by decide +kernel
abbrev cX5_gives : ByteArray := prog_7_method_32_code
def yX5_gives : MethodName := ⟨RX5, "gives", "(III)Z"⟩
theorem dX5_gives_0 : decode cX5_gives 0 = .ok (.aload_n 0, 1) := by decide +kernel
theorem dX5_gives_1 : decode cX5_gives 1 = .ok (.iload_n 1, 1) := by decide +kernel
theorem dX5_gives_2 : decode cX5_gives 2 = .ok (.iconst 2, 1) := by decide +kernel
theorem dX5_gives_3 : decode cX5_gives 3 = .ok (.invokevirtual 150, 3) := by decide +kernel
theorem dX5_gives_6 : decode cX5_gives 6 = .ok (.istore 4, 2) := by decide +kernel
theorem dX5_gives_8 : decode cX5_gives 8 = .ok (.aload_n 0, 1) := by decide +kernel
theorem dX5_gives_9 : decode cX5_gives 9 = .ok (.getfield 74, 3) := by decide +kernel
theorem dX5_gives_12 : decode cX5_gives 12 = .ok (.iload_n 1, 1) := by decide +kernel
theorem dX5_gives_13 : decode cX5_gives 13 = .ok (.iaload, 1) := by decide +kernel
theorem dX5_gives_14 : decode cX5_gives 14 = .ok (.ifCond .ne 10, 3) := by decide +kernel
theorem dX5_gives_17 : decode cX5_gives 17 = .ok (.iload 4, 2) := by decide +kernel
theorem dX5_gives_19 : decode cX5_gives 19 = .ok (.ifCond .ge 5, 3) := by decide +kernel
theorem dX5_gives_22 : decode cX5_gives 22 = .ok (.iconst 0, 1) := by decide +kernel
theorem dX5_gives_23 : decode cX5_gives 23 = .ok (.ireturn, 1) := by decide +kernel
theorem dX5_gives_24 : decode cX5_gives 24 = .ok (.iload 4, 2) := by decide +kernel
theorem dX5_gives_26 : decode cX5_gives 26 = .ok (.ifCond .ge 7, 3) := by decide +kernel
theorem dX5_gives_29 : decode cX5_gives 29 = .ok (.iconst (-1), 1) := by decide +kernel
theorem dX5_gives_30 : decode cX5_gives 30 = .ok (.goto 16, 3) := by decide +kernel
theorem dX5_gives_33 : decode cX5_gives 33 = .ok (.aload_n 0, 1) := by decide +kernel
theorem dX5_gives_34 : decode cX5_gives 34 = .ok (.iload 4, 2) := by decide +kernel
theorem dX5_gives_36 : decode cX5_gives 36 = .ok (.aload_n 0, 1) := by decide +kernel
theorem dX5_gives_37 : decode cX5_gives 37 = .ok (.getfield 65, 3) := by decide +kernel
theorem dX5_gives_40 : decode cX5_gives 40 = .ok (.iload 4, 2) := by decide +kernel
theorem dX5_gives_42 : decode cX5_gives 42 = .ok (.iaload, 1) := by decide +kernel
theorem dX5_gives_43 : decode cX5_gives 43 = .ok (.invokevirtual 100, 3) := by decide +kernel
theorem dX5_gives_46 : decode cX5_gives 46 = .ok (.istore 5, 2) := by decide +kernel
theorem dX5_gives_48 : decode cX5_gives 48 = .ok (.aload_n 0, 1) := by decide +kernel
theorem dX5_gives_49 : decode cX5_gives 49 = .ok (.getfield 74, 3) := by decide +kernel
theorem dX5_gives_52 : decode cX5_gives 52 = .ok (.iload_n 1, 1) := by decide +kernel
theorem dX5_gives_53 : decode cX5_gives 53 = .ok (.iaload, 1) := by decide +kernel
theorem dX5_gives_54 : decode cX5_gives 54 = .ok (.ifCond .le 86, 3) := by decide +kernel
theorem dX5_gives_57 : decode cX5_gives 57 = .ok (.aload_n 0, 1) := by decide +kernel
theorem dX5_gives_58 : decode cX5_gives 58 = .ok (.getfield 71, 3) := by decide +kernel
theorem dX5_gives_61 : decode cX5_gives 61 = .ok (.iconst 4, 1) := by decide +kernel
theorem dX5_gives_62 : decode cX5_gives 62 = .ok (.iload_n 1, 1) := by decide +kernel
theorem dX5_gives_63 : decode cX5_gives 63 = .ok (.imul, 1) := by decide +kernel
theorem dX5_gives_64 : decode cX5_gives 64 = .ok (.iaload, 1) := by decide +kernel
theorem dX5_gives_65 : decode cX5_gives 65 = .ok (.istore 6, 2) := by decide +kernel
theorem dX5_gives_67 : decode cX5_gives 67 = .ok (.iconst 1, 1) := by decide +kernel
theorem dX5_gives_68 : decode cX5_gives 68 = .ok (.istore 7, 2) := by decide +kernel
theorem dX5_gives_70 : decode cX5_gives 70 = .ok (.iload 7, 2) := by decide +kernel
theorem dX5_gives_72 : decode cX5_gives 72 = .ok (.aload_n 0, 1) := by decide +kernel
theorem dX5_gives_73 : decode cX5_gives 73 = .ok (.getfield 74, 3) := by decide +kernel
theorem dX5_gives_76 : decode cX5_gives 76 = .ok (.iload_n 1, 1) := by decide +kernel
theorem dX5_gives_77 : decode cX5_gives 77 = .ok (.iaload, 1) := by decide +kernel
theorem dX5_gives_78 : decode cX5_gives 78 = .ok (.if_icmp .ge 33, 3) := by decide +kernel
theorem dX5_gives_81 : decode cX5_gives 81 = .ok (.aload_n 0, 1) := by decide +kernel
theorem dX5_gives_82 : decode cX5_gives 82 = .ok (.getfield 71, 3) := by decide +kernel
theorem dX5_gives_85 : decode cX5_gives 85 = .ok (.iconst 4, 1) := by decide +kernel
theorem dX5_gives_86 : decode cX5_gives 86 = .ok (.iload_n 1, 1) := by decide +kernel
theorem dX5_gives_87 : decode cX5_gives 87 = .ok (.imul, 1) := by decide +kernel
theorem dX5_gives_88 : decode cX5_gives 88 = .ok (.iload 7, 2) := by decide +kernel
theorem dX5_gives_90 : decode cX5_gives 90 = .ok (.iadd, 1) := by decide +kernel
theorem dX5_gives_91 : decode cX5_gives 91 = .ok (.iconst 1, 1) := by decide +kernel
theorem dX5_gives_92 : decode cX5_gives 92 = .ok (.isub, 1) := by decide +kernel
theorem dX5_gives_93 : decode cX5_gives 93 = .ok (.aload_n 0, 1) := by decide +kernel
theorem dX5_gives_94 : decode cX5_gives 94 = .ok (.getfield 71, 3) := by decide +kernel
theorem dX5_gives_97 : decode cX5_gives 97 = .ok (.iconst 4, 1) := by decide +kernel
theorem dX5_gives_98 : decode cX5_gives 98 = .ok (.iload_n 1, 1) := by decide +kernel
theorem dX5_gives_99 : decode cX5_gives 99 = .ok (.imul, 1) := by decide +kernel
theorem dX5_gives_100 : decode cX5_gives 100 = .ok (.iload 7, 2) := by decide +kernel
theorem dX5_gives_102 : decode cX5_gives 102 = .ok (.iadd, 1) := by decide +kernel
theorem dX5_gives_103 : decode cX5_gives 103 = .ok (.iaload, 1) := by decide +kernel
theorem dX5_gives_104 : decode cX5_gives 104 = .ok (.iastore, 1) := by decide +kernel
theorem dX5_gives_105 : decode cX5_gives 105 = .ok (.iinc 7 1, 3) := by decide +kernel
theorem dX5_gives_108 : decode cX5_gives 108 = .ok (.goto (-38), 3) := by decide +kernel
theorem dX5_gives_111 : decode cX5_gives 111 = .ok (.aload_n 0, 1) := by decide +kernel
theorem dX5_gives_112 : decode cX5_gives 112 = .ok (.getfield 74, 3) := by decide +kernel
theorem dX5_gives_115 : decode cX5_gives 115 = .ok (.iload_n 1, 1) := by decide +kernel
theorem dX5_gives_116 : decode cX5_gives 116 = .ok (.dup2, 1) := by decide +kernel
theorem dX5_gives_117 : decode cX5_gives 117 = .ok (.iaload, 1) := by decide +kernel
theorem dX5_gives_118 : decode cX5_gives 118 = .ok (.iconst 1, 1) := by decide +kernel
theorem dX5_gives_119 : decode cX5_gives 119 = .ok (.isub, 1) := by decide +kernel
theorem dX5_gives_120 : decode cX5_gives 120 = .ok (.iastore, 1) := by decide +kernel
theorem dX5_gives_121 : decode cX5_gives 121 = .ok (.iload 4, 2) := by decide +kernel
theorem dX5_gives_123 : decode cX5_gives 123 = .ok (.ifCond .lt 10, 3) := by decide +kernel
theorem dX5_gives_126 : decode cX5_gives 126 = .ok (.aload_n 0, 1) := by decide +kernel
theorem dX5_gives_127 : decode cX5_gives 127 = .ok (.iload_n 1, 1) := by decide +kernel
theorem dX5_gives_128 : decode cX5_gives 128 = .ok (.iload 5, 2) := by decide +kernel
theorem dX5_gives_130 : decode cX5_gives 130 = .ok (.invokevirtual 157, 3) := by decide +kernel
theorem dX5_gives_133 : decode cX5_gives 133 = .ok (.iload 6, 2) := by decide +kernel
theorem dX5_gives_135 : decode cX5_gives 135 = .ok (.istore 5, 2) := by decide +kernel
theorem dX5_gives_137 : decode cX5_gives 137 = .ok (.goto 9, 3) := by decide +kernel
theorem dX5_gives_140 : decode cX5_gives 140 = .ok (.aload_n 0, 1) := by decide +kernel
theorem dX5_gives_141 : decode cX5_gives 141 = .ok (.iload 5, 2) := by decide +kernel
theorem dX5_gives_143 : decode cX5_gives 143 = .ok (.invokevirtual 144, 3) := by decide +kernel
theorem dX5_gives_146 : decode cX5_gives 146 = .ok (.iload 4, 2) := by decide +kernel
theorem dX5_gives_148 : decode cX5_gives 148 = .ok (.ifCond .lt 11, 3) := by decide +kernel
theorem dX5_gives_151 : decode cX5_gives 151 = .ok (.aload_n 0, 1) := by decide +kernel
theorem dX5_gives_152 : decode cX5_gives 152 = .ok (.getfield 38, 3) := by decide +kernel
theorem dX5_gives_155 : decode cX5_gives 155 = .ok (.iload 4, 2) := by decide +kernel
theorem dX5_gives_157 : decode cX5_gives 157 = .ok (.iconst 1, 1) := by decide +kernel
theorem dX5_gives_158 : decode cX5_gives 158 = .ok (.iastore, 1) := by decide +kernel
theorem dX5_gives_159 : decode cX5_gives 159 = .ok (.aload_n 0, 1) := by decide +kernel
theorem dX5_gives_160 : decode cX5_gives 160 = .ok (.iload_n 2, 1) := by decide +kernel
theorem dX5_gives_161 : decode cX5_gives 161 = .ok (.iload_n 3, 1) := by decide +kernel
theorem dX5_gives_162 : decode cX5_gives 162 = .ok (.iload 5, 2) := by decide +kernel
theorem dX5_gives_164 : decode cX5_gives 164 = .ok (.iload_n 1, 1) := by decide +kernel
theorem dX5_gives_165 : decode cX5_gives 165 = .ok (.invokevirtual 153, 3) := by decide +kernel
theorem dX5_gives_168 : decode cX5_gives 168 = .ok (.iconst 1, 1) := by decide +kernel
theorem dX5_gives_169 : decode cX5_gives 169 = .ok (.ireturn, 1) := by decide +kernel
abbrev cX5_take : ByteArray := prog_7_method_33_code
def yX5_take : MethodName := ⟨RX5, "take", "(IIII)I"⟩
theorem dX5_take_0 : decode cX5_take 0 = .ok (.aload_n 0, 1) := by decide +kernel
theorem dX5_take_1 : decode cX5_take 1 = .ok (.iload_n 1, 1) := by decide +kernel
theorem dX5_take_2 : decode cX5_take 2 = .ok (.iload_n 2, 1) := by decide +kernel
theorem dX5_take_3 : decode cX5_take 3 = .ok (.iconst 0, 1) := by decide +kernel
theorem dX5_take_4 : decode cX5_take 4 = .ok (.invokevirtual 96, 3) := by decide +kernel
theorem dX5_take_7 : decode cX5_take 7 = .ok (.ifCond .eq 23, 3) := by decide +kernel
theorem dX5_take_10 : decode cX5_take 10 = .ok (.iload_n 3, 1) := by decide +kernel
theorem dX5_take_11 : decode cX5_take 11 = .ok (.ifCond .lt 19, 3) := by decide +kernel
theorem dX5_take_14 : decode cX5_take 14 = .ok (.iload_n 3, 1) := by decide +kernel
theorem dX5_take_15 : decode cX5_take 15 = .ok (.iconst 3, 1) := by decide +kernel
theorem dX5_take_16 : decode cX5_take 16 = .ok (.if_icmp .gt 14, 3) := by decide +kernel
theorem dX5_take_19 : decode cX5_take 19 = .ok (.iload 4, 2) := by decide +kernel
theorem dX5_take_21 : decode cX5_take 21 = .ok (.ifCond .lt 9, 3) := by decide +kernel
theorem dX5_take_24 : decode cX5_take 24 = .ok (.iload 4, 2) := by decide +kernel
theorem dX5_take_26 : decode cX5_take 26 = .ok (.iconst 3, 1) := by decide +kernel
theorem dX5_take_27 : decode cX5_take 27 = .ok (.if_icmp .le 5, 3) := by decide +kernel
theorem dX5_take_30 : decode cX5_take 30 = .ok (.iconst (-1), 1) := by decide +kernel
theorem dX5_take_31 : decode cX5_take 31 = .ok (.ireturn, 1) := by decide +kernel
theorem dX5_take_32 : decode cX5_take 32 = .ok (.aload_n 0, 1) := by decide +kernel
theorem dX5_take_33 : decode cX5_take 33 = .ok (.iload_n 3, 1) := by decide +kernel
theorem dX5_take_34 : decode cX5_take 34 = .ok (.iload_n 1, 1) := by decide +kernel
theorem dX5_take_35 : decode cX5_take 35 = .ok (.iload_n 2, 1) := by decide +kernel
theorem dX5_take_36 : decode cX5_take 36 = .ok (.invokevirtual 164, 3) := by decide +kernel
theorem dX5_take_39 : decode cX5_take 39 = .ok (.ifCond .eq 5, 3) := by decide +kernel
theorem dX5_take_42 : decode cX5_take 42 = .ok (.iload_n 3, 1) := by decide +kernel
theorem dX5_take_43 : decode cX5_take 43 = .ok (.ireturn, 1) := by decide +kernel
theorem dX5_take_44 : decode cX5_take 44 = .ok (.aload_n 0, 1) := by decide +kernel
theorem dX5_take_45 : decode cX5_take 45 = .ok (.iload 4, 2) := by decide +kernel
theorem dX5_take_47 : decode cX5_take 47 = .ok (.iload_n 1, 1) := by decide +kernel
theorem dX5_take_48 : decode cX5_take 48 = .ok (.iload_n 2, 1) := by decide +kernel
theorem dX5_take_49 : decode cX5_take 49 = .ok (.invokevirtual 164, 3) := by decide +kernel
theorem dX5_take_52 : decode cX5_take 52 = .ok (.ifCond .eq 6, 3) := by decide +kernel
theorem dX5_take_55 : decode cX5_take 55 = .ok (.iload 4, 2) := by decide +kernel
theorem dX5_take_57 : decode cX5_take 57 = .ok (.ireturn, 1) := by decide +kernel
theorem dX5_take_58 : decode cX5_take 58 = .ok (.aload_n 0, 1) := by decide +kernel
theorem dX5_take_59 : decode cX5_take 59 = .ok (.iload_n 1, 1) := by decide +kernel
theorem dX5_take_60 : decode cX5_take 60 = .ok (.iconst 3, 1) := by decide +kernel
theorem dX5_take_61 : decode cX5_take 61 = .ok (.iload_n 2, 1) := by decide +kernel
theorem dX5_take_62 : decode cX5_take 62 = .ok (.iload_n 3, 1) := by decide +kernel
theorem dX5_take_63 : decode cX5_take 63 = .ok (.iload 4, 2) := by decide +kernel
theorem dX5_take_65 : decode cX5_take 65 = .ok (.invokevirtual 160, 3) := by decide +kernel
theorem dX5_take_68 : decode cX5_take 68 = .ok (.iconst 4, 1) := by decide +kernel
theorem dX5_take_69 : decode cX5_take 69 = .ok (.ireturn, 1) := by decide +kernel
abbrev cX5_cycle : ByteArray := prog_7_method_34_code
def yX5_cycle : MethodName := ⟨RX5, "cycle", "()V"⟩
theorem dX5_cycle_0 : decode cX5_cycle 0 = .ok (.aload_n 0, 1) := by decide +kernel
theorem dX5_cycle_1 : decode cX5_cycle 1 = .ok (.bipush 16, 2) := by decide +kernel
theorem dX5_cycle_3 : decode cX5_cycle 3 = .ok (.invokevirtual 138, 3) := by decide +kernel
theorem dX5_cycle_6 : decode cX5_cycle 6 = .ok (.pop, 1) := by decide +kernel
theorem dX5_cycle_7 : decode cX5_cycle 7 = .ok (.aload_n 0, 1) := by decide +kernel
theorem dX5_cycle_8 : decode cX5_cycle 8 = .ok (.iconst 1, 1) := by decide +kernel
theorem dX5_cycle_9 : decode cX5_cycle 9 = .ok (.putfield 103, 3) := by decide +kernel
theorem dX5_cycle_12 : decode cX5_cycle 12 = .ok (.aload_n 0, 1) := by decide +kernel
theorem dX5_cycle_13 : decode cX5_cycle 13 = .ok (.iconst 0, 1) := by decide +kernel
theorem dX5_cycle_14 : decode cX5_cycle 14 = .ok (.putfield 168, 3) := by decide +kernel
theorem dX5_cycle_17 : decode cX5_cycle 17 = .ok (.aload_n 0, 1) := by decide +kernel
theorem dX5_cycle_18 : decode cX5_cycle 18 = .ok (.dup, 1) := by decide +kernel
theorem dX5_cycle_19 : decode cX5_cycle 19 = .ok (.getfield 171, 3) := by decide +kernel
theorem dX5_cycle_22 : decode cX5_cycle 22 = .ok (.iconst 1, 1) := by decide +kernel
theorem dX5_cycle_23 : decode cX5_cycle 23 = .ok (.iadd, 1) := by decide +kernel
theorem dX5_cycle_24 : decode cX5_cycle 24 = .ok (.putfield 171, 3) := by decide +kernel
theorem dX5_cycle_27 : decode cX5_cycle 27 = .ok (.iconst 0, 1) := by decide +kernel
theorem dX5_cycle_28 : decode cX5_cycle 28 = .ok (.istore_n 1, 1) := by decide +kernel
theorem dX5_cycle_29 : decode cX5_cycle 29 = .ok (.iload_n 1, 1) := by decide +kernel
theorem dX5_cycle_30 : decode cX5_cycle 30 = .ok (.bipush 6, 2) := by decide +kernel
theorem dX5_cycle_32 : decode cX5_cycle 32 = .ok (.if_icmp .ge 16, 3) := by decide +kernel
theorem dX5_cycle_35 : decode cX5_cycle 35 = .ok (.aload_n 0, 1) := by decide +kernel
theorem dX5_cycle_36 : decode cX5_cycle 36 = .ok (.getfield 53, 3) := by decide +kernel
theorem dX5_cycle_39 : decode cX5_cycle 39 = .ok (.iload_n 1, 1) := by decide +kernel
theorem dX5_cycle_40 : decode cX5_cycle 40 = .ok (.iconst 0, 1) := by decide +kernel
theorem dX5_cycle_41 : decode cX5_cycle 41 = .ok (.bastore, 1) := by decide +kernel
theorem dX5_cycle_42 : decode cX5_cycle 42 = .ok (.iinc 1 1, 3) := by decide +kernel
theorem dX5_cycle_45 : decode cX5_cycle 45 = .ok (.goto (-16), 3) := by decide +kernel
theorem dX5_cycle_48 : decode cX5_cycle 48 = .ok (.iconst 0, 1) := by decide +kernel
theorem dX5_cycle_49 : decode cX5_cycle 49 = .ok (.istore_n 1, 1) := by decide +kernel
theorem dX5_cycle_50 : decode cX5_cycle 50 = .ok (.iload_n 1, 1) := by decide +kernel
theorem dX5_cycle_51 : decode cX5_cycle 51 = .ok (.sipush 256, 3) := by decide +kernel
theorem dX5_cycle_54 : decode cX5_cycle 54 = .ok (.if_icmp .ge 23, 3) := by decide +kernel
theorem dX5_cycle_57 : decode cX5_cycle 57 = .ok (.aload_n 0, 1) := by decide +kernel
theorem dX5_cycle_58 : decode cX5_cycle 58 = .ok (.getfield 19, 3) := by decide +kernel
theorem dX5_cycle_61 : decode cX5_cycle 61 = .ok (.iload_n 1, 1) := by decide +kernel
theorem dX5_cycle_62 : decode cX5_cycle 62 = .ok (.iconst 0, 1) := by decide +kernel
theorem dX5_cycle_63 : decode cX5_cycle 63 = .ok (.bastore, 1) := by decide +kernel
theorem dX5_cycle_64 : decode cX5_cycle 64 = .ok (.aload_n 0, 1) := by decide +kernel
theorem dX5_cycle_65 : decode cX5_cycle 65 = .ok (.getfield 23, 3) := by decide +kernel
theorem dX5_cycle_68 : decode cX5_cycle 68 = .ok (.iload_n 1, 1) := by decide +kernel
theorem dX5_cycle_69 : decode cX5_cycle 69 = .ok (.iconst 0, 1) := by decide +kernel
theorem dX5_cycle_70 : decode cX5_cycle 70 = .ok (.bastore, 1) := by decide +kernel
theorem dX5_cycle_71 : decode cX5_cycle 71 = .ok (.iinc 1 1, 3) := by decide +kernel
theorem dX5_cycle_74 : decode cX5_cycle 74 = .ok (.goto (-24), 3) := by decide +kernel
theorem dX5_cycle_77 : decode cX5_cycle 77 = .ok (.iconst 0, 1) := by decide +kernel
theorem dX5_cycle_78 : decode cX5_cycle 78 = .ok (.istore_n 1, 1) := by decide +kernel
theorem dX5_cycle_79 : decode cX5_cycle 79 = .ok (.iload_n 1, 1) := by decide +kernel
theorem dX5_cycle_80 : decode cX5_cycle 80 = .ok (.bipush 16, 2) := by decide +kernel
theorem dX5_cycle_82 : decode cX5_cycle 82 = .ok (.if_icmp .ge 33, 3) := by decide +kernel
theorem dX5_cycle_85 : decode cX5_cycle 85 = .ok (.iload_n 1, 1) := by decide +kernel
theorem dX5_cycle_86 : decode cX5_cycle 86 = .ok (.iconst 4, 1) := by decide +kernel
theorem dX5_cycle_87 : decode cX5_cycle 87 = .ok (.irem, 1) := by decide +kernel
theorem dX5_cycle_88 : decode cX5_cycle 88 = .ok (.aload_n 0, 1) := by decide +kernel
theorem dX5_cycle_89 : decode cX5_cycle 89 = .ok (.getfield 74, 3) := by decide +kernel
theorem dX5_cycle_92 : decode cX5_cycle 92 = .ok (.iload_n 1, 1) := by decide +kernel
theorem dX5_cycle_93 : decode cX5_cycle 93 = .ok (.iconst 4, 1) := by decide +kernel
theorem dX5_cycle_94 : decode cX5_cycle 94 = .ok (.idiv, 1) := by decide +kernel
theorem dX5_cycle_95 : decode cX5_cycle 95 = .ok (.iaload, 1) := by decide +kernel
theorem dX5_cycle_96 : decode cX5_cycle 96 = .ok (.if_icmp .ge 13, 3) := by decide +kernel
theorem dX5_cycle_99 : decode cX5_cycle 99 = .ok (.aload_n 0, 1) := by decide +kernel
theorem dX5_cycle_100 : decode cX5_cycle 100 = .ok (.aload_n 0, 1) := by decide +kernel
theorem dX5_cycle_101 : decode cX5_cycle 101 = .ok (.getfield 71, 3) := by decide +kernel
theorem dX5_cycle_104 : decode cX5_cycle 104 = .ok (.iload_n 1, 1) := by decide +kernel
theorem dX5_cycle_105 : decode cX5_cycle 105 = .ok (.iaload, 1) := by decide +kernel
theorem dX5_cycle_106 : decode cX5_cycle 106 = .ok (.invokevirtual 144, 3) := by decide +kernel
theorem dX5_cycle_109 : decode cX5_cycle 109 = .ok (.iinc 1 1, 3) := by decide +kernel
theorem dX5_cycle_112 : decode cX5_cycle 112 = .ok (.goto (-33), 3) := by decide +kernel
theorem dX5_cycle_115 : decode cX5_cycle 115 = .ok (.return_, 1) := by decide +kernel
abbrev cX5_scan : ByteArray := prog_7_method_35_code
def yX5_scan : MethodName := ⟨RX5, "scan", "(I)V"⟩
theorem dX5_scan_0 : decode cX5_scan 0 = .ok (.aload_n 0, 1) := by decide +kernel
theorem dX5_scan_1 : decode cX5_scan 1 = .ok (.getfield 53, 3) := by decide +kernel
theorem dX5_scan_4 : decode cX5_scan 4 = .ok (.iload_n 1, 1) := by decide +kernel
theorem dX5_scan_5 : decode cX5_scan 5 = .ok (.iconst 1, 1) := by decide +kernel
theorem dX5_scan_6 : decode cX5_scan 6 = .ok (.bastore, 1) := by decide +kernel
theorem dX5_scan_7 : decode cX5_scan 7 = .ok (.iconst 0, 1) := by decide +kernel
theorem dX5_scan_8 : decode cX5_scan 8 = .ok (.istore_n 2, 1) := by decide +kernel
theorem dX5_scan_9 : decode cX5_scan 9 = .ok (.iload_n 2, 1) := by decide +kernel
theorem dX5_scan_10 : decode cX5_scan 10 = .ok (.iconst 4, 1) := by decide +kernel
theorem dX5_scan_11 : decode cX5_scan 11 = .ok (.aload_n 0, 1) := by decide +kernel
theorem dX5_scan_12 : decode cX5_scan 12 = .ok (.getfield 41, 3) := by decide +kernel
theorem dX5_scan_15 : decode cX5_scan 15 = .ok (.iload_n 1, 1) := by decide +kernel
theorem dX5_scan_16 : decode cX5_scan 16 = .ok (.iaload, 1) := by decide +kernel
theorem dX5_scan_17 : decode cX5_scan 17 = .ok (.imul, 1) := by decide +kernel
theorem dX5_scan_18 : decode cX5_scan 18 = .ok (.if_icmp .ge 24, 3) := by decide +kernel
theorem dX5_scan_21 : decode cX5_scan 21 = .ok (.aload_n 0, 1) := by decide +kernel
theorem dX5_scan_22 : decode cX5_scan 22 = .ok (.aload_n 0, 1) := by decide +kernel
theorem dX5_scan_23 : decode cX5_scan 23 = .ok (.getfield 47, 3) := by decide +kernel
theorem dX5_scan_26 : decode cX5_scan 26 = .ok (.bipush 64, 2) := by decide +kernel
theorem dX5_scan_28 : decode cX5_scan 28 = .ok (.iload_n 1, 1) := by decide +kernel
theorem dX5_scan_29 : decode cX5_scan 29 = .ok (.imul, 1) := by decide +kernel
theorem dX5_scan_30 : decode cX5_scan 30 = .ok (.iload_n 2, 1) := by decide +kernel
theorem dX5_scan_31 : decode cX5_scan 31 = .ok (.iadd, 1) := by decide +kernel
theorem dX5_scan_32 : decode cX5_scan 32 = .ok (.iaload, 1) := by decide +kernel
theorem dX5_scan_33 : decode cX5_scan 33 = .ok (.invokevirtual 144, 3) := by decide +kernel
theorem dX5_scan_36 : decode cX5_scan 36 = .ok (.iinc 2 1, 3) := by decide +kernel
theorem dX5_scan_39 : decode cX5_scan 39 = .ok (.goto (-30), 3) := by decide +kernel
theorem dX5_scan_42 : decode cX5_scan 42 = .ok (.iconst 4, 1) := by decide +kernel
theorem dX5_scan_43 : decode cX5_scan 43 = .ok (.aload_n 0, 1) := by decide +kernel
theorem dX5_scan_44 : decode cX5_scan 44 = .ok (.getfield 41, 3) := by decide +kernel
theorem dX5_scan_47 : decode cX5_scan 47 = .ok (.iload_n 1, 1) := by decide +kernel
theorem dX5_scan_48 : decode cX5_scan 48 = .ok (.iaload, 1) := by decide +kernel
theorem dX5_scan_49 : decode cX5_scan 49 = .ok (.imul, 1) := by decide +kernel
theorem dX5_scan_50 : decode cX5_scan 50 = .ok (.aload_n 0, 1) := by decide +kernel
theorem dX5_scan_51 : decode cX5_scan 51 = .ok (.getfield 44, 3) := by decide +kernel
theorem dX5_scan_54 : decode cX5_scan 54 = .ok (.iload_n 1, 1) := by decide +kernel
theorem dX5_scan_55 : decode cX5_scan 55 = .ok (.iaload, 1) := by decide +kernel
theorem dX5_scan_56 : decode cX5_scan 56 = .ok (.if_icmp .gt 38, 3) := by decide +kernel
theorem dX5_scan_59 : decode cX5_scan 59 = .ok (.aload_n 0, 1) := by decide +kernel
theorem dX5_scan_60 : decode cX5_scan 60 = .ok (.getfield 44, 3) := by decide +kernel
theorem dX5_scan_63 : decode cX5_scan 63 = .ok (.iload_n 1, 1) := by decide +kernel
theorem dX5_scan_64 : decode cX5_scan 64 = .ok (.iaload, 1) := by decide +kernel
theorem dX5_scan_65 : decode cX5_scan 65 = .ok (.iconst 2, 1) := by decide +kernel
theorem dX5_scan_66 : decode cX5_scan 66 = .ok (.if_icmp .le 28, 3) := by decide +kernel
theorem dX5_scan_69 : decode cX5_scan 69 = .ok (.aload_n 0, 1) := by decide +kernel
theorem dX5_scan_70 : decode cX5_scan 70 = .ok (.getfield 44, 3) := by decide +kernel
theorem dX5_scan_73 : decode cX5_scan 73 = .ok (.iload_n 1, 1) := by decide +kernel
theorem dX5_scan_74 : decode cX5_scan 74 = .ok (.dup2, 1) := by decide +kernel
theorem dX5_scan_75 : decode cX5_scan 75 = .ok (.iaload, 1) := by decide +kernel
theorem dX5_scan_76 : decode cX5_scan 76 = .ok (.iconst 2, 1) := by decide +kernel
theorem dX5_scan_77 : decode cX5_scan 77 = .ok (.idiv, 1) := by decide +kernel
theorem dX5_scan_78 : decode cX5_scan 78 = .ok (.iastore, 1) := by decide +kernel
theorem dX5_scan_79 : decode cX5_scan 79 = .ok (.aload_n 0, 1) := by decide +kernel
theorem dX5_scan_80 : decode cX5_scan 80 = .ok (.dup, 1) := by decide +kernel
theorem dX5_scan_81 : decode cX5_scan 81 = .ok (.getfield 107, 3) := by decide +kernel
theorem dX5_scan_84 : decode cX5_scan 84 = .ok (.aload_n 0, 1) := by decide +kernel
theorem dX5_scan_85 : decode cX5_scan 85 = .ok (.getfield 41, 3) := by decide +kernel
theorem dX5_scan_88 : decode cX5_scan 88 = .ok (.iload_n 1, 1) := by decide +kernel
theorem dX5_scan_89 : decode cX5_scan 89 = .ok (.iaload, 1) := by decide +kernel
theorem dX5_scan_90 : decode cX5_scan 90 = .ok (.iadd, 1) := by decide +kernel
theorem dX5_scan_91 : decode cX5_scan 91 = .ok (.putfield 107, 3) := by decide +kernel
theorem dX5_scan_94 : decode cX5_scan 94 = .ok (.return_, 1) := by decide +kernel
abbrev cX5_countDue : ByteArray := prog_7_method_36_code
def yX5_countDue : MethodName := ⟨RX5, "countDue", "()I"⟩
theorem dX5_countDue_0 : decode cX5_countDue 0 = .ok (.iconst 0, 1) := by decide +kernel
theorem dX5_countDue_1 : decode cX5_countDue 1 = .ok (.istore_n 1, 1) := by decide +kernel
theorem dX5_countDue_2 : decode cX5_countDue 2 = .ok (.iconst 0, 1) := by decide +kernel
theorem dX5_countDue_3 : decode cX5_countDue 3 = .ok (.istore_n 2, 1) := by decide +kernel
theorem dX5_countDue_4 : decode cX5_countDue 4 = .ok (.iload_n 2, 1) := by decide +kernel
theorem dX5_countDue_5 : decode cX5_countDue 5 = .ok (.sipush 256, 3) := by decide +kernel
theorem dX5_countDue_8 : decode cX5_countDue 8 = .ok (.if_icmp .ge 64, 3) := by decide +kernel
theorem dX5_countDue_11 : decode cX5_countDue 11 = .ok (.aload_n 0, 1) := by decide +kernel
theorem dX5_countDue_12 : decode cX5_countDue 12 = .ok (.getfield 29, 3) := by decide +kernel
theorem dX5_countDue_15 : decode cX5_countDue 15 = .ok (.iload_n 2, 1) := by decide +kernel
theorem dX5_countDue_16 : decode cX5_countDue 16 = .ok (.aload_n 0, 1) := by decide +kernel
theorem dX5_countDue_17 : decode cX5_countDue 17 = .ok (.getfield 13, 3) := by decide +kernel
theorem dX5_countDue_20 : decode cX5_countDue 20 = .ok (.iload_n 2, 1) := by decide +kernel
theorem dX5_countDue_21 : decode cX5_countDue 21 = .ok (.iaload, 1) := by decide +kernel
theorem dX5_countDue_22 : decode cX5_countDue 22 = .ok (.ifCond .le 25, 3) := by decide +kernel
theorem dX5_countDue_25 : decode cX5_countDue 25 = .ok (.aload_n 0, 1) := by decide +kernel
theorem dX5_countDue_26 : decode cX5_countDue 26 = .ok (.getfield 23, 3) := by decide +kernel
theorem dX5_countDue_29 : decode cX5_countDue 29 = .ok (.iload_n 2, 1) := by decide +kernel
theorem dX5_countDue_30 : decode cX5_countDue 30 = .ok (.baload, 1) := by decide +kernel
theorem dX5_countDue_31 : decode cX5_countDue 31 = .ok (.ifCond .eq 16, 3) := by decide +kernel
theorem dX5_countDue_34 : decode cX5_countDue 34 = .ok (.aload_n 0, 1) := by decide +kernel
theorem dX5_countDue_35 : decode cX5_countDue 35 = .ok (.getfield 19, 3) := by decide +kernel
theorem dX5_countDue_38 : decode cX5_countDue 38 = .ok (.iload_n 2, 1) := by decide +kernel
theorem dX5_countDue_39 : decode cX5_countDue 39 = .ok (.baload, 1) := by decide +kernel
theorem dX5_countDue_40 : decode cX5_countDue 40 = .ok (.ifCond .ne 7, 3) := by decide +kernel
theorem dX5_countDue_43 : decode cX5_countDue 43 = .ok (.iconst 1, 1) := by decide +kernel
theorem dX5_countDue_44 : decode cX5_countDue 44 = .ok (.goto 4, 3) := by decide +kernel
theorem dX5_countDue_47 : decode cX5_countDue 47 = .ok (.iconst 0, 1) := by decide +kernel
theorem dX5_countDue_48 : decode cX5_countDue 48 = .ok (.bastore, 1) := by decide +kernel
theorem dX5_countDue_49 : decode cX5_countDue 49 = .ok (.iload_n 1, 1) := by decide +kernel
theorem dX5_countDue_50 : decode cX5_countDue 50 = .ok (.aload_n 0, 1) := by decide +kernel
theorem dX5_countDue_51 : decode cX5_countDue 51 = .ok (.getfield 29, 3) := by decide +kernel
theorem dX5_countDue_54 : decode cX5_countDue 54 = .ok (.iload_n 2, 1) := by decide +kernel
theorem dX5_countDue_55 : decode cX5_countDue 55 = .ok (.baload, 1) := by decide +kernel
theorem dX5_countDue_56 : decode cX5_countDue 56 = .ok (.ifCond .eq 7, 3) := by decide +kernel
theorem dX5_countDue_59 : decode cX5_countDue 59 = .ok (.iconst 1, 1) := by decide +kernel
theorem dX5_countDue_60 : decode cX5_countDue 60 = .ok (.goto 4, 3) := by decide +kernel
theorem dX5_countDue_63 : decode cX5_countDue 63 = .ok (.iconst 0, 1) := by decide +kernel
theorem dX5_countDue_64 : decode cX5_countDue 64 = .ok (.iadd, 1) := by decide +kernel
theorem dX5_countDue_65 : decode cX5_countDue 65 = .ok (.istore_n 1, 1) := by decide +kernel
theorem dX5_countDue_66 : decode cX5_countDue 66 = .ok (.iinc 2 1, 3) := by decide +kernel
theorem dX5_countDue_69 : decode cX5_countDue 69 = .ok (.goto (-65), 3) := by decide +kernel
theorem dX5_countDue_72 : decode cX5_countDue 72 = .ok (.iconst (-1), 1) := by decide +kernel
theorem dX5_countDue_73 : decode cX5_countDue 73 = .ok (.istore_n 2, 1) := by decide +kernel
theorem dX5_countDue_74 : decode cX5_countDue 74 = .ok (.iconst 0, 1) := by decide +kernel
theorem dX5_countDue_75 : decode cX5_countDue 75 = .ok (.istore_n 3, 1) := by decide +kernel
theorem dX5_countDue_76 : decode cX5_countDue 76 = .ok (.iload_n 3, 1) := by decide +kernel
theorem dX5_countDue_77 : decode cX5_countDue 77 = .ok (.sipush 1000, 3) := by decide +kernel
theorem dX5_countDue_80 : decode cX5_countDue 80 = .ok (.if_icmp .ge 113, 3) := by decide +kernel
theorem dX5_countDue_83 : decode cX5_countDue 83 = .ok (.iload_n 1, 1) := by decide +kernel
theorem dX5_countDue_84 : decode cX5_countDue 84 = .ok (.iload_n 2, 1) := by decide +kernel
theorem dX5_countDue_85 : decode cX5_countDue 85 = .ok (.if_icmp .le 108, 3) := by decide +kernel
theorem dX5_countDue_88 : decode cX5_countDue 88 = .ok (.iload_n 1, 1) := by decide +kernel
theorem dX5_countDue_89 : decode cX5_countDue 89 = .ok (.istore_n 2, 1) := by decide +kernel
theorem dX5_countDue_90 : decode cX5_countDue 90 = .ok (.iconst 0, 1) := by decide +kernel
theorem dX5_countDue_91 : decode cX5_countDue 91 = .ok (.istore 4, 2) := by decide +kernel
theorem dX5_countDue_93 : decode cX5_countDue 93 = .ok (.iload 4, 2) := by decide +kernel
theorem dX5_countDue_95 : decode cX5_countDue 95 = .ok (.sipush 256, 3) := by decide +kernel
theorem dX5_countDue_98 : decode cX5_countDue 98 = .ok (.if_icmp .ge 89, 3) := by decide +kernel
theorem dX5_countDue_101 : decode cX5_countDue 101 = .ok (.iconst 0, 1) := by decide +kernel
theorem dX5_countDue_102 : decode cX5_countDue 102 = .ok (.istore 5, 2) := by decide +kernel
theorem dX5_countDue_104 : decode cX5_countDue 104 = .ok (.iload 5, 2) := by decide +kernel
theorem dX5_countDue_106 : decode cX5_countDue 106 = .ok (.aload_n 0, 1) := by decide +kernel
theorem dX5_countDue_107 : decode cX5_countDue 107 = .ok (.getfield 16, 3) := by decide +kernel
theorem dX5_countDue_110 : decode cX5_countDue 110 = .ok (.iload 4, 2) := by decide +kernel
theorem dX5_countDue_112 : decode cX5_countDue 112 = .ok (.iaload, 1) := by decide +kernel
theorem dX5_countDue_113 : decode cX5_countDue 113 = .ok (.if_icmp .ge 68, 3) := by decide +kernel
theorem dX5_countDue_116 : decode cX5_countDue 116 = .ok (.aload_n 0, 1) := by decide +kernel
theorem dX5_countDue_117 : decode cX5_countDue 117 = .ok (.getfield 29, 3) := by decide +kernel
theorem dX5_countDue_120 : decode cX5_countDue 120 = .ok (.iload 4, 2) := by decide +kernel
theorem dX5_countDue_122 : decode cX5_countDue 122 = .ok (.baload, 1) := by decide +kernel
theorem dX5_countDue_123 : decode cX5_countDue 123 = .ok (.ifCond .eq 58, 3) := by decide +kernel
theorem dX5_countDue_126 : decode cX5_countDue 126 = .ok (.aload_n 0, 1) := by decide +kernel
theorem dX5_countDue_127 : decode cX5_countDue 127 = .ok (.getfield 7, 3) := by decide +kernel
theorem dX5_countDue_130 : decode cX5_countDue 130 = .ok (.iload 4, 2) := by decide +kernel
theorem dX5_countDue_132 : decode cX5_countDue 132 = .ok (.iload 5, 2) := by decide +kernel
theorem dX5_countDue_134 : decode cX5_countDue 134 = .ok (.iadd, 1) := by decide +kernel
theorem dX5_countDue_135 : decode cX5_countDue 135 = .ok (.iaload, 1) := by decide +kernel
theorem dX5_countDue_136 : decode cX5_countDue 136 = .ok (.istore 6, 2) := by decide +kernel
theorem dX5_countDue_138 : decode cX5_countDue 138 = .ok (.iload 6, 2) := by decide +kernel
theorem dX5_countDue_140 : decode cX5_countDue 140 = .ok (.iconst (-1), 1) := by decide +kernel
theorem dX5_countDue_141 : decode cX5_countDue 141 = .ok (.if_icmp .eq 34, 3) := by decide +kernel
theorem dX5_countDue_144 : decode cX5_countDue 144 = .ok (.aload_n 0, 1) := by decide +kernel
theorem dX5_countDue_145 : decode cX5_countDue 145 = .ok (.getfield 29, 3) := by decide +kernel
theorem dX5_countDue_148 : decode cX5_countDue 148 = .ok (.iload 6, 2) := by decide +kernel
theorem dX5_countDue_150 : decode cX5_countDue 150 = .ok (.baload, 1) := by decide +kernel
theorem dX5_countDue_151 : decode cX5_countDue 151 = .ok (.ifCond .ne 24, 3) := by decide +kernel
theorem dX5_countDue_154 : decode cX5_countDue 154 = .ok (.aload_n 0, 1) := by decide +kernel
theorem dX5_countDue_155 : decode cX5_countDue 155 = .ok (.getfield 19, 3) := by decide +kernel
theorem dX5_countDue_158 : decode cX5_countDue 158 = .ok (.iload 6, 2) := by decide +kernel
theorem dX5_countDue_160 : decode cX5_countDue 160 = .ok (.baload, 1) := by decide +kernel
theorem dX5_countDue_161 : decode cX5_countDue 161 = .ok (.ifCond .ne 14, 3) := by decide +kernel
theorem dX5_countDue_164 : decode cX5_countDue 164 = .ok (.aload_n 0, 1) := by decide +kernel
theorem dX5_countDue_165 : decode cX5_countDue 165 = .ok (.getfield 29, 3) := by decide +kernel
theorem dX5_countDue_168 : decode cX5_countDue 168 = .ok (.iload 6, 2) := by decide +kernel
theorem dX5_countDue_170 : decode cX5_countDue 170 = .ok (.iconst 1, 1) := by decide +kernel
theorem dX5_countDue_171 : decode cX5_countDue 171 = .ok (.bastore, 1) := by decide +kernel
theorem dX5_countDue_172 : decode cX5_countDue 172 = .ok (.iinc 1 1, 3) := by decide +kernel
theorem dX5_countDue_175 : decode cX5_countDue 175 = .ok (.iinc 5 1, 3) := by decide +kernel
theorem dX5_countDue_178 : decode cX5_countDue 178 = .ok (.goto (-74), 3) := by decide +kernel
theorem dX5_countDue_181 : decode cX5_countDue 181 = .ok (.iinc 4 1, 3) := by decide +kernel
theorem dX5_countDue_184 : decode cX5_countDue 184 = .ok (.goto (-91), 3) := by decide +kernel
theorem dX5_countDue_187 : decode cX5_countDue 187 = .ok (.iinc 3 1, 3) := by decide +kernel
theorem dX5_countDue_190 : decode cX5_countDue 190 = .ok (.goto (-114), 3) := by decide +kernel
theorem dX5_countDue_193 : decode cX5_countDue 193 = .ok (.iload_n 1, 1) := by decide +kernel
theorem dX5_countDue_194 : decode cX5_countDue 194 = .ok (.ireturn, 1) := by decide +kernel
abbrev cX5_work : ByteArray := prog_7_method_37_code
def yX5_work : MethodName := ⟨RX5, "work", "(I)I"⟩
theorem dX5_work_0 : decode cX5_work 0 = .ok (.iconst 0, 1) := by decide +kernel
theorem dX5_work_1 : decode cX5_work 1 = .ok (.istore_n 2, 1) := by decide +kernel
theorem dX5_work_2 : decode cX5_work 2 = .ok (.iconst 0, 1) := by decide +kernel
theorem dX5_work_3 : decode cX5_work 3 = .ok (.istore_n 3, 1) := by decide +kernel
theorem dX5_work_4 : decode cX5_work 4 = .ok (.iload_n 3, 1) := by decide +kernel
theorem dX5_work_5 : decode cX5_work 5 = .ok (.bipush 6, 2) := by decide +kernel
theorem dX5_work_7 : decode cX5_work 7 = .ok (.if_icmp .ge 40, 3) := by decide +kernel
theorem dX5_work_10 : decode cX5_work 10 = .ok (.iload_n 2, 1) := by decide +kernel
theorem dX5_work_11 : decode cX5_work 11 = .ok (.iload_n 1, 1) := by decide +kernel
theorem dX5_work_12 : decode cX5_work 12 = .ok (.if_icmp .ge 35, 3) := by decide +kernel
theorem dX5_work_15 : decode cX5_work 15 = .ok (.aload_n 0, 1) := by decide +kernel
theorem dX5_work_16 : decode cX5_work 16 = .ok (.getfield 38, 3) := by decide +kernel
theorem dX5_work_19 : decode cX5_work 19 = .ok (.iload_n 3, 1) := by decide +kernel
theorem dX5_work_20 : decode cX5_work 20 = .ok (.iaload, 1) := by decide +kernel
theorem dX5_work_21 : decode cX5_work 21 = .ok (.ifCond .le 20, 3) := by decide +kernel
theorem dX5_work_24 : decode cX5_work 24 = .ok (.aload_n 0, 1) := by decide +kernel
theorem dX5_work_25 : decode cX5_work 25 = .ok (.getfield 53, 3) := by decide +kernel
theorem dX5_work_28 : decode cX5_work 28 = .ok (.iload_n 3, 1) := by decide +kernel
theorem dX5_work_29 : decode cX5_work 29 = .ok (.baload, 1) := by decide +kernel
theorem dX5_work_30 : decode cX5_work 30 = .ok (.ifCond .ne 11, 3) := by decide +kernel
theorem dX5_work_33 : decode cX5_work 33 = .ok (.aload_n 0, 1) := by decide +kernel
theorem dX5_work_34 : decode cX5_work 34 = .ok (.iload_n 3, 1) := by decide +kernel
theorem dX5_work_35 : decode cX5_work 35 = .ok (.invokevirtual 174, 3) := by decide +kernel
theorem dX5_work_38 : decode cX5_work 38 = .ok (.iinc 2 1, 3) := by decide +kernel
theorem dX5_work_41 : decode cX5_work 41 = .ok (.iinc 3 1, 3) := by decide +kernel
theorem dX5_work_44 : decode cX5_work 44 = .ok (.goto (-40), 3) := by decide +kernel
theorem dX5_work_47 : decode cX5_work 47 = .ok (.aload_n 0, 1) := by decide +kernel
theorem dX5_work_48 : decode cX5_work 48 = .ok (.invokevirtual 177, 3) := by decide +kernel
theorem dX5_work_51 : decode cX5_work 51 = .ok (.istore 4, 2) := by decide +kernel
theorem dX5_work_53 : decode cX5_work 53 = .ok (.iload 4, 2) := by decide +kernel
theorem dX5_work_55 : decode cX5_work 55 = .ok (.aload_n 0, 1) := by decide +kernel
theorem dX5_work_56 : decode cX5_work 56 = .ok (.getfield 168, 3) := by decide +kernel
theorem dX5_work_59 : decode cX5_work 59 = .ok (.isub, 1) := by decide +kernel
theorem dX5_work_60 : decode cX5_work 60 = .ok (.iload_n 1, 1) := by decide +kernel
theorem dX5_work_61 : decode cX5_work 61 = .ok (.iload_n 2, 1) := by decide +kernel
theorem dX5_work_62 : decode cX5_work 62 = .ok (.isub, 1) := by decide +kernel
theorem dX5_work_63 : decode cX5_work 63 = .ok (.if_icmp .ge 13, 3) := by decide +kernel
theorem dX5_work_66 : decode cX5_work 66 = .ok (.iload 4, 2) := by decide +kernel
theorem dX5_work_68 : decode cX5_work 68 = .ok (.aload_n 0, 1) := by decide +kernel
theorem dX5_work_69 : decode cX5_work 69 = .ok (.getfield 168, 3) := by decide +kernel
theorem dX5_work_72 : decode cX5_work 72 = .ok (.isub, 1) := by decide +kernel
theorem dX5_work_73 : decode cX5_work 73 = .ok (.goto 6, 3) := by decide +kernel
theorem dX5_work_76 : decode cX5_work 76 = .ok (.iload_n 1, 1) := by decide +kernel
theorem dX5_work_77 : decode cX5_work 77 = .ok (.iload_n 2, 1) := by decide +kernel
theorem dX5_work_78 : decode cX5_work 78 = .ok (.isub, 1) := by decide +kernel
theorem dX5_work_79 : decode cX5_work 79 = .ok (.istore 5, 2) := by decide +kernel
theorem dX5_work_81 : decode cX5_work 81 = .ok (.aload_n 0, 1) := by decide +kernel
theorem dX5_work_82 : decode cX5_work 82 = .ok (.dup, 1) := by decide +kernel
theorem dX5_work_83 : decode cX5_work 83 = .ok (.getfield 168, 3) := by decide +kernel
theorem dX5_work_86 : decode cX5_work 86 = .ok (.iload 5, 2) := by decide +kernel
theorem dX5_work_88 : decode cX5_work 88 = .ok (.iadd, 1) := by decide +kernel
theorem dX5_work_89 : decode cX5_work 89 = .ok (.putfield 168, 3) := by decide +kernel
theorem dX5_work_92 : decode cX5_work 92 = .ok (.iload_n 2, 1) := by decide +kernel
theorem dX5_work_93 : decode cX5_work 93 = .ok (.iload 5, 2) := by decide +kernel
theorem dX5_work_95 : decode cX5_work 95 = .ok (.iadd, 1) := by decide +kernel
theorem dX5_work_96 : decode cX5_work 96 = .ok (.istore_n 2, 1) := by decide +kernel
theorem dX5_work_97 : decode cX5_work 97 = .ok (.aload_n 0, 1) := by decide +kernel
theorem dX5_work_98 : decode cX5_work 98 = .ok (.dup, 1) := by decide +kernel
theorem dX5_work_99 : decode cX5_work 99 = .ok (.getfield 181, 3) := by decide +kernel
theorem dX5_work_102 : decode cX5_work 102 = .ok (.iload_n 2, 1) := by decide +kernel
theorem dX5_work_103 : decode cX5_work 103 = .ok (.iadd, 1) := by decide +kernel
theorem dX5_work_104 : decode cX5_work 104 = .ok (.putfield 181, 3) := by decide +kernel
theorem dX5_work_107 : decode cX5_work 107 = .ok (.aload_n 0, 1) := by decide +kernel
theorem dX5_work_108 : decode cX5_work 108 = .ok (.getfield 168, 3) := by decide +kernel
theorem dX5_work_111 : decode cX5_work 111 = .ok (.iload 4, 2) := by decide +kernel
theorem dX5_work_113 : decode cX5_work 113 = .ok (.if_icmp .ge 7, 3) := by decide +kernel
theorem dX5_work_116 : decode cX5_work 116 = .ok (.iconst 1, 1) := by decide +kernel
theorem dX5_work_117 : decode cX5_work 117 = .ok (.goto 4, 3) := by decide +kernel
theorem dX5_work_120 : decode cX5_work 120 = .ok (.iconst 0, 1) := by decide +kernel
theorem dX5_work_121 : decode cX5_work 121 = .ok (.istore 6, 2) := by decide +kernel
theorem dX5_work_123 : decode cX5_work 123 = .ok (.iconst 0, 1) := by decide +kernel
theorem dX5_work_124 : decode cX5_work 124 = .ok (.istore 7, 2) := by decide +kernel
theorem dX5_work_126 : decode cX5_work 126 = .ok (.iload 7, 2) := by decide +kernel
theorem dX5_work_128 : decode cX5_work 128 = .ok (.bipush 6, 2) := by decide +kernel
theorem dX5_work_130 : decode cX5_work 130 = .ok (.if_icmp .ge 41, 3) := by decide +kernel
theorem dX5_work_133 : decode cX5_work 133 = .ok (.iload 6, 2) := by decide +kernel
theorem dX5_work_135 : decode cX5_work 135 = .ok (.ifCond .ne 23, 3) := by decide +kernel
theorem dX5_work_138 : decode cX5_work 138 = .ok (.aload_n 0, 1) := by decide +kernel
theorem dX5_work_139 : decode cX5_work 139 = .ok (.getfield 38, 3) := by decide +kernel
theorem dX5_work_142 : decode cX5_work 142 = .ok (.iload 7, 2) := by decide +kernel
theorem dX5_work_144 : decode cX5_work 144 = .ok (.iaload, 1) := by decide +kernel
theorem dX5_work_145 : decode cX5_work 145 = .ok (.ifCond .le 17, 3) := by decide +kernel
theorem dX5_work_148 : decode cX5_work 148 = .ok (.aload_n 0, 1) := by decide +kernel
theorem dX5_work_149 : decode cX5_work 149 = .ok (.getfield 53, 3) := by decide +kernel
theorem dX5_work_152 : decode cX5_work 152 = .ok (.iload 7, 2) := by decide +kernel
theorem dX5_work_154 : decode cX5_work 154 = .ok (.baload, 1) := by decide +kernel
theorem dX5_work_155 : decode cX5_work 155 = .ok (.ifCond .ne 7, 3) := by decide +kernel
theorem dX5_work_158 : decode cX5_work 158 = .ok (.iconst 1, 1) := by decide +kernel
theorem dX5_work_159 : decode cX5_work 159 = .ok (.goto 4, 3) := by decide +kernel
theorem dX5_work_162 : decode cX5_work 162 = .ok (.iconst 0, 1) := by decide +kernel
theorem dX5_work_163 : decode cX5_work 163 = .ok (.istore 6, 2) := by decide +kernel
theorem dX5_work_165 : decode cX5_work 165 = .ok (.iinc 7 1, 3) := by decide +kernel
theorem dX5_work_168 : decode cX5_work 168 = .ok (.goto (-42), 3) := by decide +kernel
theorem dX5_work_171 : decode cX5_work 171 = .ok (.iload 6, 2) := by decide +kernel
theorem dX5_work_173 : decode cX5_work 173 = .ok (.ifCond .ne 7, 3) := by decide +kernel
theorem dX5_work_176 : decode cX5_work 176 = .ok (.aload_n 0, 1) := by decide +kernel
theorem dX5_work_177 : decode cX5_work 177 = .ok (.invokevirtual 184, 3) := by decide +kernel
theorem dX5_work_180 : decode cX5_work 180 = .ok (.iload_n 2, 1) := by decide +kernel
theorem dX5_work_181 : decode cX5_work 181 = .ok (.ireturn, 1) := by decide +kernel
abbrev cX5_finish : ByteArray := prog_7_method_38_code
def yX5_finish : MethodName := ⟨RX5, "finish", "()V"⟩
theorem dX5_finish_0 : decode cX5_finish 0 = .ok (.aload_n 0, 1) := by decide +kernel
theorem dX5_finish_1 : decode cX5_finish 1 = .ok (.iconst 0, 1) := by decide +kernel
theorem dX5_finish_2 : decode cX5_finish 2 = .ok (.putfield 103, 3) := by decide +kernel
theorem dX5_finish_5 : decode cX5_finish 5 = .ok (.iconst 0, 1) := by decide +kernel
theorem dX5_finish_6 : decode cX5_finish 6 = .ok (.istore_n 1, 1) := by decide +kernel
theorem dX5_finish_7 : decode cX5_finish 7 = .ok (.iconst 0, 1) := by decide +kernel
theorem dX5_finish_8 : decode cX5_finish 8 = .ok (.istore_n 2, 1) := by decide +kernel
theorem dX5_finish_9 : decode cX5_finish 9 = .ok (.iload_n 2, 1) := by decide +kernel
theorem dX5_finish_10 : decode cX5_finish 10 = .ok (.sipush 256, 3) := by decide +kernel
theorem dX5_finish_13 : decode cX5_finish 13 = .ok (.if_icmp .ge 73, 3) := by decide +kernel
theorem dX5_finish_16 : decode cX5_finish 16 = .ok (.aload_n 0, 1) := by decide +kernel
theorem dX5_finish_17 : decode cX5_finish 17 = .ok (.getfield 26, 3) := by decide +kernel
theorem dX5_finish_20 : decode cX5_finish 20 = .ok (.iload_n 2, 1) := by decide +kernel
theorem dX5_finish_21 : decode cX5_finish 21 = .ok (.aload_n 0, 1) := by decide +kernel
theorem dX5_finish_22 : decode cX5_finish 22 = .ok (.getfield 13, 3) := by decide +kernel
theorem dX5_finish_25 : decode cX5_finish 25 = .ok (.iload_n 2, 1) := by decide +kernel
theorem dX5_finish_26 : decode cX5_finish 26 = .ok (.iaload, 1) := by decide +kernel
theorem dX5_finish_27 : decode cX5_finish 27 = .ok (.ifCond .le 25, 3) := by decide +kernel
theorem dX5_finish_30 : decode cX5_finish 30 = .ok (.aload_n 0, 1) := by decide +kernel
theorem dX5_finish_31 : decode cX5_finish 31 = .ok (.getfield 19, 3) := by decide +kernel
theorem dX5_finish_34 : decode cX5_finish 34 = .ok (.iload_n 2, 1) := by decide +kernel
theorem dX5_finish_35 : decode cX5_finish 35 = .ok (.baload, 1) := by decide +kernel
theorem dX5_finish_36 : decode cX5_finish 36 = .ok (.ifCond .ne 12, 3) := by decide +kernel
theorem dX5_finish_39 : decode cX5_finish 39 = .ok (.aload_n 0, 1) := by decide +kernel
theorem dX5_finish_40 : decode cX5_finish 40 = .ok (.getfield 29, 3) := by decide +kernel
theorem dX5_finish_43 : decode cX5_finish 43 = .ok (.iload_n 2, 1) := by decide +kernel
theorem dX5_finish_44 : decode cX5_finish 44 = .ok (.baload, 1) := by decide +kernel
theorem dX5_finish_45 : decode cX5_finish 45 = .ok (.ifCond .eq 7, 3) := by decide +kernel
theorem dX5_finish_48 : decode cX5_finish 48 = .ok (.iconst 1, 1) := by decide +kernel
theorem dX5_finish_49 : decode cX5_finish 49 = .ok (.goto 4, 3) := by decide +kernel
theorem dX5_finish_52 : decode cX5_finish 52 = .ok (.iconst 0, 1) := by decide +kernel
theorem dX5_finish_53 : decode cX5_finish 53 = .ok (.bastore, 1) := by decide +kernel
theorem dX5_finish_54 : decode cX5_finish 54 = .ok (.iload_n 1, 1) := by decide +kernel
theorem dX5_finish_55 : decode cX5_finish 55 = .ok (.aload_n 0, 1) := by decide +kernel
theorem dX5_finish_56 : decode cX5_finish 56 = .ok (.getfield 26, 3) := by decide +kernel
theorem dX5_finish_59 : decode cX5_finish 59 = .ok (.iload_n 2, 1) := by decide +kernel
theorem dX5_finish_60 : decode cX5_finish 60 = .ok (.baload, 1) := by decide +kernel
theorem dX5_finish_61 : decode cX5_finish 61 = .ok (.ifCond .eq 16, 3) := by decide +kernel
theorem dX5_finish_64 : decode cX5_finish 64 = .ok (.aload_n 0, 1) := by decide +kernel
theorem dX5_finish_65 : decode cX5_finish 65 = .ok (.aload_n 0, 1) := by decide +kernel
theorem dX5_finish_66 : decode cX5_finish 66 = .ok (.getfield 13, 3) := by decide +kernel
theorem dX5_finish_69 : decode cX5_finish 69 = .ok (.iload_n 2, 1) := by decide +kernel
theorem dX5_finish_70 : decode cX5_finish 70 = .ok (.iaload, 1) := by decide +kernel
theorem dX5_finish_71 : decode cX5_finish 71 = .ok (.invokevirtual 121, 3) := by decide +kernel
theorem dX5_finish_74 : decode cX5_finish 74 = .ok (.goto 4, 3) := by decide +kernel
theorem dX5_finish_77 : decode cX5_finish 77 = .ok (.iconst 0, 1) := by decide +kernel
theorem dX5_finish_78 : decode cX5_finish 78 = .ok (.iadd, 1) := by decide +kernel
theorem dX5_finish_79 : decode cX5_finish 79 = .ok (.istore_n 1, 1) := by decide +kernel
theorem dX5_finish_80 : decode cX5_finish 80 = .ok (.iinc 2 1, 3) := by decide +kernel
theorem dX5_finish_83 : decode cX5_finish 83 = .ok (.goto (-74), 3) := by decide +kernel
theorem dX5_finish_86 : decode cX5_finish 86 = .ok (.iconst 0, 1) := by decide +kernel
theorem dX5_finish_87 : decode cX5_finish 87 = .ok (.istore_n 2, 1) := by decide +kernel
theorem dX5_finish_88 : decode cX5_finish 88 = .ok (.iload_n 2, 1) := by decide +kernel
theorem dX5_finish_89 : decode cX5_finish 89 = .ok (.bipush 16, 2) := by decide +kernel
theorem dX5_finish_91 : decode cX5_finish 91 = .ok (.if_icmp .ge 30, 3) := by decide +kernel
theorem dX5_finish_94 : decode cX5_finish 94 = .ok (.aload_n 0, 1) := by decide +kernel
theorem dX5_finish_95 : decode cX5_finish 95 = .ok (.getfield 35, 3) := by decide +kernel
theorem dX5_finish_98 : decode cX5_finish 98 = .ok (.iload_n 2, 1) := by decide +kernel
theorem dX5_finish_99 : decode cX5_finish 99 = .ok (.aload_n 0, 1) := by decide +kernel
theorem dX5_finish_100 : decode cX5_finish 100 = .ok (.getfield 32, 3) := by decide +kernel
theorem dX5_finish_103 : decode cX5_finish 103 = .ok (.iload_n 2, 1) := by decide +kernel
theorem dX5_finish_104 : decode cX5_finish 104 = .ok (.iaload, 1) := by decide +kernel
theorem dX5_finish_105 : decode cX5_finish 105 = .ok (.iconst 1, 1) := by decide +kernel
theorem dX5_finish_106 : decode cX5_finish 106 = .ok (.if_icmp .le 7, 3) := by decide +kernel
theorem dX5_finish_109 : decode cX5_finish 109 = .ok (.iconst 1, 1) := by decide +kernel
theorem dX5_finish_110 : decode cX5_finish 110 = .ok (.goto 4, 3) := by decide +kernel
theorem dX5_finish_113 : decode cX5_finish 113 = .ok (.iconst 0, 1) := by decide +kernel
theorem dX5_finish_114 : decode cX5_finish 114 = .ok (.bastore, 1) := by decide +kernel
theorem dX5_finish_115 : decode cX5_finish 115 = .ok (.iinc 2 1, 3) := by decide +kernel
theorem dX5_finish_118 : decode cX5_finish 118 = .ok (.goto (-30), 3) := by decide +kernel
theorem dX5_finish_121 : decode cX5_finish 121 = .ok (.aload_n 0, 1) := by decide +kernel
theorem dX5_finish_122 : decode cX5_finish 122 = .ok (.iconst 0, 1) := by decide +kernel
theorem dX5_finish_123 : decode cX5_finish 123 = .ok (.putfield 125, 3) := by decide +kernel
theorem dX5_finish_126 : decode cX5_finish 126 = .ok (.aload_n 0, 1) := by decide +kernel
theorem dX5_finish_127 : decode cX5_finish 127 = .ok (.iload_n 1, 1) := by decide +kernel
theorem dX5_finish_128 : decode cX5_finish 128 = .ok (.iconst 2, 1) := by decide +kernel
theorem dX5_finish_129 : decode cX5_finish 129 = .ok (.idiv, 1) := by decide +kernel
theorem dX5_finish_130 : decode cX5_finish 130 = .ok (.bipush 64, 2) := by decide +kernel
theorem dX5_finish_132 : decode cX5_finish 132 = .ok (.if_icmp .ge 8, 3) := by decide +kernel
theorem dX5_finish_135 : decode cX5_finish 135 = .ok (.bipush 64, 2) := by decide +kernel
theorem dX5_finish_137 : decode cX5_finish 137 = .ok (.goto 6, 3) := by decide +kernel
theorem dX5_finish_140 : decode cX5_finish 140 = .ok (.iload_n 1, 1) := by decide +kernel
theorem dX5_finish_141 : decode cX5_finish 141 = .ok (.iconst 2, 1) := by decide +kernel
theorem dX5_finish_142 : decode cX5_finish 142 = .ok (.idiv, 1) := by decide +kernel
theorem dX5_finish_143 : decode cX5_finish 143 = .ok (.putfield 77, 3) := by decide +kernel
theorem dX5_finish_146 : decode cX5_finish 146 = .ok (.return_, 1) := by decide +kernel
abbrev cX5_mark : ByteArray := prog_7_method_39_code
def yX5_mark : MethodName := ⟨RX5, "mark", "(I)I"⟩
theorem dX5_mark_0 : decode cX5_mark 0 = .ok (.iload_n 1, 1) := by decide +kernel
theorem dX5_mark_1 : decode cX5_mark 1 = .ok (.iconst 1, 1) := by decide +kernel
theorem dX5_mark_2 : decode cX5_mark 2 = .ok (.if_icmp .lt 10, 3) := by decide +kernel
theorem dX5_mark_5 : decode cX5_mark 5 = .ok (.aload_n 0, 1) := by decide +kernel
theorem dX5_mark_6 : decode cX5_mark 6 = .ok (.getfield 103, 3) := by decide +kernel
theorem dX5_mark_9 : decode cX5_mark 9 = .ok (.ifCond .ne 7, 3) := by decide +kernel
theorem dX5_mark_12 : decode cX5_mark 12 = .ok (.iconst 0, 1) := by decide +kernel
theorem dX5_mark_13 : decode cX5_mark 13 = .ok (.goto 8, 3) := by decide +kernel
theorem dX5_mark_16 : decode cX5_mark 16 = .ok (.aload_n 0, 1) := by decide +kernel
theorem dX5_mark_17 : decode cX5_mark 17 = .ok (.iload_n 1, 1) := by decide +kernel
theorem dX5_mark_18 : decode cX5_mark 18 = .ok (.invokevirtual 131, 3) := by decide +kernel
theorem dX5_mark_21 : decode cX5_mark 21 = .ok (.ireturn, 1) := by decide +kernel
abbrev cX5_sweep : ByteArray := prog_7_method_40_code
def yX5_sweep : MethodName := ⟨RX5, "sweep", "(I)I"⟩
theorem dX5_sweep_0 : decode cX5_sweep 0 = .ok (.aload_n 0, 1) := by decide +kernel
theorem dX5_sweep_1 : decode cX5_sweep 1 = .ok (.iload_n 1, 1) := by decide +kernel
theorem dX5_sweep_2 : decode cX5_sweep 2 = .ok (.invokevirtual 138, 3) := by decide +kernel
theorem dX5_sweep_5 : decode cX5_sweep 5 = .ok (.ireturn, 1) := by decide +kernel
abbrev cX5_collect : ByteArray := prog_7_method_41_code
def yX5_collect : MethodName := ⟨RX5, "collect", "()Z"⟩
theorem dX5_collect_0 : decode cX5_collect 0 = .ok (.aload_n 0, 1) := by decide +kernel
theorem dX5_collect_1 : decode cX5_collect 1 = .ok (.getfield 103, 3) := by decide +kernel
theorem dX5_collect_4 : decode cX5_collect 4 = .ok (.ifCond .eq 5, 3) := by decide +kernel
theorem dX5_collect_7 : decode cX5_collect 7 = .ok (.iconst 0, 1) := by decide +kernel
theorem dX5_collect_8 : decode cX5_collect 8 = .ok (.ireturn, 1) := by decide +kernel
theorem dX5_collect_9 : decode cX5_collect 9 = .ok (.aload_n 0, 1) := by decide +kernel
theorem dX5_collect_10 : decode cX5_collect 10 = .ok (.invokevirtual 128, 3) := by decide +kernel
theorem dX5_collect_13 : decode cX5_collect 13 = .ok (.iconst 1, 1) := by decide +kernel
theorem dX5_collect_14 : decode cX5_collect 14 = .ok (.ireturn, 1) := by decide +kernel
abbrev cX5_fiber : ByteArray := prog_7_method_42_code
def yX5_fiber : MethodName := ⟨RX5, "fiber", "(II)I"⟩
theorem dX5_fiber_0 : decode cX5_fiber 0 = .ok (.iload_n 1, 1) := by decide +kernel
theorem dX5_fiber_1 : decode cX5_fiber 1 = .ok (.ifCond .lt 18, 3) := by decide +kernel
theorem dX5_fiber_4 : decode cX5_fiber 4 = .ok (.iload_n 1, 1) := by decide +kernel
theorem dX5_fiber_5 : decode cX5_fiber 5 = .ok (.iconst 5, 1) := by decide +kernel
theorem dX5_fiber_6 : decode cX5_fiber 6 = .ok (.if_icmp .gt 13, 3) := by decide +kernel
theorem dX5_fiber_9 : decode cX5_fiber 9 = .ok (.iload_n 2, 1) := by decide +kernel
theorem dX5_fiber_10 : decode cX5_fiber 10 = .ok (.ifCond .lt 9, 3) := by decide +kernel
theorem dX5_fiber_13 : decode cX5_fiber 13 = .ok (.iload_n 2, 1) := by decide +kernel
theorem dX5_fiber_14 : decode cX5_fiber 14 = .ok (.bipush 9, 2) := by decide +kernel
theorem dX5_fiber_16 : decode cX5_fiber 16 = .ok (.if_icmp .le 5, 3) := by decide +kernel
theorem dX5_fiber_19 : decode cX5_fiber 19 = .ok (.iconst (-1), 1) := by decide +kernel
theorem dX5_fiber_20 : decode cX5_fiber 20 = .ok (.ireturn, 1) := by decide +kernel
theorem dX5_fiber_21 : decode cX5_fiber 21 = .ok (.iload_n 2, 1) := by decide +kernel
theorem dX5_fiber_22 : decode cX5_fiber 22 = .ok (.ifCond .eq 12, 3) := by decide +kernel
theorem dX5_fiber_25 : decode cX5_fiber 25 = .ok (.aload_n 0, 1) := by decide +kernel
theorem dX5_fiber_26 : decode cX5_fiber 26 = .ok (.getfield 38, 3) := by decide +kernel
theorem dX5_fiber_29 : decode cX5_fiber 29 = .ok (.iload_n 1, 1) := by decide +kernel
theorem dX5_fiber_30 : decode cX5_fiber 30 = .ok (.iaload, 1) := by decide +kernel
theorem dX5_fiber_31 : decode cX5_fiber 31 = .ok (.ifCond .ne 18, 3) := by decide +kernel
theorem dX5_fiber_34 : decode cX5_fiber 34 = .ok (.iload_n 2, 1) := by decide +kernel
theorem dX5_fiber_35 : decode cX5_fiber 35 = .ok (.ifCond .ne 12, 3) := by decide +kernel
theorem dX5_fiber_38 : decode cX5_fiber 38 = .ok (.aload_n 0, 1) := by decide +kernel
theorem dX5_fiber_39 : decode cX5_fiber 39 = .ok (.getfield 38, 3) := by decide +kernel
theorem dX5_fiber_42 : decode cX5_fiber 42 = .ok (.iload_n 1, 1) := by decide +kernel
theorem dX5_fiber_43 : decode cX5_fiber 43 = .ok (.iaload, 1) := by decide +kernel
theorem dX5_fiber_44 : decode cX5_fiber 44 = .ok (.goto 4, 3) := by decide +kernel
theorem dX5_fiber_47 : decode cX5_fiber 47 = .ok (.iconst (-1), 1) := by decide +kernel
theorem dX5_fiber_48 : decode cX5_fiber 48 = .ok (.ireturn, 1) := by decide +kernel
theorem dX5_fiber_49 : decode cX5_fiber 49 = .ok (.iload_n 2, 1) := by decide +kernel
theorem dX5_fiber_50 : decode cX5_fiber 50 = .ok (.iconst 4, 1) := by decide +kernel
theorem dX5_fiber_51 : decode cX5_fiber 51 = .ok (.if_icmp .lt 18, 3) := by decide +kernel
theorem dX5_fiber_54 : decode cX5_fiber 54 = .ok (.iload_n 2, 1) := by decide +kernel
theorem dX5_fiber_55 : decode cX5_fiber 55 = .ok (.bipush 8, 2) := by decide +kernel
theorem dX5_fiber_57 : decode cX5_fiber 57 = .ok (.if_icmp .ge 12, 3) := by decide +kernel
theorem dX5_fiber_60 : decode cX5_fiber 60 = .ok (.aload_n 0, 1) := by decide +kernel
theorem dX5_fiber_61 : decode cX5_fiber 61 = .ok (.iload_n 1, 1) := by decide +kernel
theorem dX5_fiber_62 : decode cX5_fiber 62 = .ok (.iload_n 2, 1) := by decide +kernel
theorem dX5_fiber_63 : decode cX5_fiber 63 = .ok (.iconst 4, 1) := by decide +kernel
theorem dX5_fiber_64 : decode cX5_fiber 64 = .ok (.isub, 1) := by decide +kernel
theorem dX5_fiber_65 : decode cX5_fiber 65 = .ok (.invokevirtual 100, 3) := by decide +kernel
theorem dX5_fiber_68 : decode cX5_fiber 68 = .ok (.ireturn, 1) := by decide +kernel
theorem dX5_fiber_69 : decode cX5_fiber 69 = .ok (.aload_n 0, 1) := by decide +kernel
theorem dX5_fiber_70 : decode cX5_fiber 70 = .ok (.getfield 103, 3) := by decide +kernel
theorem dX5_fiber_73 : decode cX5_fiber 73 = .ok (.ifCond .eq 16, 3) := by decide +kernel
theorem dX5_fiber_76 : decode cX5_fiber 76 = .ok (.aload_n 0, 1) := by decide +kernel
theorem dX5_fiber_77 : decode cX5_fiber 77 = .ok (.getfield 53, 3) := by decide +kernel
theorem dX5_fiber_80 : decode cX5_fiber 80 = .ok (.iload_n 1, 1) := by decide +kernel
theorem dX5_fiber_81 : decode cX5_fiber 81 = .ok (.baload, 1) := by decide +kernel
theorem dX5_fiber_82 : decode cX5_fiber 82 = .ok (.ifCond .eq 7, 3) := by decide +kernel
theorem dX5_fiber_85 : decode cX5_fiber 85 = .ok (.iconst 1, 1) := by decide +kernel
theorem dX5_fiber_86 : decode cX5_fiber 86 = .ok (.goto 4, 3) := by decide +kernel
theorem dX5_fiber_89 : decode cX5_fiber 89 = .ok (.iconst 0, 1) := by decide +kernel
theorem dX5_fiber_90 : decode cX5_fiber 90 = .ok (.istore_n 3, 1) := by decide +kernel
theorem dX5_fiber_91 : decode cX5_fiber 91 = .ok (.iload_n 2, 1) := by decide +kernel
theorem dX5_fiber_92 : decode cX5_fiber 92 = .ok (.iconst 1, 1) := by decide +kernel
theorem dX5_fiber_93 : decode cX5_fiber 93 = .ok (.if_icmp .ne 12, 3) := by decide +kernel
theorem dX5_fiber_96 : decode cX5_fiber 96 = .ok (.aload_n 0, 1) := by decide +kernel
theorem dX5_fiber_97 : decode cX5_fiber 97 = .ok (.getfield 41, 3) := by decide +kernel
theorem dX5_fiber_100 : decode cX5_fiber 100 = .ok (.iload_n 1, 1) := by decide +kernel
theorem dX5_fiber_101 : decode cX5_fiber 101 = .ok (.iaload, 1) := by decide +kernel
theorem dX5_fiber_102 : decode cX5_fiber 102 = .ok (.goto 59, 3) := by decide +kernel
theorem dX5_fiber_105 : decode cX5_fiber 105 = .ok (.iload_n 2, 1) := by decide +kernel
theorem dX5_fiber_106 : decode cX5_fiber 106 = .ok (.iconst 2, 1) := by decide +kernel
theorem dX5_fiber_107 : decode cX5_fiber 107 = .ok (.if_icmp .ne 12, 3) := by decide +kernel
theorem dX5_fiber_110 : decode cX5_fiber 110 = .ok (.aload_n 0, 1) := by decide +kernel
theorem dX5_fiber_111 : decode cX5_fiber 111 = .ok (.getfield 44, 3) := by decide +kernel
theorem dX5_fiber_114 : decode cX5_fiber 114 = .ok (.iload_n 1, 1) := by decide +kernel
theorem dX5_fiber_115 : decode cX5_fiber 115 = .ok (.iaload, 1) := by decide +kernel
theorem dX5_fiber_116 : decode cX5_fiber 116 = .ok (.goto 45, 3) := by decide +kernel
theorem dX5_fiber_119 : decode cX5_fiber 119 = .ok (.iload_n 2, 1) := by decide +kernel
theorem dX5_fiber_120 : decode cX5_fiber 120 = .ok (.iconst 3, 1) := by decide +kernel
theorem dX5_fiber_121 : decode cX5_fiber 121 = .ok (.if_icmp .ne 7, 3) := by decide +kernel
theorem dX5_fiber_124 : decode cX5_fiber 124 = .ok (.iload_n 3, 1) := by decide +kernel
theorem dX5_fiber_125 : decode cX5_fiber 125 = .ok (.goto 36, 3) := by decide +kernel
theorem dX5_fiber_128 : decode cX5_fiber 128 = .ok (.iload_n 2, 1) := by decide +kernel
theorem dX5_fiber_129 : decode cX5_fiber 129 = .ok (.bipush 8, 2) := by decide +kernel
theorem dX5_fiber_131 : decode cX5_fiber 131 = .ok (.if_icmp .ne 24, 3) := by decide +kernel
theorem dX5_fiber_134 : decode cX5_fiber 134 = .ok (.aload_n 0, 1) := by decide +kernel
theorem dX5_fiber_135 : decode cX5_fiber 135 = .ok (.getfield 50, 3) := by decide +kernel
theorem dX5_fiber_138 : decode cX5_fiber 138 = .ok (.bipush 16, 2) := by decide +kernel
theorem dX5_fiber_140 : decode cX5_fiber 140 = .ok (.iload_n 1, 1) := by decide +kernel
theorem dX5_fiber_141 : decode cX5_fiber 141 = .ok (.imul, 1) := by decide +kernel
theorem dX5_fiber_142 : decode cX5_fiber 142 = .ok (.aload_n 0, 1) := by decide +kernel
theorem dX5_fiber_143 : decode cX5_fiber 143 = .ok (.getfield 41, 3) := by decide +kernel
theorem dX5_fiber_146 : decode cX5_fiber 146 = .ok (.iload_n 1, 1) := by decide +kernel
theorem dX5_fiber_147 : decode cX5_fiber 147 = .ok (.iaload, 1) := by decide +kernel
theorem dX5_fiber_148 : decode cX5_fiber 148 = .ok (.iadd, 1) := by decide +kernel
theorem dX5_fiber_149 : decode cX5_fiber 149 = .ok (.iconst 1, 1) := by decide +kernel
theorem dX5_fiber_150 : decode cX5_fiber 150 = .ok (.isub, 1) := by decide +kernel
theorem dX5_fiber_151 : decode cX5_fiber 151 = .ok (.iaload, 1) := by decide +kernel
theorem dX5_fiber_152 : decode cX5_fiber 152 = .ok (.goto 9, 3) := by decide +kernel
theorem dX5_fiber_155 : decode cX5_fiber 155 = .ok (.aload_n 0, 1) := by decide +kernel
theorem dX5_fiber_156 : decode cX5_fiber 156 = .ok (.getfield 68, 3) := by decide +kernel
theorem dX5_fiber_159 : decode cX5_fiber 159 = .ok (.iload_n 1, 1) := by decide +kernel
theorem dX5_fiber_160 : decode cX5_fiber 160 = .ok (.iaload, 1) := by decide +kernel
theorem dX5_fiber_161 : decode cX5_fiber 161 = .ok (.ireturn, 1) := by decide +kernel
abbrev cX5_tally : ByteArray := prog_7_method_43_code
def yX5_tally : MethodName := ⟨RX5, "tally", "(I)I"⟩
theorem dX5_tally_0 : decode cX5_tally 0 = .ok (.iconst 0, 1) := by decide +kernel
theorem dX5_tally_1 : decode cX5_tally 1 = .ok (.istore_n 2, 1) := by decide +kernel
theorem dX5_tally_2 : decode cX5_tally 2 = .ok (.iconst 0, 1) := by decide +kernel
theorem dX5_tally_3 : decode cX5_tally 3 = .ok (.istore_n 3, 1) := by decide +kernel
theorem dX5_tally_4 : decode cX5_tally 4 = .ok (.iload_n 3, 1) := by decide +kernel
theorem dX5_tally_5 : decode cX5_tally 5 = .ok (.sipush 256, 3) := by decide +kernel
theorem dX5_tally_8 : decode cX5_tally 8 = .ok (.if_icmp .ge 48, 3) := by decide +kernel
theorem dX5_tally_11 : decode cX5_tally 11 = .ok (.iload_n 2, 1) := by decide +kernel
theorem dX5_tally_12 : decode cX5_tally 12 = .ok (.aload_n 0, 1) := by decide +kernel
theorem dX5_tally_13 : decode cX5_tally 13 = .ok (.getfield 13, 3) := by decide +kernel
theorem dX5_tally_16 : decode cX5_tally 16 = .ok (.iload_n 3, 1) := by decide +kernel
theorem dX5_tally_17 : decode cX5_tally 17 = .ok (.iaload, 1) := by decide +kernel
theorem dX5_tally_18 : decode cX5_tally 18 = .ok (.ifCond .eq 8, 3) := by decide +kernel
theorem dX5_tally_21 : decode cX5_tally 21 = .ok (.iload_n 1, 1) := by decide +kernel
theorem dX5_tally_22 : decode cX5_tally 22 = .ok (.iconst 1, 1) := by decide +kernel
theorem dX5_tally_23 : decode cX5_tally 23 = .ok (.if_icmp .le 7, 3) := by decide +kernel
theorem dX5_tally_26 : decode cX5_tally 26 = .ok (.iconst 0, 1) := by decide +kernel
theorem dX5_tally_27 : decode cX5_tally 27 = .ok (.goto 21, 3) := by decide +kernel
theorem dX5_tally_30 : decode cX5_tally 30 = .ok (.iload_n 1, 1) := by decide +kernel
theorem dX5_tally_31 : decode cX5_tally 31 = .ok (.ifCond .ne 7, 3) := by decide +kernel
theorem dX5_tally_34 : decode cX5_tally 34 = .ok (.iconst 1, 1) := by decide +kernel
theorem dX5_tally_35 : decode cX5_tally 35 = .ok (.goto 13, 3) := by decide +kernel
theorem dX5_tally_38 : decode cX5_tally 38 = .ok (.aload_n 0, 1) := by decide +kernel
theorem dX5_tally_39 : decode cX5_tally 39 = .ok (.aload_n 0, 1) := by decide +kernel
theorem dX5_tally_40 : decode cX5_tally 40 = .ok (.getfield 13, 3) := by decide +kernel
theorem dX5_tally_43 : decode cX5_tally 43 = .ok (.iload_n 3, 1) := by decide +kernel
theorem dX5_tally_44 : decode cX5_tally 44 = .ok (.iaload, 1) := by decide +kernel
theorem dX5_tally_45 : decode cX5_tally 45 = .ok (.invokevirtual 121, 3) := by decide +kernel
theorem dX5_tally_48 : decode cX5_tally 48 = .ok (.iadd, 1) := by decide +kernel
theorem dX5_tally_49 : decode cX5_tally 49 = .ok (.istore_n 2, 1) := by decide +kernel
theorem dX5_tally_50 : decode cX5_tally 50 = .ok (.iinc 3 1, 3) := by decide +kernel
theorem dX5_tally_53 : decode cX5_tally 53 = .ok (.goto (-49), 3) := by decide +kernel
theorem dX5_tally_56 : decode cX5_tally 56 = .ok (.iconst 0, 1) := by decide +kernel
theorem dX5_tally_57 : decode cX5_tally 57 = .ok (.istore_n 3, 1) := by decide +kernel
theorem dX5_tally_58 : decode cX5_tally 58 = .ok (.iload_n 3, 1) := by decide +kernel
theorem dX5_tally_59 : decode cX5_tally 59 = .ok (.bipush 16, 2) := by decide +kernel
theorem dX5_tally_61 : decode cX5_tally 61 = .ok (.if_icmp .ge 45, 3) := by decide +kernel
theorem dX5_tally_64 : decode cX5_tally 64 = .ok (.iload_n 2, 1) := by decide +kernel
theorem dX5_tally_65 : decode cX5_tally 65 = .ok (.iload_n 1, 1) := by decide +kernel
theorem dX5_tally_66 : decode cX5_tally 66 = .ok (.iconst 2, 1) := by decide +kernel
theorem dX5_tally_67 : decode cX5_tally 67 = .ok (.if_icmp .ne 12, 3) := by decide +kernel
theorem dX5_tally_70 : decode cX5_tally 70 = .ok (.aload_n 0, 1) := by decide +kernel
theorem dX5_tally_71 : decode cX5_tally 71 = .ok (.getfield 32, 3) := by decide +kernel
theorem dX5_tally_74 : decode cX5_tally 74 = .ok (.iload_n 3, 1) := by decide +kernel
theorem dX5_tally_75 : decode cX5_tally 75 = .ok (.iaload, 1) := by decide +kernel
theorem dX5_tally_76 : decode cX5_tally 76 = .ok (.ifCond .eq 17, 3) := by decide +kernel
theorem dX5_tally_79 : decode cX5_tally 79 = .ok (.iload_n 1, 1) := by decide +kernel
theorem dX5_tally_80 : decode cX5_tally 80 = .ok (.iconst 5, 1) := by decide +kernel
theorem dX5_tally_81 : decode cX5_tally 81 = .ok (.if_icmp .ne 16, 3) := by decide +kernel
theorem dX5_tally_84 : decode cX5_tally 84 = .ok (.aload_n 0, 1) := by decide +kernel
theorem dX5_tally_85 : decode cX5_tally 85 = .ok (.getfield 35, 3) := by decide +kernel
theorem dX5_tally_88 : decode cX5_tally 88 = .ok (.iload_n 3, 1) := by decide +kernel
theorem dX5_tally_89 : decode cX5_tally 89 = .ok (.baload, 1) := by decide +kernel
theorem dX5_tally_90 : decode cX5_tally 90 = .ok (.ifCond .eq 7, 3) := by decide +kernel
theorem dX5_tally_93 : decode cX5_tally 93 = .ok (.iconst 1, 1) := by decide +kernel
theorem dX5_tally_94 : decode cX5_tally 94 = .ok (.goto 4, 3) := by decide +kernel
theorem dX5_tally_97 : decode cX5_tally 97 = .ok (.iconst 0, 1) := by decide +kernel
theorem dX5_tally_98 : decode cX5_tally 98 = .ok (.iadd, 1) := by decide +kernel
theorem dX5_tally_99 : decode cX5_tally 99 = .ok (.istore_n 2, 1) := by decide +kernel
theorem dX5_tally_100 : decode cX5_tally 100 = .ok (.iinc 3 1, 3) := by decide +kernel
theorem dX5_tally_103 : decode cX5_tally 103 = .ok (.goto (-45), 3) := by decide +kernel
theorem dX5_tally_106 : decode cX5_tally 106 = .ok (.iload_n 2, 1) := by decide +kernel
theorem dX5_tally_107 : decode cX5_tally 107 = .ok (.ireturn, 1) := by decide +kernel
abbrev cX5_count : ByteArray := prog_7_method_44_code
def yX5_count : MethodName := ⟨RX5, "count", "(I)I"⟩
theorem dX5_count_0 : decode cX5_count 0 = .ok (.iload_n 1, 1) := by decide +kernel
theorem dX5_count_1 : decode cX5_count 1 = .ok (.tableswitch 101 3 11 #[51, 58, 101, 71, 76, 81, 86, 91, 96], 51) := by decide +kernel
theorem dX5_count_52 : decode cX5_count 52 = .ok (.aload_n 0, 1) := by decide +kernel
theorem dX5_count_53 : decode cX5_count 53 = .ok (.iconst 1, 1) := by decide +kernel
theorem dX5_count_54 : decode cX5_count 54 = .ok (.iconst 1, 1) := by decide +kernel
theorem dX5_count_55 : decode cX5_count 55 = .ok (.invokevirtual 117, 3) := by decide +kernel
theorem dX5_count_58 : decode cX5_count 58 = .ok (.ireturn, 1) := by decide +kernel
theorem dX5_count_59 : decode cX5_count 59 = .ok (.aload_n 0, 1) := by decide +kernel
theorem dX5_count_60 : decode cX5_count 60 = .ok (.getfield 103, 3) := by decide +kernel
theorem dX5_count_63 : decode cX5_count 63 = .ok (.ifCond .eq 7, 3) := by decide +kernel
theorem dX5_count_66 : decode cX5_count 66 = .ok (.iconst 1, 1) := by decide +kernel
theorem dX5_count_67 : decode cX5_count 67 = .ok (.goto 4, 3) := by decide +kernel
theorem dX5_count_70 : decode cX5_count 70 = .ok (.iconst 0, 1) := by decide +kernel
theorem dX5_count_71 : decode cX5_count 71 = .ok (.ireturn, 1) := by decide +kernel
theorem dX5_count_72 : decode cX5_count 72 = .ok (.aload_n 0, 1) := by decide +kernel
theorem dX5_count_73 : decode cX5_count 73 = .ok (.getfield 171, 3) := by decide +kernel
theorem dX5_count_76 : decode cX5_count 76 = .ok (.ireturn, 1) := by decide +kernel
theorem dX5_count_77 : decode cX5_count 77 = .ok (.aload_n 0, 1) := by decide +kernel
theorem dX5_count_78 : decode cX5_count 78 = .ok (.getfield 181, 3) := by decide +kernel
theorem dX5_count_81 : decode cX5_count 81 = .ok (.ireturn, 1) := by decide +kernel
theorem dX5_count_82 : decode cX5_count 82 = .ok (.aload_n 0, 1) := by decide +kernel
theorem dX5_count_83 : decode cX5_count 83 = .ok (.getfield 107, 3) := by decide +kernel
theorem dX5_count_86 : decode cX5_count 86 = .ok (.ireturn, 1) := by decide +kernel
theorem dX5_count_87 : decode cX5_count 87 = .ok (.aload_n 0, 1) := by decide +kernel
theorem dX5_count_88 : decode cX5_count 88 = .ok (.getfield 125, 3) := by decide +kernel
theorem dX5_count_91 : decode cX5_count 91 = .ok (.ireturn, 1) := by decide +kernel
theorem dX5_count_92 : decode cX5_count 92 = .ok (.aload_n 0, 1) := by decide +kernel
theorem dX5_count_93 : decode cX5_count 93 = .ok (.getfield 77, 3) := by decide +kernel
theorem dX5_count_96 : decode cX5_count 96 = .ok (.ireturn, 1) := by decide +kernel
theorem dX5_count_97 : decode cX5_count 97 = .ok (.aload_n 0, 1) := by decide +kernel
theorem dX5_count_98 : decode cX5_count 98 = .ok (.getfield 110, 3) := by decide +kernel
theorem dX5_count_101 : decode cX5_count 101 = .ok (.ireturn, 1) := by decide +kernel
theorem dX5_count_102 : decode cX5_count 102 = .ok (.iload_n 1, 1) := by decide +kernel
theorem dX5_count_103 : decode cX5_count 103 = .ok (.ifCond .lt 9, 3) := by decide +kernel
theorem dX5_count_106 : decode cX5_count 106 = .ok (.iload_n 1, 1) := by decide +kernel
theorem dX5_count_107 : decode cX5_count 107 = .ok (.bipush 11, 2) := by decide +kernel
theorem dX5_count_109 : decode cX5_count 109 = .ok (.if_icmp .le 7, 3) := by decide +kernel
theorem dX5_count_112 : decode cX5_count 112 = .ok (.iconst (-1), 1) := by decide +kernel
theorem dX5_count_113 : decode cX5_count 113 = .ok (.goto 8, 3) := by decide +kernel
theorem dX5_count_116 : decode cX5_count 116 = .ok (.aload_n 0, 1) := by decide +kernel
theorem dX5_count_117 : decode cX5_count 117 = .ok (.iload_n 1, 1) := by decide +kernel
theorem dX5_count_118 : decode cX5_count 118 = .ok (.invokevirtual 187, 3) := by decide +kernel
theorem dX5_count_121 : decode cX5_count 121 = .ok (.ireturn, 1) := by decide +kernel
abbrev cX5_page : ByteArray := prog_7_method_45_code
def yX5_page : MethodName := ⟨RX5, "page", "(I)I"⟩
theorem dX5_page_0 : decode cX5_page 0 = .ok (.iload_n 1, 1) := by decide +kernel
theorem dX5_page_1 : decode cX5_page 1 = .ok (.ifCond .lt 9, 3) := by decide +kernel
theorem dX5_page_4 : decode cX5_page 4 = .ok (.iload_n 1, 1) := by decide +kernel
theorem dX5_page_5 : decode cX5_page 5 = .ok (.bipush 15, 2) := by decide +kernel
theorem dX5_page_7 : decode cX5_page 7 = .ok (.if_icmp .le 7, 3) := by decide +kernel
theorem dX5_page_10 : decode cX5_page 10 = .ok (.iconst (-1), 1) := by decide +kernel
theorem dX5_page_11 : decode cX5_page 11 = .ok (.goto 9, 3) := by decide +kernel
theorem dX5_page_14 : decode cX5_page 14 = .ok (.aload_n 0, 1) := by decide +kernel
theorem dX5_page_15 : decode cX5_page 15 = .ok (.getfield 32, 3) := by decide +kernel
theorem dX5_page_18 : decode cX5_page 18 = .ok (.iload_n 1, 1) := by decide +kernel
theorem dX5_page_19 : decode cX5_page 19 = .ok (.iaload, 1) := by decide +kernel
theorem dX5_page_20 : decode cX5_page 20 = .ok (.ireturn, 1) := by decide +kernel
