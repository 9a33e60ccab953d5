section
def zI (n : Int) : Int32 := Int32.ofInt n
theorem zI_0 : zI 0 = 0 := by decide
abbrev zh_M : Type := Nat → Nat → Int32
def zh_set (M : zh_M) (a k : Nat) (v : Int32) : zh_M := fun b j => if b = a ∧ j = k then v else M b j
def zh_row (M : zh_M) (a : Nat) (f : Nat → Int32) : zh_M := fun b j => if b = a then f j else M b j
theorem zh_set_ne {M : zh_M} {a k : Nat} {v : Int32} {b : Nat} (h : b ≠ a) : zh_set M a k v b = M b := by
  funext j
  simp [zh_set, h]
theorem zh_set_self (M : zh_M) (a k : Nat) (v : Int32) : zh_set M a k v a = upd (M a) k v := by
  funext j
  simp [zh_set, upd]
theorem zh_row_ne {M : zh_M} {a : Nat} {f : Nat → Int32} {b : Nat} (h : b ≠ a) : zh_row M a f b = M b := by
  funext j
  simp [zh_row, h]
theorem zh_row_self (M : zh_M) (a : Nat) (f : Nat → Int32) : zh_row M a f a = f := by
  funext j
  simp [zh_row]
end
section
def lw_okq (q : MethodName × Nat) : Prop := (q.1.cls ≠ "java/lang/invoke/MethodHandle" ∧ q.1.cls ≠ "java/lang/invoke/VarHandle") ∧ Cond.instantiable q.1.cls q.2 ∈ tables_1 ∧ Cond.privateMethod q.1 ∈ tables_1 ∧ Cond.instanceMethod q.1 ∈ tables_1
theorem lw_p0 : lw_okq (⟨"FiberHeap", "readyFiber", "(I)LFiberHeap$Fiber;"⟩, 5) := ⟨⟨by decide +kernel, by decide +kernel⟩, List.mem_of_getElem? (i := 11) (by decide +kernel), List.mem_of_getElem? (i := 194) (by decide +kernel), List.mem_of_getElem? (i := 195) (by decide +kernel)⟩
theorem lw_p1 : lw_okq (⟨"FiberHeap", "lives", "(I)Z"⟩, 5) := ⟨⟨by decide +kernel, by decide +kernel⟩, List.mem_of_getElem? (i := 11) (by decide +kernel), List.mem_of_getElem? (i := 198) (by decide +kernel), List.mem_of_getElem? (i := 199) (by decide +kernel)⟩
theorem lw_p2 : lw_okq (⟨"FiberHeap", "lowestGoneFiber", "()I"⟩, 5) := ⟨⟨by decide +kernel, by decide +kernel⟩, List.mem_of_getElem? (i := 11) (by decide +kernel), List.mem_of_getElem? (i := 202) (by decide +kernel), List.mem_of_getElem? (i := 203) (by decide +kernel)⟩
theorem lw_p3 : lw_okq (⟨"FiberHeap", "livingFibers", "()I"⟩, 5) := ⟨⟨by decide +kernel, by decide +kernel⟩, List.mem_of_getElem? (i := 11) (by decide +kernel), List.mem_of_getElem? (i := 226) (by decide +kernel), List.mem_of_getElem? (i := 227) (by decide +kernel)⟩
theorem lw_p4 : lw_okq (⟨"FiberHeap$Fiber", "moveTo", "(I)V"⟩, 12) := ⟨⟨by decide +kernel, by decide +kernel⟩, List.mem_of_getElem? (i := 56) (by decide +kernel), List.mem_of_getElem? (i := 242) (by decide +kernel), List.mem_of_getElem? (i := 243) (by decide +kernel)⟩
theorem lw_p5 : lw_okq (⟨"FiberHeap$Heap", "sweepSpan", "(I)V"⟩, 7) := ⟨⟨by decide +kernel, by decide +kernel⟩, List.mem_of_getElem? (i := 19) (by decide +kernel), List.mem_of_getElem? (i := 290) (by decide +kernel), List.mem_of_getElem? (i := 291) (by decide +kernel)⟩
theorem lw_p6 : lw_okq (⟨"FiberHeap$Heap", "fillPages", "(III)V"⟩, 7) := ⟨⟨by decide +kernel, by decide +kernel⟩, List.mem_of_getElem? (i := 19) (by decide +kernel), List.mem_of_getElem? (i := 300) (by decide +kernel), List.mem_of_getElem? (i := 301) (by decide +kernel)⟩
theorem lw_p7 : lw_okq (⟨"FiberHeap$Collector", "workIsLeft", "()Z"⟩, 10) := ⟨⟨by decide +kernel, by decide +kernel⟩, List.mem_of_getElem? (i := 128) (by decide +kernel), List.mem_of_getElem? (i := 318) (by decide +kernel), List.mem_of_getElem? (i := 319) (by decide +kernel)⟩
theorem lw_p8 : lw_okq (⟨"FiberHeap$Collector", "nextToScan", "()LFiberHeap$Fiber;"⟩, 10) := ⟨⟨by decide +kernel, by decide +kernel⟩, List.mem_of_getElem? (i := 128) (by decide +kernel), List.mem_of_getElem? (i := 322) (by decide +kernel), List.mem_of_getElem? (i := 323) (by decide +kernel)⟩
theorem lw_p9 : lw_okq (⟨"FiberHeap$Collector", "doPiece", "()V"⟩, 10) := ⟨⟨by decide +kernel, by decide +kernel⟩, List.mem_of_getElem? (i := 128) (by decide +kernel), List.mem_of_getElem? (i := 326) (by decide +kernel), List.mem_of_getElem? (i := 327) (by decide +kernel)⟩
theorem lw_p10 : lw_okq (⟨"FiberHeap$Collector", "scan", "(LFiberHeap$Fiber;)V"⟩, 10) := ⟨⟨by decide +kernel, by decide +kernel⟩, List.mem_of_getElem? (i := 128) (by decide +kernel), List.mem_of_getElem? (i := 330) (by decide +kernel), List.mem_of_getElem? (i := 331) (by decide +kernel)⟩
theorem lw_p11 : lw_okq (⟨"FiberHeap$Collector", "lookAt", "(I)V"⟩, 10) := ⟨⟨by decide +kernel, by decide +kernel⟩, List.mem_of_getElem? (i := 128) (by decide +kernel), List.mem_of_getElem? (i := 338) (by decide +kernel), List.mem_of_getElem? (i := 339) (by decide +kernel)⟩
theorem lw_p12 : lw_okq (⟨"FiberHeap$Collector", "endMarking", "()V"⟩, 10) := ⟨⟨by decide +kernel, by decide +kernel⟩, List.mem_of_getElem? (i := 128) (by decide +kernel), List.mem_of_getElem? (i := 342) (by decide +kernel), List.mem_of_getElem? (i := 343) (by decide +kernel)⟩
theorem lw_p13 : lw_okq (⟨"FiberHeap", "placeAtAnyCost", "(II)I"⟩, 5) := ⟨⟨by decide +kernel, by decide +kernel⟩, List.mem_of_getElem? (i := 11) (by decide +kernel), List.mem_of_getElem? (i := 356) (by decide +kernel), List.mem_of_getElem? (i := 357) (by decide +kernel)⟩
theorem lw_p14 : lw_okq (⟨"FiberHeap$Heap", "slotInSpans", "(I)I"⟩, 7) := ⟨⟨by decide +kernel, by decide +kernel⟩, List.mem_of_getElem? (i := 19) (by decide +kernel), List.mem_of_getElem? (i := 368) (by decide +kernel), List.mem_of_getElem? (i := 369) (by decide +kernel)⟩
theorem lw_p15 : lw_okq (⟨"FiberHeap$Heap", "openSlot", "(II)I"⟩, 7) := ⟨⟨by decide +kernel, by decide +kernel⟩, List.mem_of_getElem? (i := 19) (by decide +kernel), List.mem_of_getElem? (i := 372) (by decide +kernel), List.mem_of_getElem? (i := 373) (by decide +kernel)⟩
def lw_privs_1 : List (MethodName × Nat) := [(⟨"FiberHeap", "readyFiber", "(I)LFiberHeap$Fiber;"⟩, 5), (⟨"FiberHeap", "lives", "(I)Z"⟩, 5), (⟨"FiberHeap", "lowestGoneFiber", "()I"⟩, 5), (⟨"FiberHeap", "livingFibers", "()I"⟩, 5), (⟨"FiberHeap$Fiber", "moveTo", "(I)V"⟩, 12), (⟨"FiberHeap$Heap", "sweepSpan", "(I)V"⟩, 7), (⟨"FiberHeap$Heap", "fillPages", "(III)V"⟩, 7), (⟨"FiberHeap$Collector", "workIsLeft", "()Z"⟩, 10), (⟨"FiberHeap$Collector", "nextToScan", "()LFiberHeap$Fiber;"⟩, 10), (⟨"FiberHeap$Collector", "doPiece", "()V"⟩, 10), (⟨"FiberHeap$Collector", "scan", "(LFiberHeap$Fiber;)V"⟩, 10), (⟨"FiberHeap$Collector", "lookAt", "(I)V"⟩, 10), (⟨"FiberHeap$Collector", "endMarking", "()V"⟩, 10), (⟨"FiberHeap", "placeAtAnyCost", "(II)I"⟩, 5), (⟨"FiberHeap$Heap", "slotInSpans", "(I)I"⟩, 7), (⟨"FiberHeap$Heap", "openSlot", "(II)I"⟩, 7)]
theorem lw_r1 : ∀ q ∈ lw_privs_1, lw_okq q := List.forall_mem_cons.mpr ⟨lw_p0, List.forall_mem_cons.mpr ⟨lw_p1, List.forall_mem_cons.mpr ⟨lw_p2, List.forall_mem_cons.mpr ⟨lw_p3, List.forall_mem_cons.mpr ⟨lw_p4, List.forall_mem_cons.mpr ⟨lw_p5, List.forall_mem_cons.mpr ⟨lw_p6, List.forall_mem_cons.mpr ⟨lw_p7, List.forall_mem_cons.mpr ⟨lw_p8, List.forall_mem_cons.mpr ⟨lw_p9, List.forall_mem_cons.mpr ⟨lw_p10, List.forall_mem_cons.mpr ⟨lw_p11, List.forall_mem_cons.mpr ⟨lw_p12, List.forall_mem_cons.mpr ⟨lw_p13, List.forall_mem_cons.mpr ⟨lw_p14, List.forall_mem_cons.mpr ⟨lw_p15, fun _ h => absurd h List.not_mem_nil⟩⟩⟩⟩⟩⟩⟩⟩⟩⟩⟩⟩⟩⟩⟩⟩
theorem lw_p16 : lw_okq (⟨"FiberHeap$Heap", "slotInNewSpan", "(I)I"⟩, 7) := ⟨⟨by decide +kernel, by decide +kernel⟩, List.mem_of_getElem? (i := 19) (by decide +kernel), List.mem_of_getElem? (i := 376) (by decide +kernel), List.mem_of_getElem? (i := 377) (by decide +kernel)⟩
theorem lw_p17 : lw_okq (⟨"FiberHeap$Heap", "shortestRun", "(I)I"⟩, 7) := ⟨⟨by decide +kernel, by decide +kernel⟩, List.mem_of_getElem? (i := 19) (by decide +kernel), List.mem_of_getElem? (i := 380) (by decide +kernel), List.mem_of_getElem? (i := 381) (by decide +kernel)⟩
theorem lw_p18 : lw_okq (⟨"FiberHeap$Heap", "endsRun", "(I)Z"⟩, 7) := ⟨⟨by decide +kernel, by decide +kernel⟩, List.mem_of_getElem? (i := 19) (by decide +kernel), List.mem_of_getElem? (i := 384) (by decide +kernel), List.mem_of_getElem? (i := 385) (by decide +kernel)⟩
theorem lw_p19 : lw_okq (⟨"FiberHeap$Heap", "fillSlot", "(IIII)V"⟩, 7) := ⟨⟨by decide +kernel, by decide +kernel⟩, List.mem_of_getElem? (i := 19) (by decide +kernel), List.mem_of_getElem? (i := 388) (by decide +kernel), List.mem_of_getElem? (i := 389) (by decide +kernel)⟩
theorem lw_p20 : lw_okq (⟨"FiberHeap", "intWordIndex", "(III)I"⟩, 5) := ⟨⟨by decide +kernel, by decide +kernel⟩, List.mem_of_getElem? (i := 11) (by decide +kernel), List.mem_of_getElem? (i := 415) (by decide +kernel), List.mem_of_getElem? (i := 416) (by decide +kernel)⟩
theorem lw_p21 : lw_okq (⟨"FiberHeap", "firstWaiting", "(II)LFiberHeap$Fiber;"⟩, 5) := ⟨⟨by decide +kernel, by decide +kernel⟩, List.mem_of_getElem? (i := 11) (by decide +kernel), List.mem_of_getElem? (i := 434) (by decide +kernel), List.mem_of_getElem? (i := 435) (by decide +kernel)⟩
theorem lw_p22 : lw_okq (⟨"FiberHeap", "newTicket", "()I"⟩, 5) := ⟨⟨by decide +kernel, by decide +kernel⟩, List.mem_of_getElem? (i := 11) (by decide +kernel), List.mem_of_getElem? (i := 455) (by decide +kernel), List.mem_of_getElem? (i := 456) (by decide +kernel)⟩
theorem lw_p23 : lw_okq (⟨"FiberHeap", "canGive", "(I)Z"⟩, 5) := ⟨⟨by decide +kernel, by decide +kernel⟩, List.mem_of_getElem? (i := 11) (by decide +kernel), List.mem_of_getElem? (i := 467) (by decide +kernel), List.mem_of_getElem? (i := 468) (by decide +kernel)⟩
theorem lw_p24 : lw_okq (⟨"FiberHeap", "pointerOutOf", "(I)I"⟩, 5) := ⟨⟨by decide +kernel, by decide +kernel⟩, List.mem_of_getElem? (i := 11) (by decide +kernel), List.mem_of_getElem? (i := 471) (by decide +kernel), List.mem_of_getElem? (i := 472) (by decide +kernel)⟩
theorem lw_p25 : lw_okq (⟨"FiberHeap", "copiedFrames", "()I"⟩, 5) := ⟨⟨by decide +kernel, by decide +kernel⟩, List.mem_of_getElem? (i := 11) (by decide +kernel), List.mem_of_getElem? (i := 524) (by decide +kernel), List.mem_of_getElem? (i := 525) (by decide +kernel)⟩
theorem lw_p26 : lw_okq (⟨"FiberHeapModel", "begin", "(II)V"⟩, 31) := ⟨⟨by decide +kernel, by decide +kernel⟩, List.mem_of_getElem? (i := 532) (by decide +kernel), List.mem_of_getElem? (i := 538) (by decide +kernel), List.mem_of_getElem? (i := 539) (by decide +kernel)⟩
theorem lw_p27 : lw_okq (⟨"FiberHeapModel", "cell", "(IIZ)Z"⟩, 31) := ⟨⟨by decide +kernel, by decide +kernel⟩, List.mem_of_getElem? (i := 532) (by decide +kernel), List.mem_of_getElem? (i := 640) (by decide +kernel), List.mem_of_getElem? (i := 641) (by decide +kernel)⟩
theorem lw_p28 : lw_okq (⟨"FiberHeapModel", "ready", "(I)Z"⟩, 31) := ⟨⟨by decide +kernel, by decide +kernel⟩, List.mem_of_getElem? (i := 532) (by decide +kernel), List.mem_of_getElem? (i := 644) (by decide +kernel), List.mem_of_getElem? (i := 645) (by decide +kernel)⟩
theorem lw_p29 : lw_okq (⟨"FiberHeapModel", "lives", "(I)Z"⟩, 31) := ⟨⟨by decide +kernel, by decide +kernel⟩, List.mem_of_getElem? (i := 532) (by decide +kernel), List.mem_of_getElem? (i := 648) (by decide +kernel), List.mem_of_getElem? (i := 649) (by decide +kernel)⟩
theorem lw_p30 : lw_okq (⟨"FiberHeapModel", "place", "(II)I"⟩, 31) := ⟨⟨by decide +kernel, by decide +kernel⟩, List.mem_of_getElem? (i := 532) (by decide +kernel), List.mem_of_getElem? (i := 652) (by decide +kernel), List.mem_of_getElem? (i := 653) (by decide +kernel)⟩
theorem lw_p31 : lw_okq (⟨"FiberHeapModel", "value", "(II)I"⟩, 31) := ⟨⟨by decide +kernel, by decide +kernel⟩, List.mem_of_getElem? (i := 532) (by decide +kernel), List.mem_of_getElem? (i := 656) (by decide +kernel), List.mem_of_getElem? (i := 657) (by decide +kernel)⟩
def lw_privs_2 : List (MethodName × Nat) := [(⟨"FiberHeap$Heap", "slotInNewSpan", "(I)I"⟩, 7), (⟨"FiberHeap$Heap", "shortestRun", "(I)I"⟩, 7), (⟨"FiberHeap$Heap", "endsRun", "(I)Z"⟩, 7), (⟨"FiberHeap$Heap", "fillSlot", "(IIII)V"⟩, 7), (⟨"FiberHeap", "intWordIndex", "(III)I"⟩, 5), (⟨"FiberHeap", "firstWaiting", "(II)LFiberHeap$Fiber;"⟩, 5), (⟨"FiberHeap", "newTicket", "()I"⟩, 5), (⟨"FiberHeap", "canGive", "(I)Z"⟩, 5), (⟨"FiberHeap", "pointerOutOf", "(I)I"⟩, 5), (⟨"FiberHeap", "copiedFrames", "()I"⟩, 5), (⟨"FiberHeapModel", "begin", "(II)V"⟩, 31), (⟨"FiberHeapModel", "cell", "(IIZ)Z"⟩, 31), (⟨"FiberHeapModel", "ready", "(I)Z"⟩, 31), (⟨"FiberHeapModel", "lives", "(I)Z"⟩, 31), (⟨"FiberHeapModel", "place", "(II)I"⟩, 31), (⟨"FiberHeapModel", "value", "(II)I"⟩, 31)]
theorem lw_r2 : ∀ q ∈ lw_privs_2, lw_okq q := List.forall_mem_cons.mpr ⟨lw_p16, List.forall_mem_cons.mpr ⟨lw_p17, List.forall_mem_cons.mpr ⟨lw_p18, List.forall_mem_cons.mpr ⟨lw_p19, List.forall_mem_cons.mpr ⟨lw_p20, List.forall_mem_cons.mpr ⟨lw_p21, List.forall_mem_cons.mpr ⟨lw_p22, List.forall_mem_cons.mpr ⟨lw_p23, List.forall_mem_cons.mpr ⟨lw_p24, List.forall_mem_cons.mpr ⟨lw_p25, List.forall_mem_cons.mpr ⟨lw_p26, List.forall_mem_cons.mpr ⟨lw_p27, List.forall_mem_cons.mpr ⟨lw_p28, List.forall_mem_cons.mpr ⟨lw_p29, List.forall_mem_cons.mpr ⟨lw_p30, List.forall_mem_cons.mpr ⟨lw_p31, fun _ h => absurd h List.not_mem_nil⟩⟩⟩⟩⟩⟩⟩⟩⟩⟩⟩⟩⟩⟩⟩⟩
theorem lw_p32 : lw_okq (⟨"FiberHeapModel", "slotOf", "(I)I"⟩, 31) := ⟨⟨by decide +kernel, by decide +kernel⟩, List.mem_of_getElem? (i := 532) (by decide +kernel), List.mem_of_getElem? (i := 688) (by decide +kernel), List.mem_of_getElem? (i := 689) (by decide +kernel)⟩
theorem lw_p33 : lw_okq (⟨"FiberHeapModel", "cycle", "()V"⟩, 31) := ⟨⟨by decide +kernel, by decide +kernel⟩, List.mem_of_getElem? (i := 532) (by decide +kernel), List.mem_of_getElem? (i := 692) (by decide +kernel), List.mem_of_getElem? (i := 693) (by decide +kernel)⟩
theorem lw_p34 : lw_okq (⟨"FiberHeapModel", "sweepUpTo", "(I)I"⟩, 31) := ⟨⟨by decide +kernel, by decide +kernel⟩, List.mem_of_getElem? (i := 532) (by decide +kernel), List.mem_of_getElem? (i := 696) (by decide +kernel), List.mem_of_getElem? (i := 697) (by decide +kernel)⟩
theorem lw_p35 : lw_okq (⟨"FiberHeapModel", "sweepSpan", "(I)V"⟩, 31) := ⟨⟨by decide +kernel, by decide +kernel⟩, List.mem_of_getElem? (i := 532) (by decide +kernel), List.mem_of_getElem? (i := 700) (by decide +kernel), List.mem_of_getElem? (i := 701) (by decide +kernel)⟩
theorem lw_p36 : lw_okq (⟨"FiberHeapModel", "note", "(I)V"⟩, 31) := ⟨⟨by decide +kernel, by decide +kernel⟩, List.mem_of_getElem? (i := 532) (by decide +kernel), List.mem_of_getElem? (i := 704) (by decide +kernel), List.mem_of_getElem? (i := 705) (by decide +kernel)⟩
theorem lw_p37 : lw_okq (⟨"FiberHeapModel", "work", "(I)I"⟩, 31) := ⟨⟨by decide +kernel, by decide +kernel⟩, List.mem_of_getElem? (i := 532) (by decide +kernel), List.mem_of_getElem? (i := 708) (by decide +kernel), List.mem_of_getElem? (i := 709) (by decide +kernel)⟩
theorem lw_p38 : lw_okq (⟨"FiberHeapModel", "scan", "(I)V"⟩, 31) := ⟨⟨by decide +kernel, by decide +kernel⟩, List.mem_of_getElem? (i := 532) (by decide +kernel), List.mem_of_getElem? (i := 712) (by decide +kernel), List.mem_of_getElem? (i := 713) (by decide +kernel)⟩
theorem lw_p39 : lw_okq (⟨"FiberHeapModel", "countDue", "()I"⟩, 31) := ⟨⟨by decide +kernel, by decide +kernel⟩, List.mem_of_getElem? (i := 532) (by decide +kernel), List.mem_of_getElem? (i := 716) (by decide +kernel), List.mem_of_getElem? (i := 717) (by decide +kernel)⟩
theorem lw_p40 : lw_okq (⟨"FiberHeapModel", "finish", "()V"⟩, 31) := ⟨⟨by decide +kernel, by decide +kernel⟩, List.mem_of_getElem? (i := 532) (by decide +kernel), List.mem_of_getElem? (i := 720) (by decide +kernel), List.mem_of_getElem? (i := 721) (by decide +kernel)⟩
theorem lw_p41 : lw_okq (⟨"FiberHeapModel", "seat", "(I)I"⟩, 31) := ⟨⟨by decide +kernel, by decide +kernel⟩, List.mem_of_getElem? (i := 532) (by decide +kernel), List.mem_of_getElem? (i := 724) (by decide +kernel), List.mem_of_getElem? (i := 725) (by decide +kernel)⟩
theorem lw_p42 : lw_okq (⟨"FiberHeapModel", "runOf", "(IZ)I"⟩, 31) := ⟨⟨by decide +kernel, by decide +kernel⟩, List.mem_of_getElem? (i := 532) (by decide +kernel), List.mem_of_getElem? (i := 728) (by decide +kernel), List.mem_of_getElem? (i := 729) (by decide +kernel)⟩
theorem lw_p43 : lw_okq (⟨"FiberHeapModel", "object", "(II)I"⟩, 31) := ⟨⟨by decide +kernel, by decide +kernel⟩, List.mem_of_getElem? (i := 532) (by decide +kernel), List.mem_of_getElem? (i := 737) (by decide +kernel), List.mem_of_getElem? (i := 738) (by decide +kernel)⟩
theorem lw_p44 : lw_okq (⟨"FiberHeapModel", "firstAt", "(II)I"⟩, 31) := ⟨⟨by decide +kernel, by decide +kernel⟩, List.mem_of_getElem? (i := 532) (by decide +kernel), List.mem_of_getElem? (i := 757) (by decide +kernel), List.mem_of_getElem? (i := 758) (by decide +kernel)⟩
theorem lw_p45 : lw_okq (⟨"FiberHeapModel", "hand", "(IIII)V"⟩, 31) := ⟨⟨by decide +kernel, by decide +kernel⟩, List.mem_of_getElem? (i := 532) (by decide +kernel), List.mem_of_getElem? (i := 761) (by decide +kernel), List.mem_of_getElem? (i := 762) (by decide +kernel)⟩
theorem lw_p46 : lw_okq (⟨"FiberHeapModel", "enter", "(II)V"⟩, 31) := ⟨⟨by decide +kernel, by decide +kernel⟩, List.mem_of_getElem? (i := 532) (by decide +kernel), List.mem_of_getElem? (i := 765) (by decide +kernel), List.mem_of_getElem? (i := 766) (by decide +kernel)⟩
theorem lw_p47 : lw_okq (⟨"FiberHeapModel", "waitFor", "(IIIII)V"⟩, 31) := ⟨⟨by decide +kernel, by decide +kernel⟩, List.mem_of_getElem? (i := 532) (by decide +kernel), List.mem_of_getElem? (i := 769) (by decide +kernel), List.mem_of_getElem? (i := 770) (by decide +kernel)⟩
def lw_privs_3 : List (MethodName × Nat) := [(⟨"FiberHeapModel", "slotOf", "(I)I"⟩, 31), (⟨"FiberHeapModel", "cycle", "()V"⟩, 31), (⟨"FiberHeapModel", "sweepUpTo", "(I)I"⟩, 31), (⟨"FiberHeapModel", "sweepSpan", "(I)V"⟩, 31), (⟨"FiberHeapModel", "note", "(I)V"⟩, 31), (⟨"FiberHeapModel", "work", "(I)I"⟩, 31), (⟨"FiberHeapModel", "scan", "(I)V"⟩, 31), (⟨"FiberHeapModel", "countDue", "()I"⟩, 31), (⟨"FiberHeapModel", "finish", "()V"⟩, 31), (⟨"FiberHeapModel", "seat", "(I)I"⟩, 31), (⟨"FiberHeapModel", "runOf", "(IZ)I"⟩, 31), (⟨"FiberHeapModel", "object", "(II)I"⟩, 31), (⟨"FiberHeapModel", "firstAt", "(II)I"⟩, 31), (⟨"FiberHeapModel", "hand", "(IIII)V"⟩, 31), (⟨"FiberHeapModel", "enter", "(II)V"⟩, 31), (⟨"FiberHeapModel", "waitFor", "(IIIII)V"⟩, 31)]
theorem lw_r3 : ∀ q ∈ lw_privs_3, lw_okq q := List.forall_mem_cons.mpr ⟨lw_p32, List.forall_mem_cons.mpr ⟨lw_p33, List.forall_mem_cons.mpr ⟨lw_p34, List.forall_mem_cons.mpr ⟨lw_p35, List.forall_mem_cons.mpr ⟨lw_p36, List.forall_mem_cons.mpr ⟨lw_p37, List.forall_mem_cons.mpr ⟨lw_p38, List.forall_mem_cons.mpr ⟨lw_p39, List.forall_mem_cons.mpr ⟨lw_p40, List.forall_mem_cons.mpr ⟨lw_p41, List.forall_mem_cons.mpr ⟨lw_p42, List.forall_mem_cons.mpr ⟨lw_p43, List.forall_mem_cons.mpr ⟨lw_p44, List.forall_mem_cons.mpr ⟨lw_p45, List.forall_mem_cons.mpr ⟨lw_p46, List.forall_mem_cons.mpr ⟨lw_p47, fun _ h => absurd h List.not_mem_nil⟩⟩⟩⟩⟩⟩⟩⟩⟩⟩⟩⟩⟩⟩⟩⟩
theorem lw_p48 : lw_okq (⟨"FiberHeapModel", "gives", "(III)Z"⟩, 31) := ⟨⟨by decide +kernel, by decide +kernel⟩, List.mem_of_getElem? (i := 532) (by decide +kernel), List.mem_of_getElem? (i := 777) (by decide +kernel), List.mem_of_getElem? (i := 778) (by decide +kernel)⟩
theorem lw_p49 : lw_okq (⟨"FiberHeapModel", "tally", "(I)I"⟩, 31) := ⟨⟨by decide +kernel, by decide +kernel⟩, List.mem_of_getElem? (i := 532) (by decide +kernel), List.mem_of_getElem? (i := 801) (by decide +kernel), List.mem_of_getElem? (i := 802) (by decide +kernel)⟩
def lw_privs_4 : List (MethodName × Nat) := [(⟨"FiberHeapModel", "gives", "(III)Z"⟩, 31), (⟨"FiberHeapModel", "tally", "(I)I"⟩, 31)]
theorem lw_r4 : ∀ q ∈ lw_privs_4, lw_okq q := List.forall_mem_cons.mpr ⟨lw_p48, List.forall_mem_cons.mpr ⟨lw_p49, fun _ h => absurd h List.not_mem_nil⟩⟩
def lw_privs : List (MethodName × Nat) := lw_privs_1 ++ (lw_privs_2 ++ (lw_privs_3 ++ (lw_privs_4)))
def lw_tbl : List Cond := k2_sels lw_privs ++ tables_1
theorem lw_privs_ok : ∀ q ∈ lw_privs, lw_okq q := by
  show ∀ q ∈ lw_privs_1 ++ (lw_privs_2 ++ (lw_privs_3 ++ (lw_privs_4))), lw_okq q
  exact List.forall_mem_append.mpr ⟨lw_r1, List.forall_mem_append.mpr ⟨lw_r2, List.forall_mem_append.mpr ⟨lw_r3, lw_r4⟩⟩⟩
end
section
def RX0 : String := "FiberHeap$Channel"
def TX0 : u_T := fun k => match k with
  | 0 => ("FiberHeap$Channel", "pointers", "[I", true)
  | _ => ("FiberHeap$Channel", "held", "I", false)
def tyX0 : Nat → FieldType := fun k => match k with
  | 0 => .array .int
  | _ => .int
theorem nmX0 : ∀ a, a < 2 → ∀ b, b < 2 → a ≠ b → (TX0 a).2.1 ≠ (TX0 b).2.1 := by decide +kernel
theorem tyX0_ok : ∀ k, k < 2 → parseFieldDescriptor (TX0 k).2.2.1 = some (tyX0 k) := by decide +kernel
abbrev cX0_init : ByteArray := prog_2_method_1_code
def yX0_init : MethodName := ⟨RX0, "<init>", "(I)V"⟩
theorem dX0_init_0 : decode cX0_init 0 = .ok (.aload_n 0, 1) := by decide +kernel
theorem dX0_init_1 : decode cX0_init 1 = .ok (.invokespecial 3, 3) := by decide +kernel
theorem dX0_init_4 : decode cX0_init 4 = .ok (.aload_n 0, 1) := by decide +kernel
theorem dX0_init_5 : decode cX0_init 5 = .ok (.iload_n 1, 1) := by decide +kernel
theorem dX0_init_6 : decode cX0_init 6 = .ok (.newarray .int, 2) := by decide +kernel
theorem dX0_init_8 : decode cX0_init 8 = .ok (.putfield 9, 3) := by decide +kernel
theorem dX0_init_11 : decode cX0_init 11 = .ok (.aload_n 0, 1) := by decide +kernel
theorem dX0_init_12 : decode cX0_init 12 = .ok (.iconst 0, 1) := by decide +kernel
theorem dX0_init_13 : decode cX0_init 13 = .ok (.putfield 15, 3) := by decide +kernel
theorem dX0_init_16 : decode cX0_init 16 = .ok (.return_, 1) := by decide +kernel
abbrev cX0_hasSpace : ByteArray := prog_2_method_2_code
def yX0_hasSpace : MethodName := ⟨RX0, "hasSpace", "()Z"⟩
theorem dX0_hasSpace_0 : decode cX0_hasSpace 0 = .ok (.aload_n 0, 1) := by decide +kernel
theorem dX0_hasSpace_1 : decode cX0_hasSpace 1 = .ok (.getfield 15, 3) := by decide +kernel
theorem dX0_hasSpace_4 : decode cX0_hasSpace 4 = .ok (.aload_n 0, 1) := by decide +kernel
theorem dX0_hasSpace_5 : decode cX0_hasSpace 5 = .ok (.getfield 9, 3) := by decide +kernel
theorem dX0_hasSpace_8 : decode cX0_hasSpace 8 = .ok (.arraylength, 1) := by decide +kernel
theorem dX0_hasSpace_9 : decode cX0_hasSpace 9 = .ok (.if_icmp .ge 7, 3) := by decide +kernel
theorem dX0_hasSpace_12 : decode cX0_hasSpace 12 = .ok (.iconst 1, 1) := by decide +kernel
theorem dX0_hasSpace_13 : decode cX0_hasSpace 13 = .ok (.goto 4, 3) := by decide +kernel
theorem dX0_hasSpace_16 : decode cX0_hasSpace 16 = .ok (.iconst 0, 1) := by decide +kernel
theorem dX0_hasSpace_17 : decode cX0_hasSpace 17 = .ok (.ireturn, 1) := by decide +kernel
abbrev cX0_addLast : ByteArray := prog_2_method_3_code
def yX0_addLast : MethodName := ⟨RX0, "addLast", "(I)V"⟩
theorem dX0_addLast_0 : decode cX0_addLast 0 = .ok (.aload_n 0, 1) := by decide +kernel
theorem dX0_addLast_1 : decode cX0_addLast 1 = .ok (.invokevirtual 19, 3) := by decide +kernel
theorem dX0_addLast_4 : decode cX0_addLast 4 = .ok (.ifCond .eq 23, 3) := by decide +kernel
theorem dX0_addLast_7 : decode cX0_addLast 7 = .ok (.aload_n 0, 1) := by decide +kernel
theorem dX0_addLast_8 : decode cX0_addLast 8 = .ok (.getfield 9, 3) := by decide +kernel
theorem dX0_addLast_11 : decode cX0_addLast 11 = .ok (.aload_n 0, 1) := by decide +kernel
theorem dX0_addLast_12 : decode cX0_addLast 12 = .ok (.getfield 15, 3) := by decide +kernel
theorem dX0_addLast_15 : decode cX0_addLast 15 = .ok (.iload_n 1, 1) := by decide +kernel
theorem dX0_addLast_16 : decode cX0_addLast 16 = .ok (.iastore, 1) := by decide +kernel
theorem dX0_addLast_17 : decode cX0_addLast 17 = .ok (.aload_n 0, 1) := by decide +kernel
theorem dX0_addLast_18 : decode cX0_addLast 18 = .ok (.dup, 1) := by decide +kernel
theorem dX0_addLast_19 : decode cX0_addLast 19 = .ok (.getfield 15, 3) := by decide +kernel
theorem dX0_addLast_22 : decode cX0_addLast 22 = .ok (.iconst 1, 1) := by decide +kernel
theorem dX0_addLast_23 : decode cX0_addLast 23 = .ok (.iadd, 1) := by decide +kernel
theorem dX0_addLast_24 : decode cX0_addLast 24 = .ok (.putfield 15, 3) := by decide +kernel
theorem dX0_addLast_27 : decode cX0_addLast 27 = .ok (.return_, 1) := by decide +kernel
abbrev cX0_removeFirst : ByteArray := prog_2_method_4_code
def yX0_removeFirst : MethodName := ⟨RX0, "removeFirst", "()I"⟩
theorem dX0_removeFirst_0 : decode cX0_removeFirst 0 = .ok (.aload_n 0, 1) := by decide +kernel
theorem dX0_removeFirst_1 : decode cX0_removeFirst 1 = .ok (.getfield 15, 3) := by decide +kernel
theorem dX0_removeFirst_4 : decode cX0_removeFirst 4 = .ok (.ifCond .ne 5, 3) := by decide +kernel
theorem dX0_removeFirst_7 : decode cX0_removeFirst 7 = .ok (.iconst (-1), 1) := by decide +kernel
theorem dX0_removeFirst_8 : decode cX0_removeFirst 8 = .ok (.ireturn, 1) := by decide +kernel
theorem dX0_removeFirst_9 : decode cX0_removeFirst 9 = .ok (.aload_n 0, 1) := by decide +kernel
theorem dX0_removeFirst_10 : decode cX0_removeFirst 10 = .ok (.getfield 9, 3) := by decide +kernel
theorem dX0_removeFirst_13 : decode cX0_removeFirst 13 = .ok (.iconst 0, 1) := by decide +kernel
theorem dX0_removeFirst_14 : decode cX0_removeFirst 14 = .ok (.iaload, 1) := by decide +kernel
theorem dX0_removeFirst_15 : decode cX0_removeFirst 15 = .ok (.istore_n 1, 1) := by decide +kernel
theorem dX0_removeFirst_16 : decode cX0_removeFirst 16 = .ok (.aload_n 0, 1) := by decide +kernel
theorem dX0_removeFirst_17 : decode cX0_removeFirst 17 = .ok (.dup, 1) := by decide +kernel
theorem dX0_removeFirst_18 : decode cX0_removeFirst 18 = .ok (.getfield 15, 3) := by decide +kernel
theorem dX0_removeFirst_21 : decode cX0_removeFirst 21 = .ok (.iconst 1, 1) := by decide +kernel
theorem dX0_removeFirst_22 : decode cX0_removeFirst 22 = .ok (.isub, 1) := by decide +kernel
theorem dX0_removeFirst_23 : decode cX0_removeFirst 23 = .ok (.putfield 15, 3) := by decide +kernel
theorem dX0_removeFirst_26 : decode cX0_removeFirst 26 = .ok (.iconst 0, 1) := by decide +kernel
theorem dX0_removeFirst_27 : decode cX0_removeFirst 27 = .ok (.istore_n 2, 1) := by decide +kernel
theorem dX0_removeFirst_28 : decode cX0_removeFirst 28 = .ok (.iload_n 2, 1) := by decide +kernel
theorem dX0_removeFirst_29 : decode cX0_removeFirst 29 = .ok (.aload_n 0, 1) := by decide +kernel
theorem dX0_removeFirst_30 : decode cX0_removeFirst 30 = .ok (.getfield 15, 3) := by decide +kernel
theorem dX0_removeFirst_33 : decode cX0_removeFirst 33 = .ok (.if_icmp .ge 23, 3) := by decide +kernel
theorem dX0_removeFirst_36 : decode cX0_removeFirst 36 = .ok (.aload_n 0, 1) := by decide +kernel
theorem dX0_removeFirst_37 : decode cX0_removeFirst 37 = .ok (.getfield 9, 3) := by decide +kernel
theorem dX0_removeFirst_40 : decode cX0_removeFirst 40 = .ok (.iload_n 2, 1) := by decide +kernel
theorem dX0_removeFirst_41 : decode cX0_removeFirst 41 = .ok (.aload_n 0, 1) := by decide +kernel
theorem dX0_removeFirst_42 : decode cX0_removeFirst 42 = .ok (.getfield 9, 3) := by decide +kernel
theorem dX0_removeFirst_45 : decode cX0_removeFirst 45 = .ok (.iload_n 2, 1) := by decide +kernel
theorem dX0_removeFirst_46 : decode cX0_removeFirst 46 = .ok (.iconst 1, 1) := by decide +kernel
theorem dX0_removeFirst_47 : decode cX0_removeFirst 47 = .ok (.iadd, 1) := by decide +kernel
theorem dX0_removeFirst_48 : decode cX0_removeFirst 48 = .ok (.iaload, 1) := by decide +kernel
theorem dX0_removeFirst_49 : decode cX0_removeFirst 49 = .ok (.iastore, 1) := by decide +kernel
theorem dX0_removeFirst_50 : decode cX0_removeFirst 50 = .ok (.iinc 2 1, 3) := by decide +kernel
theorem dX0_removeFirst_53 : decode cX0_removeFirst 53 = .ok (.goto (-25), 3) := by decide +kernel
theorem dX0_removeFirst_56 : decode cX0_removeFirst 56 = .ok (.iload_n 1, 1) := by decide +kernel
theorem dX0_removeFirst_57 : decode cX0_removeFirst 57 = .ok (.ireturn, 1) := by decide +kernel
end
section
def RX1 : String := "FiberHeap$Collector"
def TX1 : u_T := fun k => match k with
  | 0 => ("FiberHeap$Collector", "heap", "LFiberHeap$Heap;", true)
  | 1 => ("FiberHeap$Collector", "fibers", "[LFiberHeap$Fiber;", true)
  | 2 => ("FiberHeap$Collector", "channels", "[LFiberHeap$Channel;", true)
  | 3 => ("FiberHeap$Collector", "pending", "[I", true)
  | 4 => ("FiberHeap$Collector", "pendingCount", "I", false)
  | 5 => ("FiberHeap$Collector", "marking", "Z", false)
  | 6 => ("FiberHeap$Collector", "cycles", "I", false)
  | 7 => ("FiberHeap$Collector", "pieces", "I", false)
  | 8 => ("FiberHeap$Collector", "fresh", "I", false)
  | _ => ("FiberHeap$Collector", "trigger", "I", false)
def tyX1 : Nat → FieldType := fun k => match k with
  | 0 => .object "FiberHeap$Heap"
  | 1 => .array (.object "FiberHeap$Fiber")
  | 2 => .array (.object "FiberHeap$Channel")
  | 3 => .array .int
  | 4 => .int
  | 5 => .boolean
  | 6 => .int
  | 7 => .int
  | 8 => .int
  | _ => .int
theorem nmX1 : ∀ a, a < 10 → ∀ b, b < 10 → a ≠ b → (TX1 a).2.1 ≠ (TX1 b).2.1 := by decide +kernel
theorem tyX1_ok : ∀ k, k < 10 → parseFieldDescriptor (TX1 k).2.2.1 = some (tyX1 k) := by decide +kernel
abbrev cX1_init : ByteArray := prog_3_method_1_code
def yX1_init : MethodName := ⟨RX1, "<init>", "(LFiberHeap$Heap;[LFiberHeap$Fiber;[LFiberHeap$Channel;)V"⟩
theorem dX1_init_0 : decode cX1_init 0 = .ok (.aload_n 0, 1) := by decide +kernel
theorem dX1_init_1 : decode cX1_init 1 = .ok (.invokespecial 3, 3) := by decide +kernel
theorem dX1_init_4 : decode cX1_init 4 = .ok (.aload_n 0, 1) := by decide +kernel
theorem dX1_init_5 : decode cX1_init 5 = .ok (.aload_n 1, 1) := by decide +kernel
theorem dX1_init_6 : decode cX1_init 6 = .ok (.putfield 9, 3) := by decide +kernel
theorem dX1_init_9 : decode cX1_init 9 = .ok (.aload_n 0, 1) := by decide +kernel
theorem dX1_init_10 : decode cX1_init 10 = .ok (.aload_n 2, 1) := by decide +kernel
theorem dX1_init_11 : decode cX1_init 11 = .ok (.putfield 15, 3) := by decide +kernel
theorem dX1_init_14 : decode cX1_init 14 = .ok (.aload_n 0, 1) := by decide +kernel
theorem dX1_init_15 : decode cX1_init 15 = .ok (.aload_n 3, 1) := by decide +kernel
theorem dX1_init_16 : decode cX1_init 16 = .ok (.putfield 19, 3) := by decide +kernel
theorem dX1_init_19 : decode cX1_init 19 = .ok (.aload_n 0, 1) := by decide +kernel
theorem dX1_init_20 : decode cX1_init 20 = .ok (.sipush 128, 3) := by decide +kernel
theorem dX1_init_23 : decode cX1_init 23 = .ok (.newarray .int, 2) := by decide +kernel
theorem dX1_init_25 : decode cX1_init 25 = .ok (.putfield 23, 3) := by decide +kernel
theorem dX1_init_28 : decode cX1_init 28 = .ok (.aload_n 0, 1) := by decide +kernel
theorem dX1_init_29 : decode cX1_init 29 = .ok (.iconst 0, 1) := by decide +kernel
theorem dX1_init_30 : decode cX1_init 30 = .ok (.putfield 27, 3) := by decide +kernel
theorem dX1_init_33 : decode cX1_init 33 = .ok (.aload_n 0, 1) := by decide +kernel
theorem dX1_init_34 : decode cX1_init 34 = .ok (.iconst 0, 1) := by decide +kernel
theorem dX1_init_35 : decode cX1_init 35 = .ok (.putfield 31, 3) := by decide +kernel
theorem dX1_init_38 : decode cX1_init 38 = .ok (.aload_n 0, 1) := by decide +kernel
theorem dX1_init_39 : decode cX1_init 39 = .ok (.iconst 0, 1) := by decide +kernel
theorem dX1_init_40 : decode cX1_init 40 = .ok (.putfield 35, 3) := by decide +kernel
theorem dX1_init_43 : decode cX1_init 43 = .ok (.aload_n 0, 1) := by decide +kernel
theorem dX1_init_44 : decode cX1_init 44 = .ok (.iconst 0, 1) := by decide +kernel
theorem dX1_init_45 : decode cX1_init 45 = .ok (.putfield 38, 3) := by decide +kernel
theorem dX1_init_48 : decode cX1_init 48 = .ok (.aload_n 0, 1) := by decide +kernel
theorem dX1_init_49 : decode cX1_init 49 = .ok (.iconst 0, 1) := by decide +kernel
theorem dX1_init_50 : decode cX1_init 50 = .ok (.putfield 41, 3) := by decide +kernel
theorem dX1_init_53 : decode cX1_init 53 = .ok (.aload_n 0, 1) := by decide +kernel
theorem dX1_init_54 : decode cX1_init 54 = .ok (.bipush 64, 2) := by decide +kernel
theorem dX1_init_56 : decode cX1_init 56 = .ok (.putfield 44, 3) := by decide +kernel
theorem dX1_init_59 : decode cX1_init 59 = .ok (.return_, 1) := by decide +kernel
abbrev cX1_beginCycle : ByteArray := prog_3_method_2_code
def yX1_beginCycle : MethodName := ⟨RX1, "beginCycle", "()V"⟩
theorem dX1_beginCycle_0 : decode cX1_beginCycle 0 = .ok (.aload_n 0, 1) := by decide +kernel
theorem dX1_beginCycle_1 : decode cX1_beginCycle 1 = .ok (.getfield 9, 3) := by decide +kernel
theorem dX1_beginCycle_4 : decode cX1_beginCycle 4 = .ok (.bipush 16, 2) := by decide +kernel
theorem dX1_beginCycle_6 : decode cX1_beginCycle 6 = .ok (.invokevirtual 47, 3) := by decide +kernel
theorem dX1_beginCycle_9 : decode cX1_beginCycle 9 = .ok (.pop, 1) := by decide +kernel
theorem dX1_beginCycle_10 : decode cX1_beginCycle 10 = .ok (.aload_n 0, 1) := by decide +kernel
theorem dX1_beginCycle_11 : decode cX1_beginCycle 11 = .ok (.dup, 1) := by decide +kernel
theorem dX1_beginCycle_12 : decode cX1_beginCycle 12 = .ok (.getfield 35, 3) := by decide +kernel
theorem dX1_beginCycle_15 : decode cX1_beginCycle 15 = .ok (.iconst 1, 1) := by decide +kernel
theorem dX1_beginCycle_16 : decode cX1_beginCycle 16 = .ok (.iadd, 1) := by decide +kernel
theorem dX1_beginCycle_17 : decode cX1_beginCycle 17 = .ok (.putfield 35, 3) := by decide +kernel
theorem dX1_beginCycle_20 : decode cX1_beginCycle 20 = .ok (.aload_n 0, 1) := by decide +kernel
theorem dX1_beginCycle_21 : decode cX1_beginCycle 21 = .ok (.iconst 1, 1) := by decide +kernel
theorem dX1_beginCycle_22 : decode cX1_beginCycle 22 = .ok (.putfield 31, 3) := by decide +kernel
theorem dX1_beginCycle_25 : decode cX1_beginCycle 25 = .ok (.aload_n 0, 1) := by decide +kernel
theorem dX1_beginCycle_26 : decode cX1_beginCycle 26 = .ok (.iconst 0, 1) := by decide +kernel
theorem dX1_beginCycle_27 : decode cX1_beginCycle 27 = .ok (.putfield 27, 3) := by decide +kernel
theorem dX1_beginCycle_30 : decode cX1_beginCycle 30 = .ok (.aload_n 0, 1) := by decide +kernel
theorem dX1_beginCycle_31 : decode cX1_beginCycle 31 = .ok (.getfield 9, 3) := by decide +kernel
theorem dX1_beginCycle_34 : decode cX1_beginCycle 34 = .ok (.getfield 53, 3) := by decide +kernel
theorem dX1_beginCycle_37 : decode cX1_beginCycle 37 = .ok (.iconst 0, 1) := by decide +kernel
theorem dX1_beginCycle_38 : decode cX1_beginCycle 38 = .ok (.invokestatic 56, 3) := by decide +kernel
theorem dX1_beginCycle_41 : decode cX1_beginCycle 41 = .ok (.iconst 0, 1) := by decide +kernel
theorem dX1_beginCycle_42 : decode cX1_beginCycle 42 = .ok (.istore_n 1, 1) := by decide +kernel
theorem dX1_beginCycle_43 : decode cX1_beginCycle 43 = .ok (.iload_n 1, 1) := by decide +kernel
theorem dX1_beginCycle_44 : decode cX1_beginCycle 44 = .ok (.bipush 6, 2) := by decide +kernel
theorem dX1_beginCycle_46 : decode cX1_beginCycle 46 = .ok (.if_icmp .ge 19, 3) := by decide +kernel
theorem dX1_beginCycle_49 : decode cX1_beginCycle 49 = .ok (.aload_n 0, 1) := by decide +kernel
theorem dX1_beginCycle_50 : decode cX1_beginCycle 50 = .ok (.getfield 15, 3) := by decide +kernel
theorem dX1_beginCycle_53 : decode cX1_beginCycle 53 = .ok (.iload_n 1, 1) := by decide +kernel
theorem dX1_beginCycle_54 : decode cX1_beginCycle 54 = .ok (.aaload, 1) := by decide +kernel
theorem dX1_beginCycle_55 : decode cX1_beginCycle 55 = .ok (.iconst 0, 1) := by decide +kernel
theorem dX1_beginCycle_56 : decode cX1_beginCycle 56 = .ok (.putfield 62, 3) := by decide +kernel
theorem dX1_beginCycle_59 : decode cX1_beginCycle 59 = .ok (.iinc 1 1, 3) := by decide +kernel
theorem dX1_beginCycle_62 : decode cX1_beginCycle 62 = .ok (.goto (-19), 3) := by decide +kernel
theorem dX1_beginCycle_65 : decode cX1_beginCycle 65 = .ok (.iconst 0, 1) := by decide +kernel
theorem dX1_beginCycle_66 : decode cX1_beginCycle 66 = .ok (.istore_n 1, 1) := by decide +kernel
theorem dX1_beginCycle_67 : decode cX1_beginCycle 67 = .ok (.iload_n 1, 1) := by decide +kernel
theorem dX1_beginCycle_68 : decode cX1_beginCycle 68 = .ok (.iconst 4, 1) := by decide +kernel
theorem dX1_beginCycle_69 : decode cX1_beginCycle 69 = .ok (.if_icmp .ge 45, 3) := by decide +kernel
theorem dX1_beginCycle_72 : decode cX1_beginCycle 72 = .ok (.iconst 0, 1) := by decide +kernel
theorem dX1_beginCycle_73 : decode cX1_beginCycle 73 = .ok (.istore_n 2, 1) := by decide +kernel
theorem dX1_beginCycle_74 : decode cX1_beginCycle 74 = .ok (.iload_n 2, 1) := by decide +kernel
theorem dX1_beginCycle_75 : decode cX1_beginCycle 75 = .ok (.aload_n 0, 1) := by decide +kernel
theorem dX1_beginCycle_76 : decode cX1_beginCycle 76 = .ok (.getfield 19, 3) := by decide +kernel
theorem dX1_beginCycle_79 : decode cX1_beginCycle 79 = .ok (.iload_n 1, 1) := by decide +kernel
theorem dX1_beginCycle_80 : decode cX1_beginCycle 80 = .ok (.aaload, 1) := by decide +kernel
theorem dX1_beginCycle_81 : decode cX1_beginCycle 81 = .ok (.getfield 67, 3) := by decide +kernel
theorem dX1_beginCycle_84 : decode cX1_beginCycle 84 = .ok (.if_icmp .ge 24, 3) := by decide +kernel
theorem dX1_beginCycle_87 : decode cX1_beginCycle 87 = .ok (.aload_n 0, 1) := by decide +kernel
theorem dX1_beginCycle_88 : decode cX1_beginCycle 88 = .ok (.aload_n 0, 1) := by decide +kernel
theorem dX1_beginCycle_89 : decode cX1_beginCycle 89 = .ok (.getfield 19, 3) := by decide +kernel
theorem dX1_beginCycle_92 : decode cX1_beginCycle 92 = .ok (.iload_n 1, 1) := by decide +kernel
theorem dX1_beginCycle_93 : decode cX1_beginCycle 93 = .ok (.aaload, 1) := by decide +kernel
theorem dX1_beginCycle_94 : decode cX1_beginCycle 94 = .ok (.getfield 72, 3) := by decide +kernel
theorem dX1_beginCycle_97 : decode cX1_beginCycle 97 = .ok (.iload_n 2, 1) := by decide +kernel
theorem dX1_beginCycle_98 : decode cX1_beginCycle 98 = .ok (.iaload, 1) := by decide +kernel
theorem dX1_beginCycle_99 : decode cX1_beginCycle 99 = .ok (.invokevirtual 75, 3) := by decide +kernel
theorem dX1_beginCycle_102 : decode cX1_beginCycle 102 = .ok (.iinc 2 1, 3) := by decide +kernel
theorem dX1_beginCycle_105 : decode cX1_beginCycle 105 = .ok (.goto (-31), 3) := by decide +kernel
theorem dX1_beginCycle_108 : decode cX1_beginCycle 108 = .ok (.iinc 1 1, 3) := by decide +kernel
theorem dX1_beginCycle_111 : decode cX1_beginCycle 111 = .ok (.goto (-44), 3) := by decide +kernel
theorem dX1_beginCycle_114 : decode cX1_beginCycle 114 = .ok (.return_, 1) := by decide +kernel
abbrev cX1_workBeforePlacing : ByteArray := prog_3_method_3_code
def yX1_workBeforePlacing : MethodName := ⟨RX1, "workBeforePlacing", "(I)V"⟩
theorem dX1_workBeforePlacing_0 : decode cX1_workBeforePlacing 0 = .ok (.aload_n 0, 1) := by decide +kernel
theorem dX1_workBeforePlacing_1 : decode cX1_workBeforePlacing 1 = .ok (.getfield 31, 3) := by decide +kernel
theorem dX1_workBeforePlacing_4 : decode cX1_workBeforePlacing 4 = .ok (.ifCond .ne 18, 3) := by decide +kernel
theorem dX1_workBeforePlacing_7 : decode cX1_workBeforePlacing 7 = .ok (.aload_n 0, 1) := by decide +kernel
theorem dX1_workBeforePlacing_8 : decode cX1_workBeforePlacing 8 = .ok (.getfield 41, 3) := by decide +kernel
theorem dX1_workBeforePlacing_11 : decode cX1_workBeforePlacing 11 = .ok (.aload_n 0, 1) := by decide +kernel
theorem dX1_workBeforePlacing_12 : decode cX1_workBeforePlacing 12 = .ok (.getfield 44, 3) := by decide +kernel
theorem dX1_workBeforePlacing_15 : decode cX1_workBeforePlacing 15 = .ok (.if_icmp .lt 7, 3) := by decide +kernel
theorem dX1_workBeforePlacing_18 : decode cX1_workBeforePlacing 18 = .ok (.aload_n 0, 1) := by decide +kernel
theorem dX1_workBeforePlacing_19 : decode cX1_workBeforePlacing 19 = .ok (.invokevirtual 79, 3) := by decide +kernel
theorem dX1_workBeforePlacing_22 : decode cX1_workBeforePlacing 22 = .ok (.aload_n 0, 1) := by decide +kernel
theorem dX1_workBeforePlacing_23 : decode cX1_workBeforePlacing 23 = .ok (.getfield 31, 3) := by decide +kernel
theorem dX1_workBeforePlacing_26 : decode cX1_workBeforePlacing 26 = .ok (.ifCond .eq 9, 3) := by decide +kernel
theorem dX1_workBeforePlacing_29 : decode cX1_workBeforePlacing 29 = .ok (.aload_n 0, 1) := by decide +kernel
theorem dX1_workBeforePlacing_30 : decode cX1_workBeforePlacing 30 = .ok (.iload_n 1, 1) := by decide +kernel
theorem dX1_workBeforePlacing_31 : decode cX1_workBeforePlacing 31 = .ok (.invokevirtual 82, 3) := by decide +kernel
theorem dX1_workBeforePlacing_34 : decode cX1_workBeforePlacing 34 = .ok (.pop, 1) := by decide +kernel
theorem dX1_workBeforePlacing_35 : decode cX1_workBeforePlacing 35 = .ok (.return_, 1) := by decide +kernel
abbrev cX1_markOfPlaced : ByteArray := prog_3_method_4_code
def yX1_markOfPlaced : MethodName := ⟨RX1, "markOfPlaced", "()I"⟩
theorem dX1_markOfPlaced_0 : decode cX1_markOfPlaced 0 = .ok (.aload_n 0, 1) := by decide +kernel
theorem dX1_markOfPlaced_1 : decode cX1_markOfPlaced 1 = .ok (.getfield 31, 3) := by decide +kernel
theorem dX1_markOfPlaced_4 : decode cX1_markOfPlaced 4 = .ok (.ifCond .eq 7, 3) := by decide +kernel
theorem dX1_markOfPlaced_7 : decode cX1_markOfPlaced 7 = .ok (.iconst 1, 1) := by decide +kernel
theorem dX1_markOfPlaced_8 : decode cX1_markOfPlaced 8 = .ok (.goto 4, 3) := by decide +kernel
theorem dX1_markOfPlaced_11 : decode cX1_markOfPlaced 11 = .ok (.iconst 0, 1) := by decide +kernel
theorem dX1_markOfPlaced_12 : decode cX1_markOfPlaced 12 = .ok (.ireturn, 1) := by decide +kernel
abbrev cX1_finishMarking : ByteArray := prog_3_method_5_code
def yX1_finishMarking : MethodName := ⟨RX1, "finishMarking", "()V"⟩
theorem dX1_finishMarking_0 : decode cX1_finishMarking 0 = .ok (.aload_n 0, 1) := by decide +kernel
theorem dX1_finishMarking_1 : decode cX1_finishMarking 1 = .ok (.getfield 31, 3) := by decide +kernel
theorem dX1_finishMarking_4 : decode cX1_finishMarking 4 = .ok (.ifCond .eq 11, 3) := by decide +kernel
theorem dX1_finishMarking_7 : decode cX1_finishMarking 7 = .ok (.aload_n 0, 1) := by decide +kernel
theorem dX1_finishMarking_8 : decode cX1_finishMarking 8 = .ok (.sipush 134, 3) := by decide +kernel
theorem dX1_finishMarking_11 : decode cX1_finishMarking 11 = .ok (.invokevirtual 82, 3) := by decide +kernel
theorem dX1_finishMarking_14 : decode cX1_finishMarking 14 = .ok (.pop, 1) := by decide +kernel
theorem dX1_finishMarking_15 : decode cX1_finishMarking 15 = .ok (.return_, 1) := by decide +kernel
abbrev cX1_work : ByteArray := prog_3_method_6_code
def yX1_work : MethodName := ⟨RX1, "work", "(I)I"⟩
theorem dX1_work_0 : decode cX1_work 0 = .ok (.iload_n 1, 1) := by decide +kernel
theorem dX1_work_1 : decode cX1_work 1 = .ok (.sipush 134, 3) := by decide +kernel
theorem dX1_work_4 : decode cX1_work 4 = .ok (.invokestatic 85, 3) := by decide +kernel
theorem dX1_work_7 : decode cX1_work 7 = .ok (.istore_n 2, 1) := by decide +kernel
theorem dX1_work_8 : decode cX1_work 8 = .ok (.iconst 0, 1) := by decide +kernel
theorem dX1_work_9 : decode cX1_work 9 = .ok (.istore_n 3, 1) := by decide +kernel
theorem dX1_work_10 : decode cX1_work 10 = .ok (.iload_n 3, 1) := by decide +kernel
theorem dX1_work_11 : decode cX1_work 11 = .ok (.iload_n 2, 1) := by decide +kernel
theorem dX1_work_12 : decode cX1_work 12 = .ok (.if_icmp .ge 20, 3) := by decide +kernel
theorem dX1_work_15 : decode cX1_work 15 = .ok (.aload_n 0, 1) := by decide +kernel
theorem dX1_work_16 : decode cX1_work 16 = .ok (.invokevirtual 91, 3) := by decide +kernel
theorem dX1_work_19 : decode cX1_work 19 = .ok (.ifCond .eq 13, 3) := by decide +kernel
theorem dX1_work_22 : decode cX1_work 22 = .ok (.aload_n 0, 1) := by decide +kernel
theorem dX1_work_23 : decode cX1_work 23 = .ok (.invokevirtual 95, 3) := by decide +kernel
theorem dX1_work_26 : decode cX1_work 26 = .ok (.iinc 3 1, 3) := by decide +kernel
theorem dX1_work_29 : decode cX1_work 29 = .ok (.goto (-19), 3) := by decide +kernel
theorem dX1_work_32 : decode cX1_work 32 = .ok (.aload_n 0, 1) := by decide +kernel
theorem dX1_work_33 : decode cX1_work 33 = .ok (.dup, 1) := by decide +kernel
theorem dX1_work_34 : decode cX1_work 34 = .ok (.getfield 38, 3) := by decide +kernel
theorem dX1_work_37 : decode cX1_work 37 = .ok (.iload_n 3, 1) := by decide +kernel
theorem dX1_work_38 : decode cX1_work 38 = .ok (.iadd, 1) := by decide +kernel
theorem dX1_work_39 : decode cX1_work 39 = .ok (.putfield 38, 3) := by decide +kernel
theorem dX1_work_42 : decode cX1_work 42 = .ok (.aload_n 0, 1) := by decide +kernel
theorem dX1_work_43 : decode cX1_work 43 = .ok (.invokevirtual 91, 3) := by decide +kernel
theorem dX1_work_46 : decode cX1_work 46 = .ok (.ifCond .ne 7, 3) := by decide +kernel
theorem dX1_work_49 : decode cX1_work 49 = .ok (.aload_n 0, 1) := by decide +kernel
theorem dX1_work_50 : decode cX1_work 50 = .ok (.invokevirtual 98, 3) := by decide +kernel
theorem dX1_work_53 : decode cX1_work 53 = .ok (.iload_n 3, 1) := by decide +kernel
theorem dX1_work_54 : decode cX1_work 54 = .ok (.ireturn, 1) := by decide +kernel
abbrev cX1_note : ByteArray := prog_3_method_7_code
def yX1_note : MethodName := ⟨RX1, "note", "(I)V"⟩
theorem dX1_note_0 : decode cX1_note 0 = .ok (.aload_n 0, 1) := by decide +kernel
theorem dX1_note_1 : decode cX1_note 1 = .ok (.getfield 31, 3) := by decide +kernel
theorem dX1_note_4 : decode cX1_note 4 = .ok (.ifCond .eq 14, 3) := by decide +kernel
theorem dX1_note_7 : decode cX1_note 7 = .ok (.iload_n 1, 1) := by decide +kernel
theorem dX1_note_8 : decode cX1_note 8 = .ok (.ifCond .lt 10, 3) := by decide +kernel
theorem dX1_note_11 : decode cX1_note 11 = .ok (.iload_n 1, 1) := by decide +kernel
theorem dX1_note_12 : decode cX1_note 12 = .ok (.sipush 256, 3) := by decide +kernel
theorem dX1_note_15 : decode cX1_note 15 = .ok (.if_icmp .lt 4, 3) := by decide +kernel
theorem dX1_note_18 : decode cX1_note 18 = .ok (.return_, 1) := by decide +kernel
theorem dX1_note_19 : decode cX1_note 19 = .ok (.iload_n 1, 1) := by decide +kernel
theorem dX1_note_20 : decode cX1_note 20 = .ok (.iconst 2, 1) := by decide +kernel
theorem dX1_note_21 : decode cX1_note 21 = .ok (.idiv, 1) := by decide +kernel
theorem dX1_note_22 : decode cX1_note 22 = .ok (.istore_n 2, 1) := by decide +kernel
theorem dX1_note_23 : decode cX1_note 23 = .ok (.aload_n 0, 1) := by decide +kernel
theorem dX1_note_24 : decode cX1_note 24 = .ok (.getfield 9, 3) := by decide +kernel
theorem dX1_note_27 : decode cX1_note 27 = .ok (.getfield 53, 3) := by decide +kernel
theorem dX1_note_30 : decode cX1_note 30 = .ok (.iload_n 2, 1) := by decide +kernel
theorem dX1_note_31 : decode cX1_note 31 = .ok (.iaload, 1) := by decide +kernel
theorem dX1_note_32 : decode cX1_note 32 = .ok (.ifCond .ne 43, 3) := by decide +kernel
theorem dX1_note_35 : decode cX1_note 35 = .ok (.aload_n 0, 1) := by decide +kernel
theorem dX1_note_36 : decode cX1_note 36 = .ok (.getfield 27, 3) := by decide +kernel
theorem dX1_note_39 : decode cX1_note 39 = .ok (.sipush 128, 3) := by decide +kernel
theorem dX1_note_42 : decode cX1_note 42 = .ok (.if_icmp .ge 33, 3) := by decide +kernel
theorem dX1_note_45 : decode cX1_note 45 = .ok (.aload_n 0, 1) := by decide +kernel
theorem dX1_note_46 : decode cX1_note 46 = .ok (.getfield 9, 3) := by decide +kernel
theorem dX1_note_49 : decode cX1_note 49 = .ok (.getfield 53, 3) := by decide +kernel
theorem dX1_note_52 : decode cX1_note 52 = .ok (.iload_n 2, 1) := by decide +kernel
theorem dX1_note_53 : decode cX1_note 53 = .ok (.iconst 2, 1) := by decide +kernel
theorem dX1_note_54 : decode cX1_note 54 = .ok (.iastore, 1) := by decide +kernel
theorem dX1_note_55 : decode cX1_note 55 = .ok (.aload_n 0, 1) := by decide +kernel
theorem dX1_note_56 : decode cX1_note 56 = .ok (.getfield 23, 3) := by decide +kernel
theorem dX1_note_59 : decode cX1_note 59 = .ok (.aload_n 0, 1) := by decide +kernel
theorem dX1_note_60 : decode cX1_note 60 = .ok (.getfield 27, 3) := by decide +kernel
theorem dX1_note_63 : decode cX1_note 63 = .ok (.iload_n 1, 1) := by decide +kernel
theorem dX1_note_64 : decode cX1_note 64 = .ok (.iastore, 1) := by decide +kernel
theorem dX1_note_65 : decode cX1_note 65 = .ok (.aload_n 0, 1) := by decide +kernel
theorem dX1_note_66 : decode cX1_note 66 = .ok (.dup, 1) := by decide +kernel
theorem dX1_note_67 : decode cX1_note 67 = .ok (.getfield 27, 3) := by decide +kernel
theorem dX1_note_70 : decode cX1_note 70 = .ok (.iconst 1, 1) := by decide +kernel
theorem dX1_note_71 : decode cX1_note 71 = .ok (.iadd, 1) := by decide +kernel
theorem dX1_note_72 : decode cX1_note 72 = .ok (.putfield 27, 3) := by decide +kernel
theorem dX1_note_75 : decode cX1_note 75 = .ok (.return_, 1) := by decide +kernel
abbrev cX1_workIsLeft : ByteArray := prog_3_method_8_code
def yX1_workIsLeft : MethodName := ⟨RX1, "workIsLeft", "()Z"⟩
theorem dX1_workIsLeft_0 : decode cX1_workIsLeft 0 = .ok (.aload_n 0, 1) := by decide +kernel
theorem dX1_workIsLeft_1 : decode cX1_workIsLeft 1 = .ok (.getfield 27, 3) := by decide +kernel
theorem dX1_workIsLeft_4 : decode cX1_workIsLeft 4 = .ok (.ifCond .gt 10, 3) := by decide +kernel
theorem dX1_workIsLeft_7 : decode cX1_workIsLeft 7 = .ok (.aload_n 0, 1) := by decide +kernel
theorem dX1_workIsLeft_8 : decode cX1_workIsLeft 8 = .ok (.invokevirtual 101, 3) := by decide +kernel
theorem dX1_workIsLeft_11 : decode cX1_workIsLeft 11 = .ok (.ifnull 7, 3) := by decide +kernel
theorem dX1_workIsLeft_14 : decode cX1_workIsLeft 14 = .ok (.iconst 1, 1) := by decide +kernel
theorem dX1_workIsLeft_15 : decode cX1_workIsLeft 15 = .ok (.goto 4, 3) := by decide +kernel
theorem dX1_workIsLeft_18 : decode cX1_workIsLeft 18 = .ok (.iconst 0, 1) := by decide +kernel
theorem dX1_workIsLeft_19 : decode cX1_workIsLeft 19 = .ok (.ireturn, 1) := by decide +kernel
abbrev cX1_nextToScan : ByteArray := prog_3_method_9_code
def yX1_nextToScan : MethodName := ⟨RX1, "nextToScan", "()LFiberHeap$Fiber;"⟩
theorem dX1_nextToScan_0 : decode cX1_nextToScan 0 = .ok (.iconst 0, 1) := by decide +kernel
theorem dX1_nextToScan_1 : decode cX1_nextToScan 1 = .ok (.istore_n 1, 1) := by decide +kernel
theorem dX1_nextToScan_2 : decode cX1_nextToScan 2 = .ok (.iload_n 1, 1) := by decide +kernel
theorem dX1_nextToScan_3 : decode cX1_nextToScan 3 = .ok (.bipush 6, 2) := by decide +kernel
theorem dX1_nextToScan_5 : decode cX1_nextToScan 5 = .ok (.if_icmp .ge 40, 3) := by decide +kernel
theorem dX1_nextToScan_8 : decode cX1_nextToScan 8 = .ok (.aload_n 0, 1) := by decide +kernel
theorem dX1_nextToScan_9 : decode cX1_nextToScan 9 = .ok (.getfield 15, 3) := by decide +kernel
theorem dX1_nextToScan_12 : decode cX1_nextToScan 12 = .ok (.iload_n 1, 1) := by decide +kernel
theorem dX1_nextToScan_13 : decode cX1_nextToScan 13 = .ok (.aaload, 1) := by decide +kernel
theorem dX1_nextToScan_14 : decode cX1_nextToScan 14 = .ok (.getfield 105, 3) := by decide +kernel
theorem dX1_nextToScan_17 : decode cX1_nextToScan 17 = .ok (.ifCond .eq 22, 3) := by decide +kernel
theorem dX1_nextToScan_20 : decode cX1_nextToScan 20 = .ok (.aload_n 0, 1) := by decide +kernel
theorem dX1_nextToScan_21 : decode cX1_nextToScan 21 = .ok (.getfield 15, 3) := by decide +kernel
theorem dX1_nextToScan_24 : decode cX1_nextToScan 24 = .ok (.iload_n 1, 1) := by decide +kernel
theorem dX1_nextToScan_25 : decode cX1_nextToScan 25 = .ok (.aaload, 1) := by decide +kernel
theorem dX1_nextToScan_26 : decode cX1_nextToScan 26 = .ok (.getfield 62, 3) := by decide +kernel
theorem dX1_nextToScan_29 : decode cX1_nextToScan 29 = .ok (.ifCond .ne 10, 3) := by decide +kernel
theorem dX1_nextToScan_32 : decode cX1_nextToScan 32 = .ok (.aload_n 0, 1) := by decide +kernel
theorem dX1_nextToScan_33 : decode cX1_nextToScan 33 = .ok (.getfield 15, 3) := by decide +kernel
theorem dX1_nextToScan_36 : decode cX1_nextToScan 36 = .ok (.iload_n 1, 1) := by decide +kernel
theorem dX1_nextToScan_37 : decode cX1_nextToScan 37 = .ok (.aaload, 1) := by decide +kernel
theorem dX1_nextToScan_38 : decode cX1_nextToScan 38 = .ok (.areturn, 1) := by decide +kernel
theorem dX1_nextToScan_39 : decode cX1_nextToScan 39 = .ok (.iinc 1 1, 3) := by decide +kernel
theorem dX1_nextToScan_42 : decode cX1_nextToScan 42 = .ok (.goto (-40), 3) := by decide +kernel
theorem dX1_nextToScan_45 : decode cX1_nextToScan 45 = .ok (.aconst_null, 1) := by decide +kernel
theorem dX1_nextToScan_46 : decode cX1_nextToScan 46 = .ok (.areturn, 1) := by decide +kernel
abbrev cX1_doPiece : ByteArray := prog_3_method_10_code
def yX1_doPiece : MethodName := ⟨RX1, "doPiece", "()V"⟩
theorem dX1_doPiece_0 : decode cX1_doPiece 0 = .ok (.aload_n 0, 1) := by decide +kernel
theorem dX1_doPiece_1 : decode cX1_doPiece 1 = .ok (.invokevirtual 101, 3) := by decide +kernel
theorem dX1_doPiece_4 : decode cX1_doPiece 4 = .ok (.astore_n 1, 1) := by decide +kernel
theorem dX1_doPiece_5 : decode cX1_doPiece 5 = .ok (.aload_n 1, 1) := by decide +kernel
theorem dX1_doPiece_6 : decode cX1_doPiece 6 = .ok (.ifnull 11, 3) := by decide +kernel
theorem dX1_doPiece_9 : decode cX1_doPiece 9 = .ok (.aload_n 0, 1) := by decide +kernel
theorem dX1_doPiece_10 : decode cX1_doPiece 10 = .ok (.aload_n 1, 1) := by decide +kernel
theorem dX1_doPiece_11 : decode cX1_doPiece 11 = .ok (.invokevirtual 108, 3) := by decide +kernel
theorem dX1_doPiece_14 : decode cX1_doPiece 14 = .ok (.goto 33, 3) := by decide +kernel
theorem dX1_doPiece_17 : decode cX1_doPiece 17 = .ok (.aload_n 0, 1) := by decide +kernel
theorem dX1_doPiece_18 : decode cX1_doPiece 18 = .ok (.getfield 27, 3) := by decide +kernel
theorem dX1_doPiece_21 : decode cX1_doPiece 21 = .ok (.ifCond .le 26, 3) := by decide +kernel
theorem dX1_doPiece_24 : decode cX1_doPiece 24 = .ok (.aload_n 0, 1) := by decide +kernel
theorem dX1_doPiece_25 : decode cX1_doPiece 25 = .ok (.dup, 1) := by decide +kernel
theorem dX1_doPiece_26 : decode cX1_doPiece 26 = .ok (.getfield 27, 3) := by decide +kernel
theorem dX1_doPiece_29 : decode cX1_doPiece 29 = .ok (.iconst 1, 1) := by decide +kernel
theorem dX1_doPiece_30 : decode cX1_doPiece 30 = .ok (.isub, 1) := by decide +kernel
theorem dX1_doPiece_31 : decode cX1_doPiece 31 = .ok (.putfield 27, 3) := by decide +kernel
theorem dX1_doPiece_34 : decode cX1_doPiece 34 = .ok (.aload_n 0, 1) := by decide +kernel
theorem dX1_doPiece_35 : decode cX1_doPiece 35 = .ok (.aload_n 0, 1) := by decide +kernel
theorem dX1_doPiece_36 : decode cX1_doPiece 36 = .ok (.getfield 23, 3) := by decide +kernel
theorem dX1_doPiece_39 : decode cX1_doPiece 39 = .ok (.aload_n 0, 1) := by decide +kernel
theorem dX1_doPiece_40 : decode cX1_doPiece 40 = .ok (.getfield 27, 3) := by decide +kernel
theorem dX1_doPiece_43 : decode cX1_doPiece 43 = .ok (.iaload, 1) := by decide +kernel
theorem dX1_doPiece_44 : decode cX1_doPiece 44 = .ok (.invokevirtual 112, 3) := by decide +kernel
theorem dX1_doPiece_47 : decode cX1_doPiece 47 = .ok (.return_, 1) := by decide +kernel
abbrev cX1_scan : ByteArray := prog_3_method_11_code
def yX1_scan : MethodName := ⟨RX1, "scan", "(LFiberHeap$Fiber;)V"⟩
theorem dX1_scan_0 : decode cX1_scan 0 = .ok (.iconst 0, 1) := by decide +kernel
theorem dX1_scan_1 : decode cX1_scan 1 = .ok (.istore_n 2, 1) := by decide +kernel
theorem dX1_scan_2 : decode cX1_scan 2 = .ok (.iload_n 2, 1) := by decide +kernel
theorem dX1_scan_3 : decode cX1_scan 3 = .ok (.aload_n 1, 1) := by decide +kernel
theorem dX1_scan_4 : decode cX1_scan 4 = .ok (.getfield 115, 3) := by decide +kernel
theorem dX1_scan_7 : decode cX1_scan 7 = .ok (.iconst 4, 1) := by decide +kernel
theorem dX1_scan_8 : decode cX1_scan 8 = .ok (.imul, 1) := by decide +kernel
theorem dX1_scan_9 : decode cX1_scan 9 = .ok (.if_icmp .ge 19, 3) := by decide +kernel
theorem dX1_scan_12 : decode cX1_scan 12 = .ok (.aload_n 0, 1) := by decide +kernel
theorem dX1_scan_13 : decode cX1_scan 13 = .ok (.aload_n 1, 1) := by decide +kernel
theorem dX1_scan_14 : decode cX1_scan 14 = .ok (.getfield 118, 3) := by decide +kernel
theorem dX1_scan_17 : decode cX1_scan 17 = .ok (.iload_n 2, 1) := by decide +kernel
theorem dX1_scan_18 : decode cX1_scan 18 = .ok (.iaload, 1) := by decide +kernel
theorem dX1_scan_19 : decode cX1_scan 19 = .ok (.invokevirtual 75, 3) := by decide +kernel
theorem dX1_scan_22 : decode cX1_scan 22 = .ok (.iinc 2 1, 3) := by decide +kernel
theorem dX1_scan_25 : decode cX1_scan 25 = .ok (.goto (-23), 3) := by decide +kernel
theorem dX1_scan_28 : decode cX1_scan 28 = .ok (.aload_n 1, 1) := by decide +kernel
theorem dX1_scan_29 : decode cX1_scan 29 = .ok (.iconst 1, 1) := by decide +kernel
theorem dX1_scan_30 : decode cX1_scan 30 = .ok (.putfield 62, 3) := by decide +kernel
theorem dX1_scan_33 : decode cX1_scan 33 = .ok (.aload_n 1, 1) := by decide +kernel
theorem dX1_scan_34 : decode cX1_scan 34 = .ok (.invokevirtual 121, 3) := by decide +kernel
theorem dX1_scan_37 : decode cX1_scan 37 = .ok (.return_, 1) := by decide +kernel
abbrev cX1_lookAt : ByteArray := prog_3_method_12_code
def yX1_lookAt : MethodName := ⟨RX1, "lookAt", "(I)V"⟩
theorem dX1_lookAt_0 : decode cX1_lookAt 0 = .ok (.aload_n 0, 1) := by decide +kernel
theorem dX1_lookAt_1 : decode cX1_lookAt 1 = .ok (.getfield 9, 3) := by decide +kernel
theorem dX1_lookAt_4 : decode cX1_lookAt 4 = .ok (.getfield 124, 3) := by decide +kernel
theorem dX1_lookAt_7 : decode cX1_lookAt 7 = .ok (.iload_n 1, 1) := by decide +kernel
theorem dX1_lookAt_8 : decode cX1_lookAt 8 = .ok (.iconst 2, 1) := by decide +kernel
theorem dX1_lookAt_9 : decode cX1_lookAt 9 = .ok (.idiv, 1) := by decide +kernel
theorem dX1_lookAt_10 : decode cX1_lookAt 10 = .ok (.iaload, 1) := by decide +kernel
theorem dX1_lookAt_11 : decode cX1_lookAt 11 = .ok (.istore_n 2, 1) := by decide +kernel
theorem dX1_lookAt_12 : decode cX1_lookAt 12 = .ok (.iconst 0, 1) := by decide +kernel
theorem dX1_lookAt_13 : decode cX1_lookAt 13 = .ok (.istore_n 3, 1) := by decide +kernel
theorem dX1_lookAt_14 : decode cX1_lookAt 14 = .ok (.iload_n 3, 1) := by decide +kernel
theorem dX1_lookAt_15 : decode cX1_lookAt 15 = .ok (.iload_n 2, 1) := by decide +kernel
theorem dX1_lookAt_16 : decode cX1_lookAt 16 = .ok (.if_icmp .ge 24, 3) := by decide +kernel
theorem dX1_lookAt_19 : decode cX1_lookAt 19 = .ok (.aload_n 0, 1) := by decide +kernel
theorem dX1_lookAt_20 : decode cX1_lookAt 20 = .ok (.aload_n 0, 1) := by decide +kernel
theorem dX1_lookAt_21 : decode cX1_lookAt 21 = .ok (.getfield 9, 3) := by decide +kernel
theorem dX1_lookAt_24 : decode cX1_lookAt 24 = .ok (.getfield 127, 3) := by decide +kernel
theorem dX1_lookAt_27 : decode cX1_lookAt 27 = .ok (.iload_n 1, 1) := by decide +kernel
theorem dX1_lookAt_28 : decode cX1_lookAt 28 = .ok (.iload_n 3, 1) := by decide +kernel
theorem dX1_lookAt_29 : decode cX1_lookAt 29 = .ok (.iadd, 1) := by decide +kernel
theorem dX1_lookAt_30 : decode cX1_lookAt 30 = .ok (.iaload, 1) := by decide +kernel
theorem dX1_lookAt_31 : decode cX1_lookAt 31 = .ok (.invokevirtual 75, 3) := by decide +kernel
theorem dX1_lookAt_34 : decode cX1_lookAt 34 = .ok (.iinc 3 1, 3) := by decide +kernel
theorem dX1_lookAt_37 : decode cX1_lookAt 37 = .ok (.goto (-23), 3) := by decide +kernel
theorem dX1_lookAt_40 : decode cX1_lookAt 40 = .ok (.return_, 1) := by decide +kernel
abbrev cX1_endMarking : ByteArray := prog_3_method_13_code
def yX1_endMarking : MethodName := ⟨RX1, "endMarking", "()V"⟩
theorem dX1_endMarking_0 : decode cX1_endMarking 0 = .ok (.aload_n 0, 1) := by decide +kernel
theorem dX1_endMarking_1 : decode cX1_endMarking 1 = .ok (.iconst 0, 1) := by decide +kernel
theorem dX1_endMarking_2 : decode cX1_endMarking 2 = .ok (.putfield 31, 3) := by decide +kernel
theorem dX1_endMarking_5 : decode cX1_endMarking 5 = .ok (.aload_n 0, 1) := by decide +kernel
theorem dX1_endMarking_6 : decode cX1_endMarking 6 = .ok (.getfield 9, 3) := by decide +kernel
theorem dX1_endMarking_9 : decode cX1_endMarking 9 = .ok (.invokevirtual 130, 3) := by decide +kernel
theorem dX1_endMarking_12 : decode cX1_endMarking 12 = .ok (.aload_n 0, 1) := by decide +kernel
theorem dX1_endMarking_13 : decode cX1_endMarking 13 = .ok (.iconst 0, 1) := by decide +kernel
theorem dX1_endMarking_14 : decode cX1_endMarking 14 = .ok (.putfield 41, 3) := by decide +kernel
theorem dX1_endMarking_17 : decode cX1_endMarking 17 = .ok (.aload_n 0, 1) := by decide +kernel
theorem dX1_endMarking_18 : decode cX1_endMarking 18 = .ok (.bipush 64, 2) := by decide +kernel
theorem dX1_endMarking_20 : decode cX1_endMarking 20 = .ok (.aload_n 0, 1) := by decide +kernel
theorem dX1_endMarking_21 : decode cX1_endMarking 21 = .ok (.getfield 9, 3) := by decide +kernel
theorem dX1_endMarking_24 : decode cX1_endMarking 24 = .ok (.invokevirtual 133, 3) := by decide +kernel
theorem dX1_endMarking_27 : decode cX1_endMarking 27 = .ok (.iconst 2, 1) := by decide +kernel
theorem dX1_endMarking_28 : decode cX1_endMarking 28 = .ok (.idiv, 1) := by decide +kernel
theorem dX1_endMarking_29 : decode cX1_endMarking 29 = .ok (.invokestatic 137, 3) := by decide +kernel
theorem dX1_endMarking_32 : decode cX1_endMarking 32 = .ok (.putfield 44, 3) := by decide +kernel
theorem dX1_endMarking_35 : decode cX1_endMarking 35 = .ok (.return_, 1) := by decide +kernel
end
section
def RX2 : String := "FiberHeap$Fiber"
def TX2 : u_T := fun k => match k with
  | 0 => ("FiberHeap$Fiber", "cells", "[I", true)
  | 1 => ("FiberHeap$Fiber", "refs", "[I", true)
  | 2 => ("FiberHeap$Fiber", "state", "I", false)
  | 3 => ("FiberHeap$Fiber", "frames", "I", false)
  | 4 => ("FiberHeap$Fiber", "room", "I", false)
  | 5 => ("FiberHeap$Fiber", "copied", "I", false)
  | 6 => ("FiberHeap$Fiber", "scanned", "Z", false)
  | 7 => ("FiberHeap$Fiber", "tookFrom", "I", false)
  | 8 => ("FiberHeap$Fiber", "waitCell", "I", false)
  | 9 => ("FiberHeap$Fiber", "waitChannel", "I", false)
  | 10 => ("FiberHeap$Fiber", "otherWaitChannel", "I", false)
  | _ => ("FiberHeap$Fiber", "ticket", "I", false)
def tyX2 : Nat → FieldType := fun k => match k with
  | 0 => .array .int
  | 1 => .array .int
  | 2 => .int
  | 3 => .int
  | 4 => .int
  | 5 => .int
  | 6 => .boolean
  | 7 => .int
  | 8 => .int
  | 9 => .int
  | 10 => .int
  | _ => .int
theorem nmX2 : ∀ a, a < 12 → ∀ b, b < 12 → a ≠ b → (TX2 a).2.1 ≠ (TX2 b).2.1 := by decide +kernel
theorem tyX2_ok : ∀ k, k < 12 → parseFieldDescriptor (TX2 k).2.2.1 = some (tyX2 k) := by decide +kernel
abbrev cX2_init : ByteArray := prog_4_method_1_code
def yX2_init : MethodName := ⟨RX2, "<init>", "()V"⟩
theorem dX2_init_0 : decode cX2_init 0 = .ok (.aload_n 0, 1) := by decide +kernel
theorem dX2_init_1 : decode cX2_init 1 = .ok (.invokespecial 3, 3) := by decide +kernel
theorem dX2_init_4 : decode cX2_init 4 = .ok (.aload_n 0, 1) := by decide +kernel
theorem dX2_init_5 : decode cX2_init 5 = .ok (.bipush 64, 2) := by decide +kernel
theorem dX2_init_7 : decode cX2_init 7 = .ok (.newarray .int, 2) := by decide +kernel
theorem dX2_init_9 : decode cX2_init 9 = .ok (.putfield 9, 3) := by decide +kernel
theorem dX2_init_12 : decode cX2_init 12 = .ok (.aload_n 0, 1) := by decide +kernel
theorem dX2_init_13 : decode cX2_init 13 = .ok (.bipush 16, 2) := by decide +kernel
theorem dX2_init_15 : decode cX2_init 15 = .ok (.newarray .int, 2) := by decide +kernel
theorem dX2_init_17 : decode cX2_init 17 = .ok (.putfield 15, 3) := by decide +kernel
theorem dX2_init_20 : decode cX2_init 20 = .ok (.aload_n 0, 1) := by decide +kernel
theorem dX2_init_21 : decode cX2_init 21 = .ok (.iconst 0, 1) := by decide +kernel
theorem dX2_init_22 : decode cX2_init 22 = .ok (.putfield 18, 3) := by decide +kernel
theorem dX2_init_25 : decode cX2_init 25 = .ok (.aload_n 0, 1) := by decide +kernel
theorem dX2_init_26 : decode cX2_init 26 = .ok (.iconst 1, 1) := by decide +kernel
theorem dX2_init_27 : decode cX2_init 27 = .ok (.putfield 22, 3) := by decide +kernel
theorem dX2_init_30 : decode cX2_init 30 = .ok (.aload_n 0, 1) := by decide +kernel
theorem dX2_init_31 : decode cX2_init 31 = .ok (.iconst 2, 1) := by decide +kernel
theorem dX2_init_32 : decode cX2_init 32 = .ok (.putfield 25, 3) := by decide +kernel
theorem dX2_init_35 : decode cX2_init 35 = .ok (.aload_n 0, 1) := by decide +kernel
theorem dX2_init_36 : decode cX2_init 36 = .ok (.iconst (-1), 1) := by decide +kernel
theorem dX2_init_37 : decode cX2_init 37 = .ok (.putfield 28, 3) := by decide +kernel
theorem dX2_init_40 : decode cX2_init 40 = .ok (.return_, 1) := by decide +kernel
abbrev cX2_beginToLive : ByteArray := prog_4_method_2_code
def yX2_beginToLive : MethodName := ⟨RX2, "beginToLive", "(I)V"⟩
theorem dX2_beginToLive_0 : decode cX2_beginToLive 0 = .ok (.aload_n 0, 1) := by decide +kernel
theorem dX2_beginToLive_1 : decode cX2_beginToLive 1 = .ok (.iconst 1, 1) := by decide +kernel
theorem dX2_beginToLive_2 : decode cX2_beginToLive 2 = .ok (.putfield 18, 3) := by decide +kernel
theorem dX2_beginToLive_5 : decode cX2_beginToLive 5 = .ok (.aload_n 0, 1) := by decide +kernel
theorem dX2_beginToLive_6 : decode cX2_beginToLive 6 = .ok (.iconst 1, 1) := by decide +kernel
theorem dX2_beginToLive_7 : decode cX2_beginToLive 7 = .ok (.putfield 22, 3) := by decide +kernel
theorem dX2_beginToLive_10 : decode cX2_beginToLive 10 = .ok (.aload_n 0, 1) := by decide +kernel
theorem dX2_beginToLive_11 : decode cX2_beginToLive 11 = .ok (.iconst 2, 1) := by decide +kernel
theorem dX2_beginToLive_12 : decode cX2_beginToLive 12 = .ok (.putfield 25, 3) := by decide +kernel
theorem dX2_beginToLive_15 : decode cX2_beginToLive 15 = .ok (.aload_n 0, 1) := by decide +kernel
theorem dX2_beginToLive_16 : decode cX2_beginToLive 16 = .ok (.iconst 0, 1) := by decide +kernel
theorem dX2_beginToLive_17 : decode cX2_beginToLive 17 = .ok (.putfield 31, 3) := by decide +kernel
theorem dX2_beginToLive_20 : decode cX2_beginToLive 20 = .ok (.aload_n 0, 1) := by decide +kernel
theorem dX2_beginToLive_21 : decode cX2_beginToLive 21 = .ok (.iconst (-1), 1) := by decide +kernel
theorem dX2_beginToLive_22 : decode cX2_beginToLive 22 = .ok (.putfield 28, 3) := by decide +kernel
theorem dX2_beginToLive_25 : decode cX2_beginToLive 25 = .ok (.aload_n 0, 1) := by decide +kernel
theorem dX2_beginToLive_26 : decode cX2_beginToLive 26 = .ok (.getfield 9, 3) := by decide +kernel
theorem dX2_beginToLive_29 : decode cX2_beginToLive 29 = .ok (.iconst 0, 1) := by decide +kernel
theorem dX2_beginToLive_30 : decode cX2_beginToLive 30 = .ok (.iload_n 1, 1) := by decide +kernel
theorem dX2_beginToLive_31 : decode cX2_beginToLive 31 = .ok (.iastore, 1) := by decide +kernel
theorem dX2_beginToLive_32 : decode cX2_beginToLive 32 = .ok (.iconst 1, 1) := by decide +kernel
theorem dX2_beginToLive_33 : decode cX2_beginToLive 33 = .ok (.istore_n 2, 1) := by decide +kernel
theorem dX2_beginToLive_34 : decode cX2_beginToLive 34 = .ok (.iload_n 2, 1) := by decide +kernel
theorem dX2_beginToLive_35 : decode cX2_beginToLive 35 = .ok (.iconst 4, 1) := by decide +kernel
theorem dX2_beginToLive_36 : decode cX2_beginToLive 36 = .ok (.if_icmp .ge 16, 3) := by decide +kernel
theorem dX2_beginToLive_39 : decode cX2_beginToLive 39 = .ok (.aload_n 0, 1) := by decide +kernel
theorem dX2_beginToLive_40 : decode cX2_beginToLive 40 = .ok (.getfield 9, 3) := by decide +kernel
theorem dX2_beginToLive_43 : decode cX2_beginToLive 43 = .ok (.iload_n 2, 1) := by decide +kernel
theorem dX2_beginToLive_44 : decode cX2_beginToLive 44 = .ok (.iconst (-1), 1) := by decide +kernel
theorem dX2_beginToLive_45 : decode cX2_beginToLive 45 = .ok (.iastore, 1) := by decide +kernel
theorem dX2_beginToLive_46 : decode cX2_beginToLive 46 = .ok (.iinc 2 1, 3) := by decide +kernel
theorem dX2_beginToLive_49 : decode cX2_beginToLive 49 = .ok (.goto (-15), 3) := by decide +kernel
theorem dX2_beginToLive_52 : decode cX2_beginToLive 52 = .ok (.aload_n 0, 1) := by decide +kernel
theorem dX2_beginToLive_53 : decode cX2_beginToLive 53 = .ok (.getfield 15, 3) := by decide +kernel
theorem dX2_beginToLive_56 : decode cX2_beginToLive 56 = .ok (.iconst 0, 1) := by decide +kernel
theorem dX2_beginToLive_57 : decode cX2_beginToLive 57 = .ok (.iconst (-1), 1) := by decide +kernel
theorem dX2_beginToLive_58 : decode cX2_beginToLive 58 = .ok (.iastore, 1) := by decide +kernel
theorem dX2_beginToLive_59 : decode cX2_beginToLive 59 = .ok (.return_, 1) := by decide +kernel
abbrev cX2_cellIndex : ByteArray := prog_4_method_3_code
def yX2_cellIndex : MethodName := ⟨RX2, "cellIndex", "(I)I"⟩
theorem dX2_cellIndex_0 : decode cX2_cellIndex 0 = .ok (.iload_n 1, 1) := by decide +kernel
theorem dX2_cellIndex_1 : decode cX2_cellIndex 1 = .ok (.ifCond .lt 19, 3) := by decide +kernel
theorem dX2_cellIndex_4 : decode cX2_cellIndex 4 = .ok (.iload_n 1, 1) := by decide +kernel
theorem dX2_cellIndex_5 : decode cX2_cellIndex 5 = .ok (.iconst 4, 1) := by decide +kernel
theorem dX2_cellIndex_6 : decode cX2_cellIndex 6 = .ok (.if_icmp .ge 14, 3) := by decide +kernel
theorem dX2_cellIndex_9 : decode cX2_cellIndex 9 = .ok (.aload_n 0, 1) := by decide +kernel
theorem dX2_cellIndex_10 : decode cX2_cellIndex 10 = .ok (.getfield 22, 3) := by decide +kernel
theorem dX2_cellIndex_13 : decode cX2_cellIndex 13 = .ok (.iconst 1, 1) := by decide +kernel
theorem dX2_cellIndex_14 : decode cX2_cellIndex 14 = .ok (.isub, 1) := by decide +kernel
theorem dX2_cellIndex_15 : decode cX2_cellIndex 15 = .ok (.iconst 4, 1) := by decide +kernel
theorem dX2_cellIndex_16 : decode cX2_cellIndex 16 = .ok (.imul, 1) := by decide +kernel
theorem dX2_cellIndex_17 : decode cX2_cellIndex 17 = .ok (.iload_n 1, 1) := by decide +kernel
theorem dX2_cellIndex_18 : decode cX2_cellIndex 18 = .ok (.iadd, 1) := by decide +kernel
theorem dX2_cellIndex_19 : decode cX2_cellIndex 19 = .ok (.ireturn, 1) := by decide +kernel
theorem dX2_cellIndex_20 : decode cX2_cellIndex 20 = .ok (.iload_n 1, 1) := by decide +kernel
theorem dX2_cellIndex_21 : decode cX2_cellIndex 21 = .ok (.iconst 4, 1) := by decide +kernel
theorem dX2_cellIndex_22 : decode cX2_cellIndex 22 = .ok (.if_icmp .ne 17, 3) := by decide +kernel
theorem dX2_cellIndex_25 : decode cX2_cellIndex 25 = .ok (.aload_n 0, 1) := by decide +kernel
theorem dX2_cellIndex_26 : decode cX2_cellIndex 26 = .ok (.getfield 15, 3) := by decide +kernel
theorem dX2_cellIndex_29 : decode cX2_cellIndex 29 = .ok (.aload_n 0, 1) := by decide +kernel
theorem dX2_cellIndex_30 : decode cX2_cellIndex 30 = .ok (.getfield 22, 3) := by decide +kernel
theorem dX2_cellIndex_33 : decode cX2_cellIndex 33 = .ok (.iconst 1, 1) := by decide +kernel
theorem dX2_cellIndex_34 : decode cX2_cellIndex 34 = .ok (.isub, 1) := by decide +kernel
theorem dX2_cellIndex_35 : decode cX2_cellIndex 35 = .ok (.iaload, 1) := by decide +kernel
theorem dX2_cellIndex_36 : decode cX2_cellIndex 36 = .ok (.goto 4, 3) := by decide +kernel
theorem dX2_cellIndex_39 : decode cX2_cellIndex 39 = .ok (.iconst (-1), 1) := by decide +kernel
theorem dX2_cellIndex_40 : decode cX2_cellIndex 40 = .ok (.ireturn, 1) := by decide +kernel
abbrev cX2_isCell : ByteArray := prog_4_method_4_code
def yX2_isCell : MethodName := ⟨RX2, "isCell", "(I)Z"⟩
theorem dX2_isCell_0 : decode cX2_isCell 0 = .ok (.aload_n 0, 1) := by decide +kernel
theorem dX2_isCell_1 : decode cX2_isCell 1 = .ok (.iload_n 1, 1) := by decide +kernel
theorem dX2_isCell_2 : decode cX2_isCell 2 = .ok (.invokevirtual 35, 3) := by decide +kernel
theorem dX2_isCell_5 : decode cX2_isCell 5 = .ok (.iconst (-1), 1) := by decide +kernel
theorem dX2_isCell_6 : decode cX2_isCell 6 = .ok (.if_icmp .eq 7, 3) := by decide +kernel
theorem dX2_isCell_9 : decode cX2_isCell 9 = .ok (.iconst 1, 1) := by decide +kernel
theorem dX2_isCell_10 : decode cX2_isCell 10 = .ok (.goto 4, 3) := by decide +kernel
theorem dX2_isCell_13 : decode cX2_isCell 13 = .ok (.iconst 0, 1) := by decide +kernel
theorem dX2_isCell_14 : decode cX2_isCell 14 = .ok (.ireturn, 1) := by decide +kernel
abbrev cX2_isSource : ByteArray := prog_4_method_5_code
def yX2_isSource : MethodName := ⟨RX2, "isSource", "(I)Z"⟩
theorem dX2_isSource_0 : decode cX2_isSource 0 = .ok (.iload_n 1, 1) := by decide +kernel
theorem dX2_isSource_1 : decode cX2_isSource 1 = .ok (.iconst (-1), 1) := by decide +kernel
theorem dX2_isSource_2 : decode cX2_isSource 2 = .ok (.if_icmp .eq 11, 3) := by decide +kernel
theorem dX2_isSource_5 : decode cX2_isSource 5 = .ok (.aload_n 0, 1) := by decide +kernel
theorem dX2_isSource_6 : decode cX2_isSource 6 = .ok (.iload_n 1, 1) := by decide +kernel
theorem dX2_isSource_7 : decode cX2_isSource 7 = .ok (.invokevirtual 39, 3) := by decide +kernel
theorem dX2_isSource_10 : decode cX2_isSource 10 = .ok (.ifCond .eq 7, 3) := by decide +kernel
theorem dX2_isSource_13 : decode cX2_isSource 13 = .ok (.iconst 1, 1) := by decide +kernel
theorem dX2_isSource_14 : decode cX2_isSource 14 = .ok (.goto 4, 3) := by decide +kernel
theorem dX2_isSource_17 : decode cX2_isSource 17 = .ok (.iconst 0, 1) := by decide +kernel
theorem dX2_isSource_18 : decode cX2_isSource 18 = .ok (.ireturn, 1) := by decide +kernel
abbrev cX2_pointerFrom : ByteArray := prog_4_method_6_code
def yX2_pointerFrom : MethodName := ⟨RX2, "pointerFrom", "(I)I"⟩
theorem dX2_pointerFrom_0 : decode cX2_pointerFrom 0 = .ok (.aload_n 0, 1) := by decide +kernel
theorem dX2_pointerFrom_1 : decode cX2_pointerFrom 1 = .ok (.iload_n 1, 1) := by decide +kernel
theorem dX2_pointerFrom_2 : decode cX2_pointerFrom 2 = .ok (.invokevirtual 35, 3) := by decide +kernel
theorem dX2_pointerFrom_5 : decode cX2_pointerFrom 5 = .ok (.istore_n 2, 1) := by decide +kernel
theorem dX2_pointerFrom_6 : decode cX2_pointerFrom 6 = .ok (.iload_n 2, 1) := by decide +kernel
theorem dX2_pointerFrom_7 : decode cX2_pointerFrom 7 = .ok (.iconst (-1), 1) := by decide +kernel
theorem dX2_pointerFrom_8 : decode cX2_pointerFrom 8 = .ok (.if_icmp .ne 7, 3) := by decide +kernel
theorem dX2_pointerFrom_11 : decode cX2_pointerFrom 11 = .ok (.iconst (-1), 1) := by decide +kernel
theorem dX2_pointerFrom_12 : decode cX2_pointerFrom 12 = .ok (.goto 9, 3) := by decide +kernel
theorem dX2_pointerFrom_15 : decode cX2_pointerFrom 15 = .ok (.aload_n 0, 1) := by decide +kernel
theorem dX2_pointerFrom_16 : decode cX2_pointerFrom 16 = .ok (.getfield 9, 3) := by decide +kernel
theorem dX2_pointerFrom_19 : decode cX2_pointerFrom 19 = .ok (.iload_n 2, 1) := by decide +kernel
theorem dX2_pointerFrom_20 : decode cX2_pointerFrom 20 = .ok (.iaload, 1) := by decide +kernel
theorem dX2_pointerFrom_21 : decode cX2_pointerFrom 21 = .ok (.ireturn, 1) := by decide +kernel
abbrev cX2_fillCell : ByteArray := prog_4_method_7_code
def yX2_fillCell : MethodName := ⟨RX2, "fillCell", "(II)V"⟩
theorem dX2_fillCell_0 : decode cX2_fillCell 0 = .ok (.aload_n 0, 1) := by decide +kernel
theorem dX2_fillCell_1 : decode cX2_fillCell 1 = .ok (.iload_n 1, 1) := by decide +kernel
theorem dX2_fillCell_2 : decode cX2_fillCell 2 = .ok (.invokevirtual 35, 3) := by decide +kernel
theorem dX2_fillCell_5 : decode cX2_fillCell 5 = .ok (.istore_n 3, 1) := by decide +kernel
theorem dX2_fillCell_6 : decode cX2_fillCell 6 = .ok (.iload_n 3, 1) := by decide +kernel
theorem dX2_fillCell_7 : decode cX2_fillCell 7 = .ok (.iconst (-1), 1) := by decide +kernel
theorem dX2_fillCell_8 : decode cX2_fillCell 8 = .ok (.if_icmp .eq 10, 3) := by decide +kernel
theorem dX2_fillCell_11 : decode cX2_fillCell 11 = .ok (.aload_n 0, 1) := by decide +kernel
theorem dX2_fillCell_12 : decode cX2_fillCell 12 = .ok (.getfield 9, 3) := by decide +kernel
theorem dX2_fillCell_15 : decode cX2_fillCell 15 = .ok (.iload_n 3, 1) := by decide +kernel
theorem dX2_fillCell_16 : decode cX2_fillCell 16 = .ok (.iload_n 2, 1) := by decide +kernel
theorem dX2_fillCell_17 : decode cX2_fillCell 17 = .ok (.iastore, 1) := by decide +kernel
theorem dX2_fillCell_18 : decode cX2_fillCell 18 = .ok (.return_, 1) := by decide +kernel
abbrev cX2_addFrame : ByteArray := prog_4_method_8_code
def yX2_addFrame : MethodName := ⟨RX2, "addFrame", "()V"⟩
theorem dX2_addFrame_0 : decode cX2_addFrame 0 = .ok (.aload_n 0, 1) := by decide +kernel
theorem dX2_addFrame_1 : decode cX2_addFrame 1 = .ok (.getfield 22, 3) := by decide +kernel
theorem dX2_addFrame_4 : decode cX2_addFrame 4 = .ok (.aload_n 0, 1) := by decide +kernel
theorem dX2_addFrame_5 : decode cX2_addFrame 5 = .ok (.getfield 25, 3) := by decide +kernel
theorem dX2_addFrame_8 : decode cX2_addFrame 8 = .ok (.if_icmp .ne 13, 3) := by decide +kernel
theorem dX2_addFrame_11 : decode cX2_addFrame 11 = .ok (.aload_n 0, 1) := by decide +kernel
theorem dX2_addFrame_12 : decode cX2_addFrame 12 = .ok (.aload_n 0, 1) := by decide +kernel
theorem dX2_addFrame_13 : decode cX2_addFrame 13 = .ok (.getfield 25, 3) := by decide +kernel
theorem dX2_addFrame_16 : decode cX2_addFrame 16 = .ok (.iconst 2, 1) := by decide +kernel
theorem dX2_addFrame_17 : decode cX2_addFrame 17 = .ok (.imul, 1) := by decide +kernel
theorem dX2_addFrame_18 : decode cX2_addFrame 18 = .ok (.invokevirtual 43, 3) := by decide +kernel
theorem dX2_addFrame_21 : decode cX2_addFrame 21 = .ok (.aload_n 0, 1) := by decide +kernel
theorem dX2_addFrame_22 : decode cX2_addFrame 22 = .ok (.getfield 9, 3) := by decide +kernel
theorem dX2_addFrame_25 : decode cX2_addFrame 25 = .ok (.aload_n 0, 1) := by decide +kernel
theorem dX2_addFrame_26 : decode cX2_addFrame 26 = .ok (.getfield 22, 3) := by decide +kernel
theorem dX2_addFrame_29 : decode cX2_addFrame 29 = .ok (.iconst 1, 1) := by decide +kernel
theorem dX2_addFrame_30 : decode cX2_addFrame 30 = .ok (.isub, 1) := by decide +kernel
theorem dX2_addFrame_31 : decode cX2_addFrame 31 = .ok (.iconst 4, 1) := by decide +kernel
theorem dX2_addFrame_32 : decode cX2_addFrame 32 = .ok (.imul, 1) := by decide +kernel
theorem dX2_addFrame_33 : decode cX2_addFrame 33 = .ok (.aload_n 0, 1) := by decide +kernel
theorem dX2_addFrame_34 : decode cX2_addFrame 34 = .ok (.getfield 9, 3) := by decide +kernel
theorem dX2_addFrame_37 : decode cX2_addFrame 37 = .ok (.aload_n 0, 1) := by decide +kernel
theorem dX2_addFrame_38 : decode cX2_addFrame 38 = .ok (.getfield 22, 3) := by decide +kernel
theorem dX2_addFrame_41 : decode cX2_addFrame 41 = .ok (.iconst 4, 1) := by decide +kernel
theorem dX2_addFrame_42 : decode cX2_addFrame 42 = .ok (.imul, 1) := by decide +kernel
theorem dX2_addFrame_43 : decode cX2_addFrame 43 = .ok (.iconst 4, 1) := by decide +kernel
theorem dX2_addFrame_44 : decode cX2_addFrame 44 = .ok (.invokestatic 47, 3) := by decide +kernel
theorem dX2_addFrame_47 : decode cX2_addFrame 47 = .ok (.aload_n 0, 1) := by decide +kernel
theorem dX2_addFrame_48 : decode cX2_addFrame 48 = .ok (.getfield 15, 3) := by decide +kernel
theorem dX2_addFrame_51 : decode cX2_addFrame 51 = .ok (.aload_n 0, 1) := by decide +kernel
theorem dX2_addFrame_52 : decode cX2_addFrame 52 = .ok (.getfield 22, 3) := by decide +kernel
theorem dX2_addFrame_55 : decode cX2_addFrame 55 = .ok (.aload_n 0, 1) := by decide +kernel
theorem dX2_addFrame_56 : decode cX2_addFrame 56 = .ok (.getfield 15, 3) := by decide +kernel
theorem dX2_addFrame_59 : decode cX2_addFrame 59 = .ok (.aload_n 0, 1) := by decide +kernel
theorem dX2_addFrame_60 : decode cX2_addFrame 60 = .ok (.getfield 22, 3) := by decide +kernel
theorem dX2_addFrame_63 : decode cX2_addFrame 63 = .ok (.iconst 1, 1) := by decide +kernel
theorem dX2_addFrame_64 : decode cX2_addFrame 64 = .ok (.isub, 1) := by decide +kernel
theorem dX2_addFrame_65 : decode cX2_addFrame 65 = .ok (.iaload, 1) := by decide +kernel
theorem dX2_addFrame_66 : decode cX2_addFrame 66 = .ok (.iastore, 1) := by decide +kernel
theorem dX2_addFrame_67 : decode cX2_addFrame 67 = .ok (.aload_n 0, 1) := by decide +kernel
theorem dX2_addFrame_68 : decode cX2_addFrame 68 = .ok (.dup, 1) := by decide +kernel
theorem dX2_addFrame_69 : decode cX2_addFrame 69 = .ok (.getfield 22, 3) := by decide +kernel
theorem dX2_addFrame_72 : decode cX2_addFrame 72 = .ok (.iconst 1, 1) := by decide +kernel
theorem dX2_addFrame_73 : decode cX2_addFrame 73 = .ok (.iadd, 1) := by decide +kernel
theorem dX2_addFrame_74 : decode cX2_addFrame 74 = .ok (.putfield 22, 3) := by decide +kernel
theorem dX2_addFrame_77 : decode cX2_addFrame 77 = .ok (.return_, 1) := by decide +kernel
abbrev cX2_dropFrame : ByteArray := prog_4_method_9_code
def yX2_dropFrame : MethodName := ⟨RX2, "dropFrame", "()V"⟩
theorem dX2_dropFrame_0 : decode cX2_dropFrame 0 = .ok (.aload_n 0, 1) := by decide +kernel
theorem dX2_dropFrame_1 : decode cX2_dropFrame 1 = .ok (.getfield 9, 3) := by decide +kernel
theorem dX2_dropFrame_4 : decode cX2_dropFrame 4 = .ok (.aload_n 0, 1) := by decide +kernel
theorem dX2_dropFrame_5 : decode cX2_dropFrame 5 = .ok (.getfield 22, 3) := by decide +kernel
theorem dX2_dropFrame_8 : decode cX2_dropFrame 8 = .ok (.iconst 1, 1) := by decide +kernel
theorem dX2_dropFrame_9 : decode cX2_dropFrame 9 = .ok (.isub, 1) := by decide +kernel
theorem dX2_dropFrame_10 : decode cX2_dropFrame 10 = .ok (.iconst 4, 1) := by decide +kernel
theorem dX2_dropFrame_11 : decode cX2_dropFrame 11 = .ok (.imul, 1) := by decide +kernel
theorem dX2_dropFrame_12 : decode cX2_dropFrame 12 = .ok (.iaload, 1) := by decide +kernel
theorem dX2_dropFrame_13 : decode cX2_dropFrame 13 = .ok (.istore_n 1, 1) := by decide +kernel
theorem dX2_dropFrame_14 : decode cX2_dropFrame 14 = .ok (.aload_n 0, 1) := by decide +kernel
theorem dX2_dropFrame_15 : decode cX2_dropFrame 15 = .ok (.dup, 1) := by decide +kernel
theorem dX2_dropFrame_16 : decode cX2_dropFrame 16 = .ok (.getfield 22, 3) := by decide +kernel
theorem dX2_dropFrame_19 : decode cX2_dropFrame 19 = .ok (.iconst 1, 1) := by decide +kernel
theorem dX2_dropFrame_20 : decode cX2_dropFrame 20 = .ok (.isub, 1) := by decide +kernel
theorem dX2_dropFrame_21 : decode cX2_dropFrame 21 = .ok (.putfield 22, 3) := by decide +kernel
theorem dX2_dropFrame_24 : decode cX2_dropFrame 24 = .ok (.aload_n 0, 1) := by decide +kernel
theorem dX2_dropFrame_25 : decode cX2_dropFrame 25 = .ok (.getfield 9, 3) := by decide +kernel
theorem dX2_dropFrame_28 : decode cX2_dropFrame 28 = .ok (.aload_n 0, 1) := by decide +kernel
theorem dX2_dropFrame_29 : decode cX2_dropFrame 29 = .ok (.getfield 22, 3) := by decide +kernel
theorem dX2_dropFrame_32 : decode cX2_dropFrame 32 = .ok (.iconst 1, 1) := by decide +kernel
theorem dX2_dropFrame_33 : decode cX2_dropFrame 33 = .ok (.isub, 1) := by decide +kernel
theorem dX2_dropFrame_34 : decode cX2_dropFrame 34 = .ok (.iconst 4, 1) := by decide +kernel
theorem dX2_dropFrame_35 : decode cX2_dropFrame 35 = .ok (.imul, 1) := by decide +kernel
theorem dX2_dropFrame_36 : decode cX2_dropFrame 36 = .ok (.iload_n 1, 1) := by decide +kernel
theorem dX2_dropFrame_37 : decode cX2_dropFrame 37 = .ok (.iastore, 1) := by decide +kernel
theorem dX2_dropFrame_38 : decode cX2_dropFrame 38 = .ok (.return_, 1) := by decide +kernel
abbrev cX2_shrinkRoom : ByteArray := prog_4_method_10_code
def yX2_shrinkRoom : MethodName := ⟨RX2, "shrinkRoom", "()V"⟩
theorem dX2_shrinkRoom_0 : decode cX2_shrinkRoom 0 = .ok (.aload_n 0, 1) := by decide +kernel
theorem dX2_shrinkRoom_1 : decode cX2_shrinkRoom 1 = .ok (.getfield 25, 3) := by decide +kernel
theorem dX2_shrinkRoom_4 : decode cX2_shrinkRoom 4 = .ok (.iconst 2, 1) := by decide +kernel
theorem dX2_shrinkRoom_5 : decode cX2_shrinkRoom 5 = .ok (.if_icmp .le 26, 3) := by decide +kernel
theorem dX2_shrinkRoom_8 : decode cX2_shrinkRoom 8 = .ok (.aload_n 0, 1) := by decide +kernel
theorem dX2_shrinkRoom_9 : decode cX2_shrinkRoom 9 = .ok (.getfield 22, 3) := by decide +kernel
theorem dX2_shrinkRoom_12 : decode cX2_shrinkRoom 12 = .ok (.iconst 4, 1) := by decide +kernel
theorem dX2_shrinkRoom_13 : decode cX2_shrinkRoom 13 = .ok (.imul, 1) := by decide +kernel
theorem dX2_shrinkRoom_14 : decode cX2_shrinkRoom 14 = .ok (.aload_n 0, 1) := by decide +kernel
theorem dX2_shrinkRoom_15 : decode cX2_shrinkRoom 15 = .ok (.getfield 25, 3) := by decide +kernel
theorem dX2_shrinkRoom_18 : decode cX2_shrinkRoom 18 = .ok (.if_icmp .gt 13, 3) := by decide +kernel
theorem dX2_shrinkRoom_21 : decode cX2_shrinkRoom 21 = .ok (.aload_n 0, 1) := by decide +kernel
theorem dX2_shrinkRoom_22 : decode cX2_shrinkRoom 22 = .ok (.aload_n 0, 1) := by decide +kernel
theorem dX2_shrinkRoom_23 : decode cX2_shrinkRoom 23 = .ok (.getfield 25, 3) := by decide +kernel
theorem dX2_shrinkRoom_26 : decode cX2_shrinkRoom 26 = .ok (.iconst 2, 1) := by decide +kernel
theorem dX2_shrinkRoom_27 : decode cX2_shrinkRoom 27 = .ok (.idiv, 1) := by decide +kernel
theorem dX2_shrinkRoom_28 : decode cX2_shrinkRoom 28 = .ok (.invokevirtual 43, 3) := by decide +kernel
theorem dX2_shrinkRoom_31 : decode cX2_shrinkRoom 31 = .ok (.return_, 1) := by decide +kernel
abbrev cX2_moveTo : ByteArray := prog_4_method_11_code
def yX2_moveTo : MethodName := ⟨RX2, "moveTo", "(I)V"⟩
theorem dX2_moveTo_0 : decode cX2_moveTo 0 = .ok (.aload_n 0, 1) := by decide +kernel
theorem dX2_moveTo_1 : decode cX2_moveTo 1 = .ok (.iload_n 1, 1) := by decide +kernel
theorem dX2_moveTo_2 : decode cX2_moveTo 2 = .ok (.putfield 25, 3) := by decide +kernel
theorem dX2_moveTo_5 : decode cX2_moveTo 5 = .ok (.aload_n 0, 1) := by decide +kernel
theorem dX2_moveTo_6 : decode cX2_moveTo 6 = .ok (.dup, 1) := by decide +kernel
theorem dX2_moveTo_7 : decode cX2_moveTo 7 = .ok (.getfield 53, 3) := by decide +kernel
theorem dX2_moveTo_10 : decode cX2_moveTo 10 = .ok (.aload_n 0, 1) := by decide +kernel
theorem dX2_moveTo_11 : decode cX2_moveTo 11 = .ok (.getfield 22, 3) := by decide +kernel
theorem dX2_moveTo_14 : decode cX2_moveTo 14 = .ok (.iadd, 1) := by decide +kernel
theorem dX2_moveTo_15 : decode cX2_moveTo 15 = .ok (.putfield 53, 3) := by decide +kernel
theorem dX2_moveTo_18 : decode cX2_moveTo 18 = .ok (.return_, 1) := by decide +kernel
abbrev cX2_beginToWait : ByteArray := prog_4_method_12_code
def yX2_beginToWait : MethodName := ⟨RX2, "beginToWait", "(IIIII)V"⟩
theorem dX2_beginToWait_0 : decode cX2_beginToWait 0 = .ok (.aload_n 0, 1) := by decide +kernel
theorem dX2_beginToWait_1 : decode cX2_beginToWait 1 = .ok (.iload_n 1, 1) := by decide +kernel
theorem dX2_beginToWait_2 : decode cX2_beginToWait 2 = .ok (.putfield 18, 3) := by decide +kernel
theorem dX2_beginToWait_5 : decode cX2_beginToWait 5 = .ok (.aload_n 0, 1) := by decide +kernel
theorem dX2_beginToWait_6 : decode cX2_beginToWait 6 = .ok (.aload_n 0, 1) := by decide +kernel
theorem dX2_beginToWait_7 : decode cX2_beginToWait 7 = .ok (.iload_n 2, 1) := by decide +kernel
theorem dX2_beginToWait_8 : decode cX2_beginToWait 8 = .ok (.invokevirtual 35, 3) := by decide +kernel
theorem dX2_beginToWait_11 : decode cX2_beginToWait 11 = .ok (.putfield 56, 3) := by decide +kernel
theorem dX2_beginToWait_14 : decode cX2_beginToWait 14 = .ok (.aload_n 0, 1) := by decide +kernel
theorem dX2_beginToWait_15 : decode cX2_beginToWait 15 = .ok (.iload_n 3, 1) := by decide +kernel
theorem dX2_beginToWait_16 : decode cX2_beginToWait 16 = .ok (.putfield 59, 3) := by decide +kernel
theorem dX2_beginToWait_19 : decode cX2_beginToWait 19 = .ok (.aload_n 0, 1) := by decide +kernel
theorem dX2_beginToWait_20 : decode cX2_beginToWait 20 = .ok (.iload 4, 2) := by decide +kernel
theorem dX2_beginToWait_22 : decode cX2_beginToWait 22 = .ok (.putfield 62, 3) := by decide +kernel
theorem dX2_beginToWait_25 : decode cX2_beginToWait 25 = .ok (.aload_n 0, 1) := by decide +kernel
theorem dX2_beginToWait_26 : decode cX2_beginToWait 26 = .ok (.iload 5, 2) := by decide +kernel
theorem dX2_beginToWait_28 : decode cX2_beginToWait 28 = .ok (.putfield 65, 3) := by decide +kernel
theorem dX2_beginToWait_31 : decode cX2_beginToWait 31 = .ok (.return_, 1) := by decide +kernel
abbrev cX2_waitsAt : ByteArray := prog_4_method_13_code
def yX2_waitsAt : MethodName := ⟨RX2, "waitsAt", "(II)Z"⟩
theorem dX2_waitsAt_0 : decode cX2_waitsAt 0 = .ok (.aload_n 0, 1) := by decide +kernel
theorem dX2_waitsAt_1 : decode cX2_waitsAt 1 = .ok (.getfield 18, 3) := by decide +kernel
theorem dX2_waitsAt_4 : decode cX2_waitsAt 4 = .ok (.iload_n 1, 1) := by decide +kernel
theorem dX2_waitsAt_5 : decode cX2_waitsAt 5 = .ok (.if_icmp .ne 23, 3) := by decide +kernel
theorem dX2_waitsAt_8 : decode cX2_waitsAt 8 = .ok (.aload_n 0, 1) := by decide +kernel
theorem dX2_waitsAt_9 : decode cX2_waitsAt 9 = .ok (.getfield 59, 3) := by decide +kernel
theorem dX2_waitsAt_12 : decode cX2_waitsAt 12 = .ok (.iload_n 2, 1) := by decide +kernel
theorem dX2_waitsAt_13 : decode cX2_waitsAt 13 = .ok (.if_icmp .eq 11, 3) := by decide +kernel
theorem dX2_waitsAt_16 : decode cX2_waitsAt 16 = .ok (.aload_n 0, 1) := by decide +kernel
theorem dX2_waitsAt_17 : decode cX2_waitsAt 17 = .ok (.getfield 62, 3) := by decide +kernel
theorem dX2_waitsAt_20 : decode cX2_waitsAt 20 = .ok (.iload_n 2, 1) := by decide +kernel
theorem dX2_waitsAt_21 : decode cX2_waitsAt 21 = .ok (.if_icmp .ne 7, 3) := by decide +kernel
theorem dX2_waitsAt_24 : decode cX2_waitsAt 24 = .ok (.iconst 1, 1) := by decide +kernel
theorem dX2_waitsAt_25 : decode cX2_waitsAt 25 = .ok (.goto 4, 3) := by decide +kernel
theorem dX2_waitsAt_28 : decode cX2_waitsAt 28 = .ok (.iconst 0, 1) := by decide +kernel
theorem dX2_waitsAt_29 : decode cX2_waitsAt 29 = .ok (.ireturn, 1) := by decide +kernel
abbrev cX2_endSending : ByteArray := prog_4_method_14_code
def yX2_endSending : MethodName := ⟨RX2, "endSending", "()I"⟩
theorem dX2_endSending_0 : decode cX2_endSending 0 = .ok (.aload_n 0, 1) := by decide +kernel
theorem dX2_endSending_1 : decode cX2_endSending 1 = .ok (.iconst 1, 1) := by decide +kernel
theorem dX2_endSending_2 : decode cX2_endSending 2 = .ok (.putfield 18, 3) := by decide +kernel
theorem dX2_endSending_5 : decode cX2_endSending 5 = .ok (.aload_n 0, 1) := by decide +kernel
theorem dX2_endSending_6 : decode cX2_endSending 6 = .ok (.getfield 9, 3) := by decide +kernel
theorem dX2_endSending_9 : decode cX2_endSending 9 = .ok (.aload_n 0, 1) := by decide +kernel
theorem dX2_endSending_10 : decode cX2_endSending 10 = .ok (.getfield 56, 3) := by decide +kernel
theorem dX2_endSending_13 : decode cX2_endSending 13 = .ok (.iaload, 1) := by decide +kernel
theorem dX2_endSending_14 : decode cX2_endSending 14 = .ok (.ireturn, 1) := by decide +kernel
abbrev cX2_endTaking : ByteArray := prog_4_method_15_code
def yX2_endTaking : MethodName := ⟨RX2, "endTaking", "(II)V"⟩
theorem dX2_endTaking_0 : decode cX2_endTaking 0 = .ok (.aload_n 0, 1) := by decide +kernel
theorem dX2_endTaking_1 : decode cX2_endTaking 1 = .ok (.iconst 1, 1) := by decide +kernel
theorem dX2_endTaking_2 : decode cX2_endTaking 2 = .ok (.putfield 18, 3) := by decide +kernel
theorem dX2_endTaking_5 : decode cX2_endTaking 5 = .ok (.aload_n 0, 1) := by decide +kernel
theorem dX2_endTaking_6 : decode cX2_endTaking 6 = .ok (.getfield 9, 3) := by decide +kernel
theorem dX2_endTaking_9 : decode cX2_endTaking 9 = .ok (.aload_n 0, 1) := by decide +kernel
theorem dX2_endTaking_10 : decode cX2_endTaking 10 = .ok (.getfield 56, 3) := by decide +kernel
theorem dX2_endTaking_13 : decode cX2_endTaking 13 = .ok (.iload_n 1, 1) := by decide +kernel
theorem dX2_endTaking_14 : decode cX2_endTaking 14 = .ok (.iastore, 1) := by decide +kernel
theorem dX2_endTaking_15 : decode cX2_endTaking 15 = .ok (.aload_n 0, 1) := by decide +kernel
theorem dX2_endTaking_16 : decode cX2_endTaking 16 = .ok (.iload_n 2, 1) := by decide +kernel
theorem dX2_endTaking_17 : decode cX2_endTaking 17 = .ok (.putfield 28, 3) := by decide +kernel
theorem dX2_endTaking_20 : decode cX2_endTaking 20 = .ok (.return_, 1) := by decide +kernel
end
section
def RX3 : String := "FiberHeap$Heap"
def TX3 : u_T := fun k => match k with
  | 0 => ("FiberHeap$Heap", "words", "[I", true)
  | 1 => ("FiberHeap$Heap", "pages", "[I", true)
  | 2 => ("FiberHeap$Heap", "unswept", "[Z", true)
  | 3 => ("FiberHeap$Heap", "sizes", "[I", true)
  | 4 => ("FiberHeap$Heap", "pointerCounts", "[I", true)
  | 5 => ("FiberHeap$Heap", "marks", "[I", true)
  | _ => ("FiberHeap$Heap", "freed", "I", false)
def tyX3 : Nat → FieldType := fun k => match k with
  | 0 => .array .int
  | 1 => .array .int
  | 2 => .array .boolean
  | 3 => .array .int
  | 4 => .array .int
  | 5 => .array .int
  | _ => .int
theorem nmX3 : ∀ a, a < 7 → ∀ b, b < 7 → a ≠ b → (TX3 a).2.1 ≠ (TX3 b).2.1 := by decide +kernel
theorem tyX3_ok : ∀ k, k < 7 → parseFieldDescriptor (TX3 k).2.2.1 = some (tyX3 k) := by decide +kernel
abbrev cX3_init : ByteArray := prog_5_method_1_code
def yX3_init : MethodName := ⟨RX3, "<init>", "()V"⟩
theorem dX3_init_0 : decode cX3_init 0 = .ok (.aload_n 0, 1) := by decide +kernel
theorem dX3_init_1 : decode cX3_init 1 = .ok (.invokespecial 3, 3) := by decide +kernel
theorem dX3_init_4 : decode cX3_init 4 = .ok (.aload_n 0, 1) := by decide +kernel
theorem dX3_init_5 : decode cX3_init 5 = .ok (.sipush 256, 3) := by decide +kernel
theorem dX3_init_8 : decode cX3_init 8 = .ok (.newarray .int, 2) := by decide +kernel
theorem dX3_init_10 : decode cX3_init 10 = .ok (.putfield 9, 3) := by decide +kernel
theorem dX3_init_13 : decode cX3_init 13 = .ok (.aload_n 0, 1) := by decide +kernel
theorem dX3_init_14 : decode cX3_init 14 = .ok (.bipush 16, 2) := by decide +kernel
theorem dX3_init_16 : decode cX3_init 16 = .ok (.newarray .int, 2) := by decide +kernel
theorem dX3_init_18 : decode cX3_init 18 = .ok (.putfield 15, 3) := by decide +kernel
theorem dX3_init_21 : decode cX3_init 21 = .ok (.aload_n 0, 1) := by decide +kernel
theorem dX3_init_22 : decode cX3_init 22 = .ok (.bipush 16, 2) := by decide +kernel
theorem dX3_init_24 : decode cX3_init 24 = .ok (.newarray .boolean, 2) := by decide +kernel
theorem dX3_init_26 : decode cX3_init 26 = .ok (.putfield 18, 3) := by decide +kernel
theorem dX3_init_29 : decode cX3_init 29 = .ok (.aload_n 0, 1) := by decide +kernel
theorem dX3_init_30 : decode cX3_init 30 = .ok (.sipush 128, 3) := by decide +kernel
theorem dX3_init_33 : decode cX3_init 33 = .ok (.newarray .int, 2) := by decide +kernel
theorem dX3_init_35 : decode cX3_init 35 = .ok (.putfield 22, 3) := by decide +kernel
theorem dX3_init_38 : decode cX3_init 38 = .ok (.aload_n 0, 1) := by decide +kernel
theorem dX3_init_39 : decode cX3_init 39 = .ok (.sipush 128, 3) := by decide +kernel
theorem dX3_init_42 : decode cX3_init 42 = .ok (.newarray .int, 2) := by decide +kernel
theorem dX3_init_44 : decode cX3_init 44 = .ok (.putfield 25, 3) := by decide +kernel
theorem dX3_init_47 : decode cX3_init 47 = .ok (.aload_n 0, 1) := by decide +kernel
theorem dX3_init_48 : decode cX3_init 48 = .ok (.sipush 128, 3) := by decide +kernel
theorem dX3_init_51 : decode cX3_init 51 = .ok (.newarray .int, 2) := by decide +kernel
theorem dX3_init_53 : decode cX3_init 53 = .ok (.putfield 28, 3) := by decide +kernel
theorem dX3_init_56 : decode cX3_init 56 = .ok (.aload_n 0, 1) := by decide +kernel
theorem dX3_init_57 : decode cX3_init 57 = .ok (.iconst 0, 1) := by decide +kernel
theorem dX3_init_58 : decode cX3_init 58 = .ok (.putfield 31, 3) := by decide +kernel
theorem dX3_init_61 : decode cX3_init 61 = .ok (.return_, 1) := by decide +kernel
abbrev cX3_slotWordsFor : ByteArray := prog_5_method_2_code
def yX3_slotWordsFor : MethodName := ⟨RX3, "slotWordsFor", "(I)I"⟩
theorem dX3_slotWordsFor_0 : decode cX3_slotWordsFor 0 = .ok (.iload_n 0, 1) := by decide +kernel
theorem dX3_slotWordsFor_1 : decode cX3_slotWordsFor 1 = .ok (.iconst 2, 1) := by decide +kernel
theorem dX3_slotWordsFor_2 : decode cX3_slotWordsFor 2 = .ok (.if_icmp .gt 5, 3) := by decide +kernel
theorem dX3_slotWordsFor_5 : decode cX3_slotWordsFor 5 = .ok (.iconst 2, 1) := by decide +kernel
theorem dX3_slotWordsFor_6 : decode cX3_slotWordsFor 6 = .ok (.ireturn, 1) := by decide +kernel
theorem dX3_slotWordsFor_7 : decode cX3_slotWordsFor 7 = .ok (.iload_n 0, 1) := by decide +kernel
theorem dX3_slotWordsFor_8 : decode cX3_slotWordsFor 8 = .ok (.iconst 4, 1) := by decide +kernel
theorem dX3_slotWordsFor_9 : decode cX3_slotWordsFor 9 = .ok (.if_icmp .gt 5, 3) := by decide +kernel
theorem dX3_slotWordsFor_12 : decode cX3_slotWordsFor 12 = .ok (.iconst 4, 1) := by decide +kernel
theorem dX3_slotWordsFor_13 : decode cX3_slotWordsFor 13 = .ok (.ireturn, 1) := by decide +kernel
theorem dX3_slotWordsFor_14 : decode cX3_slotWordsFor 14 = .ok (.iload_n 0, 1) := by decide +kernel
theorem dX3_slotWordsFor_15 : decode cX3_slotWordsFor 15 = .ok (.bipush 8, 2) := by decide +kernel
theorem dX3_slotWordsFor_17 : decode cX3_slotWordsFor 17 = .ok (.if_icmp .gt 6, 3) := by decide +kernel
theorem dX3_slotWordsFor_20 : decode cX3_slotWordsFor 20 = .ok (.bipush 8, 2) := by decide +kernel
theorem dX3_slotWordsFor_22 : decode cX3_slotWordsFor 22 = .ok (.ireturn, 1) := by decide +kernel
theorem dX3_slotWordsFor_23 : decode cX3_slotWordsFor 23 = .ok (.iload_n 0, 1) := by decide +kernel
theorem dX3_slotWordsFor_24 : decode cX3_slotWordsFor 24 = .ok (.bipush 16, 2) := by decide +kernel
theorem dX3_slotWordsFor_26 : decode cX3_slotWordsFor 26 = .ok (.iadd, 1) := by decide +kernel
theorem dX3_slotWordsFor_27 : decode cX3_slotWordsFor 27 = .ok (.iconst 1, 1) := by decide +kernel
theorem dX3_slotWordsFor_28 : decode cX3_slotWordsFor 28 = .ok (.isub, 1) := by decide +kernel
theorem dX3_slotWordsFor_29 : decode cX3_slotWordsFor 29 = .ok (.bipush 16, 2) := by decide +kernel
theorem dX3_slotWordsFor_31 : decode cX3_slotWordsFor 31 = .ok (.idiv, 1) := by decide +kernel
theorem dX3_slotWordsFor_32 : decode cX3_slotWordsFor 32 = .ok (.bipush 16, 2) := by decide +kernel
theorem dX3_slotWordsFor_34 : decode cX3_slotWordsFor 34 = .ok (.imul, 1) := by decide +kernel
theorem dX3_slotWordsFor_35 : decode cX3_slotWordsFor 35 = .ok (.ireturn, 1) := by decide +kernel
abbrev cX3_pagesOfSpan : ByteArray := prog_5_method_3_code
def yX3_pagesOfSpan : MethodName := ⟨RX3, "pagesOfSpan", "(I)I"⟩
theorem dX3_pagesOfSpan_0 : decode cX3_pagesOfSpan 0 = .ok (.iconst 1, 1) := by decide +kernel
theorem dX3_pagesOfSpan_1 : decode cX3_pagesOfSpan 1 = .ok (.iload_n 0, 1) := by decide +kernel
theorem dX3_pagesOfSpan_2 : decode cX3_pagesOfSpan 2 = .ok (.bipush 16, 2) := by decide +kernel
theorem dX3_pagesOfSpan_4 : decode cX3_pagesOfSpan 4 = .ok (.idiv, 1) := by decide +kernel
theorem dX3_pagesOfSpan_5 : decode cX3_pagesOfSpan 5 = .ok (.invokestatic 35, 3) := by decide +kernel
theorem dX3_pagesOfSpan_8 : decode cX3_pagesOfSpan 8 = .ok (.ireturn, 1) := by decide +kernel
abbrev cX3_isPointerWord : ByteArray := prog_5_method_4_code
def yX3_isPointerWord : MethodName := ⟨RX3, "isPointerWord", "(II)Z"⟩
theorem dX3_isPointerWord_0 : decode cX3_isPointerWord 0 = .ok (.iload_n 1, 1) := by decide +kernel
theorem dX3_isPointerWord_1 : decode cX3_isPointerWord 1 = .ok (.ifCond .lt 30, 3) := by decide +kernel
theorem dX3_isPointerWord_4 : decode cX3_isPointerWord 4 = .ok (.iload_n 1, 1) := by decide +kernel
theorem dX3_isPointerWord_5 : decode cX3_isPointerWord 5 = .ok (.sipush 256, 3) := by decide +kernel
theorem dX3_isPointerWord_8 : decode cX3_isPointerWord 8 = .ok (.if_icmp .ge 23, 3) := by decide +kernel
theorem dX3_isPointerWord_11 : decode cX3_isPointerWord 11 = .ok (.iload_n 2, 1) := by decide +kernel
theorem dX3_isPointerWord_12 : decode cX3_isPointerWord 12 = .ok (.ifCond .lt 19, 3) := by decide +kernel
theorem dX3_isPointerWord_15 : decode cX3_isPointerWord 15 = .ok (.iload_n 2, 1) := by decide +kernel
theorem dX3_isPointerWord_16 : decode cX3_isPointerWord 16 = .ok (.aload_n 0, 1) := by decide +kernel
theorem dX3_isPointerWord_17 : decode cX3_isPointerWord 17 = .ok (.getfield 25, 3) := by decide +kernel
theorem dX3_isPointerWord_20 : decode cX3_isPointerWord 20 = .ok (.iload_n 1, 1) := by decide +kernel
theorem dX3_isPointerWord_21 : decode cX3_isPointerWord 21 = .ok (.iconst 2, 1) := by decide +kernel
theorem dX3_isPointerWord_22 : decode cX3_isPointerWord 22 = .ok (.idiv, 1) := by decide +kernel
theorem dX3_isPointerWord_23 : decode cX3_isPointerWord 23 = .ok (.iaload, 1) := by decide +kernel
theorem dX3_isPointerWord_24 : decode cX3_isPointerWord 24 = .ok (.if_icmp .ge 7, 3) := by decide +kernel
theorem dX3_isPointerWord_27 : decode cX3_isPointerWord 27 = .ok (.iconst 1, 1) := by decide +kernel
theorem dX3_isPointerWord_28 : decode cX3_isPointerWord 28 = .ok (.goto 4, 3) := by decide +kernel
theorem dX3_isPointerWord_31 : decode cX3_isPointerWord 31 = .ok (.iconst 0, 1) := by decide +kernel
theorem dX3_isPointerWord_32 : decode cX3_isPointerWord 32 = .ok (.ireturn, 1) := by decide +kernel
abbrev cX3_isIntWord : ByteArray := prog_5_method_5_code
def yX3_isIntWord : MethodName := ⟨RX3, "isIntWord", "(II)Z"⟩
theorem dX3_isIntWord_0 : decode cX3_isIntWord 0 = .ok (.iload_n 1, 1) := by decide +kernel
theorem dX3_isIntWord_1 : decode cX3_isIntWord 1 = .ok (.ifCond .lt 38, 3) := by decide +kernel
theorem dX3_isIntWord_4 : decode cX3_isIntWord 4 = .ok (.iload_n 1, 1) := by decide +kernel
theorem dX3_isIntWord_5 : decode cX3_isIntWord 5 = .ok (.sipush 256, 3) := by decide +kernel
theorem dX3_isIntWord_8 : decode cX3_isIntWord 8 = .ok (.if_icmp .ge 31, 3) := by decide +kernel
theorem dX3_isIntWord_11 : decode cX3_isIntWord 11 = .ok (.iload_n 2, 1) := by decide +kernel
theorem dX3_isIntWord_12 : decode cX3_isIntWord 12 = .ok (.aload_n 0, 1) := by decide +kernel
theorem dX3_isIntWord_13 : decode cX3_isIntWord 13 = .ok (.getfield 25, 3) := by decide +kernel
theorem dX3_isIntWord_16 : decode cX3_isIntWord 16 = .ok (.iload_n 1, 1) := by decide +kernel
theorem dX3_isIntWord_17 : decode cX3_isIntWord 17 = .ok (.iconst 2, 1) := by decide +kernel
theorem dX3_isIntWord_18 : decode cX3_isIntWord 18 = .ok (.idiv, 1) := by decide +kernel
theorem dX3_isIntWord_19 : decode cX3_isIntWord 19 = .ok (.iaload, 1) := by decide +kernel
theorem dX3_isIntWord_20 : decode cX3_isIntWord 20 = .ok (.if_icmp .lt 19, 3) := by decide +kernel
theorem dX3_isIntWord_23 : decode cX3_isIntWord 23 = .ok (.iload_n 2, 1) := by decide +kernel
theorem dX3_isIntWord_24 : decode cX3_isIntWord 24 = .ok (.aload_n 0, 1) := by decide +kernel
theorem dX3_isIntWord_25 : decode cX3_isIntWord 25 = .ok (.getfield 22, 3) := by decide +kernel
theorem dX3_isIntWord_28 : decode cX3_isIntWord 28 = .ok (.iload_n 1, 1) := by decide +kernel
theorem dX3_isIntWord_29 : decode cX3_isIntWord 29 = .ok (.iconst 2, 1) := by decide +kernel
theorem dX3_isIntWord_30 : decode cX3_isIntWord 30 = .ok (.idiv, 1) := by decide +kernel
theorem dX3_isIntWord_31 : decode cX3_isIntWord 31 = .ok (.iaload, 1) := by decide +kernel
theorem dX3_isIntWord_32 : decode cX3_isIntWord 32 = .ok (.if_icmp .ge 7, 3) := by decide +kernel
theorem dX3_isIntWord_35 : decode cX3_isIntWord 35 = .ok (.iconst 1, 1) := by decide +kernel
theorem dX3_isIntWord_36 : decode cX3_isIntWord 36 = .ok (.goto 4, 3) := by decide +kernel
theorem dX3_isIntWord_39 : decode cX3_isIntWord 39 = .ok (.iconst 0, 1) := by decide +kernel
theorem dX3_isIntWord_40 : decode cX3_isIntWord 40 = .ok (.ireturn, 1) := by decide +kernel
abbrev cX3_place : ByteArray := prog_5_method_6_code
def yX3_place : MethodName := ⟨RX3, "place", "(III)I"⟩
theorem dX3_place_0 : decode cX3_place 0 = .ok (.iload_n 1, 1) := by decide +kernel
theorem dX3_place_1 : decode cX3_place 1 = .ok (.invokestatic 41, 3) := by decide +kernel
theorem dX3_place_4 : decode cX3_place 4 = .ok (.istore 4, 2) := by decide +kernel
theorem dX3_place_6 : decode cX3_place 6 = .ok (.iload 4, 2) := by decide +kernel
theorem dX3_place_8 : decode cX3_place 8 = .ok (.bipush 16, 2) := by decide +kernel
theorem dX3_place_10 : decode cX3_place 10 = .ok (.if_icmp .ge 12, 3) := by decide +kernel
theorem dX3_place_13 : decode cX3_place 13 = .ok (.aload_n 0, 1) := by decide +kernel
theorem dX3_place_14 : decode cX3_place 14 = .ok (.iload 4, 2) := by decide +kernel
theorem dX3_place_16 : decode cX3_place 16 = .ok (.invokevirtual 45, 3) := by decide +kernel
theorem dX3_place_19 : decode cX3_place 19 = .ok (.goto 4, 3) := by decide +kernel
theorem dX3_place_22 : decode cX3_place 22 = .ok (.iconst (-1), 1) := by decide +kernel
theorem dX3_place_23 : decode cX3_place 23 = .ok (.istore 5, 2) := by decide +kernel
theorem dX3_place_25 : decode cX3_place 25 = .ok (.iload 5, 2) := by decide +kernel
theorem dX3_place_27 : decode cX3_place 27 = .ok (.iconst (-1), 1) := by decide +kernel
theorem dX3_place_28 : decode cX3_place 28 = .ok (.if_icmp .ne 11, 3) := by decide +kernel
theorem dX3_place_31 : decode cX3_place 31 = .ok (.aload_n 0, 1) := by decide +kernel
theorem dX3_place_32 : decode cX3_place 32 = .ok (.iload 4, 2) := by decide +kernel
theorem dX3_place_34 : decode cX3_place 34 = .ok (.invokevirtual 48, 3) := by decide +kernel
theorem dX3_place_37 : decode cX3_place 37 = .ok (.istore 5, 2) := by decide +kernel
theorem dX3_place_39 : decode cX3_place 39 = .ok (.iload 5, 2) := by decide +kernel
theorem dX3_place_41 : decode cX3_place 41 = .ok (.iconst (-1), 1) := by decide +kernel
theorem dX3_place_42 : decode cX3_place 42 = .ok (.if_icmp .eq 12, 3) := by decide +kernel
theorem dX3_place_45 : decode cX3_place 45 = .ok (.aload_n 0, 1) := by decide +kernel
theorem dX3_place_46 : decode cX3_place 46 = .ok (.iload 5, 2) := by decide +kernel
theorem dX3_place_48 : decode cX3_place 48 = .ok (.iload_n 1, 1) := by decide +kernel
theorem dX3_place_49 : decode cX3_place 49 = .ok (.iload_n 2, 1) := by decide +kernel
theorem dX3_place_50 : decode cX3_place 50 = .ok (.iload_n 3, 1) := by decide +kernel
theorem dX3_place_51 : decode cX3_place 51 = .ok (.invokevirtual 51, 3) := by decide +kernel
theorem dX3_place_54 : decode cX3_place 54 = .ok (.iload 5, 2) := by decide +kernel
theorem dX3_place_56 : decode cX3_place 56 = .ok (.ireturn, 1) := by decide +kernel
abbrev cX3_slotInSpans : ByteArray := prog_5_method_7_code
def yX3_slotInSpans : MethodName := ⟨RX3, "slotInSpans", "(I)I"⟩
theorem dX3_slotInSpans_0 : decode cX3_slotInSpans 0 = .ok (.iconst 0, 1) := by decide +kernel
theorem dX3_slotInSpans_1 : decode cX3_slotInSpans 1 = .ok (.istore_n 2, 1) := by decide +kernel
theorem dX3_slotInSpans_2 : decode cX3_slotInSpans 2 = .ok (.iload_n 2, 1) := by decide +kernel
theorem dX3_slotInSpans_3 : decode cX3_slotInSpans 3 = .ok (.bipush 16, 2) := by decide +kernel
theorem dX3_slotInSpans_5 : decode cX3_slotInSpans 5 = .ok (.if_icmp .ge 47, 3) := by decide +kernel
theorem dX3_slotInSpans_8 : decode cX3_slotInSpans 8 = .ok (.aload_n 0, 1) := by decide +kernel
theorem dX3_slotInSpans_9 : decode cX3_slotInSpans 9 = .ok (.getfield 15, 3) := by decide +kernel
theorem dX3_slotInSpans_12 : decode cX3_slotInSpans 12 = .ok (.iload_n 2, 1) := by decide +kernel
theorem dX3_slotInSpans_13 : decode cX3_slotInSpans 13 = .ok (.iaload, 1) := by decide +kernel
theorem dX3_slotInSpans_14 : decode cX3_slotInSpans 14 = .ok (.iload_n 1, 1) := by decide +kernel
theorem dX3_slotInSpans_15 : decode cX3_slotInSpans 15 = .ok (.if_icmp .ne 31, 3) := by decide +kernel
theorem dX3_slotInSpans_18 : decode cX3_slotInSpans 18 = .ok (.aload_n 0, 1) := by decide +kernel
theorem dX3_slotInSpans_19 : decode cX3_slotInSpans 19 = .ok (.getfield 18, 3) := by decide +kernel
theorem dX3_slotInSpans_22 : decode cX3_slotInSpans 22 = .ok (.iload_n 2, 1) := by decide +kernel
theorem dX3_slotInSpans_23 : decode cX3_slotInSpans 23 = .ok (.baload, 1) := by decide +kernel
theorem dX3_slotInSpans_24 : decode cX3_slotInSpans 24 = .ok (.ifCond .eq 8, 3) := by decide +kernel
theorem dX3_slotInSpans_27 : decode cX3_slotInSpans 27 = .ok (.aload_n 0, 1) := by decide +kernel
theorem dX3_slotInSpans_28 : decode cX3_slotInSpans 28 = .ok (.iload_n 2, 1) := by decide +kernel
theorem dX3_slotInSpans_29 : decode cX3_slotInSpans 29 = .ok (.invokevirtual 55, 3) := by decide +kernel
theorem dX3_slotInSpans_32 : decode cX3_slotInSpans 32 = .ok (.aload_n 0, 1) := by decide +kernel
theorem dX3_slotInSpans_33 : decode cX3_slotInSpans 33 = .ok (.iload_n 2, 1) := by decide +kernel
theorem dX3_slotInSpans_34 : decode cX3_slotInSpans 34 = .ok (.iload_n 1, 1) := by decide +kernel
theorem dX3_slotInSpans_35 : decode cX3_slotInSpans 35 = .ok (.invokevirtual 59, 3) := by decide +kernel
theorem dX3_slotInSpans_38 : decode cX3_slotInSpans 38 = .ok (.istore_n 3, 1) := by decide +kernel
theorem dX3_slotInSpans_39 : decode cX3_slotInSpans 39 = .ok (.iload_n 3, 1) := by decide +kernel
theorem dX3_slotInSpans_40 : decode cX3_slotInSpans 40 = .ok (.iconst (-1), 1) := by decide +kernel
theorem dX3_slotInSpans_41 : decode cX3_slotInSpans 41 = .ok (.if_icmp .eq 5, 3) := by decide +kernel
theorem dX3_slotInSpans_44 : decode cX3_slotInSpans 44 = .ok (.iload_n 3, 1) := by decide +kernel
theorem dX3_slotInSpans_45 : decode cX3_slotInSpans 45 = .ok (.ireturn, 1) := by decide +kernel
theorem dX3_slotInSpans_46 : decode cX3_slotInSpans 46 = .ok (.iinc 2 1, 3) := by decide +kernel
theorem dX3_slotInSpans_49 : decode cX3_slotInSpans 49 = .ok (.goto (-47), 3) := by decide +kernel
theorem dX3_slotInSpans_52 : decode cX3_slotInSpans 52 = .ok (.iconst (-1), 1) := by decide +kernel
theorem dX3_slotInSpans_53 : decode cX3_slotInSpans 53 = .ok (.ireturn, 1) := by decide +kernel
abbrev cX3_openSlot : ByteArray := prog_5_method_8_code
def yX3_openSlot : MethodName := ⟨RX3, "openSlot", "(II)I"⟩
theorem dX3_openSlot_0 : decode cX3_openSlot 0 = .ok (.aload_n 0, 1) := by decide +kernel
theorem dX3_openSlot_1 : decode cX3_openSlot 1 = .ok (.getfield 15, 3) := by decide +kernel
theorem dX3_openSlot_4 : decode cX3_openSlot 4 = .ok (.iload_n 1, 1) := by decide +kernel
theorem dX3_openSlot_5 : decode cX3_openSlot 5 = .ok (.iaload, 1) := by decide +kernel
theorem dX3_openSlot_6 : decode cX3_openSlot 6 = .ok (.iload_n 2, 1) := by decide +kernel
theorem dX3_openSlot_7 : decode cX3_openSlot 7 = .ok (.if_icmp .ne 8, 3) := by decide +kernel
theorem dX3_openSlot_10 : decode cX3_openSlot 10 = .ok (.iload_n 2, 1) := by decide +kernel
theorem dX3_openSlot_11 : decode cX3_openSlot 11 = .ok (.iconst 2, 1) := by decide +kernel
theorem dX3_openSlot_12 : decode cX3_openSlot 12 = .ok (.if_icmp .ge 5, 3) := by decide +kernel
theorem dX3_openSlot_15 : decode cX3_openSlot 15 = .ok (.iconst (-1), 1) := by decide +kernel
theorem dX3_openSlot_16 : decode cX3_openSlot 16 = .ok (.ireturn, 1) := by decide +kernel
theorem dX3_openSlot_17 : decode cX3_openSlot 17 = .ok (.iload_n 1, 1) := by decide +kernel
theorem dX3_openSlot_18 : decode cX3_openSlot 18 = .ok (.bipush 16, 2) := by decide +kernel
theorem dX3_openSlot_20 : decode cX3_openSlot 20 = .ok (.imul, 1) := by decide +kernel
theorem dX3_openSlot_21 : decode cX3_openSlot 21 = .ok (.istore_n 3, 1) := by decide +kernel
theorem dX3_openSlot_22 : decode cX3_openSlot 22 = .ok (.iconst 0, 1) := by decide +kernel
theorem dX3_openSlot_23 : decode cX3_openSlot 23 = .ok (.istore 4, 2) := by decide +kernel
theorem dX3_openSlot_25 : decode cX3_openSlot 25 = .ok (.iload 4, 2) := by decide +kernel
theorem dX3_openSlot_27 : decode cX3_openSlot 27 = .ok (.bipush 16, 2) := by decide +kernel
theorem dX3_openSlot_29 : decode cX3_openSlot 29 = .ok (.if_icmp .ge 31, 3) := by decide +kernel
theorem dX3_openSlot_32 : decode cX3_openSlot 32 = .ok (.aload_n 0, 1) := by decide +kernel
theorem dX3_openSlot_33 : decode cX3_openSlot 33 = .ok (.getfield 22, 3) := by decide +kernel
theorem dX3_openSlot_36 : decode cX3_openSlot 36 = .ok (.iload_n 3, 1) := by decide +kernel
theorem dX3_openSlot_37 : decode cX3_openSlot 37 = .ok (.iload 4, 2) := by decide +kernel
theorem dX3_openSlot_39 : decode cX3_openSlot 39 = .ok (.iadd, 1) := by decide +kernel
theorem dX3_openSlot_40 : decode cX3_openSlot 40 = .ok (.iconst 2, 1) := by decide +kernel
theorem dX3_openSlot_41 : decode cX3_openSlot 41 = .ok (.idiv, 1) := by decide +kernel
theorem dX3_openSlot_42 : decode cX3_openSlot 42 = .ok (.iaload, 1) := by decide +kernel
theorem dX3_openSlot_43 : decode cX3_openSlot 43 = .ok (.ifCond .ne 8, 3) := by decide +kernel
theorem dX3_openSlot_46 : decode cX3_openSlot 46 = .ok (.iload_n 3, 1) := by decide +kernel
theorem dX3_openSlot_47 : decode cX3_openSlot 47 = .ok (.iload 4, 2) := by decide +kernel
theorem dX3_openSlot_49 : decode cX3_openSlot 49 = .ok (.iadd, 1) := by decide +kernel
theorem dX3_openSlot_50 : decode cX3_openSlot 50 = .ok (.ireturn, 1) := by decide +kernel
theorem dX3_openSlot_51 : decode cX3_openSlot 51 = .ok (.iload 4, 2) := by decide +kernel
theorem dX3_openSlot_53 : decode cX3_openSlot 53 = .ok (.iload_n 2, 1) := by decide +kernel
theorem dX3_openSlot_54 : decode cX3_openSlot 54 = .ok (.iadd, 1) := by decide +kernel
theorem dX3_openSlot_55 : decode cX3_openSlot 55 = .ok (.istore 4, 2) := by decide +kernel
theorem dX3_openSlot_57 : decode cX3_openSlot 57 = .ok (.goto (-32), 3) := by decide +kernel
theorem dX3_openSlot_60 : decode cX3_openSlot 60 = .ok (.iconst (-1), 1) := by decide +kernel
theorem dX3_openSlot_61 : decode cX3_openSlot 61 = .ok (.ireturn, 1) := by decide +kernel
abbrev cX3_slotInNewSpan : ByteArray := prog_5_method_9_code
def yX3_slotInNewSpan : MethodName := ⟨RX3, "slotInNewSpan", "(I)I"⟩
theorem dX3_slotInNewSpan_0 : decode cX3_slotInNewSpan 0 = .ok (.iload_n 1, 1) := by decide +kernel
theorem dX3_slotInNewSpan_1 : decode cX3_slotInNewSpan 1 = .ok (.invokestatic 62, 3) := by decide +kernel
theorem dX3_slotInNewSpan_4 : decode cX3_slotInNewSpan 4 = .ok (.istore_n 2, 1) := by decide +kernel
theorem dX3_slotInNewSpan_5 : decode cX3_slotInNewSpan 5 = .ok (.aload_n 0, 1) := by decide +kernel
theorem dX3_slotInNewSpan_6 : decode cX3_slotInNewSpan 6 = .ok (.iload_n 2, 1) := by decide +kernel
theorem dX3_slotInNewSpan_7 : decode cX3_slotInNewSpan 7 = .ok (.invokevirtual 65, 3) := by decide +kernel
theorem dX3_slotInNewSpan_10 : decode cX3_slotInNewSpan 10 = .ok (.istore_n 3, 1) := by decide +kernel
theorem dX3_slotInNewSpan_11 : decode cX3_slotInNewSpan 11 = .ok (.iload_n 3, 1) := by decide +kernel
theorem dX3_slotInNewSpan_12 : decode cX3_slotInNewSpan 12 = .ok (.iconst (-1), 1) := by decide +kernel
theorem dX3_slotInNewSpan_13 : decode cX3_slotInNewSpan 13 = .ok (.if_icmp .ne 5, 3) := by decide +kernel
theorem dX3_slotInNewSpan_16 : decode cX3_slotInNewSpan 16 = .ok (.iconst (-1), 1) := by decide +kernel
theorem dX3_slotInNewSpan_17 : decode cX3_slotInNewSpan 17 = .ok (.ireturn, 1) := by decide +kernel
theorem dX3_slotInNewSpan_18 : decode cX3_slotInNewSpan 18 = .ok (.aload_n 0, 1) := by decide +kernel
theorem dX3_slotInNewSpan_19 : decode cX3_slotInNewSpan 19 = .ok (.iload_n 3, 1) := by decide +kernel
theorem dX3_slotInNewSpan_20 : decode cX3_slotInNewSpan 20 = .ok (.iload_n 2, 1) := by decide +kernel
theorem dX3_slotInNewSpan_21 : decode cX3_slotInNewSpan 21 = .ok (.iconst 1, 1) := by decide +kernel
theorem dX3_slotInNewSpan_22 : decode cX3_slotInNewSpan 22 = .ok (.invokevirtual 68, 3) := by decide +kernel
theorem dX3_slotInNewSpan_25 : decode cX3_slotInNewSpan 25 = .ok (.aload_n 0, 1) := by decide +kernel
theorem dX3_slotInNewSpan_26 : decode cX3_slotInNewSpan 26 = .ok (.getfield 15, 3) := by decide +kernel
theorem dX3_slotInNewSpan_29 : decode cX3_slotInNewSpan 29 = .ok (.iload_n 3, 1) := by decide +kernel
theorem dX3_slotInNewSpan_30 : decode cX3_slotInNewSpan 30 = .ok (.iload_n 1, 1) := by decide +kernel
theorem dX3_slotInNewSpan_31 : decode cX3_slotInNewSpan 31 = .ok (.iastore, 1) := by decide +kernel
theorem dX3_slotInNewSpan_32 : decode cX3_slotInNewSpan 32 = .ok (.iload_n 3, 1) := by decide +kernel
theorem dX3_slotInNewSpan_33 : decode cX3_slotInNewSpan 33 = .ok (.bipush 16, 2) := by decide +kernel
theorem dX3_slotInNewSpan_35 : decode cX3_slotInNewSpan 35 = .ok (.imul, 1) := by decide +kernel
theorem dX3_slotInNewSpan_36 : decode cX3_slotInNewSpan 36 = .ok (.ireturn, 1) := by decide +kernel
abbrev cX3_shortestRun : ByteArray := prog_5_method_10_code
def yX3_shortestRun : MethodName := ⟨RX3, "shortestRun", "(I)I"⟩
theorem dX3_shortestRun_0 : decode cX3_shortestRun 0 = .ok (.iconst (-1), 1) := by decide +kernel
theorem dX3_shortestRun_1 : decode cX3_shortestRun 1 = .ok (.istore_n 2, 1) := by decide +kernel
theorem dX3_shortestRun_2 : decode cX3_shortestRun 2 = .ok (.bipush 17, 2) := by decide +kernel
theorem dX3_shortestRun_4 : decode cX3_shortestRun 4 = .ok (.istore_n 3, 1) := by decide +kernel
theorem dX3_shortestRun_5 : decode cX3_shortestRun 5 = .ok (.iconst 0, 1) := by decide +kernel
theorem dX3_shortestRun_6 : decode cX3_shortestRun 6 = .ok (.istore 4, 2) := by decide +kernel
theorem dX3_shortestRun_8 : decode cX3_shortestRun 8 = .ok (.iconst 0, 1) := by decide +kernel
theorem dX3_shortestRun_9 : decode cX3_shortestRun 9 = .ok (.istore 5, 2) := by decide +kernel
theorem dX3_shortestRun_11 : decode cX3_shortestRun 11 = .ok (.iload 5, 2) := by decide +kernel
theorem dX3_shortestRun_13 : decode cX3_shortestRun 13 = .ok (.bipush 16, 2) := by decide +kernel
theorem dX3_shortestRun_15 : decode cX3_shortestRun 15 = .ok (.if_icmp .ge 61, 3) := by decide +kernel
theorem dX3_shortestRun_18 : decode cX3_shortestRun 18 = .ok (.aload_n 0, 1) := by decide +kernel
theorem dX3_shortestRun_19 : decode cX3_shortestRun 19 = .ok (.getfield 15, 3) := by decide +kernel
theorem dX3_shortestRun_22 : decode cX3_shortestRun 22 = .ok (.iload 5, 2) := by decide +kernel
theorem dX3_shortestRun_24 : decode cX3_shortestRun 24 = .ok (.iaload, 1) := by decide +kernel
theorem dX3_shortestRun_25 : decode cX3_shortestRun 25 = .ok (.ifCond .ne 10, 3) := by decide +kernel
theorem dX3_shortestRun_28 : decode cX3_shortestRun 28 = .ok (.iload 4, 2) := by decide +kernel
theorem dX3_shortestRun_30 : decode cX3_shortestRun 30 = .ok (.iconst 1, 1) := by decide +kernel
theorem dX3_shortestRun_31 : decode cX3_shortestRun 31 = .ok (.iadd, 1) := by decide +kernel
theorem dX3_shortestRun_32 : decode cX3_shortestRun 32 = .ok (.goto 4, 3) := by decide +kernel
theorem dX3_shortestRun_35 : decode cX3_shortestRun 35 = .ok (.iconst 0, 1) := by decide +kernel
theorem dX3_shortestRun_36 : decode cX3_shortestRun 36 = .ok (.istore 4, 2) := by decide +kernel
theorem dX3_shortestRun_38 : decode cX3_shortestRun 38 = .ok (.aload_n 0, 1) := by decide +kernel
theorem dX3_shortestRun_39 : decode cX3_shortestRun 39 = .ok (.iload 5, 2) := by decide +kernel
theorem dX3_shortestRun_41 : decode cX3_shortestRun 41 = .ok (.invokevirtual 72, 3) := by decide +kernel
theorem dX3_shortestRun_44 : decode cX3_shortestRun 44 = .ok (.ifCond .eq 26, 3) := by decide +kernel
theorem dX3_shortestRun_47 : decode cX3_shortestRun 47 = .ok (.iload 4, 2) := by decide +kernel
theorem dX3_shortestRun_49 : decode cX3_shortestRun 49 = .ok (.iload_n 1, 1) := by decide +kernel
theorem dX3_shortestRun_50 : decode cX3_shortestRun 50 = .ok (.if_icmp .lt 20, 3) := by decide +kernel
theorem dX3_shortestRun_53 : decode cX3_shortestRun 53 = .ok (.iload 4, 2) := by decide +kernel
theorem dX3_shortestRun_55 : decode cX3_shortestRun 55 = .ok (.iload_n 3, 1) := by decide +kernel
theorem dX3_shortestRun_56 : decode cX3_shortestRun 56 = .ok (.if_icmp .ge 14, 3) := by decide +kernel
theorem dX3_shortestRun_59 : decode cX3_shortestRun 59 = .ok (.iload 5, 2) := by decide +kernel
theorem dX3_shortestRun_61 : decode cX3_shortestRun 61 = .ok (.iload 4, 2) := by decide +kernel
theorem dX3_shortestRun_63 : decode cX3_shortestRun 63 = .ok (.isub, 1) := by decide +kernel
theorem dX3_shortestRun_64 : decode cX3_shortestRun 64 = .ok (.iconst 1, 1) := by decide +kernel
theorem dX3_shortestRun_65 : decode cX3_shortestRun 65 = .ok (.iadd, 1) := by decide +kernel
theorem dX3_shortestRun_66 : decode cX3_shortestRun 66 = .ok (.istore_n 2, 1) := by decide +kernel
theorem dX3_shortestRun_67 : decode cX3_shortestRun 67 = .ok (.iload 4, 2) := by decide +kernel
theorem dX3_shortestRun_69 : decode cX3_shortestRun 69 = .ok (.istore_n 3, 1) := by decide +kernel
theorem dX3_shortestRun_70 : decode cX3_shortestRun 70 = .ok (.iinc 5 1, 3) := by decide +kernel
theorem dX3_shortestRun_73 : decode cX3_shortestRun 73 = .ok (.goto (-62), 3) := by decide +kernel
theorem dX3_shortestRun_76 : decode cX3_shortestRun 76 = .ok (.iload_n 2, 1) := by decide +kernel
theorem dX3_shortestRun_77 : decode cX3_shortestRun 77 = .ok (.ireturn, 1) := by decide +kernel
abbrev cX3_endsRun : ByteArray := prog_5_method_11_code
def yX3_endsRun : MethodName := ⟨RX3, "endsRun", "(I)Z"⟩
theorem dX3_endsRun_0 : decode cX3_endsRun 0 = .ok (.aload_n 0, 1) := by decide +kernel
theorem dX3_endsRun_1 : decode cX3_endsRun 1 = .ok (.getfield 15, 3) := by decide +kernel
theorem dX3_endsRun_4 : decode cX3_endsRun 4 = .ok (.iload_n 1, 1) := by decide +kernel
theorem dX3_endsRun_5 : decode cX3_endsRun 5 = .ok (.iaload, 1) := by decide +kernel
theorem dX3_endsRun_6 : decode cX3_endsRun 6 = .ok (.ifCond .ne 26, 3) := by decide +kernel
theorem dX3_endsRun_9 : decode cX3_endsRun 9 = .ok (.iload_n 1, 1) := by decide +kernel
theorem dX3_endsRun_10 : decode cX3_endsRun 10 = .ok (.iconst 1, 1) := by decide +kernel
theorem dX3_endsRun_11 : decode cX3_endsRun 11 = .ok (.iadd, 1) := by decide +kernel
theorem dX3_endsRun_12 : decode cX3_endsRun 12 = .ok (.bipush 16, 2) := by decide +kernel
theorem dX3_endsRun_14 : decode cX3_endsRun 14 = .ok (.if_icmp .eq 14, 3) := by decide +kernel
theorem dX3_endsRun_17 : decode cX3_endsRun 17 = .ok (.aload_n 0, 1) := by decide +kernel
theorem dX3_endsRun_18 : decode cX3_endsRun 18 = .ok (.getfield 15, 3) := by decide +kernel
theorem dX3_endsRun_21 : decode cX3_endsRun 21 = .ok (.iload_n 1, 1) := by decide +kernel
theorem dX3_endsRun_22 : decode cX3_endsRun 22 = .ok (.iconst 1, 1) := by decide +kernel
theorem dX3_endsRun_23 : decode cX3_endsRun 23 = .ok (.iadd, 1) := by decide +kernel
theorem dX3_endsRun_24 : decode cX3_endsRun 24 = .ok (.iaload, 1) := by decide +kernel
theorem dX3_endsRun_25 : decode cX3_endsRun 25 = .ok (.ifCond .eq 7, 3) := by decide +kernel
theorem dX3_endsRun_28 : decode cX3_endsRun 28 = .ok (.iconst 1, 1) := by decide +kernel
theorem dX3_endsRun_29 : decode cX3_endsRun 29 = .ok (.goto 4, 3) := by decide +kernel
theorem dX3_endsRun_32 : decode cX3_endsRun 32 = .ok (.iconst 0, 1) := by decide +kernel
theorem dX3_endsRun_33 : decode cX3_endsRun 33 = .ok (.ireturn, 1) := by decide +kernel
abbrev cX3_fillSlot : ByteArray := prog_5_method_12_code
def yX3_fillSlot : MethodName := ⟨RX3, "fillSlot", "(IIII)V"⟩
theorem dX3_fillSlot_0 : decode cX3_fillSlot 0 = .ok (.aload_n 0, 1) := by decide +kernel
theorem dX3_fillSlot_1 : decode cX3_fillSlot 1 = .ok (.getfield 22, 3) := by decide +kernel
theorem dX3_fillSlot_4 : decode cX3_fillSlot 4 = .ok (.iload_n 1, 1) := by decide +kernel
theorem dX3_fillSlot_5 : decode cX3_fillSlot 5 = .ok (.iconst 2, 1) := by decide +kernel
theorem dX3_fillSlot_6 : decode cX3_fillSlot 6 = .ok (.idiv, 1) := by decide +kernel
theorem dX3_fillSlot_7 : decode cX3_fillSlot 7 = .ok (.iload_n 2, 1) := by decide +kernel
theorem dX3_fillSlot_8 : decode cX3_fillSlot 8 = .ok (.iastore, 1) := by decide +kernel
theorem dX3_fillSlot_9 : decode cX3_fillSlot 9 = .ok (.aload_n 0, 1) := by decide +kernel
theorem dX3_fillSlot_10 : decode cX3_fillSlot 10 = .ok (.getfield 25, 3) := by decide +kernel
theorem dX3_fillSlot_13 : decode cX3_fillSlot 13 = .ok (.iload_n 1, 1) := by decide +kernel
theorem dX3_fillSlot_14 : decode cX3_fillSlot 14 = .ok (.iconst 2, 1) := by decide +kernel
theorem dX3_fillSlot_15 : decode cX3_fillSlot 15 = .ok (.idiv, 1) := by decide +kernel
theorem dX3_fillSlot_16 : decode cX3_fillSlot 16 = .ok (.iload_n 3, 1) := by decide +kernel
theorem dX3_fillSlot_17 : decode cX3_fillSlot 17 = .ok (.iastore, 1) := by decide +kernel
theorem dX3_fillSlot_18 : decode cX3_fillSlot 18 = .ok (.aload_n 0, 1) := by decide +kernel
theorem dX3_fillSlot_19 : decode cX3_fillSlot 19 = .ok (.getfield 28, 3) := by decide +kernel
theorem dX3_fillSlot_22 : decode cX3_fillSlot 22 = .ok (.iload_n 1, 1) := by decide +kernel
theorem dX3_fillSlot_23 : decode cX3_fillSlot 23 = .ok (.iconst 2, 1) := by decide +kernel
theorem dX3_fillSlot_24 : decode cX3_fillSlot 24 = .ok (.idiv, 1) := by decide +kernel
theorem dX3_fillSlot_25 : decode cX3_fillSlot 25 = .ok (.iload 4, 2) := by decide +kernel
theorem dX3_fillSlot_27 : decode cX3_fillSlot 27 = .ok (.iastore, 1) := by decide +kernel
theorem dX3_fillSlot_28 : decode cX3_fillSlot 28 = .ok (.iconst 0, 1) := by decide +kernel
theorem dX3_fillSlot_29 : decode cX3_fillSlot 29 = .ok (.istore 5, 2) := by decide +kernel
theorem dX3_fillSlot_31 : decode cX3_fillSlot 31 = .ok (.iload 5, 2) := by decide +kernel
theorem dX3_fillSlot_33 : decode cX3_fillSlot 33 = .ok (.iload_n 2, 1) := by decide +kernel
theorem dX3_fillSlot_34 : decode cX3_fillSlot 34 = .ok (.if_icmp .ge 29, 3) := by decide +kernel
theorem dX3_fillSlot_37 : decode cX3_fillSlot 37 = .ok (.aload_n 0, 1) := by decide +kernel
theorem dX3_fillSlot_38 : decode cX3_fillSlot 38 = .ok (.getfield 9, 3) := by decide +kernel
theorem dX3_fillSlot_41 : decode cX3_fillSlot 41 = .ok (.iload_n 1, 1) := by decide +kernel
theorem dX3_fillSlot_42 : decode cX3_fillSlot 42 = .ok (.iload 5, 2) := by decide +kernel
theorem dX3_fillSlot_44 : decode cX3_fillSlot 44 = .ok (.iadd, 1) := by decide +kernel
theorem dX3_fillSlot_45 : decode cX3_fillSlot 45 = .ok (.iload 5, 2) := by decide +kernel
theorem dX3_fillSlot_47 : decode cX3_fillSlot 47 = .ok (.iload_n 3, 1) := by decide +kernel
theorem dX3_fillSlot_48 : decode cX3_fillSlot 48 = .ok (.if_icmp .ge 7, 3) := by decide +kernel
theorem dX3_fillSlot_51 : decode cX3_fillSlot 51 = .ok (.iconst (-1), 1) := by decide +kernel
theorem dX3_fillSlot_52 : decode cX3_fillSlot 52 = .ok (.goto 4, 3) := by decide +kernel
theorem dX3_fillSlot_55 : decode cX3_fillSlot 55 = .ok (.iconst 0, 1) := by decide +kernel
theorem dX3_fillSlot_56 : decode cX3_fillSlot 56 = .ok (.iastore, 1) := by decide +kernel
theorem dX3_fillSlot_57 : decode cX3_fillSlot 57 = .ok (.iinc 5 1, 3) := by decide +kernel
theorem dX3_fillSlot_60 : decode cX3_fillSlot 60 = .ok (.goto (-29), 3) := by decide +kernel
theorem dX3_fillSlot_63 : decode cX3_fillSlot 63 = .ok (.return_, 1) := by decide +kernel
abbrev cX3_sweepSpans : ByteArray := prog_5_method_13_code
def yX3_sweepSpans : MethodName := ⟨RX3, "sweepSpans", "(I)I"⟩
theorem dX3_sweepSpans_0 : decode cX3_sweepSpans 0 = .ok (.iconst 0, 1) := by decide +kernel
theorem dX3_sweepSpans_1 : decode cX3_sweepSpans 1 = .ok (.istore_n 2, 1) := by decide +kernel
theorem dX3_sweepSpans_2 : decode cX3_sweepSpans 2 = .ok (.iconst 0, 1) := by decide +kernel
theorem dX3_sweepSpans_3 : decode cX3_sweepSpans 3 = .ok (.istore_n 3, 1) := by decide +kernel
theorem dX3_sweepSpans_4 : decode cX3_sweepSpans 4 = .ok (.iload_n 3, 1) := by decide +kernel
theorem dX3_sweepSpans_5 : decode cX3_sweepSpans 5 = .ok (.bipush 16, 2) := by decide +kernel
theorem dX3_sweepSpans_7 : decode cX3_sweepSpans 7 = .ok (.if_icmp .ge 31, 3) := by decide +kernel
theorem dX3_sweepSpans_10 : decode cX3_sweepSpans 10 = .ok (.iload_n 2, 1) := by decide +kernel
theorem dX3_sweepSpans_11 : decode cX3_sweepSpans 11 = .ok (.iload_n 1, 1) := by decide +kernel
theorem dX3_sweepSpans_12 : decode cX3_sweepSpans 12 = .ok (.if_icmp .ge 26, 3) := by decide +kernel
theorem dX3_sweepSpans_15 : decode cX3_sweepSpans 15 = .ok (.aload_n 0, 1) := by decide +kernel
theorem dX3_sweepSpans_16 : decode cX3_sweepSpans 16 = .ok (.getfield 18, 3) := by decide +kernel
theorem dX3_sweepSpans_19 : decode cX3_sweepSpans 19 = .ok (.iload_n 3, 1) := by decide +kernel
theorem dX3_sweepSpans_20 : decode cX3_sweepSpans 20 = .ok (.baload, 1) := by decide +kernel
theorem dX3_sweepSpans_21 : decode cX3_sweepSpans 21 = .ok (.ifCond .eq 11, 3) := by decide +kernel
theorem dX3_sweepSpans_24 : decode cX3_sweepSpans 24 = .ok (.aload_n 0, 1) := by decide +kernel
theorem dX3_sweepSpans_25 : decode cX3_sweepSpans 25 = .ok (.iload_n 3, 1) := by decide +kernel
theorem dX3_sweepSpans_26 : decode cX3_sweepSpans 26 = .ok (.invokevirtual 55, 3) := by decide +kernel
theorem dX3_sweepSpans_29 : decode cX3_sweepSpans 29 = .ok (.iinc 2 1, 3) := by decide +kernel
theorem dX3_sweepSpans_32 : decode cX3_sweepSpans 32 = .ok (.iinc 3 1, 3) := by decide +kernel
theorem dX3_sweepSpans_35 : decode cX3_sweepSpans 35 = .ok (.goto (-31), 3) := by decide +kernel
theorem dX3_sweepSpans_38 : decode cX3_sweepSpans 38 = .ok (.iload_n 2, 1) := by decide +kernel
theorem dX3_sweepSpans_39 : decode cX3_sweepSpans 39 = .ok (.ireturn, 1) := by decide +kernel
abbrev cX3_sweepSpan : ByteArray := prog_5_method_14_code
def yX3_sweepSpan : MethodName := ⟨RX3, "sweepSpan", "(I)V"⟩
theorem dX3_sweepSpan_0 : decode cX3_sweepSpan 0 = .ok (.aload_n 0, 1) := by decide +kernel
theorem dX3_sweepSpan_1 : decode cX3_sweepSpan 1 = .ok (.getfield 18, 3) := by decide +kernel
theorem dX3_sweepSpan_4 : decode cX3_sweepSpan 4 = .ok (.iload_n 1, 1) := by decide +kernel
theorem dX3_sweepSpan_5 : decode cX3_sweepSpan 5 = .ok (.iconst 0, 1) := by decide +kernel
theorem dX3_sweepSpan_6 : decode cX3_sweepSpan 6 = .ok (.bastore, 1) := by decide +kernel
theorem dX3_sweepSpan_7 : decode cX3_sweepSpan 7 = .ok (.iconst 0, 1) := by decide +kernel
theorem dX3_sweepSpan_8 : decode cX3_sweepSpan 8 = .ok (.istore_n 2, 1) := by decide +kernel
theorem dX3_sweepSpan_9 : decode cX3_sweepSpan 9 = .ok (.iload_n 1, 1) := by decide +kernel
theorem dX3_sweepSpan_10 : decode cX3_sweepSpan 10 = .ok (.bipush 8, 2) := by decide +kernel
theorem dX3_sweepSpan_12 : decode cX3_sweepSpan 12 = .ok (.imul, 1) := by decide +kernel
theorem dX3_sweepSpan_13 : decode cX3_sweepSpan 13 = .ok (.istore_n 3, 1) := by decide +kernel
theorem dX3_sweepSpan_14 : decode cX3_sweepSpan 14 = .ok (.iload_n 3, 1) := by decide +kernel
theorem dX3_sweepSpan_15 : decode cX3_sweepSpan 15 = .ok (.iload_n 1, 1) := by decide +kernel
theorem dX3_sweepSpan_16 : decode cX3_sweepSpan 16 = .ok (.iconst 1, 1) := by decide +kernel
theorem dX3_sweepSpan_17 : decode cX3_sweepSpan 17 = .ok (.iadd, 1) := by decide +kernel
theorem dX3_sweepSpan_18 : decode cX3_sweepSpan 18 = .ok (.bipush 8, 2) := by decide +kernel
theorem dX3_sweepSpan_20 : decode cX3_sweepSpan 20 = .ok (.imul, 1) := by decide +kernel
theorem dX3_sweepSpan_21 : decode cX3_sweepSpan 21 = .ok (.if_icmp .ge 63, 3) := by decide +kernel
theorem dX3_sweepSpan_24 : decode cX3_sweepSpan 24 = .ok (.aload_n 0, 1) := by decide +kernel
theorem dX3_sweepSpan_25 : decode cX3_sweepSpan 25 = .ok (.getfield 22, 3) := by decide +kernel
theorem dX3_sweepSpan_28 : decode cX3_sweepSpan 28 = .ok (.iload_n 3, 1) := by decide +kernel
theorem dX3_sweepSpan_29 : decode cX3_sweepSpan 29 = .ok (.iaload, 1) := by decide +kernel
theorem dX3_sweepSpan_30 : decode cX3_sweepSpan 30 = .ok (.ifCond .eq 36, 3) := by decide +kernel
theorem dX3_sweepSpan_33 : decode cX3_sweepSpan 33 = .ok (.aload_n 0, 1) := by decide +kernel
theorem dX3_sweepSpan_34 : decode cX3_sweepSpan 34 = .ok (.getfield 28, 3) := by decide +kernel
theorem dX3_sweepSpan_37 : decode cX3_sweepSpan 37 = .ok (.iload_n 3, 1) := by decide +kernel
theorem dX3_sweepSpan_38 : decode cX3_sweepSpan 38 = .ok (.iaload, 1) := by decide +kernel
theorem dX3_sweepSpan_39 : decode cX3_sweepSpan 39 = .ok (.ifCond .ne 27, 3) := by decide +kernel
theorem dX3_sweepSpan_42 : decode cX3_sweepSpan 42 = .ok (.aload_n 0, 1) := by decide +kernel
theorem dX3_sweepSpan_43 : decode cX3_sweepSpan 43 = .ok (.getfield 22, 3) := by decide +kernel
theorem dX3_sweepSpan_46 : decode cX3_sweepSpan 46 = .ok (.iload_n 3, 1) := by decide +kernel
theorem dX3_sweepSpan_47 : decode cX3_sweepSpan 47 = .ok (.iconst 0, 1) := by decide +kernel
theorem dX3_sweepSpan_48 : decode cX3_sweepSpan 48 = .ok (.iastore, 1) := by decide +kernel
theorem dX3_sweepSpan_49 : decode cX3_sweepSpan 49 = .ok (.aload_n 0, 1) := by decide +kernel
theorem dX3_sweepSpan_50 : decode cX3_sweepSpan 50 = .ok (.getfield 25, 3) := by decide +kernel
theorem dX3_sweepSpan_53 : decode cX3_sweepSpan 53 = .ok (.iload_n 3, 1) := by decide +kernel
theorem dX3_sweepSpan_54 : decode cX3_sweepSpan 54 = .ok (.iconst 0, 1) := by decide +kernel
theorem dX3_sweepSpan_55 : decode cX3_sweepSpan 55 = .ok (.iastore, 1) := by decide +kernel
theorem dX3_sweepSpan_56 : decode cX3_sweepSpan 56 = .ok (.aload_n 0, 1) := by decide +kernel
theorem dX3_sweepSpan_57 : decode cX3_sweepSpan 57 = .ok (.dup, 1) := by decide +kernel
theorem dX3_sweepSpan_58 : decode cX3_sweepSpan 58 = .ok (.getfield 31, 3) := by decide +kernel
theorem dX3_sweepSpan_61 : decode cX3_sweepSpan 61 = .ok (.iconst 1, 1) := by decide +kernel
theorem dX3_sweepSpan_62 : decode cX3_sweepSpan 62 = .ok (.iadd, 1) := by decide +kernel
theorem dX3_sweepSpan_63 : decode cX3_sweepSpan 63 = .ok (.putfield 31, 3) := by decide +kernel
theorem dX3_sweepSpan_66 : decode cX3_sweepSpan 66 = .ok (.aload_n 0, 1) := by decide +kernel
theorem dX3_sweepSpan_67 : decode cX3_sweepSpan 67 = .ok (.getfield 22, 3) := by decide +kernel
theorem dX3_sweepSpan_70 : decode cX3_sweepSpan 70 = .ok (.iload_n 3, 1) := by decide +kernel
theorem dX3_sweepSpan_71 : decode cX3_sweepSpan 71 = .ok (.iaload, 1) := by decide +kernel
theorem dX3_sweepSpan_72 : decode cX3_sweepSpan 72 = .ok (.ifCond .eq 6, 3) := by decide +kernel
theorem dX3_sweepSpan_75 : decode cX3_sweepSpan 75 = .ok (.iinc 2 1, 3) := by decide +kernel
theorem dX3_sweepSpan_78 : decode cX3_sweepSpan 78 = .ok (.iinc 3 1, 3) := by decide +kernel
theorem dX3_sweepSpan_81 : decode cX3_sweepSpan 81 = .ok (.goto (-67), 3) := by decide +kernel
theorem dX3_sweepSpan_84 : decode cX3_sweepSpan 84 = .ok (.iload_n 2, 1) := by decide +kernel
theorem dX3_sweepSpan_85 : decode cX3_sweepSpan 85 = .ok (.ifCond .ne 18, 3) := by decide +kernel
theorem dX3_sweepSpan_88 : decode cX3_sweepSpan 88 = .ok (.aload_n 0, 1) := by decide +kernel
theorem dX3_sweepSpan_89 : decode cX3_sweepSpan 89 = .ok (.iload_n 1, 1) := by decide +kernel
theorem dX3_sweepSpan_90 : decode cX3_sweepSpan 90 = .ok (.aload_n 0, 1) := by decide +kernel
theorem dX3_sweepSpan_91 : decode cX3_sweepSpan 91 = .ok (.getfield 15, 3) := by decide +kernel
theorem dX3_sweepSpan_94 : decode cX3_sweepSpan 94 = .ok (.iload_n 1, 1) := by decide +kernel
theorem dX3_sweepSpan_95 : decode cX3_sweepSpan 95 = .ok (.iaload, 1) := by decide +kernel
theorem dX3_sweepSpan_96 : decode cX3_sweepSpan 96 = .ok (.invokestatic 62, 3) := by decide +kernel
theorem dX3_sweepSpan_99 : decode cX3_sweepSpan 99 = .ok (.iconst 0, 1) := by decide +kernel
theorem dX3_sweepSpan_100 : decode cX3_sweepSpan 100 = .ok (.invokevirtual 68, 3) := by decide +kernel
theorem dX3_sweepSpan_103 : decode cX3_sweepSpan 103 = .ok (.return_, 1) := by decide +kernel
abbrev cX3_fillPages : ByteArray := prog_5_method_15_code
def yX3_fillPages : MethodName := ⟨RX3, "fillPages", "(III)V"⟩
theorem dX3_fillPages_0 : decode cX3_fillPages 0 = .ok (.iload_n 1, 1) := by decide +kernel
theorem dX3_fillPages_1 : decode cX3_fillPages 1 = .ok (.istore 4, 2) := by decide +kernel
theorem dX3_fillPages_3 : decode cX3_fillPages 3 = .ok (.iload 4, 2) := by decide +kernel
theorem dX3_fillPages_5 : decode cX3_fillPages 5 = .ok (.iload_n 1, 1) := by decide +kernel
theorem dX3_fillPages_6 : decode cX3_fillPages 6 = .ok (.iload_n 2, 1) := by decide +kernel
theorem dX3_fillPages_7 : decode cX3_fillPages 7 = .ok (.iadd, 1) := by decide +kernel
theorem dX3_fillPages_8 : decode cX3_fillPages 8 = .ok (.if_icmp .ge 24, 3) := by decide +kernel
theorem dX3_fillPages_11 : decode cX3_fillPages 11 = .ok (.iload 4, 2) := by decide +kernel
theorem dX3_fillPages_13 : decode cX3_fillPages 13 = .ok (.bipush 16, 2) := by decide +kernel
theorem dX3_fillPages_15 : decode cX3_fillPages 15 = .ok (.if_icmp .ge 17, 3) := by decide +kernel
theorem dX3_fillPages_18 : decode cX3_fillPages 18 = .ok (.aload_n 0, 1) := by decide +kernel
theorem dX3_fillPages_19 : decode cX3_fillPages 19 = .ok (.getfield 15, 3) := by decide +kernel
theorem dX3_fillPages_22 : decode cX3_fillPages 22 = .ok (.iload 4, 2) := by decide +kernel
theorem dX3_fillPages_24 : decode cX3_fillPages 24 = .ok (.iload_n 3, 1) := by decide +kernel
theorem dX3_fillPages_25 : decode cX3_fillPages 25 = .ok (.iastore, 1) := by decide +kernel
theorem dX3_fillPages_26 : decode cX3_fillPages 26 = .ok (.iinc 4 1, 3) := by decide +kernel
theorem dX3_fillPages_29 : decode cX3_fillPages 29 = .ok (.goto (-26), 3) := by decide +kernel
theorem dX3_fillPages_32 : decode cX3_fillPages 32 = .ok (.return_, 1) := by decide +kernel
abbrev cX3_leaveAllUnswept : ByteArray := prog_5_method_16_code
def yX3_leaveAllUnswept : MethodName := ⟨RX3, "leaveAllUnswept", "()V"⟩
theorem dX3_leaveAllUnswept_0 : decode cX3_leaveAllUnswept 0 = .ok (.iconst 0, 1) := by decide +kernel
theorem dX3_leaveAllUnswept_1 : decode cX3_leaveAllUnswept 1 = .ok (.istore_n 1, 1) := by decide +kernel
theorem dX3_leaveAllUnswept_2 : decode cX3_leaveAllUnswept 2 = .ok (.iload_n 1, 1) := by decide +kernel
theorem dX3_leaveAllUnswept_3 : decode cX3_leaveAllUnswept 3 = .ok (.bipush 16, 2) := by decide +kernel
theorem dX3_leaveAllUnswept_5 : decode cX3_leaveAllUnswept 5 = .ok (.if_icmp .ge 30, 3) := by decide +kernel
theorem dX3_leaveAllUnswept_8 : decode cX3_leaveAllUnswept 8 = .ok (.aload_n 0, 1) := by decide +kernel
theorem dX3_leaveAllUnswept_9 : decode cX3_leaveAllUnswept 9 = .ok (.getfield 18, 3) := by decide +kernel
theorem dX3_leaveAllUnswept_12 : decode cX3_leaveAllUnswept 12 = .ok (.iload_n 1, 1) := by decide +kernel
theorem dX3_leaveAllUnswept_13 : decode cX3_leaveAllUnswept 13 = .ok (.aload_n 0, 1) := by decide +kernel
theorem dX3_leaveAllUnswept_14 : decode cX3_leaveAllUnswept 14 = .ok (.getfield 15, 3) := by decide +kernel
theorem dX3_leaveAllUnswept_17 : decode cX3_leaveAllUnswept 17 = .ok (.iload_n 1, 1) := by decide +kernel
theorem dX3_leaveAllUnswept_18 : decode cX3_leaveAllUnswept 18 = .ok (.iaload, 1) := by decide +kernel
theorem dX3_leaveAllUnswept_19 : decode cX3_leaveAllUnswept 19 = .ok (.iconst 2, 1) := by decide +kernel
theorem dX3_leaveAllUnswept_20 : decode cX3_leaveAllUnswept 20 = .ok (.if_icmp .lt 7, 3) := by decide +kernel
theorem dX3_leaveAllUnswept_23 : decode cX3_leaveAllUnswept 23 = .ok (.iconst 1, 1) := by decide +kernel
theorem dX3_leaveAllUnswept_24 : decode cX3_leaveAllUnswept 24 = .ok (.goto 4, 3) := by decide +kernel
theorem dX3_leaveAllUnswept_27 : decode cX3_leaveAllUnswept 27 = .ok (.iconst 0, 1) := by decide +kernel
theorem dX3_leaveAllUnswept_28 : decode cX3_leaveAllUnswept 28 = .ok (.bastore, 1) := by decide +kernel
theorem dX3_leaveAllUnswept_29 : decode cX3_leaveAllUnswept 29 = .ok (.iinc 1 1, 3) := by decide +kernel
theorem dX3_leaveAllUnswept_32 : decode cX3_leaveAllUnswept 32 = .ok (.goto (-30), 3) := by decide +kernel
theorem dX3_leaveAllUnswept_35 : decode cX3_leaveAllUnswept 35 = .ok (.return_, 1) := by decide +kernel
abbrev cX3_takenSlots : ByteArray := prog_5_method_17_code
def yX3_takenSlots : MethodName := ⟨RX3, "takenSlots", "()I"⟩
theorem dX3_takenSlots_0 : decode cX3_takenSlots 0 = .ok (.iconst 0, 1) := by decide +kernel
theorem dX3_takenSlots_1 : decode cX3_takenSlots 1 = .ok (.istore_n 1, 1) := by decide +kernel
theorem dX3_takenSlots_2 : decode cX3_takenSlots 2 = .ok (.iconst 0, 1) := by decide +kernel
theorem dX3_takenSlots_3 : decode cX3_takenSlots 3 = .ok (.istore_n 2, 1) := by decide +kernel
theorem dX3_takenSlots_4 : decode cX3_takenSlots 4 = .ok (.iload_n 2, 1) := by decide +kernel
theorem dX3_takenSlots_5 : decode cX3_takenSlots 5 = .ok (.sipush 128, 3) := by decide +kernel
theorem dX3_takenSlots_8 : decode cX3_takenSlots 8 = .ok (.if_icmp .ge 21, 3) := by decide +kernel
theorem dX3_takenSlots_11 : decode cX3_takenSlots 11 = .ok (.aload_n 0, 1) := by decide +kernel
theorem dX3_takenSlots_12 : decode cX3_takenSlots 12 = .ok (.getfield 22, 3) := by decide +kernel
theorem dX3_takenSlots_15 : decode cX3_takenSlots 15 = .ok (.iload_n 2, 1) := by decide +kernel
theorem dX3_takenSlots_16 : decode cX3_takenSlots 16 = .ok (.iaload, 1) := by decide +kernel
theorem dX3_takenSlots_17 : decode cX3_takenSlots 17 = .ok (.ifCond .eq 6, 3) := by decide +kernel
theorem dX3_takenSlots_20 : decode cX3_takenSlots 20 = .ok (.iinc 1 1, 3) := by decide +kernel
theorem dX3_takenSlots_23 : decode cX3_takenSlots 23 = .ok (.iinc 2 1, 3) := by decide +kernel
theorem dX3_takenSlots_26 : decode cX3_takenSlots 26 = .ok (.goto (-22), 3) := by decide +kernel
theorem dX3_takenSlots_29 : decode cX3_takenSlots 29 = .ok (.iload_n 1, 1) := by decide +kernel
theorem dX3_takenSlots_30 : decode cX3_takenSlots 30 = .ok (.ireturn, 1) := by decide +kernel
abbrev cX3_takenWords : ByteArray := prog_5_method_18_code
def yX3_takenWords : MethodName := ⟨RX3, "takenWords", "()I"⟩
theorem dX3_takenWords_0 : decode cX3_takenWords 0 = .ok (.iconst 0, 1) := by decide +kernel
theorem dX3_takenWords_1 : decode cX3_takenWords 1 = .ok (.istore_n 1, 1) := by decide +kernel
theorem dX3_takenWords_2 : decode cX3_takenWords 2 = .ok (.iconst 0, 1) := by decide +kernel
theorem dX3_takenWords_3 : decode cX3_takenWords 3 = .ok (.istore_n 2, 1) := by decide +kernel
theorem dX3_takenWords_4 : decode cX3_takenWords 4 = .ok (.iload_n 2, 1) := by decide +kernel
theorem dX3_takenWords_5 : decode cX3_takenWords 5 = .ok (.sipush 128, 3) := by decide +kernel
theorem dX3_takenWords_8 : decode cX3_takenWords 8 = .ok (.if_icmp .ge 30, 3) := by decide +kernel
theorem dX3_takenWords_11 : decode cX3_takenWords 11 = .ok (.aload_n 0, 1) := by decide +kernel
theorem dX3_takenWords_12 : decode cX3_takenWords 12 = .ok (.getfield 22, 3) := by decide +kernel
theorem dX3_takenWords_15 : decode cX3_takenWords 15 = .ok (.iload_n 2, 1) := by decide +kernel
theorem dX3_takenWords_16 : decode cX3_takenWords 16 = .ok (.iaload, 1) := by decide +kernel
theorem dX3_takenWords_17 : decode cX3_takenWords 17 = .ok (.ifCond .eq 15, 3) := by decide +kernel
theorem dX3_takenWords_20 : decode cX3_takenWords 20 = .ok (.iload_n 1, 1) := by decide +kernel
theorem dX3_takenWords_21 : decode cX3_takenWords 21 = .ok (.aload_n 0, 1) := by decide +kernel
theorem dX3_takenWords_22 : decode cX3_takenWords 22 = .ok (.getfield 22, 3) := by decide +kernel
theorem dX3_takenWords_25 : decode cX3_takenWords 25 = .ok (.iload_n 2, 1) := by decide +kernel
theorem dX3_takenWords_26 : decode cX3_takenWords 26 = .ok (.iaload, 1) := by decide +kernel
theorem dX3_takenWords_27 : decode cX3_takenWords 27 = .ok (.invokestatic 41, 3) := by decide +kernel
theorem dX3_takenWords_30 : decode cX3_takenWords 30 = .ok (.iadd, 1) := by decide +kernel
theorem dX3_takenWords_31 : decode cX3_takenWords 31 = .ok (.istore_n 1, 1) := by decide +kernel
theorem dX3_takenWords_32 : decode cX3_takenWords 32 = .ok (.iinc 2 1, 3) := by decide +kernel
theorem dX3_takenWords_35 : decode cX3_takenWords 35 = .ok (.goto (-31), 3) := by decide +kernel
theorem dX3_takenWords_38 : decode cX3_takenWords 38 = .ok (.iload_n 1, 1) := by decide +kernel
theorem dX3_takenWords_39 : decode cX3_takenWords 39 = .ok (.ireturn, 1) := by decide +kernel
abbrev cX3_keptWords : ByteArray := prog_5_method_19_code
def yX3_keptWords : MethodName := ⟨RX3, "keptWords", "()I"⟩
theorem dX3_keptWords_0 : decode cX3_keptWords 0 = .ok (.iconst 0, 1) := by decide +kernel
theorem dX3_keptWords_1 : decode cX3_keptWords 1 = .ok (.istore_n 1, 1) := by decide +kernel
theorem dX3_keptWords_2 : decode cX3_keptWords 2 = .ok (.iconst 0, 1) := by decide +kernel
theorem dX3_keptWords_3 : decode cX3_keptWords 3 = .ok (.istore_n 2, 1) := by decide +kernel
theorem dX3_keptWords_4 : decode cX3_keptWords 4 = .ok (.iload_n 2, 1) := by decide +kernel
theorem dX3_keptWords_5 : decode cX3_keptWords 5 = .ok (.sipush 128, 3) := by decide +kernel
theorem dX3_keptWords_8 : decode cX3_keptWords 8 = .ok (.if_icmp .ge 39, 3) := by decide +kernel
theorem dX3_keptWords_11 : decode cX3_keptWords 11 = .ok (.aload_n 0, 1) := by decide +kernel
theorem dX3_keptWords_12 : decode cX3_keptWords 12 = .ok (.getfield 22, 3) := by decide +kernel
theorem dX3_keptWords_15 : decode cX3_keptWords 15 = .ok (.iload_n 2, 1) := by decide +kernel
theorem dX3_keptWords_16 : decode cX3_keptWords 16 = .ok (.iaload, 1) := by decide +kernel
theorem dX3_keptWords_17 : decode cX3_keptWords 17 = .ok (.ifCond .eq 24, 3) := by decide +kernel
theorem dX3_keptWords_20 : decode cX3_keptWords 20 = .ok (.aload_n 0, 1) := by decide +kernel
theorem dX3_keptWords_21 : decode cX3_keptWords 21 = .ok (.getfield 28, 3) := by decide +kernel
theorem dX3_keptWords_24 : decode cX3_keptWords 24 = .ok (.iload_n 2, 1) := by decide +kernel
theorem dX3_keptWords_25 : decode cX3_keptWords 25 = .ok (.iaload, 1) := by decide +kernel
theorem dX3_keptWords_26 : decode cX3_keptWords 26 = .ok (.ifCond .eq 15, 3) := by decide +kernel
theorem dX3_keptWords_29 : decode cX3_keptWords 29 = .ok (.iload_n 1, 1) := by decide +kernel
theorem dX3_keptWords_30 : decode cX3_keptWords 30 = .ok (.aload_n 0, 1) := by decide +kernel
theorem dX3_keptWords_31 : decode cX3_keptWords 31 = .ok (.getfield 22, 3) := by decide +kernel
theorem dX3_keptWords_34 : decode cX3_keptWords 34 = .ok (.iload_n 2, 1) := by decide +kernel
theorem dX3_keptWords_35 : decode cX3_keptWords 35 = .ok (.iaload, 1) := by decide +kernel
theorem dX3_keptWords_36 : decode cX3_keptWords 36 = .ok (.invokestatic 41, 3) := by decide +kernel
theorem dX3_keptWords_39 : decode cX3_keptWords 39 = .ok (.iadd, 1) := by decide +kernel
theorem dX3_keptWords_40 : decode cX3_keptWords 40 = .ok (.istore_n 1, 1) := by decide +kernel
theorem dX3_keptWords_41 : decode cX3_keptWords 41 = .ok (.iinc 2 1, 3) := by decide +kernel
theorem dX3_keptWords_44 : decode cX3_keptWords 44 = .ok (.goto (-40), 3) := by decide +kernel
theorem dX3_keptWords_47 : decode cX3_keptWords 47 = .ok (.iload_n 1, 1) := by decide +kernel
theorem dX3_keptWords_48 : decode cX3_keptWords 48 = .ok (.ireturn, 1) := by decide +kernel
abbrev cX3_freePages : ByteArray := prog_5_method_20_code
def yX3_freePages : MethodName := ⟨RX3, "freePages", "()I"⟩
theorem dX3_freePages_0 : decode cX3_freePages 0 = .ok (.iconst 0, 1) := by decide +kernel
theorem dX3_freePages_1 : decode cX3_freePages 1 = .ok (.istore_n 1, 1) := by decide +kernel
theorem dX3_freePages_2 : decode cX3_freePages 2 = .ok (.iconst 0, 1) := by decide +kernel
theorem dX3_freePages_3 : decode cX3_freePages 3 = .ok (.istore_n 2, 1) := by decide +kernel
theorem dX3_freePages_4 : decode cX3_freePages 4 = .ok (.iload_n 2, 1) := by decide +kernel
theorem dX3_freePages_5 : decode cX3_freePages 5 = .ok (.bipush 16, 2) := by decide +kernel
theorem dX3_freePages_7 : decode cX3_freePages 7 = .ok (.if_icmp .ge 21, 3) := by decide +kernel
theorem dX3_freePages_10 : decode cX3_freePages 10 = .ok (.aload_n 0, 1) := by decide +kernel
theorem dX3_freePages_11 : decode cX3_freePages 11 = .ok (.getfield 15, 3) := by decide +kernel
theorem dX3_freePages_14 : decode cX3_freePages 14 = .ok (.iload_n 2, 1) := by decide +kernel
theorem dX3_freePages_15 : decode cX3_freePages 15 = .ok (.iaload, 1) := by decide +kernel
theorem dX3_freePages_16 : decode cX3_freePages 16 = .ok (.ifCond .ne 6, 3) := by decide +kernel
theorem dX3_freePages_19 : decode cX3_freePages 19 = .ok (.iinc 1 1, 3) := by decide +kernel
theorem dX3_freePages_22 : decode cX3_freePages 22 = .ok (.iinc 2 1, 3) := by decide +kernel
theorem dX3_freePages_25 : decode cX3_freePages 25 = .ok (.goto (-21), 3) := by decide +kernel
theorem dX3_freePages_28 : decode cX3_freePages 28 = .ok (.iload_n 1, 1) := by decide +kernel
theorem dX3_freePages_29 : decode cX3_freePages 29 = .ok (.ireturn, 1) := by decide +kernel
abbrev cX3_longestRun : ByteArray := prog_5_method_21_code
def yX3_longestRun : MethodName := ⟨RX3, "longestRun", "()I"⟩
theorem dX3_longestRun_0 : decode cX3_longestRun 0 = .ok (.iconst 0, 1) := by decide +kernel
theorem dX3_longestRun_1 : decode cX3_longestRun 1 = .ok (.istore_n 1, 1) := by decide +kernel
theorem dX3_longestRun_2 : decode cX3_longestRun 2 = .ok (.iconst 0, 1) := by decide +kernel
theorem dX3_longestRun_3 : decode cX3_longestRun 3 = .ok (.istore_n 2, 1) := by decide +kernel
theorem dX3_longestRun_4 : decode cX3_longestRun 4 = .ok (.iconst 0, 1) := by decide +kernel
theorem dX3_longestRun_5 : decode cX3_longestRun 5 = .ok (.istore_n 3, 1) := by decide +kernel
theorem dX3_longestRun_6 : decode cX3_longestRun 6 = .ok (.iload_n 3, 1) := by decide +kernel
theorem dX3_longestRun_7 : decode cX3_longestRun 7 = .ok (.bipush 16, 2) := by decide +kernel
theorem dX3_longestRun_9 : decode cX3_longestRun 9 = .ok (.if_icmp .ge 32, 3) := by decide +kernel
theorem dX3_longestRun_12 : decode cX3_longestRun 12 = .ok (.aload_n 0, 1) := by decide +kernel
theorem dX3_longestRun_13 : decode cX3_longestRun 13 = .ok (.getfield 15, 3) := by decide +kernel
theorem dX3_longestRun_16 : decode cX3_longestRun 16 = .ok (.iload_n 3, 1) := by decide +kernel
theorem dX3_longestRun_17 : decode cX3_longestRun 17 = .ok (.iaload, 1) := by decide +kernel
theorem dX3_longestRun_18 : decode cX3_longestRun 18 = .ok (.ifCond .ne 9, 3) := by decide +kernel
theorem dX3_longestRun_21 : decode cX3_longestRun 21 = .ok (.iload_n 2, 1) := by decide +kernel
theorem dX3_longestRun_22 : decode cX3_longestRun 22 = .ok (.iconst 1, 1) := by decide +kernel
theorem dX3_longestRun_23 : decode cX3_longestRun 23 = .ok (.iadd, 1) := by decide +kernel
theorem dX3_longestRun_24 : decode cX3_longestRun 24 = .ok (.goto 4, 3) := by decide +kernel
theorem dX3_longestRun_27 : decode cX3_longestRun 27 = .ok (.iconst 0, 1) := by decide +kernel
theorem dX3_longestRun_28 : decode cX3_longestRun 28 = .ok (.istore_n 2, 1) := by decide +kernel
theorem dX3_longestRun_29 : decode cX3_longestRun 29 = .ok (.iload_n 1, 1) := by decide +kernel
theorem dX3_longestRun_30 : decode cX3_longestRun 30 = .ok (.iload_n 2, 1) := by decide +kernel
theorem dX3_longestRun_31 : decode cX3_longestRun 31 = .ok (.invokestatic 35, 3) := by decide +kernel
theorem dX3_longestRun_34 : decode cX3_longestRun 34 = .ok (.istore_n 1, 1) := by decide +kernel
theorem dX3_longestRun_35 : decode cX3_longestRun 35 = .ok (.iinc 3 1, 3) := by decide +kernel
theorem dX3_longestRun_38 : decode cX3_longestRun 38 = .ok (.goto (-32), 3) := by decide +kernel
theorem dX3_longestRun_41 : decode cX3_longestRun 41 = .ok (.iload_n 1, 1) := by decide +kernel
theorem dX3_longestRun_42 : decode cX3_longestRun 42 = .ok (.ireturn, 1) := by decide +kernel
abbrev cX3_unsweptSpans : ByteArray := prog_5_method_22_code
def yX3_unsweptSpans : MethodName := ⟨RX3, "unsweptSpans", "()I"⟩
theorem dX3_unsweptSpans_0 : decode cX3_unsweptSpans 0 = .ok (.iconst 0, 1) := by decide +kernel
theorem dX3_unsweptSpans_1 : decode cX3_unsweptSpans 1 = .ok (.istore_n 1, 1) := by decide +kernel
theorem dX3_unsweptSpans_2 : decode cX3_unsweptSpans 2 = .ok (.iconst 0, 1) := by decide +kernel
theorem dX3_unsweptSpans_3 : decode cX3_unsweptSpans 3 = .ok (.istore_n 2, 1) := by decide +kernel
theorem dX3_unsweptSpans_4 : decode cX3_unsweptSpans 4 = .ok (.iload_n 2, 1) := by decide +kernel
theorem dX3_unsweptSpans_5 : decode cX3_unsweptSpans 5 = .ok (.bipush 16, 2) := by decide +kernel
theorem dX3_unsweptSpans_7 : decode cX3_unsweptSpans 7 = .ok (.if_icmp .ge 21, 3) := by decide +kernel
theorem dX3_unsweptSpans_10 : decode cX3_unsweptSpans 10 = .ok (.aload_n 0, 1) := by decide +kernel
theorem dX3_unsweptSpans_11 : decode cX3_unsweptSpans 11 = .ok (.getfield 18, 3) := by decide +kernel
theorem dX3_unsweptSpans_14 : decode cX3_unsweptSpans 14 = .ok (.iload_n 2, 1) := by decide +kernel
theorem dX3_unsweptSpans_15 : decode cX3_unsweptSpans 15 = .ok (.baload, 1) := by decide +kernel
theorem dX3_unsweptSpans_16 : decode cX3_unsweptSpans 16 = .ok (.ifCond .eq 6, 3) := by decide +kernel
theorem dX3_unsweptSpans_19 : decode cX3_unsweptSpans 19 = .ok (.iinc 1 1, 3) := by decide +kernel
theorem dX3_unsweptSpans_22 : decode cX3_unsweptSpans 22 = .ok (.iinc 2 1, 3) := by decide +kernel
theorem dX3_unsweptSpans_25 : decode cX3_unsweptSpans 25 = .ok (.goto (-21), 3) := by decide +kernel
theorem dX3_unsweptSpans_28 : decode cX3_unsweptSpans 28 = .ok (.iload_n 1, 1) := by decide +kernel
theorem dX3_unsweptSpans_29 : decode cX3_unsweptSpans 29 = .ok (.ireturn, 1) := by decide +kernel
end
section
def RX4 : String := "FiberHeap"
def TX4 : u_T := fun k => match k with
  | 0 => ("FiberHeap", "heap", "LFiberHeap$Heap;", true)
  | 1 => ("FiberHeap", "fibers", "[LFiberHeap$Fiber;", true)
  | 2 => ("FiberHeap", "channels", "[LFiberHeap$Channel;", true)
  | 3 => ("FiberHeap", "collector", "LFiberHeap$Collector;", true)
  | _ => ("FiberHeap", "nextTicket", "I", false)
def tyX4 : Nat → FieldType := fun k => match k with
  | 0 => .object "FiberHeap$Heap"
  | 1 => .array (.object "FiberHeap$Fiber")
  | 2 => .array (.object "FiberHeap$Channel")
  | 3 => .object "FiberHeap$Collector"
  | _ => .int
theorem nmX4 : ∀ a, a < 5 → ∀ b, b < 5 → a ≠ b → (TX4 a).2.1 ≠ (TX4 b).2.1 := by decide +kernel
theorem tyX4_ok : ∀ k, k < 5 → parseFieldDescriptor (TX4 k).2.2.1 = some (tyX4 k) := by decide +kernel
abbrev cX4_init : ByteArray := prog_1_method_1_code
def yX4_init : MethodName := ⟨RX4, "<init>", "()V"⟩
theorem dX4_init_0 : decode cX4_init 0 = .ok (.aload_n 0, 1) := by decide +kernel
theorem dX4_init_1 : decode cX4_init 1 = .ok (.invokespecial 3, 3) := by decide +kernel
theorem dX4_init_4 : decode cX4_init 4 = .ok (.aload_n 0, 1) := by decide +kernel
theorem dX4_init_5 : decode cX4_init 5 = .ok (.new 9, 3) := by decide +kernel
theorem dX4_init_8 : decode cX4_init 8 = .ok (.dup, 1) := by decide +kernel
theorem dX4_init_9 : decode cX4_init 9 = .ok (.invokespecial 11, 3) := by decide +kernel
theorem dX4_init_12 : decode cX4_init 12 = .ok (.putfield 12, 3) := by decide +kernel
theorem dX4_init_15 : decode cX4_init 15 = .ok (.aload_n 0, 1) := by decide +kernel
theorem dX4_init_16 : decode cX4_init 16 = .ok (.bipush 6, 2) := by decide +kernel
theorem dX4_init_18 : decode cX4_init 18 = .ok (.anewarray 16, 3) := by decide +kernel
theorem dX4_init_21 : decode cX4_init 21 = .ok (.putfield 18, 3) := by decide +kernel
theorem dX4_init_24 : decode cX4_init 24 = .ok (.iconst 0, 1) := by decide +kernel
theorem dX4_init_25 : decode cX4_init 25 = .ok (.istore_n 1, 1) := by decide +kernel
theorem dX4_init_26 : decode cX4_init 26 = .ok (.iload_n 1, 1) := by decide +kernel
theorem dX4_init_27 : decode cX4_init 27 = .ok (.bipush 6, 2) := by decide +kernel
theorem dX4_init_29 : decode cX4_init 29 = .ok (.if_icmp .ge 22, 3) := by decide +kernel
theorem dX4_init_32 : decode cX4_init 32 = .ok (.aload_n 0, 1) := by decide +kernel
theorem dX4_init_33 : decode cX4_init 33 = .ok (.getfield 18, 3) := by decide +kernel
theorem dX4_init_36 : decode cX4_init 36 = .ok (.iload_n 1, 1) := by decide +kernel
theorem dX4_init_37 : decode cX4_init 37 = .ok (.new 16, 3) := by decide +kernel
theorem dX4_init_40 : decode cX4_init 40 = .ok (.dup, 1) := by decide +kernel
theorem dX4_init_41 : decode cX4_init 41 = .ok (.invokespecial 22, 3) := by decide +kernel
theorem dX4_init_44 : decode cX4_init 44 = .ok (.aastore, 1) := by decide +kernel
theorem dX4_init_45 : decode cX4_init 45 = .ok (.iinc 1 1, 3) := by decide +kernel
theorem dX4_init_48 : decode cX4_init 48 = .ok (.goto (-22), 3) := by decide +kernel
theorem dX4_init_51 : decode cX4_init 51 = .ok (.aload_n 0, 1) := by decide +kernel
theorem dX4_init_52 : decode cX4_init 52 = .ok (.iconst 4, 1) := by decide +kernel
theorem dX4_init_53 : decode cX4_init 53 = .ok (.anewarray 23, 3) := by decide +kernel
theorem dX4_init_56 : decode cX4_init 56 = .ok (.putfield 25, 3) := by decide +kernel
theorem dX4_init_59 : decode cX4_init 59 = .ok (.iconst 0, 1) := by decide +kernel
theorem dX4_init_60 : decode cX4_init 60 = .ok (.istore_n 1, 1) := by decide +kernel
theorem dX4_init_61 : decode cX4_init 61 = .ok (.iload_n 1, 1) := by decide +kernel
theorem dX4_init_62 : decode cX4_init 62 = .ok (.iconst 4, 1) := by decide +kernel
theorem dX4_init_63 : decode cX4_init 63 = .ok (.if_icmp .ge 23, 3) := by decide +kernel
theorem dX4_init_66 : decode cX4_init 66 = .ok (.aload_n 0, 1) := by decide +kernel
theorem dX4_init_67 : decode cX4_init 67 = .ok (.getfield 25, 3) := by decide +kernel
theorem dX4_init_70 : decode cX4_init 70 = .ok (.iload_n 1, 1) := by decide +kernel
theorem dX4_init_71 : decode cX4_init 71 = .ok (.new 23, 3) := by decide +kernel
theorem dX4_init_74 : decode cX4_init 74 = .ok (.dup, 1) := by decide +kernel
theorem dX4_init_75 : decode cX4_init 75 = .ok (.iload_n 1, 1) := by decide +kernel
theorem dX4_init_76 : decode cX4_init 76 = .ok (.invokespecial 29, 3) := by decide +kernel
theorem dX4_init_79 : decode cX4_init 79 = .ok (.aastore, 1) := by decide +kernel
theorem dX4_init_80 : decode cX4_init 80 = .ok (.iinc 1 1, 3) := by decide +kernel
theorem dX4_init_83 : decode cX4_init 83 = .ok (.goto (-22), 3) := by decide +kernel
theorem dX4_init_86 : decode cX4_init 86 = .ok (.aload_n 0, 1) := by decide +kernel
theorem dX4_init_87 : decode cX4_init 87 = .ok (.new 32, 3) := by decide +kernel
theorem dX4_init_90 : decode cX4_init 90 = .ok (.dup, 1) := by decide +kernel
theorem dX4_init_91 : decode cX4_init 91 = .ok (.aload_n 0, 1) := by decide +kernel
theorem dX4_init_92 : decode cX4_init 92 = .ok (.getfield 12, 3) := by decide +kernel
theorem dX4_init_95 : decode cX4_init 95 = .ok (.aload_n 0, 1) := by decide +kernel
theorem dX4_init_96 : decode cX4_init 96 = .ok (.getfield 18, 3) := by decide +kernel
theorem dX4_init_99 : decode cX4_init 99 = .ok (.aload_n 0, 1) := by decide +kernel
theorem dX4_init_100 : decode cX4_init 100 = .ok (.getfield 25, 3) := by decide +kernel
theorem dX4_init_103 : decode cX4_init 103 = .ok (.invokespecial 34, 3) := by decide +kernel
theorem dX4_init_106 : decode cX4_init 106 = .ok (.putfield 37, 3) := by decide +kernel
theorem dX4_init_109 : decode cX4_init 109 = .ok (.aload_n 0, 1) := by decide +kernel
theorem dX4_init_110 : decode cX4_init 110 = .ok (.iconst 0, 1) := by decide +kernel
theorem dX4_init_111 : decode cX4_init 111 = .ok (.putfield 41, 3) := by decide +kernel
theorem dX4_init_114 : decode cX4_init 114 = .ok (.aload_n 0, 1) := by decide +kernel
theorem dX4_init_115 : decode cX4_init 115 = .ok (.getfield 18, 3) := by decide +kernel
theorem dX4_init_118 : decode cX4_init 118 = .ok (.iconst 0, 1) := by decide +kernel
theorem dX4_init_119 : decode cX4_init 119 = .ok (.aaload, 1) := by decide +kernel
theorem dX4_init_120 : decode cX4_init 120 = .ok (.iconst (-1), 1) := by decide +kernel
theorem dX4_init_121 : decode cX4_init 121 = .ok (.invokevirtual 45, 3) := by decide +kernel
theorem dX4_init_124 : decode cX4_init 124 = .ok (.return_, 1) := by decide +kernel
abbrev cX4_spawn : ByteArray := prog_1_method_2_code
def yX4_spawn : MethodName := ⟨RX4, "spawn", "(II)I"⟩
theorem dX4_spawn_0 : decode cX4_spawn 0 = .ok (.aload_n 0, 1) := by decide +kernel
theorem dX4_spawn_1 : decode cX4_spawn 1 = .ok (.iload_n 1, 1) := by decide +kernel
theorem dX4_spawn_2 : decode cX4_spawn 2 = .ok (.invokevirtual 48, 3) := by decide +kernel
theorem dX4_spawn_5 : decode cX4_spawn 5 = .ok (.astore_n 3, 1) := by decide +kernel
theorem dX4_spawn_6 : decode cX4_spawn 6 = .ok (.aload_n 0, 1) := by decide +kernel
theorem dX4_spawn_7 : decode cX4_spawn 7 = .ok (.invokevirtual 52, 3) := by decide +kernel
theorem dX4_spawn_10 : decode cX4_spawn 10 = .ok (.istore 4, 2) := by decide +kernel
theorem dX4_spawn_12 : decode cX4_spawn 12 = .ok (.aload_n 3, 1) := by decide +kernel
theorem dX4_spawn_13 : decode cX4_spawn 13 = .ok (.ifnull 17, 3) := by decide +kernel
theorem dX4_spawn_16 : decode cX4_spawn 16 = .ok (.aload_n 3, 1) := by decide +kernel
theorem dX4_spawn_17 : decode cX4_spawn 17 = .ok (.iload_n 2, 1) := by decide +kernel
theorem dX4_spawn_18 : decode cX4_spawn 18 = .ok (.invokevirtual 56, 3) := by decide +kernel
theorem dX4_spawn_21 : decode cX4_spawn 21 = .ok (.ifCond .eq 9, 3) := by decide +kernel
theorem dX4_spawn_24 : decode cX4_spawn 24 = .ok (.iload 4, 2) := by decide +kernel
theorem dX4_spawn_26 : decode cX4_spawn 26 = .ok (.iconst (-1), 1) := by decide +kernel
theorem dX4_spawn_27 : decode cX4_spawn 27 = .ok (.if_icmp .ne 5, 3) := by decide +kernel
theorem dX4_spawn_30 : decode cX4_spawn 30 = .ok (.iconst (-1), 1) := by decide +kernel
theorem dX4_spawn_31 : decode cX4_spawn 31 = .ok (.ireturn, 1) := by decide +kernel
theorem dX4_spawn_32 : decode cX4_spawn 32 = .ok (.aload_n 0, 1) := by decide +kernel
theorem dX4_spawn_33 : decode cX4_spawn 33 = .ok (.getfield 18, 3) := by decide +kernel
theorem dX4_spawn_36 : decode cX4_spawn 36 = .ok (.iload 4, 2) := by decide +kernel
theorem dX4_spawn_38 : decode cX4_spawn 38 = .ok (.aaload, 1) := by decide +kernel
theorem dX4_spawn_39 : decode cX4_spawn 39 = .ok (.aload_n 3, 1) := by decide +kernel
theorem dX4_spawn_40 : decode cX4_spawn 40 = .ok (.iload_n 2, 1) := by decide +kernel
theorem dX4_spawn_41 : decode cX4_spawn 41 = .ok (.invokevirtual 60, 3) := by decide +kernel
theorem dX4_spawn_44 : decode cX4_spawn 44 = .ok (.invokevirtual 45, 3) := by decide +kernel
theorem dX4_spawn_47 : decode cX4_spawn 47 = .ok (.iload 4, 2) := by decide +kernel
theorem dX4_spawn_49 : decode cX4_spawn 49 = .ok (.ireturn, 1) := by decide +kernel
abbrev cX4_end : ByteArray := prog_1_method_3_code
def yX4_end : MethodName := ⟨RX4, "end", "(I)Z"⟩
theorem dX4_end_0 : decode cX4_end 0 = .ok (.aload_n 0, 1) := by decide +kernel
theorem dX4_end_1 : decode cX4_end 1 = .ok (.iload_n 1, 1) := by decide +kernel
theorem dX4_end_2 : decode cX4_end 2 = .ok (.invokevirtual 64, 3) := by decide +kernel
theorem dX4_end_5 : decode cX4_end 5 = .ok (.ifCond .eq 11, 3) := by decide +kernel
theorem dX4_end_8 : decode cX4_end 8 = .ok (.aload_n 0, 1) := by decide +kernel
theorem dX4_end_9 : decode cX4_end 9 = .ok (.invokevirtual 67, 3) := by decide +kernel
theorem dX4_end_12 : decode cX4_end 12 = .ok (.iconst 1, 1) := by decide +kernel
theorem dX4_end_13 : decode cX4_end 13 = .ok (.if_icmp .ne 5, 3) := by decide +kernel
theorem dX4_end_16 : decode cX4_end 16 = .ok (.iconst 0, 1) := by decide +kernel
theorem dX4_end_17 : decode cX4_end 17 = .ok (.ireturn, 1) := by decide +kernel
theorem dX4_end_18 : decode cX4_end 18 = .ok (.aload_n 0, 1) := by decide +kernel
theorem dX4_end_19 : decode cX4_end 19 = .ok (.getfield 18, 3) := by decide +kernel
theorem dX4_end_22 : decode cX4_end 22 = .ok (.iload_n 1, 1) := by decide +kernel
theorem dX4_end_23 : decode cX4_end 23 = .ok (.aaload, 1) := by decide +kernel
theorem dX4_end_24 : decode cX4_end 24 = .ok (.iconst 0, 1) := by decide +kernel
theorem dX4_end_25 : decode cX4_end 25 = .ok (.putfield 70, 3) := by decide +kernel
theorem dX4_end_28 : decode cX4_end 28 = .ok (.iconst 1, 1) := by decide +kernel
theorem dX4_end_29 : decode cX4_end 29 = .ok (.ireturn, 1) := by decide +kernel
abbrev cX4_wake : ByteArray := prog_1_method_4_code
def yX4_wake : MethodName := ⟨RX4, "wake", "(I)Z"⟩
theorem dX4_wake_0 : decode cX4_wake 0 = .ok (.aload_n 0, 1) := by decide +kernel
theorem dX4_wake_1 : decode cX4_wake 1 = .ok (.iload_n 1, 1) := by decide +kernel
theorem dX4_wake_2 : decode cX4_wake 2 = .ok (.invokevirtual 64, 3) := by decide +kernel
theorem dX4_wake_5 : decode cX4_wake 5 = .ok (.ifCond .eq 16, 3) := by decide +kernel
theorem dX4_wake_8 : decode cX4_wake 8 = .ok (.aload_n 0, 1) := by decide +kernel
theorem dX4_wake_9 : decode cX4_wake 9 = .ok (.getfield 18, 3) := by decide +kernel
theorem dX4_wake_12 : decode cX4_wake 12 = .ok (.iload_n 1, 1) := by decide +kernel
theorem dX4_wake_13 : decode cX4_wake 13 = .ok (.aaload, 1) := by decide +kernel
theorem dX4_wake_14 : decode cX4_wake 14 = .ok (.getfield 70, 3) := by decide +kernel
theorem dX4_wake_17 : decode cX4_wake 17 = .ok (.iconst 1, 1) := by decide +kernel
theorem dX4_wake_18 : decode cX4_wake 18 = .ok (.if_icmp .ne 5, 3) := by decide +kernel
theorem dX4_wake_21 : decode cX4_wake 21 = .ok (.iconst 0, 1) := by decide +kernel
theorem dX4_wake_22 : decode cX4_wake 22 = .ok (.ireturn, 1) := by decide +kernel
theorem dX4_wake_23 : decode cX4_wake 23 = .ok (.aload_n 0, 1) := by decide +kernel
theorem dX4_wake_24 : decode cX4_wake 24 = .ok (.getfield 18, 3) := by decide +kernel
theorem dX4_wake_27 : decode cX4_wake 27 = .ok (.iload_n 1, 1) := by decide +kernel
theorem dX4_wake_28 : decode cX4_wake 28 = .ok (.aaload, 1) := by decide +kernel
theorem dX4_wake_29 : decode cX4_wake 29 = .ok (.iconst 1, 1) := by decide +kernel
theorem dX4_wake_30 : decode cX4_wake 30 = .ok (.putfield 70, 3) := by decide +kernel
theorem dX4_wake_33 : decode cX4_wake 33 = .ok (.iconst 1, 1) := by decide +kernel
theorem dX4_wake_34 : decode cX4_wake 34 = .ok (.ireturn, 1) := by decide +kernel
abbrev cX4_call : ByteArray := prog_1_method_5_code
def yX4_call : MethodName := ⟨RX4, "call", "(I)Z"⟩
theorem dX4_call_0 : decode cX4_call 0 = .ok (.aload_n 0, 1) := by decide +kernel
theorem dX4_call_1 : decode cX4_call 1 = .ok (.iload_n 1, 1) := by decide +kernel
theorem dX4_call_2 : decode cX4_call 2 = .ok (.invokevirtual 48, 3) := by decide +kernel
theorem dX4_call_5 : decode cX4_call 5 = .ok (.astore_n 2, 1) := by decide +kernel
theorem dX4_call_6 : decode cX4_call 6 = .ok (.aload_n 2, 1) := by decide +kernel
theorem dX4_call_7 : decode cX4_call 7 = .ok (.ifnull 12, 3) := by decide +kernel
theorem dX4_call_10 : decode cX4_call 10 = .ok (.aload_n 2, 1) := by decide +kernel
theorem dX4_call_11 : decode cX4_call 11 = .ok (.getfield 73, 3) := by decide +kernel
theorem dX4_call_14 : decode cX4_call 14 = .ok (.bipush 16, 2) := by decide +kernel
theorem dX4_call_16 : decode cX4_call 16 = .ok (.if_icmp .lt 5, 3) := by decide +kernel
theorem dX4_call_19 : decode cX4_call 19 = .ok (.iconst 0, 1) := by decide +kernel
theorem dX4_call_20 : decode cX4_call 20 = .ok (.ireturn, 1) := by decide +kernel
theorem dX4_call_21 : decode cX4_call 21 = .ok (.aload_n 2, 1) := by decide +kernel
theorem dX4_call_22 : decode cX4_call 22 = .ok (.invokevirtual 76, 3) := by decide +kernel
theorem dX4_call_25 : decode cX4_call 25 = .ok (.iconst 1, 1) := by decide +kernel
theorem dX4_call_26 : decode cX4_call 26 = .ok (.ireturn, 1) := by decide +kernel
abbrev cX4_leave : ByteArray := prog_1_method_6_code
def yX4_leave : MethodName := ⟨RX4, "leave", "(I)Z"⟩
theorem dX4_leave_0 : decode cX4_leave 0 = .ok (.aload_n 0, 1) := by decide +kernel
theorem dX4_leave_1 : decode cX4_leave 1 = .ok (.iload_n 1, 1) := by decide +kernel
theorem dX4_leave_2 : decode cX4_leave 2 = .ok (.invokevirtual 48, 3) := by decide +kernel
theorem dX4_leave_5 : decode cX4_leave 5 = .ok (.astore_n 2, 1) := by decide +kernel
theorem dX4_leave_6 : decode cX4_leave 6 = .ok (.aload_n 2, 1) := by decide +kernel
theorem dX4_leave_7 : decode cX4_leave 7 = .ok (.ifnull 11, 3) := by decide +kernel
theorem dX4_leave_10 : decode cX4_leave 10 = .ok (.aload_n 2, 1) := by decide +kernel
theorem dX4_leave_11 : decode cX4_leave 11 = .ok (.getfield 73, 3) := by decide +kernel
theorem dX4_leave_14 : decode cX4_leave 14 = .ok (.iconst 1, 1) := by decide +kernel
theorem dX4_leave_15 : decode cX4_leave 15 = .ok (.if_icmp .gt 5, 3) := by decide +kernel
theorem dX4_leave_18 : decode cX4_leave 18 = .ok (.iconst 0, 1) := by decide +kernel
theorem dX4_leave_19 : decode cX4_leave 19 = .ok (.ireturn, 1) := by decide +kernel
theorem dX4_leave_20 : decode cX4_leave 20 = .ok (.aload_n 2, 1) := by decide +kernel
theorem dX4_leave_21 : decode cX4_leave 21 = .ok (.invokevirtual 79, 3) := by decide +kernel
theorem dX4_leave_24 : decode cX4_leave 24 = .ok (.iconst 1, 1) := by decide +kernel
theorem dX4_leave_25 : decode cX4_leave 25 = .ok (.ireturn, 1) := by decide +kernel
abbrev cX4_aim : ByteArray := prog_1_method_7_code
def yX4_aim : MethodName := ⟨RX4, "aim", "(II)Z"⟩
theorem dX4_aim_0 : decode cX4_aim 0 = .ok (.aload_n 0, 1) := by decide +kernel
theorem dX4_aim_1 : decode cX4_aim 1 = .ok (.iload_n 1, 1) := by decide +kernel
theorem dX4_aim_2 : decode cX4_aim 2 = .ok (.invokevirtual 48, 3) := by decide +kernel
theorem dX4_aim_5 : decode cX4_aim 5 = .ok (.astore_n 3, 1) := by decide +kernel
theorem dX4_aim_6 : decode cX4_aim 6 = .ok (.aload_n 3, 1) := by decide +kernel
theorem dX4_aim_7 : decode cX4_aim 7 = .ok (.ifnull 12, 3) := by decide +kernel
theorem dX4_aim_10 : decode cX4_aim 10 = .ok (.iload_n 2, 1) := by decide +kernel
theorem dX4_aim_11 : decode cX4_aim 11 = .ok (.ifCond .lt 8, 3) := by decide +kernel
theorem dX4_aim_14 : decode cX4_aim 14 = .ok (.iload_n 2, 1) := by decide +kernel
theorem dX4_aim_15 : decode cX4_aim 15 = .ok (.iconst 4, 1) := by decide +kernel
theorem dX4_aim_16 : decode cX4_aim 16 = .ok (.if_icmp .lt 5, 3) := by decide +kernel
theorem dX4_aim_19 : decode cX4_aim 19 = .ok (.iconst 0, 1) := by decide +kernel
theorem dX4_aim_20 : decode cX4_aim 20 = .ok (.ireturn, 1) := by decide +kernel
theorem dX4_aim_21 : decode cX4_aim 21 = .ok (.aload_n 3, 1) := by decide +kernel
theorem dX4_aim_22 : decode cX4_aim 22 = .ok (.getfield 82, 3) := by decide +kernel
theorem dX4_aim_25 : decode cX4_aim 25 = .ok (.aload_n 3, 1) := by decide +kernel
theorem dX4_aim_26 : decode cX4_aim 26 = .ok (.getfield 73, 3) := by decide +kernel
theorem dX4_aim_29 : decode cX4_aim 29 = .ok (.iconst 1, 1) := by decide +kernel
theorem dX4_aim_30 : decode cX4_aim 30 = .ok (.isub, 1) := by decide +kernel
theorem dX4_aim_31 : decode cX4_aim 31 = .ok (.aload_n 3, 1) := by decide +kernel
theorem dX4_aim_32 : decode cX4_aim 32 = .ok (.iload_n 2, 1) := by decide +kernel
theorem dX4_aim_33 : decode cX4_aim 33 = .ok (.invokevirtual 86, 3) := by decide +kernel
theorem dX4_aim_36 : decode cX4_aim 36 = .ok (.iastore, 1) := by decide +kernel
theorem dX4_aim_37 : decode cX4_aim 37 = .ok (.iconst 1, 1) := by decide +kernel
theorem dX4_aim_38 : decode cX4_aim 38 = .ok (.ireturn, 1) := by decide +kernel
abbrev cX4_copy : ByteArray := prog_1_method_8_code
def yX4_copy : MethodName := ⟨RX4, "copy", "(III)Z"⟩
theorem dX4_copy_0 : decode cX4_copy 0 = .ok (.aload_n 0, 1) := by decide +kernel
theorem dX4_copy_1 : decode cX4_copy 1 = .ok (.iload_n 1, 1) := by decide +kernel
theorem dX4_copy_2 : decode cX4_copy 2 = .ok (.invokevirtual 48, 3) := by decide +kernel
theorem dX4_copy_5 : decode cX4_copy 5 = .ok (.astore 4, 2) := by decide +kernel
theorem dX4_copy_7 : decode cX4_copy 7 = .ok (.aload 4, 2) := by decide +kernel
theorem dX4_copy_9 : decode cX4_copy 9 = .ok (.ifnull 21, 3) := by decide +kernel
theorem dX4_copy_12 : decode cX4_copy 12 = .ok (.aload 4, 2) := by decide +kernel
theorem dX4_copy_14 : decode cX4_copy 14 = .ok (.iload_n 2, 1) := by decide +kernel
theorem dX4_copy_15 : decode cX4_copy 15 = .ok (.invokevirtual 89, 3) := by decide +kernel
theorem dX4_copy_18 : decode cX4_copy 18 = .ok (.ifCond .eq 12, 3) := by decide +kernel
theorem dX4_copy_21 : decode cX4_copy 21 = .ok (.aload 4, 2) := by decide +kernel
theorem dX4_copy_23 : decode cX4_copy 23 = .ok (.iload_n 3, 1) := by decide +kernel
theorem dX4_copy_24 : decode cX4_copy 24 = .ok (.invokevirtual 56, 3) := by decide +kernel
theorem dX4_copy_27 : decode cX4_copy 27 = .ok (.ifCond .ne 5, 3) := by decide +kernel
theorem dX4_copy_30 : decode cX4_copy 30 = .ok (.iconst 0, 1) := by decide +kernel
theorem dX4_copy_31 : decode cX4_copy 31 = .ok (.ireturn, 1) := by decide +kernel
theorem dX4_copy_32 : decode cX4_copy 32 = .ok (.aload 4, 2) := by decide +kernel
theorem dX4_copy_34 : decode cX4_copy 34 = .ok (.iload_n 2, 1) := by decide +kernel
theorem dX4_copy_35 : decode cX4_copy 35 = .ok (.aload 4, 2) := by decide +kernel
theorem dX4_copy_37 : decode cX4_copy 37 = .ok (.iload_n 3, 1) := by decide +kernel
theorem dX4_copy_38 : decode cX4_copy 38 = .ok (.invokevirtual 60, 3) := by decide +kernel
theorem dX4_copy_41 : decode cX4_copy 41 = .ok (.invokevirtual 92, 3) := by decide +kernel
theorem dX4_copy_44 : decode cX4_copy 44 = .ok (.iconst 1, 1) := by decide +kernel
theorem dX4_copy_45 : decode cX4_copy 45 = .ok (.ireturn, 1) := by decide +kernel
abbrev cX4_make : ByteArray := prog_1_method_9_code
def yX4_make : MethodName := ⟨RX4, "make", "(IIII)I"⟩
theorem dX4_make_0 : decode cX4_make 0 = .ok (.aload_n 0, 1) := by decide +kernel
theorem dX4_make_1 : decode cX4_make 1 = .ok (.iload_n 1, 1) := by decide +kernel
theorem dX4_make_2 : decode cX4_make 2 = .ok (.invokevirtual 48, 3) := by decide +kernel
theorem dX4_make_5 : decode cX4_make 5 = .ok (.astore 5, 2) := by decide +kernel
theorem dX4_make_7 : decode cX4_make 7 = .ok (.aload 5, 2) := by decide +kernel
theorem dX4_make_9 : decode cX4_make 9 = .ok (.ifnull 12, 3) := by decide +kernel
theorem dX4_make_12 : decode cX4_make 12 = .ok (.aload 5, 2) := by decide +kernel
theorem dX4_make_14 : decode cX4_make 14 = .ok (.iload_n 2, 1) := by decide +kernel
theorem dX4_make_15 : decode cX4_make 15 = .ok (.invokevirtual 89, 3) := by decide +kernel
theorem dX4_make_18 : decode cX4_make 18 = .ok (.ifCond .ne 5, 3) := by decide +kernel
theorem dX4_make_21 : decode cX4_make 21 = .ok (.iconst (-1), 1) := by decide +kernel
theorem dX4_make_22 : decode cX4_make 22 = .ok (.ireturn, 1) := by decide +kernel
theorem dX4_make_23 : decode cX4_make 23 = .ok (.iload_n 3, 1) := by decide +kernel
theorem dX4_make_24 : decode cX4_make 24 = .ok (.iconst 1, 1) := by decide +kernel
theorem dX4_make_25 : decode cX4_make 25 = .ok (.if_icmp .lt 20, 3) := by decide +kernel
theorem dX4_make_28 : decode cX4_make 28 = .ok (.iload_n 3, 1) := by decide +kernel
theorem dX4_make_29 : decode cX4_make 29 = .ok (.bipush 64, 2) := by decide +kernel
theorem dX4_make_31 : decode cX4_make 31 = .ok (.if_icmp .gt 14, 3) := by decide +kernel
theorem dX4_make_34 : decode cX4_make 34 = .ok (.iload 4, 2) := by decide +kernel
theorem dX4_make_36 : decode cX4_make 36 = .ok (.ifCond .lt 9, 3) := by decide +kernel
theorem dX4_make_39 : decode cX4_make 39 = .ok (.iload 4, 2) := by decide +kernel
theorem dX4_make_41 : decode cX4_make 41 = .ok (.iload_n 3, 1) := by decide +kernel
theorem dX4_make_42 : decode cX4_make 42 = .ok (.if_icmp .le 5, 3) := by decide +kernel
theorem dX4_make_45 : decode cX4_make 45 = .ok (.iconst (-1), 1) := by decide +kernel
theorem dX4_make_46 : decode cX4_make 46 = .ok (.ireturn, 1) := by decide +kernel
theorem dX4_make_47 : decode cX4_make 47 = .ok (.aload_n 0, 1) := by decide +kernel
theorem dX4_make_48 : decode cX4_make 48 = .ok (.getfield 37, 3) := by decide +kernel
theorem dX4_make_51 : decode cX4_make 51 = .ok (.iload_n 3, 1) := by decide +kernel
theorem dX4_make_52 : decode cX4_make 52 = .ok (.invokestatic 96, 3) := by decide +kernel
theorem dX4_make_55 : decode cX4_make 55 = .ok (.invokevirtual 99, 3) := by decide +kernel
theorem dX4_make_58 : decode cX4_make 58 = .ok (.aload_n 0, 1) := by decide +kernel
theorem dX4_make_59 : decode cX4_make 59 = .ok (.iload_n 3, 1) := by decide +kernel
theorem dX4_make_60 : decode cX4_make 60 = .ok (.iload 4, 2) := by decide +kernel
theorem dX4_make_62 : decode cX4_make 62 = .ok (.invokevirtual 102, 3) := by decide +kernel
theorem dX4_make_65 : decode cX4_make 65 = .ok (.istore 6, 2) := by decide +kernel
theorem dX4_make_67 : decode cX4_make 67 = .ok (.iload 6, 2) := by decide +kernel
theorem dX4_make_69 : decode cX4_make 69 = .ok (.iconst (-1), 1) := by decide +kernel
theorem dX4_make_70 : decode cX4_make 70 = .ok (.if_icmp .ne 6, 3) := by decide +kernel
theorem dX4_make_73 : decode cX4_make 73 = .ok (.bipush (-2), 2) := by decide +kernel
theorem dX4_make_75 : decode cX4_make 75 = .ok (.ireturn, 1) := by decide +kernel
theorem dX4_make_76 : decode cX4_make 76 = .ok (.aload_n 0, 1) := by decide +kernel
theorem dX4_make_77 : decode cX4_make 77 = .ok (.getfield 37, 3) := by decide +kernel
theorem dX4_make_80 : decode cX4_make 80 = .ok (.dup, 1) := by decide +kernel
theorem dX4_make_81 : decode cX4_make 81 = .ok (.getfield 106, 3) := by decide +kernel
theorem dX4_make_84 : decode cX4_make 84 = .ok (.iload_n 3, 1) := by decide +kernel
theorem dX4_make_85 : decode cX4_make 85 = .ok (.invokestatic 96, 3) := by decide +kernel
theorem dX4_make_88 : decode cX4_make 88 = .ok (.iadd, 1) := by decide +kernel
theorem dX4_make_89 : decode cX4_make 89 = .ok (.putfield 106, 3) := by decide +kernel
theorem dX4_make_92 : decode cX4_make 92 = .ok (.aload 5, 2) := by decide +kernel
theorem dX4_make_94 : decode cX4_make 94 = .ok (.iload_n 2, 1) := by decide +kernel
theorem dX4_make_95 : decode cX4_make 95 = .ok (.iload 6, 2) := by decide +kernel
theorem dX4_make_97 : decode cX4_make 97 = .ok (.invokevirtual 92, 3) := by decide +kernel
theorem dX4_make_100 : decode cX4_make 100 = .ok (.iload 6, 2) := by decide +kernel
theorem dX4_make_102 : decode cX4_make 102 = .ok (.ireturn, 1) := by decide +kernel
abbrev cX4_set : ByteArray := prog_1_method_10_code
def yX4_set : MethodName := ⟨RX4, "set", "(IIII)Z"⟩
theorem dX4_set_0 : decode cX4_set 0 = .ok (.aload_n 0, 1) := by decide +kernel
theorem dX4_set_1 : decode cX4_set 1 = .ok (.iload_n 1, 1) := by decide +kernel
theorem dX4_set_2 : decode cX4_set 2 = .ok (.invokevirtual 48, 3) := by decide +kernel
theorem dX4_set_5 : decode cX4_set 5 = .ok (.astore 5, 2) := by decide +kernel
theorem dX4_set_7 : decode cX4_set 7 = .ok (.aload 5, 2) := by decide +kernel
theorem dX4_set_9 : decode cX4_set 9 = .ok (.ifnull 22, 3) := by decide +kernel
theorem dX4_set_12 : decode cX4_set 12 = .ok (.aload 5, 2) := by decide +kernel
theorem dX4_set_14 : decode cX4_set 14 = .ok (.iload_n 2, 1) := by decide +kernel
theorem dX4_set_15 : decode cX4_set 15 = .ok (.invokevirtual 89, 3) := by decide +kernel
theorem dX4_set_18 : decode cX4_set 18 = .ok (.ifCond .eq 13, 3) := by decide +kernel
theorem dX4_set_21 : decode cX4_set 21 = .ok (.aload 5, 2) := by decide +kernel
theorem dX4_set_23 : decode cX4_set 23 = .ok (.iload 4, 2) := by decide +kernel
theorem dX4_set_25 : decode cX4_set 25 = .ok (.invokevirtual 56, 3) := by decide +kernel
theorem dX4_set_28 : decode cX4_set 28 = .ok (.ifCond .ne 5, 3) := by decide +kernel
theorem dX4_set_31 : decode cX4_set 31 = .ok (.iconst 0, 1) := by decide +kernel
theorem dX4_set_32 : decode cX4_set 32 = .ok (.ireturn, 1) := by decide +kernel
theorem dX4_set_33 : decode cX4_set 33 = .ok (.aload 5, 2) := by decide +kernel
theorem dX4_set_35 : decode cX4_set 35 = .ok (.iload_n 2, 1) := by decide +kernel
theorem dX4_set_36 : decode cX4_set 36 = .ok (.invokevirtual 60, 3) := by decide +kernel
theorem dX4_set_39 : decode cX4_set 39 = .ok (.istore 6, 2) := by decide +kernel
theorem dX4_set_41 : decode cX4_set 41 = .ok (.aload_n 0, 1) := by decide +kernel
theorem dX4_set_42 : decode cX4_set 42 = .ok (.getfield 12, 3) := by decide +kernel
theorem dX4_set_45 : decode cX4_set 45 = .ok (.iload 6, 2) := by decide +kernel
theorem dX4_set_47 : decode cX4_set 47 = .ok (.iload_n 3, 1) := by decide +kernel
theorem dX4_set_48 : decode cX4_set 48 = .ok (.invokevirtual 109, 3) := by decide +kernel
theorem dX4_set_51 : decode cX4_set 51 = .ok (.ifCond .ne 5, 3) := by decide +kernel
theorem dX4_set_54 : decode cX4_set 54 = .ok (.iconst 0, 1) := by decide +kernel
theorem dX4_set_55 : decode cX4_set 55 = .ok (.ireturn, 1) := by decide +kernel
theorem dX4_set_56 : decode cX4_set 56 = .ok (.aload 5, 2) := by decide +kernel
theorem dX4_set_58 : decode cX4_set 58 = .ok (.iload 4, 2) := by decide +kernel
theorem dX4_set_60 : decode cX4_set 60 = .ok (.invokevirtual 60, 3) := by decide +kernel
theorem dX4_set_63 : decode cX4_set 63 = .ok (.istore 7, 2) := by decide +kernel
theorem dX4_set_65 : decode cX4_set 65 = .ok (.aload_n 0, 1) := by decide +kernel
theorem dX4_set_66 : decode cX4_set 66 = .ok (.getfield 37, 3) := by decide +kernel
theorem dX4_set_69 : decode cX4_set 69 = .ok (.aload_n 0, 1) := by decide +kernel
theorem dX4_set_70 : decode cX4_set 70 = .ok (.getfield 12, 3) := by decide +kernel
theorem dX4_set_73 : decode cX4_set 73 = .ok (.getfield 113, 3) := by decide +kernel
theorem dX4_set_76 : decode cX4_set 76 = .ok (.iload 6, 2) := by decide +kernel
theorem dX4_set_78 : decode cX4_set 78 = .ok (.iload_n 3, 1) := by decide +kernel
theorem dX4_set_79 : decode cX4_set 79 = .ok (.iadd, 1) := by decide +kernel
theorem dX4_set_80 : decode cX4_set 80 = .ok (.iaload, 1) := by decide +kernel
theorem dX4_set_81 : decode cX4_set 81 = .ok (.invokevirtual 116, 3) := by decide +kernel
theorem dX4_set_84 : decode cX4_set 84 = .ok (.aload_n 0, 1) := by decide +kernel
theorem dX4_set_85 : decode cX4_set 85 = .ok (.getfield 37, 3) := by decide +kernel
theorem dX4_set_88 : decode cX4_set 88 = .ok (.iload 7, 2) := by decide +kernel
theorem dX4_set_90 : decode cX4_set 90 = .ok (.invokevirtual 116, 3) := by decide +kernel
theorem dX4_set_93 : decode cX4_set 93 = .ok (.aload_n 0, 1) := by decide +kernel
theorem dX4_set_94 : decode cX4_set 94 = .ok (.getfield 12, 3) := by decide +kernel
theorem dX4_set_97 : decode cX4_set 97 = .ok (.getfield 113, 3) := by decide +kernel
theorem dX4_set_100 : decode cX4_set 100 = .ok (.iload 6, 2) := by decide +kernel
theorem dX4_set_102 : decode cX4_set 102 = .ok (.iload_n 3, 1) := by decide +kernel
theorem dX4_set_103 : decode cX4_set 103 = .ok (.iadd, 1) := by decide +kernel
theorem dX4_set_104 : decode cX4_set 104 = .ok (.iload 7, 2) := by decide +kernel
theorem dX4_set_106 : decode cX4_set 106 = .ok (.iastore, 1) := by decide +kernel
theorem dX4_set_107 : decode cX4_set 107 = .ok (.iconst 1, 1) := by decide +kernel
theorem dX4_set_108 : decode cX4_set 108 = .ok (.ireturn, 1) := by decide +kernel
abbrev cX4_get : ByteArray := prog_1_method_11_code
def yX4_get : MethodName := ⟨RX4, "get", "(IIII)Z"⟩
theorem dX4_get_0 : decode cX4_get 0 = .ok (.aload_n 0, 1) := by decide +kernel
theorem dX4_get_1 : decode cX4_get 1 = .ok (.iload_n 1, 1) := by decide +kernel
theorem dX4_get_2 : decode cX4_get 2 = .ok (.invokevirtual 48, 3) := by decide +kernel
theorem dX4_get_5 : decode cX4_get 5 = .ok (.astore 5, 2) := by decide +kernel
theorem dX4_get_7 : decode cX4_get 7 = .ok (.aload 5, 2) := by decide +kernel
theorem dX4_get_9 : decode cX4_get 9 = .ok (.ifnull 21, 3) := by decide +kernel
theorem dX4_get_12 : decode cX4_get 12 = .ok (.aload 5, 2) := by decide +kernel
theorem dX4_get_14 : decode cX4_get 14 = .ok (.iload_n 2, 1) := by decide +kernel
theorem dX4_get_15 : decode cX4_get 15 = .ok (.invokevirtual 89, 3) := by decide +kernel
theorem dX4_get_18 : decode cX4_get 18 = .ok (.ifCond .eq 12, 3) := by decide +kernel
theorem dX4_get_21 : decode cX4_get 21 = .ok (.aload 5, 2) := by decide +kernel
theorem dX4_get_23 : decode cX4_get 23 = .ok (.iload_n 3, 1) := by decide +kernel
theorem dX4_get_24 : decode cX4_get 24 = .ok (.invokevirtual 89, 3) := by decide +kernel
theorem dX4_get_27 : decode cX4_get 27 = .ok (.ifCond .ne 5, 3) := by decide +kernel
theorem dX4_get_30 : decode cX4_get 30 = .ok (.iconst 0, 1) := by decide +kernel
theorem dX4_get_31 : decode cX4_get 31 = .ok (.ireturn, 1) := by decide +kernel
theorem dX4_get_32 : decode cX4_get 32 = .ok (.aload 5, 2) := by decide +kernel
theorem dX4_get_34 : decode cX4_get 34 = .ok (.iload_n 3, 1) := by decide +kernel
theorem dX4_get_35 : decode cX4_get 35 = .ok (.invokevirtual 60, 3) := by decide +kernel
theorem dX4_get_38 : decode cX4_get 38 = .ok (.istore 6, 2) := by decide +kernel
theorem dX4_get_40 : decode cX4_get 40 = .ok (.aload_n 0, 1) := by decide +kernel
theorem dX4_get_41 : decode cX4_get 41 = .ok (.getfield 12, 3) := by decide +kernel
theorem dX4_get_44 : decode cX4_get 44 = .ok (.iload 6, 2) := by decide +kernel
theorem dX4_get_46 : decode cX4_get 46 = .ok (.iload 4, 2) := by decide +kernel
theorem dX4_get_48 : decode cX4_get 48 = .ok (.invokevirtual 109, 3) := by decide +kernel
theorem dX4_get_51 : decode cX4_get 51 = .ok (.ifCond .ne 5, 3) := by decide +kernel
theorem dX4_get_54 : decode cX4_get 54 = .ok (.iconst 0, 1) := by decide +kernel
theorem dX4_get_55 : decode cX4_get 55 = .ok (.ireturn, 1) := by decide +kernel
theorem dX4_get_56 : decode cX4_get 56 = .ok (.aload 5, 2) := by decide +kernel
theorem dX4_get_58 : decode cX4_get 58 = .ok (.iload_n 2, 1) := by decide +kernel
theorem dX4_get_59 : decode cX4_get 59 = .ok (.aload_n 0, 1) := by decide +kernel
theorem dX4_get_60 : decode cX4_get 60 = .ok (.getfield 12, 3) := by decide +kernel
theorem dX4_get_63 : decode cX4_get 63 = .ok (.getfield 113, 3) := by decide +kernel
theorem dX4_get_66 : decode cX4_get 66 = .ok (.iload 6, 2) := by decide +kernel
theorem dX4_get_68 : decode cX4_get 68 = .ok (.iload 4, 2) := by decide +kernel
theorem dX4_get_70 : decode cX4_get 70 = .ok (.iadd, 1) := by decide +kernel
theorem dX4_get_71 : decode cX4_get 71 = .ok (.iaload, 1) := by decide +kernel
theorem dX4_get_72 : decode cX4_get 72 = .ok (.invokevirtual 92, 3) := by decide +kernel
theorem dX4_get_75 : decode cX4_get 75 = .ok (.iconst 1, 1) := by decide +kernel
theorem dX4_get_76 : decode cX4_get 76 = .ok (.ireturn, 1) := by decide +kernel
abbrev cX4_store : ByteArray := prog_1_method_12_code
def yX4_store : MethodName := ⟨RX4, "store", "(IIII)Z"⟩
theorem dX4_store_0 : decode cX4_store 0 = .ok (.aload_n 0, 1) := by decide +kernel
theorem dX4_store_1 : decode cX4_store 1 = .ok (.iload_n 1, 1) := by decide +kernel
theorem dX4_store_2 : decode cX4_store 2 = .ok (.iload_n 2, 1) := by decide +kernel
theorem dX4_store_3 : decode cX4_store 3 = .ok (.iload_n 3, 1) := by decide +kernel
theorem dX4_store_4 : decode cX4_store 4 = .ok (.invokevirtual 119, 3) := by decide +kernel
theorem dX4_store_7 : decode cX4_store 7 = .ok (.istore 5, 2) := by decide +kernel
theorem dX4_store_9 : decode cX4_store 9 = .ok (.iload 5, 2) := by decide +kernel
theorem dX4_store_11 : decode cX4_store 11 = .ok (.iconst (-1), 1) := by decide +kernel
theorem dX4_store_12 : decode cX4_store 12 = .ok (.if_icmp .ne 5, 3) := by decide +kernel
theorem dX4_store_15 : decode cX4_store 15 = .ok (.iconst 0, 1) := by decide +kernel
theorem dX4_store_16 : decode cX4_store 16 = .ok (.ireturn, 1) := by decide +kernel
theorem dX4_store_17 : decode cX4_store 17 = .ok (.aload_n 0, 1) := by decide +kernel
theorem dX4_store_18 : decode cX4_store 18 = .ok (.getfield 12, 3) := by decide +kernel
theorem dX4_store_21 : decode cX4_store 21 = .ok (.getfield 113, 3) := by decide +kernel
theorem dX4_store_24 : decode cX4_store 24 = .ok (.iload 5, 2) := by decide +kernel
theorem dX4_store_26 : decode cX4_store 26 = .ok (.iload 4, 2) := by decide +kernel
theorem dX4_store_28 : decode cX4_store 28 = .ok (.iastore, 1) := by decide +kernel
theorem dX4_store_29 : decode cX4_store 29 = .ok (.iconst 1, 1) := by decide +kernel
theorem dX4_store_30 : decode cX4_store 30 = .ok (.ireturn, 1) := by decide +kernel
abbrev cX4_load : ByteArray := prog_1_method_13_code
def yX4_load : MethodName := ⟨RX4, "load", "(III)I"⟩
theorem dX4_load_0 : decode cX4_load 0 = .ok (.aload_n 0, 1) := by decide +kernel
theorem dX4_load_1 : decode cX4_load 1 = .ok (.iload_n 1, 1) := by decide +kernel
theorem dX4_load_2 : decode cX4_load 2 = .ok (.iload_n 2, 1) := by decide +kernel
theorem dX4_load_3 : decode cX4_load 3 = .ok (.iload_n 3, 1) := by decide +kernel
theorem dX4_load_4 : decode cX4_load 4 = .ok (.invokevirtual 119, 3) := by decide +kernel
theorem dX4_load_7 : decode cX4_load 7 = .ok (.istore 4, 2) := by decide +kernel
theorem dX4_load_9 : decode cX4_load 9 = .ok (.iload 4, 2) := by decide +kernel
theorem dX4_load_11 : decode cX4_load 11 = .ok (.iconst (-1), 1) := by decide +kernel
theorem dX4_load_12 : decode cX4_load 12 = .ok (.if_icmp .ne 7, 3) := by decide +kernel
theorem dX4_load_15 : decode cX4_load 15 = .ok (.iconst 0, 1) := by decide +kernel
theorem dX4_load_16 : decode cX4_load 16 = .ok (.goto 13, 3) := by decide +kernel
theorem dX4_load_19 : decode cX4_load 19 = .ok (.aload_n 0, 1) := by decide +kernel
theorem dX4_load_20 : decode cX4_load 20 = .ok (.getfield 12, 3) := by decide +kernel
theorem dX4_load_23 : decode cX4_load 23 = .ok (.getfield 113, 3) := by decide +kernel
theorem dX4_load_26 : decode cX4_load 26 = .ok (.iload 4, 2) := by decide +kernel
theorem dX4_load_28 : decode cX4_load 28 = .ok (.iaload, 1) := by decide +kernel
theorem dX4_load_29 : decode cX4_load 29 = .ok (.ireturn, 1) := by decide +kernel
abbrev cX4_send : ByteArray := prog_1_method_14_code
def yX4_send : MethodName := ⟨RX4, "send", "(III)I"⟩
theorem dX4_send_0 : decode cX4_send 0 = .ok (.aload_n 0, 1) := by decide +kernel
theorem dX4_send_1 : decode cX4_send 1 = .ok (.iload_n 1, 1) := by decide +kernel
theorem dX4_send_2 : decode cX4_send 2 = .ok (.invokevirtual 48, 3) := by decide +kernel
theorem dX4_send_5 : decode cX4_send 5 = .ok (.astore 4, 2) := by decide +kernel
theorem dX4_send_7 : decode cX4_send 7 = .ok (.aload 4, 2) := by decide +kernel
theorem dX4_send_9 : decode cX4_send 9 = .ok (.ifnull 19, 3) := by decide +kernel
theorem dX4_send_12 : decode cX4_send 12 = .ok (.aload 4, 2) := by decide +kernel
theorem dX4_send_14 : decode cX4_send 14 = .ok (.iload_n 2, 1) := by decide +kernel
theorem dX4_send_15 : decode cX4_send 15 = .ok (.invokevirtual 89, 3) := by decide +kernel
theorem dX4_send_18 : decode cX4_send 18 = .ok (.ifCond .eq 10, 3) := by decide +kernel
theorem dX4_send_21 : decode cX4_send 21 = .ok (.iload_n 3, 1) := by decide +kernel
theorem dX4_send_22 : decode cX4_send 22 = .ok (.invokestatic 123, 3) := by decide +kernel
theorem dX4_send_25 : decode cX4_send 25 = .ok (.ifCond .ne 5, 3) := by decide +kernel
theorem dX4_send_28 : decode cX4_send 28 = .ok (.iconst (-1), 1) := by decide +kernel
theorem dX4_send_29 : decode cX4_send 29 = .ok (.ireturn, 1) := by decide +kernel
theorem dX4_send_30 : decode cX4_send 30 = .ok (.aload 4, 2) := by decide +kernel
theorem dX4_send_32 : decode cX4_send 32 = .ok (.iload_n 2, 1) := by decide +kernel
theorem dX4_send_33 : decode cX4_send 33 = .ok (.invokevirtual 60, 3) := by decide +kernel
theorem dX4_send_36 : decode cX4_send 36 = .ok (.istore 5, 2) := by decide +kernel
theorem dX4_send_38 : decode cX4_send 38 = .ok (.aload_n 0, 1) := by decide +kernel
theorem dX4_send_39 : decode cX4_send 39 = .ok (.iconst 3, 1) := by decide +kernel
theorem dX4_send_40 : decode cX4_send 40 = .ok (.iload_n 3, 1) := by decide +kernel
theorem dX4_send_41 : decode cX4_send 41 = .ok (.invokevirtual 126, 3) := by decide +kernel
theorem dX4_send_44 : decode cX4_send 44 = .ok (.astore 6, 2) := by decide +kernel
theorem dX4_send_46 : decode cX4_send 46 = .ok (.aload 6, 2) := by decide +kernel
theorem dX4_send_48 : decode cX4_send 48 = .ok (.ifnull 22, 3) := by decide +kernel
theorem dX4_send_51 : decode cX4_send 51 = .ok (.aload_n 0, 1) := by decide +kernel
theorem dX4_send_52 : decode cX4_send 52 = .ok (.getfield 37, 3) := by decide +kernel
theorem dX4_send_55 : decode cX4_send 55 = .ok (.iload 5, 2) := by decide +kernel
theorem dX4_send_57 : decode cX4_send 57 = .ok (.invokevirtual 116, 3) := by decide +kernel
theorem dX4_send_60 : decode cX4_send 60 = .ok (.aload 6, 2) := by decide +kernel
theorem dX4_send_62 : decode cX4_send 62 = .ok (.iload 5, 2) := by decide +kernel
theorem dX4_send_64 : decode cX4_send 64 = .ok (.iload_n 3, 1) := by decide +kernel
theorem dX4_send_65 : decode cX4_send 65 = .ok (.invokevirtual 130, 3) := by decide +kernel
theorem dX4_send_68 : decode cX4_send 68 = .ok (.iload_n 3, 1) := by decide +kernel
theorem dX4_send_69 : decode cX4_send 69 = .ok (.ireturn, 1) := by decide +kernel
theorem dX4_send_70 : decode cX4_send 70 = .ok (.aload_n 0, 1) := by decide +kernel
theorem dX4_send_71 : decode cX4_send 71 = .ok (.getfield 25, 3) := by decide +kernel
theorem dX4_send_74 : decode cX4_send 74 = .ok (.iload_n 3, 1) := by decide +kernel
theorem dX4_send_75 : decode cX4_send 75 = .ok (.aaload, 1) := by decide +kernel
theorem dX4_send_76 : decode cX4_send 76 = .ok (.invokevirtual 133, 3) := by decide +kernel
theorem dX4_send_79 : decode cX4_send 79 = .ok (.ifCond .eq 25, 3) := by decide +kernel
theorem dX4_send_82 : decode cX4_send 82 = .ok (.aload_n 0, 1) := by decide +kernel
theorem dX4_send_83 : decode cX4_send 83 = .ok (.getfield 37, 3) := by decide +kernel
theorem dX4_send_86 : decode cX4_send 86 = .ok (.iload 5, 2) := by decide +kernel
theorem dX4_send_88 : decode cX4_send 88 = .ok (.invokevirtual 116, 3) := by decide +kernel
theorem dX4_send_91 : decode cX4_send 91 = .ok (.aload_n 0, 1) := by decide +kernel
theorem dX4_send_92 : decode cX4_send 92 = .ok (.getfield 25, 3) := by decide +kernel
theorem dX4_send_95 : decode cX4_send 95 = .ok (.iload_n 3, 1) := by decide +kernel
theorem dX4_send_96 : decode cX4_send 96 = .ok (.aaload, 1) := by decide +kernel
theorem dX4_send_97 : decode cX4_send 97 = .ok (.iload 5, 2) := by decide +kernel
theorem dX4_send_99 : decode cX4_send 99 = .ok (.invokevirtual 137, 3) := by decide +kernel
theorem dX4_send_102 : decode cX4_send 102 = .ok (.iload_n 3, 1) := by decide +kernel
theorem dX4_send_103 : decode cX4_send 103 = .ok (.ireturn, 1) := by decide +kernel
theorem dX4_send_104 : decode cX4_send 104 = .ok (.aload 4, 2) := by decide +kernel
theorem dX4_send_106 : decode cX4_send 106 = .ok (.iconst 2, 1) := by decide +kernel
theorem dX4_send_107 : decode cX4_send 107 = .ok (.iload_n 2, 1) := by decide +kernel
theorem dX4_send_108 : decode cX4_send 108 = .ok (.iload_n 3, 1) := by decide +kernel
theorem dX4_send_109 : decode cX4_send 109 = .ok (.iload_n 3, 1) := by decide +kernel
theorem dX4_send_110 : decode cX4_send 110 = .ok (.aload_n 0, 1) := by decide +kernel
theorem dX4_send_111 : decode cX4_send 111 = .ok (.invokevirtual 140, 3) := by decide +kernel
theorem dX4_send_114 : decode cX4_send 114 = .ok (.invokevirtual 143, 3) := by decide +kernel
theorem dX4_send_117 : decode cX4_send 117 = .ok (.iconst 4, 1) := by decide +kernel
theorem dX4_send_118 : decode cX4_send 118 = .ok (.ireturn, 1) := by decide +kernel
abbrev cX4_take : ByteArray := prog_1_method_15_code
def yX4_take : MethodName := ⟨RX4, "take", "(IIII)I"⟩
theorem dX4_take_0 : decode cX4_take 0 = .ok (.aload_n 0, 1) := by decide +kernel
theorem dX4_take_1 : decode cX4_take 1 = .ok (.iload_n 1, 1) := by decide +kernel
theorem dX4_take_2 : decode cX4_take 2 = .ok (.invokevirtual 48, 3) := by decide +kernel
theorem dX4_take_5 : decode cX4_take 5 = .ok (.astore 5, 2) := by decide +kernel
theorem dX4_take_7 : decode cX4_take 7 = .ok (.aload 5, 2) := by decide +kernel
theorem dX4_take_9 : decode cX4_take 9 = .ok (.ifnull 27, 3) := by decide +kernel
theorem dX4_take_12 : decode cX4_take 12 = .ok (.aload 5, 2) := by decide +kernel
theorem dX4_take_14 : decode cX4_take 14 = .ok (.iload_n 2, 1) := by decide +kernel
theorem dX4_take_15 : decode cX4_take 15 = .ok (.invokevirtual 89, 3) := by decide +kernel
theorem dX4_take_18 : decode cX4_take 18 = .ok (.ifCond .eq 18, 3) := by decide +kernel
theorem dX4_take_21 : decode cX4_take 21 = .ok (.iload_n 3, 1) := by decide +kernel
theorem dX4_take_22 : decode cX4_take 22 = .ok (.invokestatic 123, 3) := by decide +kernel
theorem dX4_take_25 : decode cX4_take 25 = .ok (.ifCond .eq 11, 3) := by decide +kernel
theorem dX4_take_28 : decode cX4_take 28 = .ok (.iload 4, 2) := by decide +kernel
theorem dX4_take_30 : decode cX4_take 30 = .ok (.invokestatic 123, 3) := by decide +kernel
theorem dX4_take_33 : decode cX4_take 33 = .ok (.ifCond .ne 5, 3) := by decide +kernel
theorem dX4_take_36 : decode cX4_take 36 = .ok (.iconst (-1), 1) := by decide +kernel
theorem dX4_take_37 : decode cX4_take 37 = .ok (.ireturn, 1) := by decide +kernel
theorem dX4_take_38 : decode cX4_take 38 = .ok (.aload_n 0, 1) := by decide +kernel
theorem dX4_take_39 : decode cX4_take 39 = .ok (.iload_n 3, 1) := by decide +kernel
theorem dX4_take_40 : decode cX4_take 40 = .ok (.invokevirtual 147, 3) := by decide +kernel
theorem dX4_take_43 : decode cX4_take 43 = .ok (.ifCond .eq 7, 3) := by decide +kernel
theorem dX4_take_46 : decode cX4_take 46 = .ok (.iload_n 3, 1) := by decide +kernel
theorem dX4_take_47 : decode cX4_take 47 = .ok (.goto 5, 3) := by decide +kernel
theorem dX4_take_50 : decode cX4_take 50 = .ok (.iload 4, 2) := by decide +kernel
theorem dX4_take_52 : decode cX4_take 52 = .ok (.istore 6, 2) := by decide +kernel
theorem dX4_take_54 : decode cX4_take 54 = .ok (.aload_n 0, 1) := by decide +kernel
theorem dX4_take_55 : decode cX4_take 55 = .ok (.iload 6, 2) := by decide +kernel
theorem dX4_take_57 : decode cX4_take 57 = .ok (.invokevirtual 147, 3) := by decide +kernel
theorem dX4_take_60 : decode cX4_take 60 = .ok (.ifCond .ne 19, 3) := by decide +kernel
theorem dX4_take_63 : decode cX4_take 63 = .ok (.aload 5, 2) := by decide +kernel
theorem dX4_take_65 : decode cX4_take 65 = .ok (.iconst 3, 1) := by decide +kernel
theorem dX4_take_66 : decode cX4_take 66 = .ok (.iload_n 2, 1) := by decide +kernel
theorem dX4_take_67 : decode cX4_take 67 = .ok (.iload_n 3, 1) := by decide +kernel
theorem dX4_take_68 : decode cX4_take 68 = .ok (.iload 4, 2) := by decide +kernel
theorem dX4_take_70 : decode cX4_take 70 = .ok (.aload_n 0, 1) := by decide +kernel
theorem dX4_take_71 : decode cX4_take 71 = .ok (.invokevirtual 140, 3) := by decide +kernel
theorem dX4_take_74 : decode cX4_take 74 = .ok (.invokevirtual 143, 3) := by decide +kernel
theorem dX4_take_77 : decode cX4_take 77 = .ok (.iconst 4, 1) := by decide +kernel
theorem dX4_take_78 : decode cX4_take 78 = .ok (.ireturn, 1) := by decide +kernel
theorem dX4_take_79 : decode cX4_take 79 = .ok (.aload 5, 2) := by decide +kernel
theorem dX4_take_81 : decode cX4_take 81 = .ok (.iload_n 2, 1) := by decide +kernel
theorem dX4_take_82 : decode cX4_take 82 = .ok (.aload_n 0, 1) := by decide +kernel
theorem dX4_take_83 : decode cX4_take 83 = .ok (.iload 6, 2) := by decide +kernel
theorem dX4_take_85 : decode cX4_take 85 = .ok (.invokevirtual 150, 3) := by decide +kernel
theorem dX4_take_88 : decode cX4_take 88 = .ok (.invokevirtual 92, 3) := by decide +kernel
theorem dX4_take_91 : decode cX4_take 91 = .ok (.aload 5, 2) := by decide +kernel
theorem dX4_take_93 : decode cX4_take 93 = .ok (.iload 6, 2) := by decide +kernel
theorem dX4_take_95 : decode cX4_take 95 = .ok (.putfield 153, 3) := by decide +kernel
theorem dX4_take_98 : decode cX4_take 98 = .ok (.iload 6, 2) := by decide +kernel
theorem dX4_take_100 : decode cX4_take 100 = .ok (.ireturn, 1) := by decide +kernel
abbrev cX4_mark : ByteArray := prog_1_method_16_code
def yX4_mark : MethodName := ⟨RX4, "mark", "(I)I"⟩
theorem dX4_mark_0 : decode cX4_mark 0 = .ok (.iload_n 1, 1) := by decide +kernel
theorem dX4_mark_1 : decode cX4_mark 1 = .ok (.iconst 1, 1) := by decide +kernel
theorem dX4_mark_2 : decode cX4_mark 2 = .ok (.if_icmp .lt 13, 3) := by decide +kernel
theorem dX4_mark_5 : decode cX4_mark 5 = .ok (.aload_n 0, 1) := by decide +kernel
theorem dX4_mark_6 : decode cX4_mark 6 = .ok (.getfield 37, 3) := by decide +kernel
theorem dX4_mark_9 : decode cX4_mark 9 = .ok (.getfield 156, 3) := by decide +kernel
theorem dX4_mark_12 : decode cX4_mark 12 = .ok (.ifCond .ne 7, 3) := by decide +kernel
theorem dX4_mark_15 : decode cX4_mark 15 = .ok (.iconst 0, 1) := by decide +kernel
theorem dX4_mark_16 : decode cX4_mark 16 = .ok (.goto 11, 3) := by decide +kernel
theorem dX4_mark_19 : decode cX4_mark 19 = .ok (.aload_n 0, 1) := by decide +kernel
theorem dX4_mark_20 : decode cX4_mark 20 = .ok (.getfield 37, 3) := by decide +kernel
theorem dX4_mark_23 : decode cX4_mark 23 = .ok (.iload_n 1, 1) := by decide +kernel
theorem dX4_mark_24 : decode cX4_mark 24 = .ok (.invokevirtual 160, 3) := by decide +kernel
theorem dX4_mark_27 : decode cX4_mark 27 = .ok (.ireturn, 1) := by decide +kernel
abbrev cX4_sweep : ByteArray := prog_1_method_17_code
def yX4_sweep : MethodName := ⟨RX4, "sweep", "(I)I"⟩
theorem dX4_sweep_0 : decode cX4_sweep 0 = .ok (.aload_n 0, 1) := by decide +kernel
theorem dX4_sweep_1 : decode cX4_sweep 1 = .ok (.getfield 12, 3) := by decide +kernel
theorem dX4_sweep_4 : decode cX4_sweep 4 = .ok (.iload_n 1, 1) := by decide +kernel
theorem dX4_sweep_5 : decode cX4_sweep 5 = .ok (.invokevirtual 163, 3) := by decide +kernel
theorem dX4_sweep_8 : decode cX4_sweep 8 = .ok (.ireturn, 1) := by decide +kernel
abbrev cX4_collect : ByteArray := prog_1_method_18_code
def yX4_collect : MethodName := ⟨RX4, "collect", "()Z"⟩
theorem dX4_collect_0 : decode cX4_collect 0 = .ok (.aload_n 0, 1) := by decide +kernel
theorem dX4_collect_1 : decode cX4_collect 1 = .ok (.getfield 37, 3) := by decide +kernel
theorem dX4_collect_4 : decode cX4_collect 4 = .ok (.getfield 156, 3) := by decide +kernel
theorem dX4_collect_7 : decode cX4_collect 7 = .ok (.ifCond .eq 5, 3) := by decide +kernel
theorem dX4_collect_10 : decode cX4_collect 10 = .ok (.iconst 0, 1) := by decide +kernel
theorem dX4_collect_11 : decode cX4_collect 11 = .ok (.ireturn, 1) := by decide +kernel
theorem dX4_collect_12 : decode cX4_collect 12 = .ok (.aload_n 0, 1) := by decide +kernel
theorem dX4_collect_13 : decode cX4_collect 13 = .ok (.getfield 37, 3) := by decide +kernel
theorem dX4_collect_16 : decode cX4_collect 16 = .ok (.invokevirtual 166, 3) := by decide +kernel
theorem dX4_collect_19 : decode cX4_collect 19 = .ok (.iconst 1, 1) := by decide +kernel
theorem dX4_collect_20 : decode cX4_collect 20 = .ok (.ireturn, 1) := by decide +kernel
abbrev cX4_fiber : ByteArray := prog_1_method_19_code
def yX4_fiber : MethodName := ⟨RX4, "fiber", "(II)I"⟩
theorem dX4_fiber_0 : decode cX4_fiber 0 = .ok (.iload_n 1, 1) := by decide +kernel
theorem dX4_fiber_1 : decode cX4_fiber 1 = .ok (.ifCond .lt 9, 3) := by decide +kernel
theorem dX4_fiber_4 : decode cX4_fiber 4 = .ok (.iload_n 1, 1) := by decide +kernel
theorem dX4_fiber_5 : decode cX4_fiber 5 = .ok (.bipush 6, 2) := by decide +kernel
theorem dX4_fiber_7 : decode cX4_fiber 7 = .ok (.if_icmp .lt 5, 3) := by decide +kernel
theorem dX4_fiber_10 : decode cX4_fiber 10 = .ok (.iconst (-1), 1) := by decide +kernel
theorem dX4_fiber_11 : decode cX4_fiber 11 = .ok (.ireturn, 1) := by decide +kernel
theorem dX4_fiber_12 : decode cX4_fiber 12 = .ok (.aload_n 0, 1) := by decide +kernel
theorem dX4_fiber_13 : decode cX4_fiber 13 = .ok (.getfield 18, 3) := by decide +kernel
theorem dX4_fiber_16 : decode cX4_fiber 16 = .ok (.iload_n 1, 1) := by decide +kernel
theorem dX4_fiber_17 : decode cX4_fiber 17 = .ok (.aaload, 1) := by decide +kernel
theorem dX4_fiber_18 : decode cX4_fiber 18 = .ok (.astore_n 3, 1) := by decide +kernel
theorem dX4_fiber_19 : decode cX4_fiber 19 = .ok (.iload_n 2, 1) := by decide +kernel
theorem dX4_fiber_20 : decode cX4_fiber 20 = .ok (.ifCond .ne 8, 3) := by decide +kernel
theorem dX4_fiber_23 : decode cX4_fiber 23 = .ok (.aload_n 3, 1) := by decide +kernel
theorem dX4_fiber_24 : decode cX4_fiber 24 = .ok (.getfield 70, 3) := by decide +kernel
theorem dX4_fiber_27 : decode cX4_fiber 27 = .ok (.ireturn, 1) := by decide +kernel
theorem dX4_fiber_28 : decode cX4_fiber 28 = .ok (.aload_n 3, 1) := by decide +kernel
theorem dX4_fiber_29 : decode cX4_fiber 29 = .ok (.getfield 70, 3) := by decide +kernel
theorem dX4_fiber_32 : decode cX4_fiber 32 = .ok (.ifCond .ne 5, 3) := by decide +kernel
theorem dX4_fiber_35 : decode cX4_fiber 35 = .ok (.iconst (-1), 1) := by decide +kernel
theorem dX4_fiber_36 : decode cX4_fiber 36 = .ok (.ireturn, 1) := by decide +kernel
theorem dX4_fiber_37 : decode cX4_fiber 37 = .ok (.iload_n 2, 1) := by decide +kernel
theorem dX4_fiber_38 : decode cX4_fiber 38 = .ok (.tableswitch 108 1 9 #[50, 55, 60, 83, 83, 83, 83, 91, 103], 50) := by decide +kernel
theorem dX4_fiber_88 : decode cX4_fiber 88 = .ok (.aload_n 3, 1) := by decide +kernel
theorem dX4_fiber_89 : decode cX4_fiber 89 = .ok (.getfield 73, 3) := by decide +kernel
theorem dX4_fiber_92 : decode cX4_fiber 92 = .ok (.ireturn, 1) := by decide +kernel
theorem dX4_fiber_93 : decode cX4_fiber 93 = .ok (.aload_n 3, 1) := by decide +kernel
theorem dX4_fiber_94 : decode cX4_fiber 94 = .ok (.getfield 169, 3) := by decide +kernel
theorem dX4_fiber_97 : decode cX4_fiber 97 = .ok (.ireturn, 1) := by decide +kernel
theorem dX4_fiber_98 : decode cX4_fiber 98 = .ok (.aload_n 0, 1) := by decide +kernel
theorem dX4_fiber_99 : decode cX4_fiber 99 = .ok (.getfield 37, 3) := by decide +kernel
theorem dX4_fiber_102 : decode cX4_fiber 102 = .ok (.getfield 156, 3) := by decide +kernel
theorem dX4_fiber_105 : decode cX4_fiber 105 = .ok (.ifCond .eq 14, 3) := by decide +kernel
theorem dX4_fiber_108 : decode cX4_fiber 108 = .ok (.aload_n 3, 1) := by decide +kernel
theorem dX4_fiber_109 : decode cX4_fiber 109 = .ok (.getfield 172, 3) := by decide +kernel
theorem dX4_fiber_112 : decode cX4_fiber 112 = .ok (.ifCond .eq 7, 3) := by decide +kernel
theorem dX4_fiber_115 : decode cX4_fiber 115 = .ok (.iconst 1, 1) := by decide +kernel
theorem dX4_fiber_116 : decode cX4_fiber 116 = .ok (.goto 4, 3) := by decide +kernel
theorem dX4_fiber_119 : decode cX4_fiber 119 = .ok (.iconst 0, 1) := by decide +kernel
theorem dX4_fiber_120 : decode cX4_fiber 120 = .ok (.ireturn, 1) := by decide +kernel
theorem dX4_fiber_121 : decode cX4_fiber 121 = .ok (.aload_n 3, 1) := by decide +kernel
theorem dX4_fiber_122 : decode cX4_fiber 122 = .ok (.iload_n 2, 1) := by decide +kernel
theorem dX4_fiber_123 : decode cX4_fiber 123 = .ok (.iconst 4, 1) := by decide +kernel
theorem dX4_fiber_124 : decode cX4_fiber 124 = .ok (.isub, 1) := by decide +kernel
theorem dX4_fiber_125 : decode cX4_fiber 125 = .ok (.invokevirtual 60, 3) := by decide +kernel
theorem dX4_fiber_128 : decode cX4_fiber 128 = .ok (.ireturn, 1) := by decide +kernel
theorem dX4_fiber_129 : decode cX4_fiber 129 = .ok (.aload_n 3, 1) := by decide +kernel
theorem dX4_fiber_130 : decode cX4_fiber 130 = .ok (.getfield 82, 3) := by decide +kernel
theorem dX4_fiber_133 : decode cX4_fiber 133 = .ok (.aload_n 3, 1) := by decide +kernel
theorem dX4_fiber_134 : decode cX4_fiber 134 = .ok (.getfield 73, 3) := by decide +kernel
theorem dX4_fiber_137 : decode cX4_fiber 137 = .ok (.iconst 1, 1) := by decide +kernel
theorem dX4_fiber_138 : decode cX4_fiber 138 = .ok (.isub, 1) := by decide +kernel
theorem dX4_fiber_139 : decode cX4_fiber 139 = .ok (.iaload, 1) := by decide +kernel
theorem dX4_fiber_140 : decode cX4_fiber 140 = .ok (.ireturn, 1) := by decide +kernel
theorem dX4_fiber_141 : decode cX4_fiber 141 = .ok (.aload_n 3, 1) := by decide +kernel
theorem dX4_fiber_142 : decode cX4_fiber 142 = .ok (.getfield 153, 3) := by decide +kernel
theorem dX4_fiber_145 : decode cX4_fiber 145 = .ok (.ireturn, 1) := by decide +kernel
theorem dX4_fiber_146 : decode cX4_fiber 146 = .ok (.iconst (-1), 1) := by decide +kernel
theorem dX4_fiber_147 : decode cX4_fiber 147 = .ok (.ireturn, 1) := by decide +kernel
abbrev cX4_count : ByteArray := prog_1_method_20_code
def yX4_count : MethodName := ⟨RX4, "count", "(I)I"⟩
theorem dX4_count_0 : decode cX4_count 0 = .ok (.iload_n 1, 1) := by decide +kernel
theorem dX4_count_1 : decode cX4_count 1 = .ok (.tableswitch 164 0 11 #[63, 71, 79, 87, 95, 111, 119, 127, 135, 140, 148, 156], 63) := by decide +kernel
theorem dX4_count_64 : decode cX4_count 64 = .ok (.aload_n 0, 1) := by decide +kernel
theorem dX4_count_65 : decode cX4_count 65 = .ok (.getfield 12, 3) := by decide +kernel
theorem dX4_count_68 : decode cX4_count 68 = .ok (.invokevirtual 175, 3) := by decide +kernel
theorem dX4_count_71 : decode cX4_count 71 = .ok (.ireturn, 1) := by decide +kernel
theorem dX4_count_72 : decode cX4_count 72 = .ok (.aload_n 0, 1) := by decide +kernel
theorem dX4_count_73 : decode cX4_count 73 = .ok (.getfield 12, 3) := by decide +kernel
theorem dX4_count_76 : decode cX4_count 76 = .ok (.invokevirtual 178, 3) := by decide +kernel
theorem dX4_count_79 : decode cX4_count 79 = .ok (.ireturn, 1) := by decide +kernel
theorem dX4_count_80 : decode cX4_count 80 = .ok (.aload_n 0, 1) := by decide +kernel
theorem dX4_count_81 : decode cX4_count 81 = .ok (.getfield 12, 3) := by decide +kernel
theorem dX4_count_84 : decode cX4_count 84 = .ok (.invokevirtual 181, 3) := by decide +kernel
theorem dX4_count_87 : decode cX4_count 87 = .ok (.ireturn, 1) := by decide +kernel
theorem dX4_count_88 : decode cX4_count 88 = .ok (.aload_n 0, 1) := by decide +kernel
theorem dX4_count_89 : decode cX4_count 89 = .ok (.getfield 12, 3) := by decide +kernel
theorem dX4_count_92 : decode cX4_count 92 = .ok (.invokevirtual 184, 3) := by decide +kernel
theorem dX4_count_95 : decode cX4_count 95 = .ok (.ireturn, 1) := by decide +kernel
theorem dX4_count_96 : decode cX4_count 96 = .ok (.aload_n 0, 1) := by decide +kernel
theorem dX4_count_97 : decode cX4_count 97 = .ok (.getfield 37, 3) := by decide +kernel
theorem dX4_count_100 : decode cX4_count 100 = .ok (.getfield 156, 3) := by decide +kernel
theorem dX4_count_103 : decode cX4_count 103 = .ok (.ifCond .eq 7, 3) := by decide +kernel
theorem dX4_count_106 : decode cX4_count 106 = .ok (.iconst 1, 1) := by decide +kernel
theorem dX4_count_107 : decode cX4_count 107 = .ok (.goto 4, 3) := by decide +kernel
theorem dX4_count_110 : decode cX4_count 110 = .ok (.iconst 0, 1) := by decide +kernel
theorem dX4_count_111 : decode cX4_count 111 = .ok (.ireturn, 1) := by decide +kernel
theorem dX4_count_112 : decode cX4_count 112 = .ok (.aload_n 0, 1) := by decide +kernel
theorem dX4_count_113 : decode cX4_count 113 = .ok (.getfield 12, 3) := by decide +kernel
theorem dX4_count_116 : decode cX4_count 116 = .ok (.invokevirtual 187, 3) := by decide +kernel
theorem dX4_count_119 : decode cX4_count 119 = .ok (.ireturn, 1) := by decide +kernel
theorem dX4_count_120 : decode cX4_count 120 = .ok (.aload_n 0, 1) := by decide +kernel
theorem dX4_count_121 : decode cX4_count 121 = .ok (.getfield 37, 3) := by decide +kernel
theorem dX4_count_124 : decode cX4_count 124 = .ok (.getfield 190, 3) := by decide +kernel
theorem dX4_count_127 : decode cX4_count 127 = .ok (.ireturn, 1) := by decide +kernel
theorem dX4_count_128 : decode cX4_count 128 = .ok (.aload_n 0, 1) := by decide +kernel
theorem dX4_count_129 : decode cX4_count 129 = .ok (.getfield 37, 3) := by decide +kernel
theorem dX4_count_132 : decode cX4_count 132 = .ok (.getfield 193, 3) := by decide +kernel
theorem dX4_count_135 : decode cX4_count 135 = .ok (.ireturn, 1) := by decide +kernel
theorem dX4_count_136 : decode cX4_count 136 = .ok (.aload_n 0, 1) := by decide +kernel
theorem dX4_count_137 : decode cX4_count 137 = .ok (.invokevirtual 196, 3) := by decide +kernel
theorem dX4_count_140 : decode cX4_count 140 = .ok (.ireturn, 1) := by decide +kernel
theorem dX4_count_141 : decode cX4_count 141 = .ok (.aload_n 0, 1) := by decide +kernel
theorem dX4_count_142 : decode cX4_count 142 = .ok (.getfield 37, 3) := by decide +kernel
theorem dX4_count_145 : decode cX4_count 145 = .ok (.getfield 106, 3) := by decide +kernel
theorem dX4_count_148 : decode cX4_count 148 = .ok (.ireturn, 1) := by decide +kernel
theorem dX4_count_149 : decode cX4_count 149 = .ok (.aload_n 0, 1) := by decide +kernel
theorem dX4_count_150 : decode cX4_count 150 = .ok (.getfield 37, 3) := by decide +kernel
theorem dX4_count_153 : decode cX4_count 153 = .ok (.getfield 199, 3) := by decide +kernel
theorem dX4_count_156 : decode cX4_count 156 = .ok (.ireturn, 1) := by decide +kernel
theorem dX4_count_157 : decode cX4_count 157 = .ok (.aload_n 0, 1) := by decide +kernel
theorem dX4_count_158 : decode cX4_count 158 = .ok (.getfield 12, 3) := by decide +kernel
theorem dX4_count_161 : decode cX4_count 161 = .ok (.getfield 202, 3) := by decide +kernel
theorem dX4_count_164 : decode cX4_count 164 = .ok (.ireturn, 1) := by decide +kernel
theorem dX4_count_165 : decode cX4_count 165 = .ok (.iconst (-1), 1) := by decide +kernel
theorem dX4_count_166 : decode cX4_count 166 = .ok (.ireturn, 1) := by decide +kernel
abbrev cX4_page : ByteArray := prog_1_method_21_code
def yX4_page : MethodName := ⟨RX4, "page", "(I)I"⟩
theorem dX4_page_0 : decode cX4_page 0 = .ok (.iload_n 1, 1) := by decide +kernel
theorem dX4_page_1 : decode cX4_page 1 = .ok (.ifCond .lt 9, 3) := by decide +kernel
theorem dX4_page_4 : decode cX4_page 4 = .ok (.iload_n 1, 1) := by decide +kernel
theorem dX4_page_5 : decode cX4_page 5 = .ok (.bipush 16, 2) := by decide +kernel
theorem dX4_page_7 : decode cX4_page 7 = .ok (.if_icmp .lt 7, 3) := by decide +kernel
theorem dX4_page_10 : decode cX4_page 10 = .ok (.iconst (-1), 1) := by decide +kernel
theorem dX4_page_11 : decode cX4_page 11 = .ok (.goto 12, 3) := by decide +kernel
theorem dX4_page_14 : decode cX4_page 14 = .ok (.aload_n 0, 1) := by decide +kernel
theorem dX4_page_15 : decode cX4_page 15 = .ok (.getfield 12, 3) := by decide +kernel
theorem dX4_page_18 : decode cX4_page 18 = .ok (.getfield 205, 3) := by decide +kernel
theorem dX4_page_21 : decode cX4_page 21 = .ok (.iload_n 1, 1) := by decide +kernel
theorem dX4_page_22 : decode cX4_page 22 = .ok (.iaload, 1) := by decide +kernel
theorem dX4_page_23 : decode cX4_page 23 = .ok (.ireturn, 1) := by decide +kernel
abbrev cX4_lives : ByteArray := prog_1_method_22_code
def yX4_lives : MethodName := ⟨RX4, "lives", "(I)Z"⟩
theorem dX4_lives_0 : decode cX4_lives 0 = .ok (.iload_n 1, 1) := by decide +kernel
theorem dX4_lives_1 : decode cX4_lives 1 = .ok (.ifCond .lt 25, 3) := by decide +kernel
theorem dX4_lives_4 : decode cX4_lives 4 = .ok (.iload_n 1, 1) := by decide +kernel
theorem dX4_lives_5 : decode cX4_lives 5 = .ok (.bipush 6, 2) := by decide +kernel
theorem dX4_lives_7 : decode cX4_lives 7 = .ok (.if_icmp .ge 19, 3) := by decide +kernel
theorem dX4_lives_10 : decode cX4_lives 10 = .ok (.aload_n 0, 1) := by decide +kernel
theorem dX4_lives_11 : decode cX4_lives 11 = .ok (.getfield 18, 3) := by decide +kernel
theorem dX4_lives_14 : decode cX4_lives 14 = .ok (.iload_n 1, 1) := by decide +kernel
theorem dX4_lives_15 : decode cX4_lives 15 = .ok (.aaload, 1) := by decide +kernel
theorem dX4_lives_16 : decode cX4_lives 16 = .ok (.getfield 70, 3) := by decide +kernel
theorem dX4_lives_19 : decode cX4_lives 19 = .ok (.ifCond .eq 7, 3) := by decide +kernel
theorem dX4_lives_22 : decode cX4_lives 22 = .ok (.iconst 1, 1) := by decide +kernel
theorem dX4_lives_23 : decode cX4_lives 23 = .ok (.goto 4, 3) := by decide +kernel
theorem dX4_lives_26 : decode cX4_lives 26 = .ok (.iconst 0, 1) := by decide +kernel
theorem dX4_lives_27 : decode cX4_lives 27 = .ok (.ireturn, 1) := by decide +kernel
abbrev cX4_readyFiber : ByteArray := prog_1_method_23_code
def yX4_readyFiber : MethodName := ⟨RX4, "readyFiber", "(I)LFiberHeap$Fiber;"⟩
theorem dX4_readyFiber_0 : decode cX4_readyFiber 0 = .ok (.aload_n 0, 1) := by decide +kernel
theorem dX4_readyFiber_1 : decode cX4_readyFiber 1 = .ok (.iload_n 1, 1) := by decide +kernel
theorem dX4_readyFiber_2 : decode cX4_readyFiber 2 = .ok (.invokevirtual 64, 3) := by decide +kernel
theorem dX4_readyFiber_5 : decode cX4_readyFiber 5 = .ok (.ifCond .eq 25, 3) := by decide +kernel
theorem dX4_readyFiber_8 : decode cX4_readyFiber 8 = .ok (.aload_n 0, 1) := by decide +kernel
theorem dX4_readyFiber_9 : decode cX4_readyFiber 9 = .ok (.getfield 18, 3) := by decide +kernel
theorem dX4_readyFiber_12 : decode cX4_readyFiber 12 = .ok (.iload_n 1, 1) := by decide +kernel
theorem dX4_readyFiber_13 : decode cX4_readyFiber 13 = .ok (.aaload, 1) := by decide +kernel
theorem dX4_readyFiber_14 : decode cX4_readyFiber 14 = .ok (.getfield 70, 3) := by decide +kernel
theorem dX4_readyFiber_17 : decode cX4_readyFiber 17 = .ok (.iconst 1, 1) := by decide +kernel
theorem dX4_readyFiber_18 : decode cX4_readyFiber 18 = .ok (.if_icmp .ne 12, 3) := by decide +kernel
theorem dX4_readyFiber_21 : decode cX4_readyFiber 21 = .ok (.aload_n 0, 1) := by decide +kernel
theorem dX4_readyFiber_22 : decode cX4_readyFiber 22 = .ok (.getfield 18, 3) := by decide +kernel
theorem dX4_readyFiber_25 : decode cX4_readyFiber 25 = .ok (.iload_n 1, 1) := by decide +kernel
theorem dX4_readyFiber_26 : decode cX4_readyFiber 26 = .ok (.aaload, 1) := by decide +kernel
theorem dX4_readyFiber_27 : decode cX4_readyFiber 27 = .ok (.goto 4, 3) := by decide +kernel
theorem dX4_readyFiber_30 : decode cX4_readyFiber 30 = .ok (.aconst_null, 1) := by decide +kernel
theorem dX4_readyFiber_31 : decode cX4_readyFiber 31 = .ok (.areturn, 1) := by decide +kernel
abbrev cX4_livingFibers : ByteArray := prog_1_method_24_code
def yX4_livingFibers : MethodName := ⟨RX4, "livingFibers", "()I"⟩
theorem dX4_livingFibers_0 : decode cX4_livingFibers 0 = .ok (.iconst 0, 1) := by decide +kernel
theorem dX4_livingFibers_1 : decode cX4_livingFibers 1 = .ok (.istore_n 1, 1) := by decide +kernel
theorem dX4_livingFibers_2 : decode cX4_livingFibers 2 = .ok (.iconst 0, 1) := by decide +kernel
theorem dX4_livingFibers_3 : decode cX4_livingFibers 3 = .ok (.istore_n 2, 1) := by decide +kernel
theorem dX4_livingFibers_4 : decode cX4_livingFibers 4 = .ok (.iload_n 2, 1) := by decide +kernel
theorem dX4_livingFibers_5 : decode cX4_livingFibers 5 = .ok (.bipush 6, 2) := by decide +kernel
theorem dX4_livingFibers_7 : decode cX4_livingFibers 7 = .ok (.if_icmp .ge 20, 3) := by decide +kernel
theorem dX4_livingFibers_10 : decode cX4_livingFibers 10 = .ok (.aload_n 0, 1) := by decide +kernel
theorem dX4_livingFibers_11 : decode cX4_livingFibers 11 = .ok (.iload_n 2, 1) := by decide +kernel
theorem dX4_livingFibers_12 : decode cX4_livingFibers 12 = .ok (.invokevirtual 64, 3) := by decide +kernel
theorem dX4_livingFibers_15 : decode cX4_livingFibers 15 = .ok (.ifCond .eq 6, 3) := by decide +kernel
theorem dX4_livingFibers_18 : decode cX4_livingFibers 18 = .ok (.iinc 1 1, 3) := by decide +kernel
theorem dX4_livingFibers_21 : decode cX4_livingFibers 21 = .ok (.iinc 2 1, 3) := by decide +kernel
theorem dX4_livingFibers_24 : decode cX4_livingFibers 24 = .ok (.goto (-20), 3) := by decide +kernel
theorem dX4_livingFibers_27 : decode cX4_livingFibers 27 = .ok (.iload_n 1, 1) := by decide +kernel
theorem dX4_livingFibers_28 : decode cX4_livingFibers 28 = .ok (.ireturn, 1) := by decide +kernel
abbrev cX4_lowestGoneFiber : ByteArray := prog_1_method_25_code
def yX4_lowestGoneFiber : MethodName := ⟨RX4, "lowestGoneFiber", "()I"⟩
theorem dX4_lowestGoneFiber_0 : decode cX4_lowestGoneFiber 0 = .ok (.iconst 0, 1) := by decide +kernel
theorem dX4_lowestGoneFiber_1 : decode cX4_lowestGoneFiber 1 = .ok (.istore_n 1, 1) := by decide +kernel
theorem dX4_lowestGoneFiber_2 : decode cX4_lowestGoneFiber 2 = .ok (.iload_n 1, 1) := by decide +kernel
theorem dX4_lowestGoneFiber_3 : decode cX4_lowestGoneFiber 3 = .ok (.bipush 6, 2) := by decide +kernel
theorem dX4_lowestGoneFiber_5 : decode cX4_lowestGoneFiber 5 = .ok (.if_icmp .ge 19, 3) := by decide +kernel
theorem dX4_lowestGoneFiber_8 : decode cX4_lowestGoneFiber 8 = .ok (.aload_n 0, 1) := by decide +kernel
theorem dX4_lowestGoneFiber_9 : decode cX4_lowestGoneFiber 9 = .ok (.iload_n 1, 1) := by decide +kernel
theorem dX4_lowestGoneFiber_10 : decode cX4_lowestGoneFiber 10 = .ok (.invokevirtual 64, 3) := by decide +kernel
theorem dX4_lowestGoneFiber_13 : decode cX4_lowestGoneFiber 13 = .ok (.ifCond .ne 5, 3) := by decide +kernel
theorem dX4_lowestGoneFiber_16 : decode cX4_lowestGoneFiber 16 = .ok (.iload_n 1, 1) := by decide +kernel
theorem dX4_lowestGoneFiber_17 : decode cX4_lowestGoneFiber 17 = .ok (.ireturn, 1) := by decide +kernel
theorem dX4_lowestGoneFiber_18 : decode cX4_lowestGoneFiber 18 = .ok (.iinc 1 1, 3) := by decide +kernel
theorem dX4_lowestGoneFiber_21 : decode cX4_lowestGoneFiber 21 = .ok (.goto (-19), 3) := by decide +kernel
theorem dX4_lowestGoneFiber_24 : decode cX4_lowestGoneFiber 24 = .ok (.iconst (-1), 1) := by decide +kernel
theorem dX4_lowestGoneFiber_25 : decode cX4_lowestGoneFiber 25 = .ok (.ireturn, 1) := by decide +kernel
abbrev cX4_copiedFrames : ByteArray := prog_1_method_26_code
def yX4_copiedFrames : MethodName := ⟨RX4, "copiedFrames", "()I"⟩
theorem dX4_copiedFrames_0 : decode cX4_copiedFrames 0 = .ok (.iconst 0, 1) := by decide +kernel
theorem dX4_copiedFrames_1 : decode cX4_copiedFrames 1 = .ok (.istore_n 1, 1) := by decide +kernel
theorem dX4_copiedFrames_2 : decode cX4_copiedFrames 2 = .ok (.iconst 0, 1) := by decide +kernel
theorem dX4_copiedFrames_3 : decode cX4_copiedFrames 3 = .ok (.istore_n 2, 1) := by decide +kernel
theorem dX4_copiedFrames_4 : decode cX4_copiedFrames 4 = .ok (.iload_n 2, 1) := by decide +kernel
theorem dX4_copiedFrames_5 : decode cX4_copiedFrames 5 = .ok (.bipush 6, 2) := by decide +kernel
theorem dX4_copiedFrames_7 : decode cX4_copiedFrames 7 = .ok (.if_icmp .ge 21, 3) := by decide +kernel
theorem dX4_copiedFrames_10 : decode cX4_copiedFrames 10 = .ok (.iload_n 1, 1) := by decide +kernel
theorem dX4_copiedFrames_11 : decode cX4_copiedFrames 11 = .ok (.aload_n 0, 1) := by decide +kernel
theorem dX4_copiedFrames_12 : decode cX4_copiedFrames 12 = .ok (.getfield 18, 3) := by decide +kernel
theorem dX4_copiedFrames_15 : decode cX4_copiedFrames 15 = .ok (.iload_n 2, 1) := by decide +kernel
theorem dX4_copiedFrames_16 : decode cX4_copiedFrames 16 = .ok (.aaload, 1) := by decide +kernel
theorem dX4_copiedFrames_17 : decode cX4_copiedFrames 17 = .ok (.getfield 208, 3) := by decide +kernel
theorem dX4_copiedFrames_20 : decode cX4_copiedFrames 20 = .ok (.iadd, 1) := by decide +kernel
theorem dX4_copiedFrames_21 : decode cX4_copiedFrames 21 = .ok (.istore_n 1, 1) := by decide +kernel
theorem dX4_copiedFrames_22 : decode cX4_copiedFrames 22 = .ok (.iinc 2 1, 3) := by decide +kernel
theorem dX4_copiedFrames_25 : decode cX4_copiedFrames 25 = .ok (.goto (-21), 3) := by decide +kernel
theorem dX4_copiedFrames_28 : decode cX4_copiedFrames 28 = .ok (.iload_n 1, 1) := by decide +kernel
theorem dX4_copiedFrames_29 : decode cX4_copiedFrames 29 = .ok (.ireturn, 1) := by decide +kernel
abbrev cX4_placeAtAnyCost : ByteArray := prog_1_method_27_code
def yX4_placeAtAnyCost : MethodName := ⟨RX4, "placeAtAnyCost", "(II)I"⟩
theorem dX4_placeAtAnyCost_0 : decode cX4_placeAtAnyCost 0 = .ok (.aload_n 0, 1) := by decide +kernel
theorem dX4_placeAtAnyCost_1 : decode cX4_placeAtAnyCost 1 = .ok (.getfield 12, 3) := by decide +kernel
theorem dX4_placeAtAnyCost_4 : decode cX4_placeAtAnyCost 4 = .ok (.iload_n 1, 1) := by decide +kernel
theorem dX4_placeAtAnyCost_5 : decode cX4_placeAtAnyCost 5 = .ok (.iload_n 2, 1) := by decide +kernel
theorem dX4_placeAtAnyCost_6 : decode cX4_placeAtAnyCost 6 = .ok (.aload_n 0, 1) := by decide +kernel
theorem dX4_placeAtAnyCost_7 : decode cX4_placeAtAnyCost 7 = .ok (.getfield 37, 3) := by decide +kernel
theorem dX4_placeAtAnyCost_10 : decode cX4_placeAtAnyCost 10 = .ok (.invokevirtual 211, 3) := by decide +kernel
theorem dX4_placeAtAnyCost_13 : decode cX4_placeAtAnyCost 13 = .ok (.invokevirtual 214, 3) := by decide +kernel
theorem dX4_placeAtAnyCost_16 : decode cX4_placeAtAnyCost 16 = .ok (.istore_n 3, 1) := by decide +kernel
theorem dX4_placeAtAnyCost_17 : decode cX4_placeAtAnyCost 17 = .ok (.iload_n 3, 1) := by decide +kernel
theorem dX4_placeAtAnyCost_18 : decode cX4_placeAtAnyCost 18 = .ok (.iconst (-1), 1) := by decide +kernel
theorem dX4_placeAtAnyCost_19 : decode cX4_placeAtAnyCost 19 = .ok (.if_icmp .ne 31, 3) := by decide +kernel
theorem dX4_placeAtAnyCost_22 : decode cX4_placeAtAnyCost 22 = .ok (.aload_n 0, 1) := by decide +kernel
theorem dX4_placeAtAnyCost_23 : decode cX4_placeAtAnyCost 23 = .ok (.getfield 37, 3) := by decide +kernel
theorem dX4_placeAtAnyCost_26 : decode cX4_placeAtAnyCost 26 = .ok (.invokevirtual 217, 3) := by decide +kernel
theorem dX4_placeAtAnyCost_29 : decode cX4_placeAtAnyCost 29 = .ok (.aload_n 0, 1) := by decide +kernel
theorem dX4_placeAtAnyCost_30 : decode cX4_placeAtAnyCost 30 = .ok (.getfield 12, 3) := by decide +kernel
theorem dX4_placeAtAnyCost_33 : decode cX4_placeAtAnyCost 33 = .ok (.bipush 16, 2) := by decide +kernel
theorem dX4_placeAtAnyCost_35 : decode cX4_placeAtAnyCost 35 = .ok (.invokevirtual 163, 3) := by decide +kernel
theorem dX4_placeAtAnyCost_38 : decode cX4_placeAtAnyCost 38 = .ok (.pop, 1) := by decide +kernel
theorem dX4_placeAtAnyCost_39 : decode cX4_placeAtAnyCost 39 = .ok (.aload_n 0, 1) := by decide +kernel
theorem dX4_placeAtAnyCost_40 : decode cX4_placeAtAnyCost 40 = .ok (.getfield 12, 3) := by decide +kernel
theorem dX4_placeAtAnyCost_43 : decode cX4_placeAtAnyCost 43 = .ok (.iload_n 1, 1) := by decide +kernel
theorem dX4_placeAtAnyCost_44 : decode cX4_placeAtAnyCost 44 = .ok (.iload_n 2, 1) := by decide +kernel
theorem dX4_placeAtAnyCost_45 : decode cX4_placeAtAnyCost 45 = .ok (.iconst 0, 1) := by decide +kernel
theorem dX4_placeAtAnyCost_46 : decode cX4_placeAtAnyCost 46 = .ok (.invokevirtual 214, 3) := by decide +kernel
theorem dX4_placeAtAnyCost_49 : decode cX4_placeAtAnyCost 49 = .ok (.istore_n 3, 1) := by decide +kernel
theorem dX4_placeAtAnyCost_50 : decode cX4_placeAtAnyCost 50 = .ok (.iload_n 3, 1) := by decide +kernel
theorem dX4_placeAtAnyCost_51 : decode cX4_placeAtAnyCost 51 = .ok (.iconst (-1), 1) := by decide +kernel
theorem dX4_placeAtAnyCost_52 : decode cX4_placeAtAnyCost 52 = .ok (.if_icmp .ne 38, 3) := by decide +kernel
theorem dX4_placeAtAnyCost_55 : decode cX4_placeAtAnyCost 55 = .ok (.aload_n 0, 1) := by decide +kernel
theorem dX4_placeAtAnyCost_56 : decode cX4_placeAtAnyCost 56 = .ok (.getfield 37, 3) := by decide +kernel
theorem dX4_placeAtAnyCost_59 : decode cX4_placeAtAnyCost 59 = .ok (.invokevirtual 166, 3) := by decide +kernel
theorem dX4_placeAtAnyCost_62 : decode cX4_placeAtAnyCost 62 = .ok (.aload_n 0, 1) := by decide +kernel
theorem dX4_placeAtAnyCost_63 : decode cX4_placeAtAnyCost 63 = .ok (.getfield 37, 3) := by decide +kernel
theorem dX4_placeAtAnyCost_66 : decode cX4_placeAtAnyCost 66 = .ok (.invokevirtual 217, 3) := by decide +kernel
theorem dX4_placeAtAnyCost_69 : decode cX4_placeAtAnyCost 69 = .ok (.aload_n 0, 1) := by decide +kernel
theorem dX4_placeAtAnyCost_70 : decode cX4_placeAtAnyCost 70 = .ok (.getfield 12, 3) := by decide +kernel
theorem dX4_placeAtAnyCost_73 : decode cX4_placeAtAnyCost 73 = .ok (.bipush 16, 2) := by decide +kernel
theorem dX4_placeAtAnyCost_75 : decode cX4_placeAtAnyCost 75 = .ok (.invokevirtual 163, 3) := by decide +kernel
theorem dX4_placeAtAnyCost_78 : decode cX4_placeAtAnyCost 78 = .ok (.pop, 1) := by decide +kernel
theorem dX4_placeAtAnyCost_79 : decode cX4_placeAtAnyCost 79 = .ok (.aload_n 0, 1) := by decide +kernel
theorem dX4_placeAtAnyCost_80 : decode cX4_placeAtAnyCost 80 = .ok (.getfield 12, 3) := by decide +kernel
theorem dX4_placeAtAnyCost_83 : decode cX4_placeAtAnyCost 83 = .ok (.iload_n 1, 1) := by decide +kernel
theorem dX4_placeAtAnyCost_84 : decode cX4_placeAtAnyCost 84 = .ok (.iload_n 2, 1) := by decide +kernel
theorem dX4_placeAtAnyCost_85 : decode cX4_placeAtAnyCost 85 = .ok (.iconst 0, 1) := by decide +kernel
theorem dX4_placeAtAnyCost_86 : decode cX4_placeAtAnyCost 86 = .ok (.invokevirtual 214, 3) := by decide +kernel
theorem dX4_placeAtAnyCost_89 : decode cX4_placeAtAnyCost 89 = .ok (.istore_n 3, 1) := by decide +kernel
theorem dX4_placeAtAnyCost_90 : decode cX4_placeAtAnyCost 90 = .ok (.iload_n 3, 1) := by decide +kernel
theorem dX4_placeAtAnyCost_91 : decode cX4_placeAtAnyCost 91 = .ok (.ireturn, 1) := by decide +kernel
abbrev cX4_intWordIndex : ByteArray := prog_1_method_28_code
def yX4_intWordIndex : MethodName := ⟨RX4, "intWordIndex", "(III)I"⟩
theorem dX4_intWordIndex_0 : decode cX4_intWordIndex 0 = .ok (.aload_n 0, 1) := by decide +kernel
theorem dX4_intWordIndex_1 : decode cX4_intWordIndex 1 = .ok (.iload_n 1, 1) := by decide +kernel
theorem dX4_intWordIndex_2 : decode cX4_intWordIndex 2 = .ok (.invokevirtual 48, 3) := by decide +kernel
theorem dX4_intWordIndex_5 : decode cX4_intWordIndex 5 = .ok (.astore 4, 2) := by decide +kernel
theorem dX4_intWordIndex_7 : decode cX4_intWordIndex 7 = .ok (.aload 4, 2) := by decide +kernel
theorem dX4_intWordIndex_9 : decode cX4_intWordIndex 9 = .ok (.ifnull 12, 3) := by decide +kernel
theorem dX4_intWordIndex_12 : decode cX4_intWordIndex 12 = .ok (.aload 4, 2) := by decide +kernel
theorem dX4_intWordIndex_14 : decode cX4_intWordIndex 14 = .ok (.iload_n 2, 1) := by decide +kernel
theorem dX4_intWordIndex_15 : decode cX4_intWordIndex 15 = .ok (.invokevirtual 89, 3) := by decide +kernel
theorem dX4_intWordIndex_18 : decode cX4_intWordIndex 18 = .ok (.ifCond .ne 5, 3) := by decide +kernel
theorem dX4_intWordIndex_21 : decode cX4_intWordIndex 21 = .ok (.iconst (-1), 1) := by decide +kernel
theorem dX4_intWordIndex_22 : decode cX4_intWordIndex 22 = .ok (.ireturn, 1) := by decide +kernel
theorem dX4_intWordIndex_23 : decode cX4_intWordIndex 23 = .ok (.aload 4, 2) := by decide +kernel
theorem dX4_intWordIndex_25 : decode cX4_intWordIndex 25 = .ok (.iload_n 2, 1) := by decide +kernel
theorem dX4_intWordIndex_26 : decode cX4_intWordIndex 26 = .ok (.invokevirtual 60, 3) := by decide +kernel
theorem dX4_intWordIndex_29 : decode cX4_intWordIndex 29 = .ok (.istore 5, 2) := by decide +kernel
theorem dX4_intWordIndex_31 : decode cX4_intWordIndex 31 = .ok (.aload_n 0, 1) := by decide +kernel
theorem dX4_intWordIndex_32 : decode cX4_intWordIndex 32 = .ok (.getfield 12, 3) := by decide +kernel
theorem dX4_intWordIndex_35 : decode cX4_intWordIndex 35 = .ok (.iload 5, 2) := by decide +kernel
theorem dX4_intWordIndex_37 : decode cX4_intWordIndex 37 = .ok (.iload_n 3, 1) := by decide +kernel
theorem dX4_intWordIndex_38 : decode cX4_intWordIndex 38 = .ok (.invokevirtual 220, 3) := by decide +kernel
theorem dX4_intWordIndex_41 : decode cX4_intWordIndex 41 = .ok (.ifCond .eq 10, 3) := by decide +kernel
theorem dX4_intWordIndex_44 : decode cX4_intWordIndex 44 = .ok (.iload 5, 2) := by decide +kernel
theorem dX4_intWordIndex_46 : decode cX4_intWordIndex 46 = .ok (.iload_n 3, 1) := by decide +kernel
theorem dX4_intWordIndex_47 : decode cX4_intWordIndex 47 = .ok (.iadd, 1) := by decide +kernel
theorem dX4_intWordIndex_48 : decode cX4_intWordIndex 48 = .ok (.goto 4, 3) := by decide +kernel
theorem dX4_intWordIndex_51 : decode cX4_intWordIndex 51 = .ok (.iconst (-1), 1) := by decide +kernel
theorem dX4_intWordIndex_52 : decode cX4_intWordIndex 52 = .ok (.ireturn, 1) := by decide +kernel
abbrev cX4_isChannel : ByteArray := prog_1_method_29_code
def yX4_isChannel : MethodName := ⟨RX4, "isChannel", "(I)Z"⟩
theorem dX4_isChannel_0 : decode cX4_isChannel 0 = .ok (.iload_n 0, 1) := by decide +kernel
theorem dX4_isChannel_1 : decode cX4_isChannel 1 = .ok (.ifCond .lt 12, 3) := by decide +kernel
theorem dX4_isChannel_4 : decode cX4_isChannel 4 = .ok (.iload_n 0, 1) := by decide +kernel
theorem dX4_isChannel_5 : decode cX4_isChannel 5 = .ok (.iconst 4, 1) := by decide +kernel
theorem dX4_isChannel_6 : decode cX4_isChannel 6 = .ok (.if_icmp .ge 7, 3) := by decide +kernel
theorem dX4_isChannel_9 : decode cX4_isChannel 9 = .ok (.iconst 1, 1) := by decide +kernel
theorem dX4_isChannel_10 : decode cX4_isChannel 10 = .ok (.goto 4, 3) := by decide +kernel
theorem dX4_isChannel_13 : decode cX4_isChannel 13 = .ok (.iconst 0, 1) := by decide +kernel
theorem dX4_isChannel_14 : decode cX4_isChannel 14 = .ok (.ireturn, 1) := by decide +kernel
abbrev cX4_newTicket : ByteArray := prog_1_method_30_code
def yX4_newTicket : MethodName := ⟨RX4, "newTicket", "()I"⟩
theorem dX4_newTicket_0 : decode cX4_newTicket 0 = .ok (.aload_n 0, 1) := by decide +kernel
theorem dX4_newTicket_1 : decode cX4_newTicket 1 = .ok (.dup, 1) := by decide +kernel
theorem dX4_newTicket_2 : decode cX4_newTicket 2 = .ok (.getfield 41, 3) := by decide +kernel
theorem dX4_newTicket_5 : decode cX4_newTicket 5 = .ok (.dup_x1, 1) := by decide +kernel
theorem dX4_newTicket_6 : decode cX4_newTicket 6 = .ok (.iconst 1, 1) := by decide +kernel
theorem dX4_newTicket_7 : decode cX4_newTicket 7 = .ok (.iadd, 1) := by decide +kernel
theorem dX4_newTicket_8 : decode cX4_newTicket 8 = .ok (.putfield 41, 3) := by decide +kernel
theorem dX4_newTicket_11 : decode cX4_newTicket 11 = .ok (.ireturn, 1) := by decide +kernel
abbrev cX4_firstWaiting : ByteArray := prog_1_method_31_code
def yX4_firstWaiting : MethodName := ⟨RX4, "firstWaiting", "(II)LFiberHeap$Fiber;"⟩
theorem dX4_firstWaiting_0 : decode cX4_firstWaiting 0 = .ok (.aconst_null, 1) := by decide +kernel
theorem dX4_firstWaiting_1 : decode cX4_firstWaiting 1 = .ok (.astore_n 3, 1) := by decide +kernel
theorem dX4_firstWaiting_2 : decode cX4_firstWaiting 2 = .ok (.iconst 0, 1) := by decide +kernel
theorem dX4_firstWaiting_3 : decode cX4_firstWaiting 3 = .ok (.istore 4, 2) := by decide +kernel
theorem dX4_firstWaiting_5 : decode cX4_firstWaiting 5 = .ok (.iload 4, 2) := by decide +kernel
theorem dX4_firstWaiting_7 : decode cX4_firstWaiting 7 = .ok (.bipush 6, 2) := by decide +kernel
theorem dX4_firstWaiting_9 : decode cX4_firstWaiting 9 = .ok (.if_icmp .ge 47, 3) := by decide +kernel
theorem dX4_firstWaiting_12 : decode cX4_firstWaiting 12 = .ok (.aload_n 0, 1) := by decide +kernel
theorem dX4_firstWaiting_13 : decode cX4_firstWaiting 13 = .ok (.getfield 18, 3) := by decide +kernel
theorem dX4_firstWaiting_16 : decode cX4_firstWaiting 16 = .ok (.iload 4, 2) := by decide +kernel
theorem dX4_firstWaiting_18 : decode cX4_firstWaiting 18 = .ok (.aaload, 1) := by decide +kernel
theorem dX4_firstWaiting_19 : decode cX4_firstWaiting 19 = .ok (.astore 5, 2) := by decide +kernel
theorem dX4_firstWaiting_21 : decode cX4_firstWaiting 21 = .ok (.aload 5, 2) := by decide +kernel
theorem dX4_firstWaiting_23 : decode cX4_firstWaiting 23 = .ok (.iload_n 1, 1) := by decide +kernel
theorem dX4_firstWaiting_24 : decode cX4_firstWaiting 24 = .ok (.iload_n 2, 1) := by decide +kernel
theorem dX4_firstWaiting_25 : decode cX4_firstWaiting 25 = .ok (.invokevirtual 223, 3) := by decide +kernel
theorem dX4_firstWaiting_28 : decode cX4_firstWaiting 28 = .ok (.ifCond .eq 22, 3) := by decide +kernel
theorem dX4_firstWaiting_31 : decode cX4_firstWaiting 31 = .ok (.aload_n 3, 1) := by decide +kernel
theorem dX4_firstWaiting_32 : decode cX4_firstWaiting 32 = .ok (.ifnull 15, 3) := by decide +kernel
theorem dX4_firstWaiting_35 : decode cX4_firstWaiting 35 = .ok (.aload 5, 2) := by decide +kernel
theorem dX4_firstWaiting_37 : decode cX4_firstWaiting 37 = .ok (.getfield 226, 3) := by decide +kernel
theorem dX4_firstWaiting_40 : decode cX4_firstWaiting 40 = .ok (.aload_n 3, 1) := by decide +kernel
theorem dX4_firstWaiting_41 : decode cX4_firstWaiting 41 = .ok (.getfield 226, 3) := by decide +kernel
theorem dX4_firstWaiting_44 : decode cX4_firstWaiting 44 = .ok (.if_icmp .ge 6, 3) := by decide +kernel
theorem dX4_firstWaiting_47 : decode cX4_firstWaiting 47 = .ok (.aload 5, 2) := by decide +kernel
theorem dX4_firstWaiting_49 : decode cX4_firstWaiting 49 = .ok (.astore_n 3, 1) := by decide +kernel
theorem dX4_firstWaiting_50 : decode cX4_firstWaiting 50 = .ok (.iinc 4 1, 3) := by decide +kernel
theorem dX4_firstWaiting_53 : decode cX4_firstWaiting 53 = .ok (.goto (-48), 3) := by decide +kernel
theorem dX4_firstWaiting_56 : decode cX4_firstWaiting 56 = .ok (.aload_n 3, 1) := by decide +kernel
theorem dX4_firstWaiting_57 : decode cX4_firstWaiting 57 = .ok (.areturn, 1) := by decide +kernel
abbrev cX4_canGive : ByteArray := prog_1_method_32_code
def yX4_canGive : MethodName := ⟨RX4, "canGive", "(I)Z"⟩
theorem dX4_canGive_0 : decode cX4_canGive 0 = .ok (.aload_n 0, 1) := by decide +kernel
theorem dX4_canGive_1 : decode cX4_canGive 1 = .ok (.getfield 25, 3) := by decide +kernel
theorem dX4_canGive_4 : decode cX4_canGive 4 = .ok (.iload_n 1, 1) := by decide +kernel
theorem dX4_canGive_5 : decode cX4_canGive 5 = .ok (.aaload, 1) := by decide +kernel
theorem dX4_canGive_6 : decode cX4_canGive 6 = .ok (.getfield 229, 3) := by decide +kernel
theorem dX4_canGive_9 : decode cX4_canGive 9 = .ok (.ifCond .gt 12, 3) := by decide +kernel
theorem dX4_canGive_12 : decode cX4_canGive 12 = .ok (.aload_n 0, 1) := by decide +kernel
theorem dX4_canGive_13 : decode cX4_canGive 13 = .ok (.iconst 2, 1) := by decide +kernel
theorem dX4_canGive_14 : decode cX4_canGive 14 = .ok (.iload_n 1, 1) := by decide +kernel
theorem dX4_canGive_15 : decode cX4_canGive 15 = .ok (.invokevirtual 126, 3) := by decide +kernel
theorem dX4_canGive_18 : decode cX4_canGive 18 = .ok (.ifnull 7, 3) := by decide +kernel
theorem dX4_canGive_21 : decode cX4_canGive 21 = .ok (.iconst 1, 1) := by decide +kernel
theorem dX4_canGive_22 : decode cX4_canGive 22 = .ok (.goto 4, 3) := by decide +kernel
theorem dX4_canGive_25 : decode cX4_canGive 25 = .ok (.iconst 0, 1) := by decide +kernel
theorem dX4_canGive_26 : decode cX4_canGive 26 = .ok (.ireturn, 1) := by decide +kernel
abbrev cX4_pointerOutOf : ByteArray := prog_1_method_33_code
def yX4_pointerOutOf : MethodName := ⟨RX4, "pointerOutOf", "(I)I"⟩
theorem dX4_pointerOutOf_0 : decode cX4_pointerOutOf 0 = .ok (.aload_n 0, 1) := by decide +kernel
theorem dX4_pointerOutOf_1 : decode cX4_pointerOutOf 1 = .ok (.iconst 2, 1) := by decide +kernel
theorem dX4_pointerOutOf_2 : decode cX4_pointerOutOf 2 = .ok (.iload_n 1, 1) := by decide +kernel
theorem dX4_pointerOutOf_3 : decode cX4_pointerOutOf 3 = .ok (.invokevirtual 126, 3) := by decide +kernel
theorem dX4_pointerOutOf_6 : decode cX4_pointerOutOf 6 = .ok (.astore_n 2, 1) := by decide +kernel
theorem dX4_pointerOutOf_7 : decode cX4_pointerOutOf 7 = .ok (.aload_n 2, 1) := by decide +kernel
theorem dX4_pointerOutOf_8 : decode cX4_pointerOutOf 8 = .ok (.ifnonnull 7, 3) := by decide +kernel
theorem dX4_pointerOutOf_11 : decode cX4_pointerOutOf 11 = .ok (.iconst (-1), 1) := by decide +kernel
theorem dX4_pointerOutOf_12 : decode cX4_pointerOutOf 12 = .ok (.goto 7, 3) := by decide +kernel
theorem dX4_pointerOutOf_15 : decode cX4_pointerOutOf 15 = .ok (.aload_n 2, 1) := by decide +kernel
theorem dX4_pointerOutOf_16 : decode cX4_pointerOutOf 16 = .ok (.invokevirtual 232, 3) := by decide +kernel
theorem dX4_pointerOutOf_19 : decode cX4_pointerOutOf 19 = .ok (.istore_n 3, 1) := by decide +kernel
theorem dX4_pointerOutOf_20 : decode cX4_pointerOutOf 20 = .ok (.aload_n 0, 1) := by decide +kernel
theorem dX4_pointerOutOf_21 : decode cX4_pointerOutOf 21 = .ok (.getfield 37, 3) := by decide +kernel
theorem dX4_pointerOutOf_24 : decode cX4_pointerOutOf 24 = .ok (.iload_n 3, 1) := by decide +kernel
theorem dX4_pointerOutOf_25 : decode cX4_pointerOutOf 25 = .ok (.invokevirtual 116, 3) := by decide +kernel
theorem dX4_pointerOutOf_28 : decode cX4_pointerOutOf 28 = .ok (.aload_n 0, 1) := by decide +kernel
theorem dX4_pointerOutOf_29 : decode cX4_pointerOutOf 29 = .ok (.getfield 25, 3) := by decide +kernel
theorem dX4_pointerOutOf_32 : decode cX4_pointerOutOf 32 = .ok (.iload_n 1, 1) := by decide +kernel
theorem dX4_pointerOutOf_33 : decode cX4_pointerOutOf 33 = .ok (.aaload, 1) := by decide +kernel
theorem dX4_pointerOutOf_34 : decode cX4_pointerOutOf 34 = .ok (.astore 4, 2) := by decide +kernel
theorem dX4_pointerOutOf_36 : decode cX4_pointerOutOf 36 = .ok (.aload 4, 2) := by decide +kernel
theorem dX4_pointerOutOf_38 : decode cX4_pointerOutOf 38 = .ok (.getfield 229, 3) := by decide +kernel
theorem dX4_pointerOutOf_41 : decode cX4_pointerOutOf 41 = .ok (.ifCond .ne 5, 3) := by decide +kernel
theorem dX4_pointerOutOf_44 : decode cX4_pointerOutOf 44 = .ok (.iload_n 3, 1) := by decide +kernel
theorem dX4_pointerOutOf_45 : decode cX4_pointerOutOf 45 = .ok (.ireturn, 1) := by decide +kernel
theorem dX4_pointerOutOf_46 : decode cX4_pointerOutOf 46 = .ok (.aload 4, 2) := by decide +kernel
theorem dX4_pointerOutOf_48 : decode cX4_pointerOutOf 48 = .ok (.invokevirtual 235, 3) := by decide +kernel
theorem dX4_pointerOutOf_51 : decode cX4_pointerOutOf 51 = .ok (.istore 5, 2) := by decide +kernel
theorem dX4_pointerOutOf_53 : decode cX4_pointerOutOf 53 = .ok (.aload_n 2, 1) := by decide +kernel
theorem dX4_pointerOutOf_54 : decode cX4_pointerOutOf 54 = .ok (.ifnull 9, 3) := by decide +kernel
theorem dX4_pointerOutOf_57 : decode cX4_pointerOutOf 57 = .ok (.aload 4, 2) := by decide +kernel
theorem dX4_pointerOutOf_59 : decode cX4_pointerOutOf 59 = .ok (.iload_n 3, 1) := by decide +kernel
theorem dX4_pointerOutOf_60 : decode cX4_pointerOutOf 60 = .ok (.invokevirtual 137, 3) := by decide +kernel
theorem dX4_pointerOutOf_63 : decode cX4_pointerOutOf 63 = .ok (.iload 5, 2) := by decide +kernel
theorem dX4_pointerOutOf_65 : decode cX4_pointerOutOf 65 = .ok (.ireturn, 1) := by decide +kernel
end
section
def RX5 : String := "FiberHeapModel"
def TX5 : u_T := fun k => match k with
  | 0 => ("FiberHeapModel", "mem", "[I", true)
  | 1 => ("FiberHeapModel", "words", "[I", true)
  | 2 => ("FiberHeapModel", "pointers", "[I", true)
  | 3 => ("FiberHeapModel", "young", "[Z", true)
  | 4 => ("FiberHeapModel", "noted", "[Z", true)
  | 5 => ("FiberHeapModel", "kept", "[Z", true)
  | 6 => ("FiberHeapModel", "due", "[Z", true)
  | 7 => ("FiberHeapModel", "kind", "[I", true)
  | 8 => ("FiberHeapModel", "unswept", "[Z", true)
  | 9 => ("FiberHeapModel", "state", "[I", true)
  | 10 => ("FiberHeapModel", "frames", "[I", true)
  | 11 => ("FiberHeapModel", "room", "[I", true)
  | 12 => ("FiberHeapModel", "cells", "[I", true)
  | 13 => ("FiberHeapModel", "refs", "[I", true)
  | 14 => ("FiberHeapModel", "scanned", "[Z", true)
  | 15 => ("FiberHeapModel", "since", "[I", true)
  | 16 => ("FiberHeapModel", "at", "[I", true)
  | 17 => ("FiberHeapModel", "orAt", "[I", true)
  | 18 => ("FiberHeapModel", "into", "[I", true)
  | 19 => ("FiberHeapModel", "from", "[I", true)
  | 20 => ("FiberHeapModel", "queue", "[I", true)
  | 21 => ("FiberHeapModel", "length", "[I", true)
  | 22 => ("FiberHeapModel", "clock", "I", false)
  | 23 => ("FiberHeapModel", "marking", "Z", false)
  | 24 => ("FiberHeapModel", "looked", "I", false)
  | 25 => ("FiberHeapModel", "cycles", "I", false)
  | 26 => ("FiberHeapModel", "pieces", "I", false)
  | 27 => ("FiberHeapModel", "copied", "I", false)
  | 28 => ("FiberHeapModel", "fresh", "I", false)
  | 29 => ("FiberHeapModel", "trigger", "I", false)
  | _ => ("FiberHeapModel", "freed", "I", false)
def tyX5 : Nat → FieldType := fun k => match k with
  | 0 => .array .int
  | 1 => .array .int
  | 2 => .array .int
  | 3 => .array .boolean
  | 4 => .array .boolean
  | 5 => .array .boolean
  | 6 => .array .boolean
  | 7 => .array .int
  | 8 => .array .boolean
  | 9 => .array .int
  | 10 => .array .int
  | 11 => .array .int
  | 12 => .array .int
  | 13 => .array .int
  | 14 => .array .boolean
  | 15 => .array .int
  | 16 => .array .int
  | 17 => .array .int
  | 18 => .array .int
  | 19 => .array .int
  | 20 => .array .int
  | 21 => .array .int
  | 22 => .int
  | 23 => .boolean
  | 24 => .int
  | 25 => .int
  | 26 => .int
  | 27 => .int
  | 28 => .int
  | 29 => .int
  | _ => .int
theorem nmX5 : ∀ a, a < 31 → ∀ b, b < 31 → a ≠ b → (TX5 a).2.1 ≠ (TX5 b).2.1 := by decide +kernel
theorem tyX5_ok : ∀ k, k < 31 → parseFieldDescriptor (TX5 k).2.2.1 = some (tyX5 k) := by decide +kernel
abbrev cX5_init : ByteArray := prog_7_method_1_code
def yX5_init : MethodName := ⟨RX5, "<init>", "()V"⟩
theorem dX5_init_0 : decode cX5_init 0 = .ok (.aload_n 0, 1) := by decide +kernel
theorem dX5_init_1 : decode cX5_init 1 = .ok (.invokespecial 1, 3) := by decide +kernel
theorem dX5_init_4 : decode cX5_init 4 = .ok (.aload_n 0, 1) := by decide +kernel
theorem dX5_init_5 : decode cX5_init 5 = .ok (.sipush 256, 3) := by decide +kernel
theorem dX5_init_8 : decode cX5_init 8 = .ok (.newarray .int, 2) := by decide +kernel
theorem dX5_init_10 : decode cX5_init 10 = .ok (.putfield 7, 3) := by decide +kernel
theorem dX5_init_13 : decode cX5_init 13 = .ok (.aload_n 0, 1) := by decide +kernel
theorem dX5_init_14 : decode cX5_init 14 = .ok (.sipush 256, 3) := by decide +kernel
theorem dX5_init_17 : decode cX5_init 17 = .ok (.newarray .int, 2) := by decide +kernel
theorem dX5_init_19 : decode cX5_init 19 = .ok (.putfield 13, 3) := by decide +kernel
theorem dX5_init_22 : decode cX5_init 22 = .ok (.aload_n 0, 1) := by decide +kernel
theorem dX5_init_23 : decode cX5_init 23 = .ok (.sipush 256, 3) := by decide +kernel
theorem dX5_init_26 : decode cX5_init 26 = .ok (.newarray .int, 2) := by decide +kernel
theorem dX5_init_28 : decode cX5_init 28 = .ok (.putfield 16, 3) := by decide +kernel
theorem dX5_init_31 : decode cX5_init 31 = .ok (.aload_n 0, 1) := by decide +kernel
theorem dX5_init_32 : decode cX5_init 32 = .ok (.sipush 256, 3) := by decide +kernel
theorem dX5_init_35 : decode cX5_init 35 = .ok (.newarray .boolean, 2) := by decide +kernel
theorem dX5_init_37 : decode cX5_init 37 = .ok (.putfield 19, 3) := by decide +kernel
theorem dX5_init_40 : decode cX5_init 40 = .ok (.aload_n 0, 1) := by decide +kernel
theorem dX5_init_41 : decode cX5_init 41 = .ok (.sipush 256, 3) := by decide +kernel
theorem dX5_init_44 : decode cX5_init 44 = .ok (.newarray .boolean, 2) := by decide +kernel
theorem dX5_init_46 : decode cX5_init 46 = .ok (.putfield 23, 3) := by decide +kernel
theorem dX5_init_49 : decode cX5_init 49 = .ok (.aload_n 0, 1) := by decide +kernel
theorem dX5_init_50 : decode cX5_init 50 = .ok (.sipush 256, 3) := by decide +kernel
theorem dX5_init_53 : decode cX5_init 53 = .ok (.newarray .boolean, 2) := by decide +kernel
theorem dX5_init_55 : decode cX5_init 55 = .ok (.putfield 26, 3) := by decide +kernel
theorem dX5_init_58 : decode cX5_init 58 = .ok (.aload_n 0, 1) := by decide +kernel
theorem dX5_init_59 : decode cX5_init 59 = .ok (.sipush 256, 3) := by decide +kernel
theorem dX5_init_62 : decode cX5_init 62 = .ok (.newarray .boolean, 2) := by decide +kernel
theorem dX5_init_64 : decode cX5_init 64 = .ok (.putfield 29, 3) := by decide +kernel
theorem dX5_init_67 : decode cX5_init 67 = .ok (.aload_n 0, 1) := by decide +kernel
theorem dX5_init_68 : decode cX5_init 68 = .ok (.bipush 16, 2) := by decide +kernel
theorem dX5_init_70 : decode cX5_init 70 = .ok (.newarray .int, 2) := by decide +kernel
theorem dX5_init_72 : decode cX5_init 72 = .ok (.putfield 32, 3) := by decide +kernel
theorem dX5_init_75 : decode cX5_init 75 = .ok (.aload_n 0, 1) := by decide +kernel
theorem dX5_init_76 : decode cX5_init 76 = .ok (.bipush 16, 2) := by decide +kernel
theorem dX5_init_78 : decode cX5_init 78 = .ok (.newarray .boolean, 2) := by decide +kernel
theorem dX5_init_80 : decode cX5_init 80 = .ok (.putfield 35, 3) := by decide +kernel
theorem dX5_init_83 : decode cX5_init 83 = .ok (.aload_n 0, 1) := by decide +kernel
theorem dX5_init_84 : decode cX5_init 84 = .ok (.bipush 6, 2) := by decide +kernel
theorem dX5_init_86 : decode cX5_init 86 = .ok (.newarray .int, 2) := by decide +kernel
theorem dX5_init_88 : decode cX5_init 88 = .ok (.putfield 38, 3) := by decide +kernel
theorem dX5_init_91 : decode cX5_init 91 = .ok (.aload_n 0, 1) := by decide +kernel
theorem dX5_init_92 : decode cX5_init 92 = .ok (.bipush 6, 2) := by decide +kernel
theorem dX5_init_94 : decode cX5_init 94 = .ok (.newarray .int, 2) := by decide +kernel
theorem dX5_init_96 : decode cX5_init 96 = .ok (.putfield 41, 3) := by decide +kernel
theorem dX5_init_99 : decode cX5_init 99 = .ok (.aload_n 0, 1) := by decide +kernel
theorem dX5_init_100 : decode cX5_init 100 = .ok (.bipush 6, 2) := by decide +kernel
theorem dX5_init_102 : decode cX5_init 102 = .ok (.newarray .int, 2) := by decide +kernel
theorem dX5_init_104 : decode cX5_init 104 = .ok (.putfield 44, 3) := by decide +kernel
theorem dX5_init_107 : decode cX5_init 107 = .ok (.aload_n 0, 1) := by decide +kernel
theorem dX5_init_108 : decode cX5_init 108 = .ok (.sipush 384, 3) := by decide +kernel
theorem dX5_init_111 : decode cX5_init 111 = .ok (.newarray .int, 2) := by decide +kernel
theorem dX5_init_113 : decode cX5_init 113 = .ok (.putfield 47, 3) := by decide +kernel
theorem dX5_init_116 : decode cX5_init 116 = .ok (.aload_n 0, 1) := by decide +kernel
theorem dX5_init_117 : decode cX5_init 117 = .ok (.bipush 96, 2) := by decide +kernel
theorem dX5_init_119 : decode cX5_init 119 = .ok (.newarray .int, 2) := by decide +kernel
theorem dX5_init_121 : decode cX5_init 121 = .ok (.putfield 50, 3) := by decide +kernel
theorem dX5_init_124 : decode cX5_init 124 = .ok (.aload_n 0, 1) := by decide +kernel
theorem dX5_init_125 : decode cX5_init 125 = .ok (.bipush 6, 2) := by decide +kernel
theorem dX5_init_127 : decode cX5_init 127 = .ok (.newarray .boolean, 2) := by decide +kernel
theorem dX5_init_129 : decode cX5_init 129 = .ok (.putfield 53, 3) := by decide +kernel
theorem dX5_init_132 : decode cX5_init 132 = .ok (.aload_n 0, 1) := by decide +kernel
theorem dX5_init_133 : decode cX5_init 133 = .ok (.bipush 6, 2) := by decide +kernel
theorem dX5_init_135 : decode cX5_init 135 = .ok (.newarray .int, 2) := by decide +kernel
theorem dX5_init_137 : decode cX5_init 137 = .ok (.putfield 56, 3) := by decide +kernel
theorem dX5_init_140 : decode cX5_init 140 = .ok (.aload_n 0, 1) := by decide +kernel
theorem dX5_init_141 : decode cX5_init 141 = .ok (.bipush 6, 2) := by decide +kernel
theorem dX5_init_143 : decode cX5_init 143 = .ok (.newarray .int, 2) := by decide +kernel
theorem dX5_init_145 : decode cX5_init 145 = .ok (.putfield 59, 3) := by decide +kernel
theorem dX5_init_148 : decode cX5_init 148 = .ok (.aload_n 0, 1) := by decide +kernel
theorem dX5_init_149 : decode cX5_init 149 = .ok (.bipush 6, 2) := by decide +kernel
theorem dX5_init_151 : decode cX5_init 151 = .ok (.newarray .int, 2) := by decide +kernel
theorem dX5_init_153 : decode cX5_init 153 = .ok (.putfield 62, 3) := by decide +kernel
theorem dX5_init_156 : decode cX5_init 156 = .ok (.aload_n 0, 1) := by decide +kernel
theorem dX5_init_157 : decode cX5_init 157 = .ok (.bipush 6, 2) := by decide +kernel
theorem dX5_init_159 : decode cX5_init 159 = .ok (.newarray .int, 2) := by decide +kernel
theorem dX5_init_161 : decode cX5_init 161 = .ok (.putfield 65, 3) := by decide +kernel
theorem dX5_init_164 : decode cX5_init 164 = .ok (.aload_n 0, 1) := by decide +kernel
theorem dX5_init_165 : decode cX5_init 165 = .ok (.bipush 6, 2) := by decide +kernel
theorem dX5_init_167 : decode cX5_init 167 = .ok (.newarray .int, 2) := by decide +kernel
theorem dX5_init_169 : decode cX5_init 169 = .ok (.putfield 68, 3) := by decide +kernel
theorem dX5_init_172 : decode cX5_init 172 = .ok (.aload_n 0, 1) := by decide +kernel
theorem dX5_init_173 : decode cX5_init 173 = .ok (.bipush 16, 2) := by decide +kernel
theorem dX5_init_175 : decode cX5_init 175 = .ok (.newarray .int, 2) := by decide +kernel
theorem dX5_init_177 : decode cX5_init 177 = .ok (.putfield 71, 3) := by decide +kernel
theorem dX5_init_180 : decode cX5_init 180 = .ok (.aload_n 0, 1) := by decide +kernel
theorem dX5_init_181 : decode cX5_init 181 = .ok (.iconst 4, 1) := by decide +kernel
theorem dX5_init_182 : decode cX5_init 182 = .ok (.newarray .int, 2) := by decide +kernel
theorem dX5_init_184 : decode cX5_init 184 = .ok (.putfield 74, 3) := by decide +kernel
theorem dX5_init_187 : decode cX5_init 187 = .ok (.aload_n 0, 1) := by decide +kernel
theorem dX5_init_188 : decode cX5_init 188 = .ok (.bipush 64, 2) := by decide +kernel
theorem dX5_init_190 : decode cX5_init 190 = .ok (.putfield 77, 3) := by decide +kernel
theorem dX5_init_193 : decode cX5_init 193 = .ok (.aload_n 0, 1) := by decide +kernel
theorem dX5_init_194 : decode cX5_init 194 = .ok (.iconst 0, 1) := by decide +kernel
theorem dX5_init_195 : decode cX5_init 195 = .ok (.iconst (-1), 1) := by decide +kernel
theorem dX5_init_196 : decode cX5_init 196 = .ok (.invokevirtual 81, 3) := by decide +kernel
theorem dX5_init_199 : decode cX5_init 199 = .ok (.return_, 1) := by decide +kernel
abbrev cX5_begin : ByteArray := prog_7_method_2_code
def yX5_begin : MethodName := ⟨RX5, "begin", "(II)V"⟩
theorem dX5_begin_0 : decode cX5_begin 0 = .ok (.aload_n 0, 1) := by decide +kernel
theorem dX5_begin_1 : decode cX5_begin 1 = .ok (.getfield 38, 3) := by decide +kernel
theorem dX5_begin_4 : decode cX5_begin 4 = .ok (.iload_n 1, 1) := by decide +kernel
theorem dX5_begin_5 : decode cX5_begin 5 = .ok (.iconst 1, 1) := by decide +kernel
theorem dX5_begin_6 : decode cX5_begin 6 = .ok (.iastore, 1) := by decide +kernel
theorem dX5_begin_7 : decode cX5_begin 7 = .ok (.aload_n 0, 1) := by decide +kernel
theorem dX5_begin_8 : decode cX5_begin 8 = .ok (.getfield 41, 3) := by decide +kernel
theorem dX5_begin_11 : decode cX5_begin 11 = .ok (.iload_n 1, 1) := by decide +kernel
theorem dX5_begin_12 : decode cX5_begin 12 = .ok (.iconst 1, 1) := by decide +kernel
theorem dX5_begin_13 : decode cX5_begin 13 = .ok (.iastore, 1) := by decide +kernel
theorem dX5_begin_14 : decode cX5_begin 14 = .ok (.aload_n 0, 1) := by decide +kernel
theorem dX5_begin_15 : decode cX5_begin 15 = .ok (.getfield 44, 3) := by decide +kernel
theorem dX5_begin_18 : decode cX5_begin 18 = .ok (.iload_n 1, 1) := by decide +kernel
theorem dX5_begin_19 : decode cX5_begin 19 = .ok (.iconst 2, 1) := by decide +kernel
theorem dX5_begin_20 : decode cX5_begin 20 = .ok (.iastore, 1) := by decide +kernel
theorem dX5_begin_21 : decode cX5_begin 21 = .ok (.aload_n 0, 1) := by decide +kernel
theorem dX5_begin_22 : decode cX5_begin 22 = .ok (.getfield 53, 3) := by decide +kernel
theorem dX5_begin_25 : decode cX5_begin 25 = .ok (.iload_n 1, 1) := by decide +kernel
theorem dX5_begin_26 : decode cX5_begin 26 = .ok (.iconst 0, 1) := by decide +kernel
theorem dX5_begin_27 : decode cX5_begin 27 = .ok (.bastore, 1) := by decide +kernel
theorem dX5_begin_28 : decode cX5_begin 28 = .ok (.aload_n 0, 1) := by decide +kernel
theorem dX5_begin_29 : decode cX5_begin 29 = .ok (.getfield 68, 3) := by decide +kernel
theorem dX5_begin_32 : decode cX5_begin 32 = .ok (.iload_n 1, 1) := by decide +kernel
theorem dX5_begin_33 : decode cX5_begin 33 = .ok (.iconst (-1), 1) := by decide +kernel
theorem dX5_begin_34 : decode cX5_begin 34 = .ok (.iastore, 1) := by decide +kernel
theorem dX5_begin_35 : decode cX5_begin 35 = .ok (.aload_n 0, 1) := by decide +kernel
theorem dX5_begin_36 : decode cX5_begin 36 = .ok (.getfield 50, 3) := by decide +kernel
theorem dX5_begin_39 : decode cX5_begin 39 = .ok (.bipush 16, 2) := by decide +kernel
theorem dX5_begin_41 : decode cX5_begin 41 = .ok (.iload_n 1, 1) := by decide +kernel
theorem dX5_begin_42 : decode cX5_begin 42 = .ok (.imul, 1) := by decide +kernel
theorem dX5_begin_43 : decode cX5_begin 43 = .ok (.iconst (-1), 1) := by decide +kernel
theorem dX5_begin_44 : decode cX5_begin 44 = .ok (.iastore, 1) := by decide +kernel
theorem dX5_begin_45 : decode cX5_begin 45 = .ok (.iconst 0, 1) := by decide +kernel
theorem dX5_begin_46 : decode cX5_begin 46 = .ok (.istore_n 3, 1) := by decide +kernel
theorem dX5_begin_47 : decode cX5_begin 47 = .ok (.iload_n 3, 1) := by decide +kernel
theorem dX5_begin_48 : decode cX5_begin 48 = .ok (.iconst 4, 1) := by decide +kernel
theorem dX5_begin_49 : decode cX5_begin 49 = .ok (.if_icmp .ge 29, 3) := by decide +kernel
theorem dX5_begin_52 : decode cX5_begin 52 = .ok (.aload_n 0, 1) := by decide +kernel
theorem dX5_begin_53 : decode cX5_begin 53 = .ok (.getfield 47, 3) := by decide +kernel
theorem dX5_begin_56 : decode cX5_begin 56 = .ok (.bipush 64, 2) := by decide +kernel
theorem dX5_begin_58 : decode cX5_begin 58 = .ok (.iload_n 1, 1) := by decide +kernel
theorem dX5_begin_59 : decode cX5_begin 59 = .ok (.imul, 1) := by decide +kernel
theorem dX5_begin_60 : decode cX5_begin 60 = .ok (.iload_n 3, 1) := by decide +kernel
theorem dX5_begin_61 : decode cX5_begin 61 = .ok (.iadd, 1) := by decide +kernel
theorem dX5_begin_62 : decode cX5_begin 62 = .ok (.iload_n 3, 1) := by decide +kernel
theorem dX5_begin_63 : decode cX5_begin 63 = .ok (.ifCond .ne 7, 3) := by decide +kernel
theorem dX5_begin_66 : decode cX5_begin 66 = .ok (.iload_n 2, 1) := by decide +kernel
theorem dX5_begin_67 : decode cX5_begin 67 = .ok (.goto 4, 3) := by decide +kernel
theorem dX5_begin_70 : decode cX5_begin 70 = .ok (.iconst (-1), 1) := by decide +kernel
theorem dX5_begin_71 : decode cX5_begin 71 = .ok (.iastore, 1) := by decide +kernel
theorem dX5_begin_72 : decode cX5_begin 72 = .ok (.iinc 3 1, 3) := by decide +kernel
theorem dX5_begin_75 : decode cX5_begin 75 = .ok (.goto (-28), 3) := by decide +kernel
theorem dX5_begin_78 : decode cX5_begin 78 = .ok (.return_, 1) := by decide +kernel
abbrev cX5_lives : ByteArray := prog_7_method_3_code
def yX5_lives : MethodName := ⟨RX5, "lives", "(I)Z"⟩
theorem dX5_lives_0 : decode cX5_lives 0 = .ok (.iload_n 1, 1) := by decide +kernel
theorem dX5_lives_1 : decode cX5_lives 1 = .ok (.ifCond .lt 22, 3) := by decide +kernel
theorem dX5_lives_4 : decode cX5_lives 4 = .ok (.iload_n 1, 1) := by decide +kernel
theorem dX5_lives_5 : decode cX5_lives 5 = .ok (.bipush 6, 2) := by decide +kernel
theorem dX5_lives_7 : decode cX5_lives 7 = .ok (.if_icmp .ge 16, 3) := by decide +kernel
theorem dX5_lives_10 : decode cX5_lives 10 = .ok (.aload_n 0, 1) := by decide +kernel
theorem dX5_lives_11 : decode cX5_lives 11 = .ok (.getfield 38, 3) := by decide +kernel
theorem dX5_lives_14 : decode cX5_lives 14 = .ok (.iload_n 1, 1) := by decide +kernel
theorem dX5_lives_15 : decode cX5_lives 15 = .ok (.iaload, 1) := by decide +kernel
theorem dX5_lives_16 : decode cX5_lives 16 = .ok (.ifCond .le 7, 3) := by decide +kernel
theorem dX5_lives_19 : decode cX5_lives 19 = .ok (.iconst 1, 1) := by decide +kernel
theorem dX5_lives_20 : decode cX5_lives 20 = .ok (.goto 4, 3) := by decide +kernel
theorem dX5_lives_23 : decode cX5_lives 23 = .ok (.iconst 0, 1) := by decide +kernel
theorem dX5_lives_24 : decode cX5_lives 24 = .ok (.ireturn, 1) := by decide +kernel
abbrev cX5_ready : ByteArray := prog_7_method_4_code
def yX5_ready : MethodName := ⟨RX5, "ready", "(I)Z"⟩
theorem dX5_ready_0 : decode cX5_ready 0 = .ok (.aload_n 0, 1) := by decide +kernel
theorem dX5_ready_1 : decode cX5_ready 1 = .ok (.iload_n 1, 1) := by decide +kernel
theorem dX5_ready_2 : decode cX5_ready 2 = .ok (.invokevirtual 85, 3) := by decide +kernel
theorem dX5_ready_5 : decode cX5_ready 5 = .ok (.ifCond .eq 17, 3) := by decide +kernel
theorem dX5_ready_8 : decode cX5_ready 8 = .ok (.aload_n 0, 1) := by decide +kernel
theorem dX5_ready_9 : decode cX5_ready 9 = .ok (.getfield 38, 3) := by decide +kernel
theorem dX5_ready_12 : decode cX5_ready 12 = .ok (.iload_n 1, 1) := by decide +kernel
theorem dX5_ready_13 : decode cX5_ready 13 = .ok (.iaload, 1) := by decide +kernel
theorem dX5_ready_14 : decode cX5_ready 14 = .ok (.iconst 1, 1) := by decide +kernel
theorem dX5_ready_15 : decode cX5_ready 15 = .ok (.if_icmp .ne 7, 3) := by decide +kernel
theorem dX5_ready_18 : decode cX5_ready 18 = .ok (.iconst 1, 1) := by decide +kernel
theorem dX5_ready_19 : decode cX5_ready 19 = .ok (.goto 4, 3) := by decide +kernel
theorem dX5_ready_22 : decode cX5_ready 22 = .ok (.iconst 0, 1) := by decide +kernel
theorem dX5_ready_23 : decode cX5_ready 23 = .ok (.ireturn, 1) := by decide +kernel
abbrev cX5_place : ByteArray := prog_7_method_5_code
def yX5_place : MethodName := ⟨RX5, "place", "(II)I"⟩
theorem dX5_place_0 : decode cX5_place 0 = .ok (.aload_n 0, 1) := by decide +kernel
theorem dX5_place_1 : decode cX5_place 1 = .ok (.getfield 41, 3) := by decide +kernel
theorem dX5_place_4 : decode cX5_place 4 = .ok (.iload_n 1, 1) := by decide +kernel
theorem dX5_place_5 : decode cX5_place 5 = .ok (.iaload, 1) := by decide +kernel
theorem dX5_place_6 : decode cX5_place 6 = .ok (.iconst 1, 1) := by decide +kernel
theorem dX5_place_7 : decode cX5_place 7 = .ok (.isub, 1) := by decide +kernel
theorem dX5_place_8 : decode cX5_place 8 = .ok (.istore_n 3, 1) := by decide +kernel
theorem dX5_place_9 : decode cX5_place 9 = .ok (.iload_n 2, 1) := by decide +kernel
theorem dX5_place_10 : decode cX5_place 10 = .ok (.ifCond .lt 19, 3) := by decide +kernel
theorem dX5_place_13 : decode cX5_place 13 = .ok (.iload_n 2, 1) := by decide +kernel
theorem dX5_place_14 : decode cX5_place 14 = .ok (.iconst 4, 1) := by decide +kernel
theorem dX5_place_15 : decode cX5_place 15 = .ok (.if_icmp .ge 14, 3) := by decide +kernel
theorem dX5_place_18 : decode cX5_place 18 = .ok (.bipush 64, 2) := by decide +kernel
theorem dX5_place_20 : decode cX5_place 20 = .ok (.iload_n 1, 1) := by decide +kernel
theorem dX5_place_21 : decode cX5_place 21 = .ok (.imul, 1) := by decide +kernel
theorem dX5_place_22 : decode cX5_place 22 = .ok (.iconst 4, 1) := by decide +kernel
theorem dX5_place_23 : decode cX5_place 23 = .ok (.iload_n 3, 1) := by decide +kernel
theorem dX5_place_24 : decode cX5_place 24 = .ok (.imul, 1) := by decide +kernel
theorem dX5_place_25 : decode cX5_place 25 = .ok (.iadd, 1) := by decide +kernel
theorem dX5_place_26 : decode cX5_place 26 = .ok (.iload_n 2, 1) := by decide +kernel
theorem dX5_place_27 : decode cX5_place 27 = .ok (.iadd, 1) := by decide +kernel
theorem dX5_place_28 : decode cX5_place 28 = .ok (.ireturn, 1) := by decide +kernel
theorem dX5_place_29 : decode cX5_place 29 = .ok (.iload_n 2, 1) := by decide +kernel
theorem dX5_place_30 : decode cX5_place 30 = .ok (.iconst 4, 1) := by decide +kernel
theorem dX5_place_31 : decode cX5_place 31 = .ok (.if_icmp .ne 17, 3) := by decide +kernel
theorem dX5_place_34 : decode cX5_place 34 = .ok (.aload_n 0, 1) := by decide +kernel
theorem dX5_place_35 : decode cX5_place 35 = .ok (.getfield 50, 3) := by decide +kernel
theorem dX5_place_38 : decode cX5_place 38 = .ok (.bipush 16, 2) := by decide +kernel
theorem dX5_place_40 : decode cX5_place 40 = .ok (.iload_n 1, 1) := by decide +kernel
theorem dX5_place_41 : decode cX5_place 41 = .ok (.imul, 1) := by decide +kernel
theorem dX5_place_42 : decode cX5_place 42 = .ok (.iload_n 3, 1) := by decide +kernel
theorem dX5_place_43 : decode cX5_place 43 = .ok (.iadd, 1) := by decide +kernel
theorem dX5_place_44 : decode cX5_place 44 = .ok (.iaload, 1) := by decide +kernel
theorem dX5_place_45 : decode cX5_place 45 = .ok (.goto 4, 3) := by decide +kernel
theorem dX5_place_48 : decode cX5_place 48 = .ok (.iconst (-1), 1) := by decide +kernel
theorem dX5_place_49 : decode cX5_place 49 = .ok (.istore 4, 2) := by decide +kernel
theorem dX5_place_51 : decode cX5_place 51 = .ok (.iload 4, 2) := by decide +kernel
theorem dX5_place_53 : decode cX5_place 53 = .ok (.iconst (-1), 1) := by decide +kernel
theorem dX5_place_54 : decode cX5_place 54 = .ok (.if_icmp .ne 7, 3) := by decide +kernel
theorem dX5_place_57 : decode cX5_place 57 = .ok (.iconst (-1), 1) := by decide +kernel
theorem dX5_place_58 : decode cX5_place 58 = .ok (.goto 10, 3) := by decide +kernel
theorem dX5_place_61 : decode cX5_place 61 = .ok (.bipush 64, 2) := by decide +kernel
theorem dX5_place_63 : decode cX5_place 63 = .ok (.iload_n 1, 1) := by decide +kernel
theorem dX5_place_64 : decode cX5_place 64 = .ok (.imul, 1) := by decide +kernel
theorem dX5_place_65 : decode cX5_place 65 = .ok (.iload 4, 2) := by decide +kernel
theorem dX5_place_67 : decode cX5_place 67 = .ok (.iadd, 1) := by decide +kernel
theorem dX5_place_68 : decode cX5_place 68 = .ok (.ireturn, 1) := by decide +kernel
abbrev cX5_cell : ByteArray := prog_7_method_6_code
def yX5_cell : MethodName := ⟨RX5, "cell", "(IIZ)Z"⟩
theorem dX5_cell_0 : decode cX5_cell 0 = .ok (.aload_n 0, 1) := by decide +kernel
theorem dX5_cell_1 : decode cX5_cell 1 = .ok (.iload_n 1, 1) := by decide +kernel
theorem dX5_cell_2 : decode cX5_cell 2 = .ok (.invokevirtual 89, 3) := by decide +kernel
theorem dX5_cell_5 : decode cX5_cell 5 = .ok (.ifCond .eq 25, 3) := by decide +kernel
theorem dX5_cell_8 : decode cX5_cell 8 = .ok (.iload_n 3, 1) := by decide +kernel
theorem dX5_cell_9 : decode cX5_cell 9 = .ok (.ifCond .eq 8, 3) := by decide +kernel
theorem dX5_cell_12 : decode cX5_cell 12 = .ok (.iload_n 2, 1) := by decide +kernel
theorem dX5_cell_13 : decode cX5_cell 13 = .ok (.iconst (-1), 1) := by decide +kernel
theorem dX5_cell_14 : decode cX5_cell 14 = .ok (.if_icmp .eq 12, 3) := by decide +kernel
theorem dX5_cell_17 : decode cX5_cell 17 = .ok (.aload_n 0, 1) := by decide +kernel
theorem dX5_cell_18 : decode cX5_cell 18 = .ok (.iload_n 1, 1) := by decide +kernel
theorem dX5_cell_19 : decode cX5_cell 19 = .ok (.iload_n 2, 1) := by decide +kernel
theorem dX5_cell_20 : decode cX5_cell 20 = .ok (.invokevirtual 92, 3) := by decide +kernel
theorem dX5_cell_23 : decode cX5_cell 23 = .ok (.ifCond .lt 7, 3) := by decide +kernel
theorem dX5_cell_26 : decode cX5_cell 26 = .ok (.iconst 1, 1) := by decide +kernel
theorem dX5_cell_27 : decode cX5_cell 27 = .ok (.goto 4, 3) := by decide +kernel
theorem dX5_cell_30 : decode cX5_cell 30 = .ok (.iconst 0, 1) := by decide +kernel
theorem dX5_cell_31 : decode cX5_cell 31 = .ok (.ireturn, 1) := by decide +kernel
abbrev cX5_value : ByteArray := prog_7_method_7_code
def yX5_value : MethodName := ⟨RX5, "value", "(II)I"⟩
theorem dX5_value_0 : decode cX5_value 0 = .ok (.iload_n 2, 1) := by decide +kernel
theorem dX5_value_1 : decode cX5_value 1 = .ok (.iconst (-1), 1) := by decide +kernel
theorem dX5_value_2 : decode cX5_value 2 = .ok (.if_icmp .ne 7, 3) := by decide +kernel
theorem dX5_value_5 : decode cX5_value 5 = .ok (.iconst (-1), 1) := by decide +kernel
theorem dX5_value_6 : decode cX5_value 6 = .ok (.goto 9, 3) := by decide +kernel
theorem dX5_value_9 : decode cX5_value 9 = .ok (.aload_n 0, 1) := by decide +kernel
theorem dX5_value_10 : decode cX5_value 10 = .ok (.iload_n 1, 1) := by decide +kernel
theorem dX5_value_11 : decode cX5_value 11 = .ok (.iload_n 2, 1) := by decide +kernel
theorem dX5_value_12 : decode cX5_value 12 = .ok (.invokevirtual 92, 3) := by decide +kernel
theorem dX5_value_15 : decode cX5_value 15 = .ok (.istore_n 3, 1) := by decide +kernel
theorem dX5_value_16 : decode cX5_value 16 = .ok (.iload_n 3, 1) := by decide +kernel
theorem dX5_value_17 : decode cX5_value 17 = .ok (.ifCond .ge 7, 3) := by decide +kernel
theorem dX5_value_20 : decode cX5_value 20 = .ok (.iconst (-1), 1) := by decide +kernel
theorem dX5_value_21 : decode cX5_value 21 = .ok (.goto 9, 3) := by decide +kernel
theorem dX5_value_24 : decode cX5_value 24 = .ok (.aload_n 0, 1) := by decide +kernel
theorem dX5_value_25 : decode cX5_value 25 = .ok (.getfield 47, 3) := by decide +kernel
theorem dX5_value_28 : decode cX5_value 28 = .ok (.iload_n 3, 1) := by decide +kernel
theorem dX5_value_29 : decode cX5_value 29 = .ok (.iaload, 1) := by decide +kernel
theorem dX5_value_30 : decode cX5_value 30 = .ok (.ireturn, 1) := by decide +kernel
abbrev cX5_object : ByteArray := prog_7_method_8_code
def yX5_object : MethodName := ⟨RX5, "object", "(II)I"⟩
theorem dX5_object_0 : decode cX5_object 0 = .ok (.aload_n 0, 1) := by decide +kernel
theorem dX5_object_1 : decode cX5_object 1 = .ok (.iload_n 1, 1) := by decide +kernel
theorem dX5_object_2 : decode cX5_object 2 = .ok (.iload_n 2, 1) := by decide +kernel
theorem dX5_object_3 : decode cX5_object 3 = .ok (.iconst 0, 1) := by decide +kernel
theorem dX5_object_4 : decode cX5_object 4 = .ok (.invokevirtual 96, 3) := by decide +kernel
theorem dX5_object_7 : decode cX5_object 7 = .ok (.ifCond .eq 12, 3) := by decide +kernel
theorem dX5_object_10 : decode cX5_object 10 = .ok (.aload_n 0, 1) := by decide +kernel
theorem dX5_object_11 : decode cX5_object 11 = .ok (.iload_n 1, 1) := by decide +kernel
theorem dX5_object_12 : decode cX5_object 12 = .ok (.iload_n 2, 1) := by decide +kernel
theorem dX5_object_13 : decode cX5_object 13 = .ok (.invokevirtual 100, 3) := by decide +kernel
theorem dX5_object_16 : decode cX5_object 16 = .ok (.goto 4, 3) := by decide +kernel
theorem dX5_object_19 : decode cX5_object 19 = .ok (.iconst (-1), 1) := by decide +kernel
theorem dX5_object_20 : decode cX5_object 20 = .ok (.ireturn, 1) := by decide +kernel
abbrev cX5_note : ByteArray := prog_7_method_9_code
def yX5_note : MethodName := ⟨RX5, "note", "(I)V"⟩
theorem dX5_note_0 : decode cX5_note 0 = .ok (.aload_n 0, 1) := by decide +kernel
theorem dX5_note_1 : decode cX5_note 1 = .ok (.getfield 103, 3) := by decide +kernel
theorem dX5_note_4 : decode cX5_note 4 = .ok (.ifCond .eq 15, 3) := by decide +kernel
theorem dX5_note_7 : decode cX5_note 7 = .ok (.iload_n 1, 1) := by decide +kernel
theorem dX5_note_8 : decode cX5_note 8 = .ok (.iconst (-1), 1) := by decide +kernel
theorem dX5_note_9 : decode cX5_note 9 = .ok (.if_icmp .eq 10, 3) := by decide +kernel
theorem dX5_note_12 : decode cX5_note 12 = .ok (.aload_n 0, 1) := by decide +kernel
theorem dX5_note_13 : decode cX5_note 13 = .ok (.getfield 23, 3) := by decide +kernel
theorem dX5_note_16 : decode cX5_note 16 = .ok (.iload_n 1, 1) := by decide +kernel
theorem dX5_note_17 : decode cX5_note 17 = .ok (.iconst 1, 1) := by decide +kernel
theorem dX5_note_18 : decode cX5_note 18 = .ok (.bastore, 1) := by decide +kernel
theorem dX5_note_19 : decode cX5_note 19 = .ok (.return_, 1) := by decide +kernel
abbrev cX5_spawn : ByteArray := prog_7_method_10_code
def yX5_spawn : MethodName := ⟨RX5, "spawn", "(II)I"⟩
theorem dX5_spawn_0 : decode cX5_spawn 0 = .ok (.iconst 0, 1) := by decide +kernel
theorem dX5_spawn_1 : decode cX5_spawn 1 = .ok (.istore_n 3, 1) := by decide +kernel
theorem dX5_spawn_2 : decode cX5_spawn 2 = .ok (.iload_n 3, 1) := by decide +kernel
theorem dX5_spawn_3 : decode cX5_spawn 3 = .ok (.bipush 6, 2) := by decide +kernel
theorem dX5_spawn_5 : decode cX5_spawn 5 = .ok (.if_icmp .ge 18, 3) := by decide +kernel
theorem dX5_spawn_8 : decode cX5_spawn 8 = .ok (.aload_n 0, 1) := by decide +kernel
theorem dX5_spawn_9 : decode cX5_spawn 9 = .ok (.getfield 38, 3) := by decide +kernel
theorem dX5_spawn_12 : decode cX5_spawn 12 = .ok (.iload_n 3, 1) := by decide +kernel
theorem dX5_spawn_13 : decode cX5_spawn 13 = .ok (.iaload, 1) := by decide +kernel
theorem dX5_spawn_14 : decode cX5_spawn 14 = .ok (.ifCond .le 9, 3) := by decide +kernel
theorem dX5_spawn_17 : decode cX5_spawn 17 = .ok (.iinc 3 1, 3) := by decide +kernel
theorem dX5_spawn_20 : decode cX5_spawn 20 = .ok (.goto (-18), 3) := by decide +kernel
theorem dX5_spawn_23 : decode cX5_spawn 23 = .ok (.iload_n 3, 1) := by decide +kernel
theorem dX5_spawn_24 : decode cX5_spawn 24 = .ok (.bipush 6, 2) := by decide +kernel
theorem dX5_spawn_26 : decode cX5_spawn 26 = .ok (.if_icmp .eq 13, 3) := by decide +kernel
theorem dX5_spawn_29 : decode cX5_spawn 29 = .ok (.aload_n 0, 1) := by decide +kernel
theorem dX5_spawn_30 : decode cX5_spawn 30 = .ok (.iload_n 1, 1) := by decide +kernel
theorem dX5_spawn_31 : decode cX5_spawn 31 = .ok (.iload_n 2, 1) := by decide +kernel
theorem dX5_spawn_32 : decode cX5_spawn 32 = .ok (.iconst 1, 1) := by decide +kernel
theorem dX5_spawn_33 : decode cX5_spawn 33 = .ok (.invokevirtual 96, 3) := by decide +kernel
theorem dX5_spawn_36 : decode cX5_spawn 36 = .ok (.ifCond .ne 5, 3) := by decide +kernel
theorem dX5_spawn_39 : decode cX5_spawn 39 = .ok (.iconst (-1), 1) := by decide +kernel
theorem dX5_spawn_40 : decode cX5_spawn 40 = .ok (.ireturn, 1) := by decide +kernel
theorem dX5_spawn_41 : decode cX5_spawn 41 = .ok (.aload_n 0, 1) := by decide +kernel
theorem dX5_spawn_42 : decode cX5_spawn 42 = .ok (.iload_n 1, 1) := by decide +kernel
theorem dX5_spawn_43 : decode cX5_spawn 43 = .ok (.iload_n 2, 1) := by decide +kernel
theorem dX5_spawn_44 : decode cX5_spawn 44 = .ok (.invokevirtual 100, 3) := by decide +kernel
theorem dX5_spawn_47 : decode cX5_spawn 47 = .ok (.istore 4, 2) := by decide +kernel
theorem dX5_spawn_49 : decode cX5_spawn 49 = .ok (.aload_n 0, 1) := by decide +kernel
theorem dX5_spawn_50 : decode cX5_spawn 50 = .ok (.iload_n 3, 1) := by decide +kernel
theorem dX5_spawn_51 : decode cX5_spawn 51 = .ok (.iload 4, 2) := by decide +kernel
theorem dX5_spawn_53 : decode cX5_spawn 53 = .ok (.invokevirtual 81, 3) := by decide +kernel
theorem dX5_spawn_56 : decode cX5_spawn 56 = .ok (.iload_n 3, 1) := by decide +kernel
theorem dX5_spawn_57 : decode cX5_spawn 57 = .ok (.ireturn, 1) := by decide +kernel
abbrev cX5_end : ByteArray := prog_7_method_11_code
def yX5_end : MethodName := ⟨RX5, "end", "(I)Z"⟩
theorem dX5_end_0 : decode cX5_end 0 = .ok (.iconst 0, 1) := by decide +kernel
theorem dX5_end_1 : decode cX5_end 1 = .ok (.istore_n 2, 1) := by decide +kernel
theorem dX5_end_2 : decode cX5_end 2 = .ok (.iconst 0, 1) := by decide +kernel
theorem dX5_end_3 : decode cX5_end 3 = .ok (.istore_n 3, 1) := by decide +kernel
theorem dX5_end_4 : decode cX5_end 4 = .ok (.iload_n 3, 1) := by decide +kernel
theorem dX5_end_5 : decode cX5_end 5 = .ok (.bipush 6, 2) := by decide +kernel
theorem dX5_end_7 : decode cX5_end 7 = .ok (.if_icmp .ge 26, 3) := by decide +kernel
theorem dX5_end_10 : decode cX5_end 10 = .ok (.iload_n 2, 1) := by decide +kernel
theorem dX5_end_11 : decode cX5_end 11 = .ok (.aload_n 0, 1) := by decide +kernel
theorem dX5_end_12 : decode cX5_end 12 = .ok (.getfield 38, 3) := by decide +kernel
theorem dX5_end_15 : decode cX5_end 15 = .ok (.iload_n 3, 1) := by decide +kernel
theorem dX5_end_16 : decode cX5_end 16 = .ok (.iaload, 1) := by decide +kernel
theorem dX5_end_17 : decode cX5_end 17 = .ok (.ifCond .le 7, 3) := by decide +kernel
theorem dX5_end_20 : decode cX5_end 20 = .ok (.iconst 1, 1) := by decide +kernel
theorem dX5_end_21 : decode cX5_end 21 = .ok (.goto 4, 3) := by decide +kernel
theorem dX5_end_24 : decode cX5_end 24 = .ok (.iconst 0, 1) := by decide +kernel
theorem dX5_end_25 : decode cX5_end 25 = .ok (.iadd, 1) := by decide +kernel
theorem dX5_end_26 : decode cX5_end 26 = .ok (.istore_n 2, 1) := by decide +kernel
theorem dX5_end_27 : decode cX5_end 27 = .ok (.iinc 3 1, 3) := by decide +kernel
theorem dX5_end_30 : decode cX5_end 30 = .ok (.goto (-26), 3) := by decide +kernel
theorem dX5_end_33 : decode cX5_end 33 = .ok (.aload_n 0, 1) := by decide +kernel
theorem dX5_end_34 : decode cX5_end 34 = .ok (.iload_n 1, 1) := by decide +kernel
theorem dX5_end_35 : decode cX5_end 35 = .ok (.invokevirtual 85, 3) := by decide +kernel
theorem dX5_end_38 : decode cX5_end 38 = .ok (.ifCond .eq 8, 3) := by decide +kernel
theorem dX5_end_41 : decode cX5_end 41 = .ok (.iload_n 2, 1) := by decide +kernel
theorem dX5_end_42 : decode cX5_end 42 = .ok (.iconst 1, 1) := by decide +kernel
theorem dX5_end_43 : decode cX5_end 43 = .ok (.if_icmp .ne 5, 3) := by decide +kernel
theorem dX5_end_46 : decode cX5_end 46 = .ok (.iconst 0, 1) := by decide +kernel
theorem dX5_end_47 : decode cX5_end 47 = .ok (.ireturn, 1) := by decide +kernel
theorem dX5_end_48 : decode cX5_end 48 = .ok (.aload_n 0, 1) := by decide +kernel
theorem dX5_end_49 : decode cX5_end 49 = .ok (.getfield 38, 3) := by decide +kernel
theorem dX5_end_52 : decode cX5_end 52 = .ok (.iload_n 1, 1) := by decide +kernel
theorem dX5_end_53 : decode cX5_end 53 = .ok (.iconst 0, 1) := by decide +kernel
theorem dX5_end_54 : decode cX5_end 54 = .ok (.iastore, 1) := by decide +kernel
theorem dX5_end_55 : decode cX5_end 55 = .ok (.iconst 1, 1) := by decide +kernel
theorem dX5_end_56 : decode cX5_end 56 = .ok (.ireturn, 1) := by decide +kernel
abbrev cX5_wake : ByteArray := prog_7_method_12_code
def yX5_wake : MethodName := ⟨RX5, "wake", "(I)Z"⟩
theorem dX5_wake_0 : decode cX5_wake 0 = .ok (.aload_n 0, 1) := by decide +kernel
theorem dX5_wake_1 : decode cX5_wake 1 = .ok (.iload_n 1, 1) := by decide +kernel
theorem dX5_wake_2 : decode cX5_wake 2 = .ok (.invokevirtual 85, 3) := by decide +kernel
theorem dX5_wake_5 : decode cX5_wake 5 = .ok (.ifCond .eq 13, 3) := by decide +kernel
theorem dX5_wake_8 : decode cX5_wake 8 = .ok (.aload_n 0, 1) := by decide +kernel
theorem dX5_wake_9 : decode cX5_wake 9 = .ok (.getfield 38, 3) := by decide +kernel
theorem dX5_wake_12 : decode cX5_wake 12 = .ok (.iload_n 1, 1) := by decide +kernel
theorem dX5_wake_13 : decode cX5_wake 13 = .ok (.iaload, 1) := by decide +kernel
theorem dX5_wake_14 : decode cX5_wake 14 = .ok (.iconst 1, 1) := by decide +kernel
theorem dX5_wake_15 : decode cX5_wake 15 = .ok (.if_icmp .ne 5, 3) := by decide +kernel
theorem dX5_wake_18 : decode cX5_wake 18 = .ok (.iconst 0, 1) := by decide +kernel
theorem dX5_wake_19 : decode cX5_wake 19 = .ok (.ireturn, 1) := by decide +kernel
theorem dX5_wake_20 : decode cX5_wake 20 = .ok (.aload_n 0, 1) := by decide +kernel
theorem dX5_wake_21 : decode cX5_wake 21 = .ok (.getfield 38, 3) := by decide +kernel
theorem dX5_wake_24 : decode cX5_wake 24 = .ok (.iload_n 1, 1) := by decide +kernel
theorem dX5_wake_25 : decode cX5_wake 25 = .ok (.iconst 1, 1) := by decide +kernel
theorem dX5_wake_26 : decode cX5_wake 26 = .ok (.iastore, 1) := by decide +kernel
theorem dX5_wake_27 : decode cX5_wake 27 = .ok (.iconst 1, 1) := by decide +kernel
theorem dX5_wake_28 : decode cX5_wake 28 = .ok (.ireturn, 1) := by decide +kernel
abbrev cX5_call : ByteArray := prog_7_method_13_code
def yX5_call : MethodName := ⟨RX5, "call", "(I)Z"⟩
theorem dX5_call_0 : decode cX5_call 0 = .ok (.aload_n 0, 1) := by decide +kernel
theorem dX5_call_1 : decode cX5_call 1 = .ok (.iload_n 1, 1) := by decide +kernel
theorem dX5_call_2 : decode cX5_call 2 = .ok (.invokevirtual 89, 3) := by decide +kernel
theorem dX5_call_5 : decode cX5_call 5 = .ok (.ifCond .eq 14, 3) := by decide +kernel
theorem dX5_call_8 : decode cX5_call 8 = .ok (.aload_n 0, 1) := by decide +kernel
theorem dX5_call_9 : decode cX5_call 9 = .ok (.getfield 41, 3) := by decide +kernel
theorem dX5_call_12 : decode cX5_call 12 = .ok (.iload_n 1, 1) := by decide +kernel
theorem dX5_call_13 : decode cX5_call 13 = .ok (.iaload, 1) := by decide +kernel
theorem dX5_call_14 : decode cX5_call 14 = .ok (.bipush 16, 2) := by decide +kernel
theorem dX5_call_16 : decode cX5_call 16 = .ok (.if_icmp .ne 5, 3) := by decide +kernel
theorem dX5_call_19 : decode cX5_call 19 = .ok (.iconst 0, 1) := by decide +kernel
theorem dX5_call_20 : decode cX5_call 20 = .ok (.ireturn, 1) := by decide +kernel
theorem dX5_call_21 : decode cX5_call 21 = .ok (.aload_n 0, 1) := by decide +kernel
theorem dX5_call_22 : decode cX5_call 22 = .ok (.getfield 41, 3) := by decide +kernel
theorem dX5_call_25 : decode cX5_call 25 = .ok (.iload_n 1, 1) := by decide +kernel
theorem dX5_call_26 : decode cX5_call 26 = .ok (.iaload, 1) := by decide +kernel
theorem dX5_call_27 : decode cX5_call 27 = .ok (.aload_n 0, 1) := by decide +kernel
theorem dX5_call_28 : decode cX5_call 28 = .ok (.getfield 44, 3) := by decide +kernel
theorem dX5_call_31 : decode cX5_call 31 = .ok (.iload_n 1, 1) := by decide +kernel
theorem dX5_call_32 : decode cX5_call 32 = .ok (.iaload, 1) := by decide +kernel
theorem dX5_call_33 : decode cX5_call 33 = .ok (.if_icmp .ne 28, 3) := by decide +kernel
theorem dX5_call_36 : decode cX5_call 36 = .ok (.aload_n 0, 1) := by decide +kernel
theorem dX5_call_37 : decode cX5_call 37 = .ok (.getfield 44, 3) := by decide +kernel
theorem dX5_call_40 : decode cX5_call 40 = .ok (.iload_n 1, 1) := by decide +kernel
theorem dX5_call_41 : decode cX5_call 41 = .ok (.dup2, 1) := by decide +kernel
theorem dX5_call_42 : decode cX5_call 42 = .ok (.iaload, 1) := by decide +kernel
theorem dX5_call_43 : decode cX5_call 43 = .ok (.iconst 2, 1) := by decide +kernel
theorem dX5_call_44 : decode cX5_call 44 = .ok (.imul, 1) := by decide +kernel
theorem dX5_call_45 : decode cX5_call 45 = .ok (.iastore, 1) := by decide +kernel
theorem dX5_call_46 : decode cX5_call 46 = .ok (.aload_n 0, 1) := by decide +kernel
theorem dX5_call_47 : decode cX5_call 47 = .ok (.dup, 1) := by decide +kernel
theorem dX5_call_48 : decode cX5_call 48 = .ok (.getfield 107, 3) := by decide +kernel
theorem dX5_call_51 : decode cX5_call 51 = .ok (.aload_n 0, 1) := by decide +kernel
theorem dX5_call_52 : decode cX5_call 52 = .ok (.getfield 41, 3) := by decide +kernel
theorem dX5_call_55 : decode cX5_call 55 = .ok (.iload_n 1, 1) := by decide +kernel
theorem dX5_call_56 : decode cX5_call 56 = .ok (.iaload, 1) := by decide +kernel
theorem dX5_call_57 : decode cX5_call 57 = .ok (.iadd, 1) := by decide +kernel
theorem dX5_call_58 : decode cX5_call 58 = .ok (.putfield 107, 3) := by decide +kernel
theorem dX5_call_61 : decode cX5_call 61 = .ok (.bipush 16, 2) := by decide +kernel
theorem dX5_call_63 : decode cX5_call 63 = .ok (.iload_n 1, 1) := by decide +kernel
theorem dX5_call_64 : decode cX5_call 64 = .ok (.imul, 1) := by decide +kernel
theorem dX5_call_65 : decode cX5_call 65 = .ok (.aload_n 0, 1) := by decide +kernel
theorem dX5_call_66 : decode cX5_call 66 = .ok (.getfield 41, 3) := by decide +kernel
theorem dX5_call_69 : decode cX5_call 69 = .ok (.iload_n 1, 1) := by decide +kernel
theorem dX5_call_70 : decode cX5_call 70 = .ok (.iaload, 1) := by decide +kernel
theorem dX5_call_71 : decode cX5_call 71 = .ok (.iadd, 1) := by decide +kernel
theorem dX5_call_72 : decode cX5_call 72 = .ok (.iconst 1, 1) := by decide +kernel
theorem dX5_call_73 : decode cX5_call 73 = .ok (.isub, 1) := by decide +kernel
theorem dX5_call_74 : decode cX5_call 74 = .ok (.istore_n 2, 1) := by decide +kernel
theorem dX5_call_75 : decode cX5_call 75 = .ok (.iconst 0, 1) := by decide +kernel
theorem dX5_call_76 : decode cX5_call 76 = .ok (.istore_n 3, 1) := by decide +kernel
theorem dX5_call_77 : decode cX5_call 77 = .ok (.iload_n 3, 1) := by decide +kernel
theorem dX5_call_78 : decode cX5_call 78 = .ok (.iconst 4, 1) := by decide +kernel
theorem dX5_call_79 : decode cX5_call 79 = .ok (.if_icmp .ge 31, 3) := by decide +kernel
theorem dX5_call_82 : decode cX5_call 82 = .ok (.aload_n 0, 1) := by decide +kernel
theorem dX5_call_83 : decode cX5_call 83 = .ok (.getfield 47, 3) := by decide +kernel
theorem dX5_call_86 : decode cX5_call 86 = .ok (.iconst 4, 1) := by decide +kernel
theorem dX5_call_87 : decode cX5_call 87 = .ok (.iload_n 2, 1) := by decide +kernel
theorem dX5_call_88 : decode cX5_call 88 = .ok (.imul, 1) := by decide +kernel
theorem dX5_call_89 : decode cX5_call 89 = .ok (.iconst 4, 1) := by decide +kernel
theorem dX5_call_90 : decode cX5_call 90 = .ok (.iadd, 1) := by decide +kernel
theorem dX5_call_91 : decode cX5_call 91 = .ok (.iload_n 3, 1) := by decide +kernel
theorem dX5_call_92 : decode cX5_call 92 = .ok (.iadd, 1) := by decide +kernel
theorem dX5_call_93 : decode cX5_call 93 = .ok (.aload_n 0, 1) := by decide +kernel
theorem dX5_call_94 : decode cX5_call 94 = .ok (.getfield 47, 3) := by decide +kernel
theorem dX5_call_97 : decode cX5_call 97 = .ok (.iconst 4, 1) := by decide +kernel
theorem dX5_call_98 : decode cX5_call 98 = .ok (.iload_n 2, 1) := by decide +kernel
theorem dX5_call_99 : decode cX5_call 99 = .ok (.imul, 1) := by decide +kernel
theorem dX5_call_100 : decode cX5_call 100 = .ok (.iload_n 3, 1) := by decide +kernel
theorem dX5_call_101 : decode cX5_call 101 = .ok (.iadd, 1) := by decide +kernel
theorem dX5_call_102 : decode cX5_call 102 = .ok (.iaload, 1) := by decide +kernel
theorem dX5_call_103 : decode cX5_call 103 = .ok (.iastore, 1) := by decide +kernel
theorem dX5_call_104 : decode cX5_call 104 = .ok (.iinc 3 1, 3) := by decide +kernel
theorem dX5_call_107 : decode cX5_call 107 = .ok (.goto (-30), 3) := by decide +kernel
theorem dX5_call_110 : decode cX5_call 110 = .ok (.aload_n 0, 1) := by decide +kernel
theorem dX5_call_111 : decode cX5_call 111 = .ok (.getfield 50, 3) := by decide +kernel
theorem dX5_call_114 : decode cX5_call 114 = .ok (.iload_n 2, 1) := by decide +kernel
theorem dX5_call_115 : decode cX5_call 115 = .ok (.iconst 1, 1) := by decide +kernel
theorem dX5_call_116 : decode cX5_call 116 = .ok (.iadd, 1) := by decide +kernel
theorem dX5_call_117 : decode cX5_call 117 = .ok (.aload_n 0, 1) := by decide +kernel
theorem dX5_call_118 : decode cX5_call 118 = .ok (.getfield 50, 3) := by decide +kernel
theorem dX5_call_121 : decode cX5_call 121 = .ok (.iload_n 2, 1) := by decide +kernel
theorem dX5_call_122 : decode cX5_call 122 = .ok (.iaload, 1) := by decide +kernel
theorem dX5_call_123 : decode cX5_call 123 = .ok (.iastore, 1) := by decide +kernel
theorem dX5_call_124 : decode cX5_call 124 = .ok (.aload_n 0, 1) := by decide +kernel
theorem dX5_call_125 : decode cX5_call 125 = .ok (.getfield 41, 3) := by decide +kernel
theorem dX5_call_128 : decode cX5_call 128 = .ok (.iload_n 1, 1) := by decide +kernel
theorem dX5_call_129 : decode cX5_call 129 = .ok (.dup2, 1) := by decide +kernel
theorem dX5_call_130 : decode cX5_call 130 = .ok (.iaload, 1) := by decide +kernel
theorem dX5_call_131 : decode cX5_call 131 = .ok (.iconst 1, 1) := by decide +kernel
theorem dX5_call_132 : decode cX5_call 132 = .ok (.iadd, 1) := by decide +kernel
theorem dX5_call_133 : decode cX5_call 133 = .ok (.iastore, 1) := by decide +kernel
theorem dX5_call_134 : decode cX5_call 134 = .ok (.iconst 1, 1) := by decide +kernel
theorem dX5_call_135 : decode cX5_call 135 = .ok (.ireturn, 1) := by decide +kernel
abbrev cX5_leave : ByteArray := prog_7_method_14_code
def yX5_leave : MethodName := ⟨RX5, "leave", "(I)Z"⟩
theorem dX5_leave_0 : decode cX5_leave 0 = .ok (.aload_n 0, 1) := by decide +kernel
theorem dX5_leave_1 : decode cX5_leave 1 = .ok (.iload_n 1, 1) := by decide +kernel
theorem dX5_leave_2 : decode cX5_leave 2 = .ok (.invokevirtual 89, 3) := by decide +kernel
theorem dX5_leave_5 : decode cX5_leave 5 = .ok (.ifCond .eq 13, 3) := by decide +kernel
theorem dX5_leave_8 : decode cX5_leave 8 = .ok (.aload_n 0, 1) := by decide +kernel
theorem dX5_leave_9 : decode cX5_leave 9 = .ok (.getfield 41, 3) := by decide +kernel
theorem dX5_leave_12 : decode cX5_leave 12 = .ok (.iload_n 1, 1) := by decide +kernel
theorem dX5_leave_13 : decode cX5_leave 13 = .ok (.iaload, 1) := by decide +kernel
theorem dX5_leave_14 : decode cX5_leave 14 = .ok (.iconst 1, 1) := by decide +kernel
theorem dX5_leave_15 : decode cX5_leave 15 = .ok (.if_icmp .ne 5, 3) := by decide +kernel
theorem dX5_leave_18 : decode cX5_leave 18 = .ok (.iconst 0, 1) := by decide +kernel
theorem dX5_leave_19 : decode cX5_leave 19 = .ok (.ireturn, 1) := by decide +kernel
theorem dX5_leave_20 : decode cX5_leave 20 = .ok (.bipush 16, 2) := by decide +kernel
theorem dX5_leave_22 : decode cX5_leave 22 = .ok (.iload_n 1, 1) := by decide +kernel
theorem dX5_leave_23 : decode cX5_leave 23 = .ok (.imul, 1) := by decide +kernel
theorem dX5_leave_24 : decode cX5_leave 24 = .ok (.aload_n 0, 1) := by decide +kernel
theorem dX5_leave_25 : decode cX5_leave 25 = .ok (.getfield 41, 3) := by decide +kernel
theorem dX5_leave_28 : decode cX5_leave 28 = .ok (.iload_n 1, 1) := by decide +kernel
theorem dX5_leave_29 : decode cX5_leave 29 = .ok (.iaload, 1) := by decide +kernel
theorem dX5_leave_30 : decode cX5_leave 30 = .ok (.iadd, 1) := by decide +kernel
theorem dX5_leave_31 : decode cX5_leave 31 = .ok (.iconst 1, 1) := by decide +kernel
theorem dX5_leave_32 : decode cX5_leave 32 = .ok (.isub, 1) := by decide +kernel
theorem dX5_leave_33 : decode cX5_leave 33 = .ok (.istore_n 2, 1) := by decide +kernel
theorem dX5_leave_34 : decode cX5_leave 34 = .ok (.aload_n 0, 1) := by decide +kernel
theorem dX5_leave_35 : decode cX5_leave 35 = .ok (.getfield 47, 3) := by decide +kernel
theorem dX5_leave_38 : decode cX5_leave 38 = .ok (.iconst 4, 1) := by decide +kernel
theorem dX5_leave_39 : decode cX5_leave 39 = .ok (.iload_n 2, 1) := by decide +kernel
theorem dX5_leave_40 : decode cX5_leave 40 = .ok (.imul, 1) := by decide +kernel
theorem dX5_leave_41 : decode cX5_leave 41 = .ok (.iconst 4, 1) := by decide +kernel
theorem dX5_leave_42 : decode cX5_leave 42 = .ok (.isub, 1) := by decide +kernel
theorem dX5_leave_43 : decode cX5_leave 43 = .ok (.aload_n 0, 1) := by decide +kernel
theorem dX5_leave_44 : decode cX5_leave 44 = .ok (.getfield 47, 3) := by decide +kernel
theorem dX5_leave_47 : decode cX5_leave 47 = .ok (.iconst 4, 1) := by decide +kernel
theorem dX5_leave_48 : decode cX5_leave 48 = .ok (.iload_n 2, 1) := by decide +kernel
theorem dX5_leave_49 : decode cX5_leave 49 = .ok (.imul, 1) := by decide +kernel
theorem dX5_leave_50 : decode cX5_leave 50 = .ok (.iaload, 1) := by decide +kernel
theorem dX5_leave_51 : decode cX5_leave 51 = .ok (.iastore, 1) := by decide +kernel
theorem dX5_leave_52 : decode cX5_leave 52 = .ok (.aload_n 0, 1) := by decide +kernel
theorem dX5_leave_53 : decode cX5_leave 53 = .ok (.getfield 41, 3) := by decide +kernel
theorem dX5_leave_56 : decode cX5_leave 56 = .ok (.iload_n 1, 1) := by decide +kernel
theorem dX5_leave_57 : decode cX5_leave 57 = .ok (.dup2, 1) := by decide +kernel
theorem dX5_leave_58 : decode cX5_leave 58 = .ok (.iaload, 1) := by decide +kernel
theorem dX5_leave_59 : decode cX5_leave 59 = .ok (.iconst 1, 1) := by decide +kernel
theorem dX5_leave_60 : decode cX5_leave 60 = .ok (.isub, 1) := by decide +kernel
theorem dX5_leave_61 : decode cX5_leave 61 = .ok (.iastore, 1) := by decide +kernel
theorem dX5_leave_62 : decode cX5_leave 62 = .ok (.iconst 1, 1) := by decide +kernel
theorem dX5_leave_63 : decode cX5_leave 63 = .ok (.ireturn, 1) := by decide +kernel
abbrev cX5_aim : ByteArray := prog_7_method_15_code
def yX5_aim : MethodName := ⟨RX5, "aim", "(II)Z"⟩
theorem dX5_aim_0 : decode cX5_aim 0 = .ok (.aload_n 0, 1) := by decide +kernel
theorem dX5_aim_1 : decode cX5_aim 1 = .ok (.iload_n 1, 1) := by decide +kernel
theorem dX5_aim_2 : decode cX5_aim 2 = .ok (.invokevirtual 89, 3) := by decide +kernel
theorem dX5_aim_5 : decode cX5_aim 5 = .ok (.ifCond .eq 12, 3) := by decide +kernel
theorem dX5_aim_8 : decode cX5_aim 8 = .ok (.iload_n 2, 1) := by decide +kernel
theorem dX5_aim_9 : decode cX5_aim 9 = .ok (.ifCond .lt 8, 3) := by decide +kernel
theorem dX5_aim_12 : decode cX5_aim 12 = .ok (.iload_n 2, 1) := by decide +kernel
theorem dX5_aim_13 : decode cX5_aim 13 = .ok (.iconst 3, 1) := by decide +kernel
theorem dX5_aim_14 : decode cX5_aim 14 = .ok (.if_icmp .le 5, 3) := by decide +kernel
theorem dX5_aim_17 : decode cX5_aim 17 = .ok (.iconst 0, 1) := by decide +kernel
theorem dX5_aim_18 : decode cX5_aim 18 = .ok (.ireturn, 1) := by decide +kernel
theorem dX5_aim_19 : decode cX5_aim 19 = .ok (.aload_n 0, 1) := by decide +kernel
theorem dX5_aim_20 : decode cX5_aim 20 = .ok (.getfield 50, 3) := by decide +kernel
theorem dX5_aim_23 : decode cX5_aim 23 = .ok (.bipush 16, 2) := by decide +kernel
theorem dX5_aim_25 : decode cX5_aim 25 = .ok (.iload_n 1, 1) := by decide +kernel
theorem dX5_aim_26 : decode cX5_aim 26 = .ok (.imul, 1) := by decide +kernel
theorem dX5_aim_27 : decode cX5_aim 27 = .ok (.aload_n 0, 1) := by decide +kernel
theorem dX5_aim_28 : decode cX5_aim 28 = .ok (.getfield 41, 3) := by decide +kernel
theorem dX5_aim_31 : decode cX5_aim 31 = .ok (.iload_n 1, 1) := by decide +kernel
theorem dX5_aim_32 : decode cX5_aim 32 = .ok (.iaload, 1) := by decide +kernel
theorem dX5_aim_33 : decode cX5_aim 33 = .ok (.iadd, 1) := by decide +kernel
theorem dX5_aim_34 : decode cX5_aim 34 = .ok (.iconst 1, 1) := by decide +kernel
theorem dX5_aim_35 : decode cX5_aim 35 = .ok (.isub, 1) := by decide +kernel
theorem dX5_aim_36 : decode cX5_aim 36 = .ok (.iconst 4, 1) := by decide +kernel
theorem dX5_aim_37 : decode cX5_aim 37 = .ok (.aload_n 0, 1) := by decide +kernel
theorem dX5_aim_38 : decode cX5_aim 38 = .ok (.getfield 41, 3) := by decide +kernel
theorem dX5_aim_41 : decode cX5_aim 41 = .ok (.iload_n 1, 1) := by decide +kernel
theorem dX5_aim_42 : decode cX5_aim 42 = .ok (.iaload, 1) := by decide +kernel
theorem dX5_aim_43 : decode cX5_aim 43 = .ok (.iconst 1, 1) := by decide +kernel
theorem dX5_aim_44 : decode cX5_aim 44 = .ok (.isub, 1) := by decide +kernel
theorem dX5_aim_45 : decode cX5_aim 45 = .ok (.imul, 1) := by decide +kernel
theorem dX5_aim_46 : decode cX5_aim 46 = .ok (.iload_n 2, 1) := by decide +kernel
theorem dX5_aim_47 : decode cX5_aim 47 = .ok (.iadd, 1) := by decide +kernel
theorem dX5_aim_48 : decode cX5_aim 48 = .ok (.iastore, 1) := by decide +kernel
theorem dX5_aim_49 : decode cX5_aim 49 = .ok (.iconst 1, 1) := by decide +kernel
theorem dX5_aim_50 : decode cX5_aim 50 = .ok (.ireturn, 1) := by decide +kernel
abbrev cX5_copy : ByteArray := prog_7_method_16_code
def yX5_copy : MethodName := ⟨RX5, "copy", "(III)Z"⟩
theorem dX5_copy_0 : decode cX5_copy 0 = .ok (.aload_n 0, 1) := by decide +kernel
theorem dX5_copy_1 : decode cX5_copy 1 = .ok (.iload_n 1, 1) := by decide +kernel
theorem dX5_copy_2 : decode cX5_copy 2 = .ok (.iload_n 2, 1) := by decide +kernel
theorem dX5_copy_3 : decode cX5_copy 3 = .ok (.iconst 0, 1) := by decide +kernel
theorem dX5_copy_4 : decode cX5_copy 4 = .ok (.invokevirtual 96, 3) := by decide +kernel
theorem dX5_copy_7 : decode cX5_copy 7 = .ok (.ifCond .eq 13, 3) := by decide +kernel
theorem dX5_copy_10 : decode cX5_copy 10 = .ok (.aload_n 0, 1) := by decide +kernel
theorem dX5_copy_11 : decode cX5_copy 11 = .ok (.iload_n 1, 1) := by decide +kernel
theorem dX5_copy_12 : decode cX5_copy 12 = .ok (.iload_n 3, 1) := by decide +kernel
theorem dX5_copy_13 : decode cX5_copy 13 = .ok (.iconst 1, 1) := by decide +kernel
theorem dX5_copy_14 : decode cX5_copy 14 = .ok (.invokevirtual 96, 3) := by decide +kernel
theorem dX5_copy_17 : decode cX5_copy 17 = .ok (.ifCond .ne 5, 3) := by decide +kernel
theorem dX5_copy_20 : decode cX5_copy 20 = .ok (.iconst 0, 1) := by decide +kernel
theorem dX5_copy_21 : decode cX5_copy 21 = .ok (.ireturn, 1) := by decide +kernel
theorem dX5_copy_22 : decode cX5_copy 22 = .ok (.aload_n 0, 1) := by decide +kernel
theorem dX5_copy_23 : decode cX5_copy 23 = .ok (.getfield 47, 3) := by decide +kernel
theorem dX5_copy_26 : decode cX5_copy 26 = .ok (.aload_n 0, 1) := by decide +kernel
theorem dX5_copy_27 : decode cX5_copy 27 = .ok (.iload_n 1, 1) := by decide +kernel
theorem dX5_copy_28 : decode cX5_copy 28 = .ok (.iload_n 2, 1) := by decide +kernel
theorem dX5_copy_29 : decode cX5_copy 29 = .ok (.invokevirtual 92, 3) := by decide +kernel
theorem dX5_copy_32 : decode cX5_copy 32 = .ok (.aload_n 0, 1) := by decide +kernel
theorem dX5_copy_33 : decode cX5_copy 33 = .ok (.iload_n 1, 1) := by decide +kernel
theorem dX5_copy_34 : decode cX5_copy 34 = .ok (.iload_n 3, 1) := by decide +kernel
theorem dX5_copy_35 : decode cX5_copy 35 = .ok (.invokevirtual 100, 3) := by decide +kernel
theorem dX5_copy_38 : decode cX5_copy 38 = .ok (.iastore, 1) := by decide +kernel
theorem dX5_copy_39 : decode cX5_copy 39 = .ok (.iconst 1, 1) := by decide +kernel
theorem dX5_copy_40 : decode cX5_copy 40 = .ok (.ireturn, 1) := by decide +kernel
abbrev cX5_slotOf : ByteArray := prog_7_method_17_code
def yX5_slotOf : MethodName := ⟨RX5, "slotOf", "(I)I"⟩
theorem dX5_slotOf_0 : decode cX5_slotOf 0 = .ok (.iload_n 1, 1) := by decide +kernel
theorem dX5_slotOf_1 : decode cX5_slotOf 1 = .ok (.iconst 2, 1) := by decide +kernel
theorem dX5_slotOf_2 : decode cX5_slotOf 2 = .ok (.if_icmp .gt 7, 3) := by decide +kernel
theorem dX5_slotOf_5 : decode cX5_slotOf 5 = .ok (.iconst 2, 1) := by decide +kernel
theorem dX5_slotOf_6 : decode cX5_slotOf 6 = .ok (.goto 33, 3) := by decide +kernel
theorem dX5_slotOf_9 : decode cX5_slotOf 9 = .ok (.iload_n 1, 1) := by decide +kernel
theorem dX5_slotOf_10 : decode cX5_slotOf 10 = .ok (.iconst 4, 1) := by decide +kernel
theorem dX5_slotOf_11 : decode cX5_slotOf 11 = .ok (.if_icmp .gt 7, 3) := by decide +kernel
theorem dX5_slotOf_14 : decode cX5_slotOf 14 = .ok (.iconst 4, 1) := by decide +kernel
theorem dX5_slotOf_15 : decode cX5_slotOf 15 = .ok (.goto 24, 3) := by decide +kernel
theorem dX5_slotOf_18 : decode cX5_slotOf 18 = .ok (.iload_n 1, 1) := by decide +kernel
theorem dX5_slotOf_19 : decode cX5_slotOf 19 = .ok (.bipush 8, 2) := by decide +kernel
theorem dX5_slotOf_21 : decode cX5_slotOf 21 = .ok (.if_icmp .gt 8, 3) := by decide +kernel
theorem dX5_slotOf_24 : decode cX5_slotOf 24 = .ok (.bipush 8, 2) := by decide +kernel
theorem dX5_slotOf_26 : decode cX5_slotOf 26 = .ok (.goto 13, 3) := by decide +kernel
theorem dX5_slotOf_29 : decode cX5_slotOf 29 = .ok (.iload_n 1, 1) := by decide +kernel
theorem dX5_slotOf_30 : decode cX5_slotOf 30 = .ok (.bipush 15, 2) := by decide +kernel
theorem dX5_slotOf_32 : decode cX5_slotOf 32 = .ok (.iadd, 1) := by decide +kernel
theorem dX5_slotOf_33 : decode cX5_slotOf 33 = .ok (.bipush 16, 2) := by decide +kernel
theorem dX5_slotOf_35 : decode cX5_slotOf 35 = .ok (.idiv, 1) := by decide +kernel
theorem dX5_slotOf_36 : decode cX5_slotOf 36 = .ok (.bipush 16, 2) := by decide +kernel
theorem dX5_slotOf_38 : decode cX5_slotOf 38 = .ok (.imul, 1) := by decide +kernel
theorem dX5_slotOf_39 : decode cX5_slotOf 39 = .ok (.ireturn, 1) := by decide +kernel
abbrev cX5_sweepSpan : ByteArray := prog_7_method_18_code
def yX5_sweepSpan : MethodName := ⟨RX5, "sweepSpan", "(I)V"⟩
theorem dX5_sweepSpan_0 : decode cX5_sweepSpan 0 = .ok (.aload_n 0, 1) := by decide +kernel
theorem dX5_sweepSpan_1 : decode cX5_sweepSpan 1 = .ok (.getfield 32, 3) := by decide +kernel
theorem dX5_sweepSpan_4 : decode cX5_sweepSpan 4 = .ok (.iload_n 1, 1) := by decide +kernel
theorem dX5_sweepSpan_5 : decode cX5_sweepSpan 5 = .ok (.iaload, 1) := by decide +kernel
theorem dX5_sweepSpan_6 : decode cX5_sweepSpan 6 = .ok (.bipush 16, 2) := by decide +kernel
theorem dX5_sweepSpan_8 : decode cX5_sweepSpan 8 = .ok (.if_icmp .ge 7, 3) := by decide +kernel
theorem dX5_sweepSpan_11 : decode cX5_sweepSpan 11 = .ok (.iconst 1, 1) := by decide +kernel
theorem dX5_sweepSpan_12 : decode cX5_sweepSpan 12 = .ok (.goto 12, 3) := by decide +kernel
theorem dX5_sweepSpan_15 : decode cX5_sweepSpan 15 = .ok (.aload_n 0, 1) := by decide +kernel
theorem dX5_sweepSpan_16 : decode cX5_sweepSpan 16 = .ok (.getfield 32, 3) := by decide +kernel
theorem dX5_sweepSpan_19 : decode cX5_sweepSpan 19 = .ok (.iload_n 1, 1) := by decide +kernel
theorem dX5_sweepSpan_20 : decode cX5_sweepSpan 20 = .ok (.iaload, 1) := by decide +kernel
theorem dX5_sweepSpan_21 : decode cX5_sweepSpan 21 = .ok (.bipush 16, 2) := by decide +kernel
theorem dX5_sweepSpan_23 : decode cX5_sweepSpan 23 = .ok (.idiv, 1) := by decide +kernel
theorem dX5_sweepSpan_24 : decode cX5_sweepSpan 24 = .ok (.istore_n 2, 1) := by decide +kernel
theorem dX5_sweepSpan_25 : decode cX5_sweepSpan 25 = .ok (.iconst 0, 1) := by decide +kernel
theorem dX5_sweepSpan_26 : decode cX5_sweepSpan 26 = .ok (.istore_n 3, 1) := by decide +kernel
theorem dX5_sweepSpan_27 : decode cX5_sweepSpan 27 = .ok (.bipush 16, 2) := by decide +kernel
theorem dX5_sweepSpan_29 : decode cX5_sweepSpan 29 = .ok (.iload_n 1, 1) := by decide +kernel
theorem dX5_sweepSpan_30 : decode cX5_sweepSpan 30 = .ok (.imul, 1) := by decide +kernel
theorem dX5_sweepSpan_31 : decode cX5_sweepSpan 31 = .ok (.istore 4, 2) := by decide +kernel
theorem dX5_sweepSpan_33 : decode cX5_sweepSpan 33 = .ok (.iload 4, 2) := by decide +kernel
theorem dX5_sweepSpan_35 : decode cX5_sweepSpan 35 = .ok (.bipush 16, 2) := by decide +kernel
theorem dX5_sweepSpan_37 : decode cX5_sweepSpan 37 = .ok (.iload_n 1, 1) := by decide +kernel
theorem dX5_sweepSpan_38 : decode cX5_sweepSpan 38 = .ok (.imul, 1) := by decide +kernel
theorem dX5_sweepSpan_39 : decode cX5_sweepSpan 39 = .ok (.bipush 16, 2) := by decide +kernel
theorem dX5_sweepSpan_41 : decode cX5_sweepSpan 41 = .ok (.iadd, 1) := by decide +kernel
theorem dX5_sweepSpan_42 : decode cX5_sweepSpan 42 = .ok (.if_icmp .ge 65, 3) := by decide +kernel
theorem dX5_sweepSpan_45 : decode cX5_sweepSpan 45 = .ok (.aload_n 0, 1) := by decide +kernel
theorem dX5_sweepSpan_46 : decode cX5_sweepSpan 46 = .ok (.getfield 13, 3) := by decide +kernel
theorem dX5_sweepSpan_49 : decode cX5_sweepSpan 49 = .ok (.iload 4, 2) := by decide +kernel
theorem dX5_sweepSpan_51 : decode cX5_sweepSpan 51 = .ok (.iaload, 1) := by decide +kernel
theorem dX5_sweepSpan_52 : decode cX5_sweepSpan 52 = .ok (.ifCond .le 31, 3) := by decide +kernel
theorem dX5_sweepSpan_55 : decode cX5_sweepSpan 55 = .ok (.aload_n 0, 1) := by decide +kernel
theorem dX5_sweepSpan_56 : decode cX5_sweepSpan 56 = .ok (.getfield 26, 3) := by decide +kernel
theorem dX5_sweepSpan_59 : decode cX5_sweepSpan 59 = .ok (.iload 4, 2) := by decide +kernel
theorem dX5_sweepSpan_61 : decode cX5_sweepSpan 61 = .ok (.baload, 1) := by decide +kernel
theorem dX5_sweepSpan_62 : decode cX5_sweepSpan 62 = .ok (.ifCond .ne 21, 3) := by decide +kernel
theorem dX5_sweepSpan_65 : decode cX5_sweepSpan 65 = .ok (.aload_n 0, 1) := by decide +kernel
theorem dX5_sweepSpan_66 : decode cX5_sweepSpan 66 = .ok (.getfield 13, 3) := by decide +kernel
theorem dX5_sweepSpan_69 : decode cX5_sweepSpan 69 = .ok (.iload 4, 2) := by decide +kernel
theorem dX5_sweepSpan_71 : decode cX5_sweepSpan 71 = .ok (.iconst 0, 1) := by decide +kernel
theorem dX5_sweepSpan_72 : decode cX5_sweepSpan 72 = .ok (.iastore, 1) := by decide +kernel
theorem dX5_sweepSpan_73 : decode cX5_sweepSpan 73 = .ok (.aload_n 0, 1) := by decide +kernel
theorem dX5_sweepSpan_74 : decode cX5_sweepSpan 74 = .ok (.dup, 1) := by decide +kernel
theorem dX5_sweepSpan_75 : decode cX5_sweepSpan 75 = .ok (.getfield 110, 3) := by decide +kernel
theorem dX5_sweepSpan_78 : decode cX5_sweepSpan 78 = .ok (.iconst 1, 1) := by decide +kernel
theorem dX5_sweepSpan_79 : decode cX5_sweepSpan 79 = .ok (.iadd, 1) := by decide +kernel
theorem dX5_sweepSpan_80 : decode cX5_sweepSpan 80 = .ok (.putfield 110, 3) := by decide +kernel
theorem dX5_sweepSpan_83 : decode cX5_sweepSpan 83 = .ok (.iload_n 3, 1) := by decide +kernel
theorem dX5_sweepSpan_84 : decode cX5_sweepSpan 84 = .ok (.aload_n 0, 1) := by decide +kernel
theorem dX5_sweepSpan_85 : decode cX5_sweepSpan 85 = .ok (.getfield 13, 3) := by decide +kernel
theorem dX5_sweepSpan_88 : decode cX5_sweepSpan 88 = .ok (.iload 4, 2) := by decide +kernel
theorem dX5_sweepSpan_90 : decode cX5_sweepSpan 90 = .ok (.iaload, 1) := by decide +kernel
theorem dX5_sweepSpan_91 : decode cX5_sweepSpan 91 = .ok (.ifCond .le 7, 3) := by decide +kernel
theorem dX5_sweepSpan_94 : decode cX5_sweepSpan 94 = .ok (.iconst 1, 1) := by decide +kernel
theorem dX5_sweepSpan_95 : decode cX5_sweepSpan 95 = .ok (.goto 4, 3) := by decide +kernel
theorem dX5_sweepSpan_98 : decode cX5_sweepSpan 98 = .ok (.iconst 0, 1) := by decide +kernel
theorem dX5_sweepSpan_99 : decode cX5_sweepSpan 99 = .ok (.iadd, 1) := by decide +kernel
theorem dX5_sweepSpan_100 : decode cX5_sweepSpan 100 = .ok (.istore_n 3, 1) := by decide +kernel
theorem dX5_sweepSpan_101 : decode cX5_sweepSpan 101 = .ok (.iinc 4 1, 3) := by decide +kernel
theorem dX5_sweepSpan_104 : decode cX5_sweepSpan 104 = .ok (.goto (-71), 3) := by decide +kernel
theorem dX5_sweepSpan_107 : decode cX5_sweepSpan 107 = .ok (.aload_n 0, 1) := by decide +kernel
theorem dX5_sweepSpan_108 : decode cX5_sweepSpan 108 = .ok (.getfield 35, 3) := by decide +kernel
theorem dX5_sweepSpan_111 : decode cX5_sweepSpan 111 = .ok (.iload_n 1, 1) := by decide +kernel
theorem dX5_sweepSpan_112 : decode cX5_sweepSpan 112 = .ok (.iconst 0, 1) := by decide +kernel
theorem dX5_sweepSpan_113 : decode cX5_sweepSpan 113 = .ok (.bastore, 1) := by decide +kernel
theorem dX5_sweepSpan_114 : decode cX5_sweepSpan 114 = .ok (.iload_n 1, 1) := by decide +kernel
theorem dX5_sweepSpan_115 : decode cX5_sweepSpan 115 = .ok (.istore 4, 2) := by decide +kernel
theorem dX5_sweepSpan_117 : decode cX5_sweepSpan 117 = .ok (.iload 4, 2) := by decide +kernel
theorem dX5_sweepSpan_119 : decode cX5_sweepSpan 119 = .ok (.iload_n 1, 1) := by decide +kernel
theorem dX5_sweepSpan_120 : decode cX5_sweepSpan 120 = .ok (.iload_n 2, 1) := by decide +kernel
theorem dX5_sweepSpan_121 : decode cX5_sweepSpan 121 = .ok (.iadd, 1) := by decide +kernel
theorem dX5_sweepSpan_122 : decode cX5_sweepSpan 122 = .ok (.if_icmp .ge 21, 3) := by decide +kernel
theorem dX5_sweepSpan_125 : decode cX5_sweepSpan 125 = .ok (.iload_n 3, 1) := by decide +kernel
theorem dX5_sweepSpan_126 : decode cX5_sweepSpan 126 = .ok (.ifCond .ne 17, 3) := by decide +kernel
theorem dX5_sweepSpan_129 : decode cX5_sweepSpan 129 = .ok (.aload_n 0, 1) := by decide +kernel
theorem dX5_sweepSpan_130 : decode cX5_sweepSpan 130 = .ok (.getfield 32, 3) := by decide +kernel
theorem dX5_sweepSpan_133 : decode cX5_sweepSpan 133 = .ok (.iload 4, 2) := by decide +kernel
theorem dX5_sweepSpan_135 : decode cX5_sweepSpan 135 = .ok (.iconst 0, 1) := by decide +kernel
theorem dX5_sweepSpan_136 : decode cX5_sweepSpan 136 = .ok (.iastore, 1) := by decide +kernel
theorem dX5_sweepSpan_137 : decode cX5_sweepSpan 137 = .ok (.iinc 4 1, 3) := by decide +kernel
theorem dX5_sweepSpan_140 : decode cX5_sweepSpan 140 = .ok (.goto (-23), 3) := by decide +kernel
theorem dX5_sweepSpan_143 : decode cX5_sweepSpan 143 = .ok (.return_, 1) := by decide +kernel
abbrev cX5_sweepUpTo : ByteArray := prog_7_method_19_code
def yX5_sweepUpTo : MethodName := ⟨RX5, "sweepUpTo", "(I)I"⟩
theorem dX5_sweepUpTo_0 : decode cX5_sweepUpTo 0 = .ok (.iconst 0, 1) := by decide +kernel
theorem dX5_sweepUpTo_1 : decode cX5_sweepUpTo 1 = .ok (.istore_n 2, 1) := by decide +kernel
theorem dX5_sweepUpTo_2 : decode cX5_sweepUpTo 2 = .ok (.iconst 0, 1) := by decide +kernel
theorem dX5_sweepUpTo_3 : decode cX5_sweepUpTo 3 = .ok (.istore_n 3, 1) := by decide +kernel
theorem dX5_sweepUpTo_4 : decode cX5_sweepUpTo 4 = .ok (.iload_n 3, 1) := by decide +kernel
theorem dX5_sweepUpTo_5 : decode cX5_sweepUpTo 5 = .ok (.bipush 16, 2) := by decide +kernel
theorem dX5_sweepUpTo_7 : decode cX5_sweepUpTo 7 = .ok (.if_icmp .ge 31, 3) := by decide +kernel
theorem dX5_sweepUpTo_10 : decode cX5_sweepUpTo 10 = .ok (.aload_n 0, 1) := by decide +kernel
theorem dX5_sweepUpTo_11 : decode cX5_sweepUpTo 11 = .ok (.getfield 35, 3) := by decide +kernel
theorem dX5_sweepUpTo_14 : decode cX5_sweepUpTo 14 = .ok (.iload_n 3, 1) := by decide +kernel
theorem dX5_sweepUpTo_15 : decode cX5_sweepUpTo 15 = .ok (.baload, 1) := by decide +kernel
theorem dX5_sweepUpTo_16 : decode cX5_sweepUpTo 16 = .ok (.ifCond .eq 16, 3) := by decide +kernel
theorem dX5_sweepUpTo_19 : decode cX5_sweepUpTo 19 = .ok (.iload_n 2, 1) := by decide +kernel
theorem dX5_sweepUpTo_20 : decode cX5_sweepUpTo 20 = .ok (.iload_n 1, 1) := by decide +kernel
theorem dX5_sweepUpTo_21 : decode cX5_sweepUpTo 21 = .ok (.if_icmp .ge 11, 3) := by decide +kernel
theorem dX5_sweepUpTo_24 : decode cX5_sweepUpTo 24 = .ok (.aload_n 0, 1) := by decide +kernel
theorem dX5_sweepUpTo_25 : decode cX5_sweepUpTo 25 = .ok (.iload_n 3, 1) := by decide +kernel
theorem dX5_sweepUpTo_26 : decode cX5_sweepUpTo 26 = .ok (.invokevirtual 113, 3) := by decide +kernel
theorem dX5_sweepUpTo_29 : decode cX5_sweepUpTo 29 = .ok (.iinc 2 1, 3) := by decide +kernel
theorem dX5_sweepUpTo_32 : decode cX5_sweepUpTo 32 = .ok (.iinc 3 1, 3) := by decide +kernel
theorem dX5_sweepUpTo_35 : decode cX5_sweepUpTo 35 = .ok (.goto (-31), 3) := by decide +kernel
theorem dX5_sweepUpTo_38 : decode cX5_sweepUpTo 38 = .ok (.iload_n 2, 1) := by decide +kernel
theorem dX5_sweepUpTo_39 : decode cX5_sweepUpTo 39 = .ok (.ireturn, 1) := by decide +kernel
abbrev cX5_runOf : ByteArray := prog_7_method_20_code
def yX5_runOf : MethodName := ⟨RX5, "runOf", "(IZ)I"⟩
theorem dX5_runOf_0 : decode cX5_runOf 0 = .ok (.iconst (-1), 1) := by decide +kernel
theorem dX5_runOf_1 : decode cX5_runOf 1 = .ok (.istore_n 3, 1) := by decide +kernel
theorem dX5_runOf_2 : decode cX5_runOf 2 = .ok (.iconst 0, 1) := by decide +kernel
theorem dX5_runOf_3 : decode cX5_runOf 3 = .ok (.istore 4, 2) := by decide +kernel
theorem dX5_runOf_5 : decode cX5_runOf 5 = .ok (.iconst 0, 1) := by decide +kernel
theorem dX5_runOf_6 : decode cX5_runOf 6 = .ok (.istore 5, 2) := by decide +kernel
theorem dX5_runOf_8 : decode cX5_runOf 8 = .ok (.iconst 0, 1) := by decide +kernel
theorem dX5_runOf_9 : decode cX5_runOf 9 = .ok (.istore 6, 2) := by decide +kernel
theorem dX5_runOf_11 : decode cX5_runOf 11 = .ok (.iload 6, 2) := by decide +kernel
theorem dX5_runOf_13 : decode cX5_runOf 13 = .ok (.bipush 16, 2) := by decide +kernel
theorem dX5_runOf_15 : decode cX5_runOf 15 = .ok (.if_icmp .gt 76, 3) := by decide +kernel
theorem dX5_runOf_18 : decode cX5_runOf 18 = .ok (.iload 6, 2) := by decide +kernel
theorem dX5_runOf_20 : decode cX5_runOf 20 = .ok (.bipush 16, 2) := by decide +kernel
theorem dX5_runOf_22 : decode cX5_runOf 22 = .ok (.if_icmp .ge 19, 3) := by decide +kernel
theorem dX5_runOf_25 : decode cX5_runOf 25 = .ok (.aload_n 0, 1) := by decide +kernel
theorem dX5_runOf_26 : decode cX5_runOf 26 = .ok (.getfield 32, 3) := by decide +kernel
theorem dX5_runOf_29 : decode cX5_runOf 29 = .ok (.iload 6, 2) := by decide +kernel
theorem dX5_runOf_31 : decode cX5_runOf 31 = .ok (.iaload, 1) := by decide +kernel
theorem dX5_runOf_32 : decode cX5_runOf 32 = .ok (.ifCond .ne 9, 3) := by decide +kernel
theorem dX5_runOf_35 : decode cX5_runOf 35 = .ok (.iinc 5 1, 3) := by decide +kernel
theorem dX5_runOf_38 : decode cX5_runOf 38 = .ok (.goto 47, 3) := by decide +kernel
theorem dX5_runOf_41 : decode cX5_runOf 41 = .ok (.iload 5, 2) := by decide +kernel
theorem dX5_runOf_43 : decode cX5_runOf 43 = .ok (.iload_n 1, 1) := by decide +kernel
theorem dX5_runOf_44 : decode cX5_runOf 44 = .ok (.if_icmp .lt 38, 3) := by decide +kernel
theorem dX5_runOf_47 : decode cX5_runOf 47 = .ok (.iload_n 3, 1) := by decide +kernel
theorem dX5_runOf_48 : decode cX5_runOf 48 = .ok (.ifCond .lt 24, 3) := by decide +kernel
theorem dX5_runOf_51 : decode cX5_runOf 51 = .ok (.iload_n 2, 1) := by decide +kernel
theorem dX5_runOf_52 : decode cX5_runOf 52 = .ok (.ifCond .eq 13, 3) := by decide +kernel
theorem dX5_runOf_55 : decode cX5_runOf 55 = .ok (.iload 5, 2) := by decide +kernel
theorem dX5_runOf_57 : decode cX5_runOf 57 = .ok (.iload 4, 2) := by decide +kernel
theorem dX5_runOf_59 : decode cX5_runOf 59 = .ok (.if_icmp .le 23, 3) := by decide +kernel
theorem dX5_runOf_62 : decode cX5_runOf 62 = .ok (.goto 10, 3) := by decide +kernel
theorem dX5_runOf_65 : decode cX5_runOf 65 = .ok (.iload 5, 2) := by decide +kernel
theorem dX5_runOf_67 : decode cX5_runOf 67 = .ok (.iload 4, 2) := by decide +kernel
theorem dX5_runOf_69 : decode cX5_runOf 69 = .ok (.if_icmp .ge 13, 3) := by decide +kernel
theorem dX5_runOf_72 : decode cX5_runOf 72 = .ok (.iload 6, 2) := by decide +kernel
theorem dX5_runOf_74 : decode cX5_runOf 74 = .ok (.iload 5, 2) := by decide +kernel
theorem dX5_runOf_76 : decode cX5_runOf 76 = .ok (.isub, 1) := by decide +kernel
theorem dX5_runOf_77 : decode cX5_runOf 77 = .ok (.istore_n 3, 1) := by decide +kernel
theorem dX5_runOf_78 : decode cX5_runOf 78 = .ok (.iload 5, 2) := by decide +kernel
theorem dX5_runOf_80 : decode cX5_runOf 80 = .ok (.istore 4, 2) := by decide +kernel
theorem dX5_runOf_82 : decode cX5_runOf 82 = .ok (.iconst 0, 1) := by decide +kernel
theorem dX5_runOf_83 : decode cX5_runOf 83 = .ok (.istore 5, 2) := by decide +kernel
theorem dX5_runOf_85 : decode cX5_runOf 85 = .ok (.iinc 6 1, 3) := by decide +kernel
theorem dX5_runOf_88 : decode cX5_runOf 88 = .ok (.goto (-77), 3) := by decide +kernel
theorem dX5_runOf_91 : decode cX5_runOf 91 = .ok (.iload_n 2, 1) := by decide +kernel
theorem dX5_runOf_92 : decode cX5_runOf 92 = .ok (.ifCond .eq 8, 3) := by decide +kernel
theorem dX5_runOf_95 : decode cX5_runOf 95 = .ok (.iload 4, 2) := by decide +kernel
theorem dX5_runOf_97 : decode cX5_runOf 97 = .ok (.goto 4, 3) := by decide +kernel
theorem dX5_runOf_100 : decode cX5_runOf 100 = .ok (.iload_n 3, 1) := by decide +kernel
theorem dX5_runOf_101 : decode cX5_runOf 101 = .ok (.ireturn, 1) := by decide +kernel
abbrev cX5_seat : ByteArray := prog_7_method_21_code
def yX5_seat : MethodName := ⟨RX5, "seat", "(I)I"⟩
theorem dX5_seat_0 : decode cX5_seat 0 = .ok (.iconst 0, 1) := by decide +kernel
theorem dX5_seat_1 : decode cX5_seat 1 = .ok (.istore_n 2, 1) := by decide +kernel
theorem dX5_seat_2 : decode cX5_seat 2 = .ok (.iload_n 2, 1) := by decide +kernel
theorem dX5_seat_3 : decode cX5_seat 3 = .ok (.bipush 16, 2) := by decide +kernel
theorem dX5_seat_5 : decode cX5_seat 5 = .ok (.if_icmp .ge 83, 3) := by decide +kernel
theorem dX5_seat_8 : decode cX5_seat 8 = .ok (.iload_n 1, 1) := by decide +kernel
theorem dX5_seat_9 : decode cX5_seat 9 = .ok (.bipush 16, 2) := by decide +kernel
theorem dX5_seat_11 : decode cX5_seat 11 = .ok (.if_icmp .ge 77, 3) := by decide +kernel
theorem dX5_seat_14 : decode cX5_seat 14 = .ok (.aload_n 0, 1) := by decide +kernel
theorem dX5_seat_15 : decode cX5_seat 15 = .ok (.getfield 32, 3) := by decide +kernel
theorem dX5_seat_18 : decode cX5_seat 18 = .ok (.iload_n 2, 1) := by decide +kernel
theorem dX5_seat_19 : decode cX5_seat 19 = .ok (.iaload, 1) := by decide +kernel
theorem dX5_seat_20 : decode cX5_seat 20 = .ok (.iload_n 1, 1) := by decide +kernel
theorem dX5_seat_21 : decode cX5_seat 21 = .ok (.if_icmp .ne 17, 3) := by decide +kernel
theorem dX5_seat_24 : decode cX5_seat 24 = .ok (.aload_n 0, 1) := by decide +kernel
theorem dX5_seat_25 : decode cX5_seat 25 = .ok (.getfield 35, 3) := by decide +kernel
theorem dX5_seat_28 : decode cX5_seat 28 = .ok (.iload_n 2, 1) := by decide +kernel
theorem dX5_seat_29 : decode cX5_seat 29 = .ok (.baload, 1) := by decide +kernel
theorem dX5_seat_30 : decode cX5_seat 30 = .ok (.ifCond .eq 8, 3) := by decide +kernel
theorem dX5_seat_33 : decode cX5_seat 33 = .ok (.aload_n 0, 1) := by decide +kernel
theorem dX5_seat_34 : decode cX5_seat 34 = .ok (.iload_n 2, 1) := by decide +kernel
theorem dX5_seat_35 : decode cX5_seat 35 = .ok (.invokevirtual 113, 3) := by decide +kernel
theorem dX5_seat_38 : decode cX5_seat 38 = .ok (.bipush 16, 2) := by decide +kernel
theorem dX5_seat_40 : decode cX5_seat 40 = .ok (.iload_n 2, 1) := by decide +kernel
theorem dX5_seat_41 : decode cX5_seat 41 = .ok (.imul, 1) := by decide +kernel
theorem dX5_seat_42 : decode cX5_seat 42 = .ok (.istore_n 3, 1) := by decide +kernel
theorem dX5_seat_43 : decode cX5_seat 43 = .ok (.iload_n 3, 1) := by decide +kernel
theorem dX5_seat_44 : decode cX5_seat 44 = .ok (.bipush 16, 2) := by decide +kernel
theorem dX5_seat_46 : decode cX5_seat 46 = .ok (.iload_n 2, 1) := by decide +kernel
theorem dX5_seat_47 : decode cX5_seat 47 = .ok (.imul, 1) := by decide +kernel
theorem dX5_seat_48 : decode cX5_seat 48 = .ok (.bipush 16, 2) := by decide +kernel
theorem dX5_seat_50 : decode cX5_seat 50 = .ok (.iadd, 1) := by decide +kernel
theorem dX5_seat_51 : decode cX5_seat 51 = .ok (.if_icmp .ge 31, 3) := by decide +kernel
theorem dX5_seat_54 : decode cX5_seat 54 = .ok (.aload_n 0, 1) := by decide +kernel
theorem dX5_seat_55 : decode cX5_seat 55 = .ok (.getfield 32, 3) := by decide +kernel
theorem dX5_seat_58 : decode cX5_seat 58 = .ok (.iload_n 2, 1) := by decide +kernel
theorem dX5_seat_59 : decode cX5_seat 59 = .ok (.iaload, 1) := by decide +kernel
theorem dX5_seat_60 : decode cX5_seat 60 = .ok (.iload_n 1, 1) := by decide +kernel
theorem dX5_seat_61 : decode cX5_seat 61 = .ok (.if_icmp .ne 21, 3) := by decide +kernel
theorem dX5_seat_64 : decode cX5_seat 64 = .ok (.aload_n 0, 1) := by decide +kernel
theorem dX5_seat_65 : decode cX5_seat 65 = .ok (.getfield 13, 3) := by decide +kernel
theorem dX5_seat_68 : decode cX5_seat 68 = .ok (.iload_n 3, 1) := by decide +kernel
theorem dX5_seat_69 : decode cX5_seat 69 = .ok (.iaload, 1) := by decide +kernel
theorem dX5_seat_70 : decode cX5_seat 70 = .ok (.ifCond .ne 5, 3) := by decide +kernel
theorem dX5_seat_73 : decode cX5_seat 73 = .ok (.iload_n 3, 1) := by decide +kernel
theorem dX5_seat_74 : decode cX5_seat 74 = .ok (.ireturn, 1) := by decide +kernel
theorem dX5_seat_75 : decode cX5_seat 75 = .ok (.iload_n 3, 1) := by decide +kernel
theorem dX5_seat_76 : decode cX5_seat 76 = .ok (.iload_n 1, 1) := by decide +kernel
theorem dX5_seat_77 : decode cX5_seat 77 = .ok (.iadd, 1) := by decide +kernel
theorem dX5_seat_78 : decode cX5_seat 78 = .ok (.istore_n 3, 1) := by decide +kernel
theorem dX5_seat_79 : decode cX5_seat 79 = .ok (.goto (-36), 3) := by decide +kernel
theorem dX5_seat_82 : decode cX5_seat 82 = .ok (.iinc 2 1, 3) := by decide +kernel
theorem dX5_seat_85 : decode cX5_seat 85 = .ok (.goto (-83), 3) := by decide +kernel
theorem dX5_seat_88 : decode cX5_seat 88 = .ok (.iload_n 1, 1) := by decide +kernel
theorem dX5_seat_89 : decode cX5_seat 89 = .ok (.bipush 16, 2) := by decide +kernel
theorem dX5_seat_91 : decode cX5_seat 91 = .ok (.if_icmp .ge 7, 3) := by decide +kernel
theorem dX5_seat_94 : decode cX5_seat 94 = .ok (.iconst 1, 1) := by decide +kernel
theorem dX5_seat_95 : decode cX5_seat 95 = .ok (.goto 7, 3) := by decide +kernel
theorem dX5_seat_98 : decode cX5_seat 98 = .ok (.iload_n 1, 1) := by decide +kernel
theorem dX5_seat_99 : decode cX5_seat 99 = .ok (.bipush 16, 2) := by decide +kernel
theorem dX5_seat_101 : decode cX5_seat 101 = .ok (.idiv, 1) := by decide +kernel
theorem dX5_seat_102 : decode cX5_seat 102 = .ok (.istore_n 2, 1) := by decide +kernel
theorem dX5_seat_103 : decode cX5_seat 103 = .ok (.aload_n 0, 1) := by decide +kernel
theorem dX5_seat_104 : decode cX5_seat 104 = .ok (.iload_n 2, 1) := by decide +kernel
theorem dX5_seat_105 : decode cX5_seat 105 = .ok (.iconst 0, 1) := by decide +kernel
theorem dX5_seat_106 : decode cX5_seat 106 = .ok (.invokevirtual 117, 3) := by decide +kernel
theorem dX5_seat_109 : decode cX5_seat 109 = .ok (.istore_n 3, 1) := by decide +kernel
theorem dX5_seat_110 : decode cX5_seat 110 = .ok (.iconst 0, 1) := by decide +kernel
theorem dX5_seat_111 : decode cX5_seat 111 = .ok (.istore 4, 2) := by decide +kernel
theorem dX5_seat_113 : decode cX5_seat 113 = .ok (.iload 4, 2) := by decide +kernel
theorem dX5_seat_115 : decode cX5_seat 115 = .ok (.iload_n 2, 1) := by decide +kernel
theorem dX5_seat_116 : decode cX5_seat 116 = .ok (.if_icmp .ge 32, 3) := by decide +kernel
theorem dX5_seat_119 : decode cX5_seat 119 = .ok (.iload_n 3, 1) := by decide +kernel
theorem dX5_seat_120 : decode cX5_seat 120 = .ok (.ifCond .lt 28, 3) := by decide +kernel
theorem dX5_seat_123 : decode cX5_seat 123 = .ok (.aload_n 0, 1) := by decide +kernel
theorem dX5_seat_124 : decode cX5_seat 124 = .ok (.getfield 32, 3) := by decide +kernel
theorem dX5_seat_127 : decode cX5_seat 127 = .ok (.iload_n 3, 1) := by decide +kernel
theorem dX5_seat_128 : decode cX5_seat 128 = .ok (.iload 4, 2) := by decide +kernel
theorem dX5_seat_130 : decode cX5_seat 130 = .ok (.iadd, 1) := by decide +kernel
theorem dX5_seat_131 : decode cX5_seat 131 = .ok (.iload 4, 2) := by decide +kernel
theorem dX5_seat_133 : decode cX5_seat 133 = .ok (.ifCond .ne 7, 3) := by decide +kernel
theorem dX5_seat_136 : decode cX5_seat 136 = .ok (.iload_n 1, 1) := by decide +kernel
theorem dX5_seat_137 : decode cX5_seat 137 = .ok (.goto 4, 3) := by decide +kernel
theorem dX5_seat_140 : decode cX5_seat 140 = .ok (.iconst 1, 1) := by decide +kernel
theorem dX5_seat_141 : decode cX5_seat 141 = .ok (.iastore, 1) := by decide +kernel
theorem dX5_seat_142 : decode cX5_seat 142 = .ok (.iinc 4 1, 3) := by decide +kernel
theorem dX5_seat_145 : decode cX5_seat 145 = .ok (.goto (-32), 3) := by decide +kernel
theorem dX5_seat_148 : decode cX5_seat 148 = .ok (.iload_n 3, 1) := by decide +kernel
theorem dX5_seat_149 : decode cX5_seat 149 = .ok (.ifCond .ge 7, 3) := by decide +kernel
theorem dX5_seat_152 : decode cX5_seat 152 = .ok (.iconst (-1), 1) := by decide +kernel
theorem dX5_seat_153 : decode cX5_seat 153 = .ok (.goto 7, 3) := by decide +kernel
theorem dX5_seat_156 : decode cX5_seat 156 = .ok (.bipush 16, 2) := by decide +kernel
theorem dX5_seat_158 : decode cX5_seat 158 = .ok (.iload_n 3, 1) := by decide +kernel
theorem dX5_seat_159 : decode cX5_seat 159 = .ok (.imul, 1) := by decide +kernel
theorem dX5_seat_160 : decode cX5_seat 160 = .ok (.ireturn, 1) := by decide +kernel
abbrev cX5_make : ByteArray := prog_7_method_22_code
def yX5_make : MethodName := ⟨RX5, "make", "(IIII)I"⟩
theorem dX5_make_0 : decode cX5_make 0 = .ok (.aload_n 0, 1) := by decide +kernel
theorem dX5_make_1 : decode cX5_make 1 = .ok (.iload_n 1, 1) := by decide +kernel
theorem dX5_make_2 : decode cX5_make 2 = .ok (.iload_n 2, 1) := by decide +kernel
theorem dX5_make_3 : decode cX5_make 3 = .ok (.iconst 0, 1) := by decide +kernel
theorem dX5_make_4 : decode cX5_make 4 = .ok (.invokevirtual 96, 3) := by decide +kernel
theorem dX5_make_7 : decode cX5_make 7 = .ok (.ifCond .eq 25, 3) := by decide +kernel
theorem dX5_make_10 : decode cX5_make 10 = .ok (.iload_n 3, 1) := by decide +kernel
theorem dX5_make_11 : decode cX5_make 11 = .ok (.iconst 1, 1) := by decide +kernel
theorem dX5_make_12 : decode cX5_make 12 = .ok (.if_icmp .lt 20, 3) := by decide +kernel
theorem dX5_make_15 : decode cX5_make 15 = .ok (.iload_n 3, 1) := by decide +kernel
theorem dX5_make_16 : decode cX5_make 16 = .ok (.bipush 64, 2) := by decide +kernel
theorem dX5_make_18 : decode cX5_make 18 = .ok (.if_icmp .gt 14, 3) := by decide +kernel
theorem dX5_make_21 : decode cX5_make 21 = .ok (.iload 4, 2) := by decide +kernel
theorem dX5_make_23 : decode cX5_make 23 = .ok (.ifCond .lt 9, 3) := by decide +kernel
theorem dX5_make_26 : decode cX5_make 26 = .ok (.iload 4, 2) := by decide +kernel
theorem dX5_make_28 : decode cX5_make 28 = .ok (.iload_n 3, 1) := by decide +kernel
theorem dX5_make_29 : decode cX5_make 29 = .ok (.if_icmp .le 5, 3) := by decide +kernel
theorem dX5_make_32 : decode cX5_make 32 = .ok (.iconst (-1), 1) := by decide +kernel
theorem dX5_make_33 : decode cX5_make 33 = .ok (.ireturn, 1) := by decide +kernel
theorem dX5_make_34 : decode cX5_make 34 = .ok (.aload_n 0, 1) := by decide +kernel
theorem dX5_make_35 : decode cX5_make 35 = .ok (.iload_n 3, 1) := by decide +kernel
theorem dX5_make_36 : decode cX5_make 36 = .ok (.invokevirtual 121, 3) := by decide +kernel
theorem dX5_make_39 : decode cX5_make 39 = .ok (.istore 5, 2) := by decide +kernel
theorem dX5_make_41 : decode cX5_make 41 = .ok (.aload_n 0, 1) := by decide +kernel
theorem dX5_make_42 : decode cX5_make 42 = .ok (.getfield 103, 3) := by decide +kernel
theorem dX5_make_45 : decode cX5_make 45 = .ok (.ifCond .ne 18, 3) := by decide +kernel
theorem dX5_make_48 : decode cX5_make 48 = .ok (.aload_n 0, 1) := by decide +kernel
theorem dX5_make_49 : decode cX5_make 49 = .ok (.getfield 125, 3) := by decide +kernel
theorem dX5_make_52 : decode cX5_make 52 = .ok (.aload_n 0, 1) := by decide +kernel
theorem dX5_make_53 : decode cX5_make 53 = .ok (.getfield 77, 3) := by decide +kernel
theorem dX5_make_56 : decode cX5_make 56 = .ok (.if_icmp .lt 7, 3) := by decide +kernel
theorem dX5_make_59 : decode cX5_make 59 = .ok (.aload_n 0, 1) := by decide +kernel
theorem dX5_make_60 : decode cX5_make 60 = .ok (.invokevirtual 128, 3) := by decide +kernel
theorem dX5_make_63 : decode cX5_make 63 = .ok (.aload_n 0, 1) := by decide +kernel
theorem dX5_make_64 : decode cX5_make 64 = .ok (.getfield 103, 3) := by decide +kernel
theorem dX5_make_67 : decode cX5_make 67 = .ok (.ifCond .eq 10, 3) := by decide +kernel
theorem dX5_make_70 : decode cX5_make 70 = .ok (.aload_n 0, 1) := by decide +kernel
theorem dX5_make_71 : decode cX5_make 71 = .ok (.iload 5, 2) := by decide +kernel
theorem dX5_make_73 : decode cX5_make 73 = .ok (.invokevirtual 131, 3) := by decide +kernel
theorem dX5_make_76 : decode cX5_make 76 = .ok (.pop, 1) := by decide +kernel
theorem dX5_make_77 : decode cX5_make 77 = .ok (.aload_n 0, 1) := by decide +kernel
theorem dX5_make_78 : decode cX5_make 78 = .ok (.iload 5, 2) := by decide +kernel
theorem dX5_make_80 : decode cX5_make 80 = .ok (.invokevirtual 134, 3) := by decide +kernel
theorem dX5_make_83 : decode cX5_make 83 = .ok (.istore 6, 2) := by decide +kernel
theorem dX5_make_85 : decode cX5_make 85 = .ok (.iconst 0, 1) := by decide +kernel
theorem dX5_make_86 : decode cX5_make 86 = .ok (.istore 7, 2) := by decide +kernel
theorem dX5_make_88 : decode cX5_make 88 = .ok (.iload 7, 2) := by decide +kernel
theorem dX5_make_90 : decode cX5_make 90 = .ok (.iconst 2, 1) := by decide +kernel
theorem dX5_make_91 : decode cX5_make 91 = .ok (.if_icmp .ge 53, 3) := by decide +kernel
theorem dX5_make_94 : decode cX5_make 94 = .ok (.iload 6, 2) := by decide +kernel
theorem dX5_make_96 : decode cX5_make 96 = .ok (.ifCond .ge 48, 3) := by decide +kernel
theorem dX5_make_99 : decode cX5_make 99 = .ok (.iload 7, 2) := by decide +kernel
theorem dX5_make_101 : decode cX5_make 101 = .ok (.iconst 1, 1) := by decide +kernel
theorem dX5_make_102 : decode cX5_make 102 = .ok (.if_icmp .ne 7, 3) := by decide +kernel
theorem dX5_make_105 : decode cX5_make 105 = .ok (.aload_n 0, 1) := by decide +kernel
theorem dX5_make_106 : decode cX5_make 106 = .ok (.invokevirtual 128, 3) := by decide +kernel
theorem dX5_make_109 : decode cX5_make 109 = .ok (.aload_n 0, 1) := by decide +kernel
theorem dX5_make_110 : decode cX5_make 110 = .ok (.getfield 103, 3) := by decide +kernel
theorem dX5_make_113 : decode cX5_make 113 = .ok (.ifCond .eq 10, 3) := by decide +kernel
theorem dX5_make_116 : decode cX5_make 116 = .ok (.aload_n 0, 1) := by decide +kernel
theorem dX5_make_117 : decode cX5_make 117 = .ok (.ldc 137, 2) := by decide +kernel
theorem dX5_make_119 : decode cX5_make 119 = .ok (.invokevirtual 131, 3) := by decide +kernel
theorem dX5_make_122 : decode cX5_make 122 = .ok (.pop, 1) := by decide +kernel
theorem dX5_make_123 : decode cX5_make 123 = .ok (.aload_n 0, 1) := by decide +kernel
theorem dX5_make_124 : decode cX5_make 124 = .ok (.bipush 16, 2) := by decide +kernel
theorem dX5_make_126 : decode cX5_make 126 = .ok (.invokevirtual 138, 3) := by decide +kernel
theorem dX5_make_129 : decode cX5_make 129 = .ok (.pop, 1) := by decide +kernel
theorem dX5_make_130 : decode cX5_make 130 = .ok (.aload_n 0, 1) := by decide +kernel
theorem dX5_make_131 : decode cX5_make 131 = .ok (.iload 5, 2) := by decide +kernel
theorem dX5_make_133 : decode cX5_make 133 = .ok (.invokevirtual 134, 3) := by decide +kernel
theorem dX5_make_136 : decode cX5_make 136 = .ok (.istore 6, 2) := by decide +kernel
theorem dX5_make_138 : decode cX5_make 138 = .ok (.iinc 7 1, 3) := by decide +kernel
theorem dX5_make_141 : decode cX5_make 141 = .ok (.goto (-53), 3) := by decide +kernel
theorem dX5_make_144 : decode cX5_make 144 = .ok (.iload 6, 2) := by decide +kernel
theorem dX5_make_146 : decode cX5_make 146 = .ok (.ifCond .ge 6, 3) := by decide +kernel
theorem dX5_make_149 : decode cX5_make 149 = .ok (.bipush (-2), 2) := by decide +kernel
theorem dX5_make_151 : decode cX5_make 151 = .ok (.ireturn, 1) := by decide +kernel
theorem dX5_make_152 : decode cX5_make 152 = .ok (.aload_n 0, 1) := by decide +kernel
theorem dX5_make_153 : decode cX5_make 153 = .ok (.getfield 13, 3) := by decide +kernel
theorem dX5_make_156 : decode cX5_make 156 = .ok (.iload 6, 2) := by decide +kernel
theorem dX5_make_158 : decode cX5_make 158 = .ok (.iload_n 3, 1) := by decide +kernel
theorem dX5_make_159 : decode cX5_make 159 = .ok (.iastore, 1) := by decide +kernel
theorem dX5_make_160 : decode cX5_make 160 = .ok (.aload_n 0, 1) := by decide +kernel
theorem dX5_make_161 : decode cX5_make 161 = .ok (.getfield 16, 3) := by decide +kernel
theorem dX5_make_164 : decode cX5_make 164 = .ok (.iload 6, 2) := by decide +kernel
theorem dX5_make_166 : decode cX5_make 166 = .ok (.iload 4, 2) := by decide +kernel
theorem dX5_make_168 : decode cX5_make 168 = .ok (.iastore, 1) := by decide +kernel
theorem dX5_make_169 : decode cX5_make 169 = .ok (.aload_n 0, 1) := by decide +kernel
theorem dX5_make_170 : decode cX5_make 170 = .ok (.getfield 19, 3) := by decide +kernel
theorem dX5_make_173 : decode cX5_make 173 = .ok (.iload 6, 2) := by decide +kernel
theorem dX5_make_175 : decode cX5_make 175 = .ok (.aload_n 0, 1) := by decide +kernel
theorem dX5_make_176 : decode cX5_make 176 = .ok (.getfield 103, 3) := by decide +kernel
theorem dX5_make_179 : decode cX5_make 179 = .ok (.bastore, 1) := by decide +kernel
theorem dX5_make_180 : decode cX5_make 180 = .ok (.iconst 0, 1) := by decide +kernel
theorem dX5_make_181 : decode cX5_make 181 = .ok (.istore 7, 2) := by decide +kernel
theorem dX5_make_183 : decode cX5_make 183 = .ok (.iload 7, 2) := by decide +kernel
theorem dX5_make_185 : decode cX5_make 185 = .ok (.iload_n 3, 1) := by decide +kernel
theorem dX5_make_186 : decode cX5_make 186 = .ok (.if_icmp .ge 31, 3) := by decide +kernel
theorem dX5_make_189 : decode cX5_make 189 = .ok (.aload_n 0, 1) := by decide +kernel
theorem dX5_make_190 : decode cX5_make 190 = .ok (.getfield 7, 3) := by decide +kernel
theorem dX5_make_193 : decode cX5_make 193 = .ok (.iload 6, 2) := by decide +kernel
theorem dX5_make_195 : decode cX5_make 195 = .ok (.iload 7, 2) := by decide +kernel
theorem dX5_make_197 : decode cX5_make 197 = .ok (.iadd, 1) := by decide +kernel
theorem dX5_make_198 : decode cX5_make 198 = .ok (.iload 7, 2) := by decide +kernel
theorem dX5_make_200 : decode cX5_make 200 = .ok (.iload 4, 2) := by decide +kernel
theorem dX5_make_202 : decode cX5_make 202 = .ok (.if_icmp .ge 7, 3) := by decide +kernel
theorem dX5_make_205 : decode cX5_make 205 = .ok (.iconst (-1), 1) := by decide +kernel
theorem dX5_make_206 : decode cX5_make 206 = .ok (.goto 4, 3) := by decide +kernel
theorem dX5_make_209 : decode cX5_make 209 = .ok (.iconst 0, 1) := by decide +kernel
theorem dX5_make_210 : decode cX5_make 210 = .ok (.iastore, 1) := by decide +kernel
theorem dX5_make_211 : decode cX5_make 211 = .ok (.iinc 7 1, 3) := by decide +kernel
theorem dX5_make_214 : decode cX5_make 214 = .ok (.goto (-31), 3) := by decide +kernel
theorem dX5_make_217 : decode cX5_make 217 = .ok (.aload_n 0, 1) := by decide +kernel
theorem dX5_make_218 : decode cX5_make 218 = .ok (.dup, 1) := by decide +kernel
theorem dX5_make_219 : decode cX5_make 219 = .ok (.getfield 125, 3) := by decide +kernel
theorem dX5_make_222 : decode cX5_make 222 = .ok (.iload 5, 2) := by decide +kernel
theorem dX5_make_224 : decode cX5_make 224 = .ok (.iadd, 1) := by decide +kernel
theorem dX5_make_225 : decode cX5_make 225 = .ok (.putfield 125, 3) := by decide +kernel
theorem dX5_make_228 : decode cX5_make 228 = .ok (.aload_n 0, 1) := by decide +kernel
theorem dX5_make_229 : decode cX5_make 229 = .ok (.getfield 47, 3) := by decide +kernel
theorem dX5_make_232 : decode cX5_make 232 = .ok (.aload_n 0, 1) := by decide +kernel
theorem dX5_make_233 : decode cX5_make 233 = .ok (.iload_n 1, 1) := by decide +kernel
theorem dX5_make_234 : decode cX5_make 234 = .ok (.iload_n 2, 1) := by decide +kernel
theorem dX5_make_235 : decode cX5_make 235 = .ok (.invokevirtual 92, 3) := by decide +kernel
theorem dX5_make_238 : decode cX5_make 238 = .ok (.iload 6, 2) := by decide +kernel
theorem dX5_make_240 : decode cX5_make 240 = .ok (.iastore, 1) := by decide +kernel
theorem dX5_make_241 : decode cX5_make 241 = .ok (.iload 6, 2) := by decide +kernel
theorem dX5_make_243 : decode cX5_make 243 = .ok (.ireturn, 1) := by decide +kernel
abbrev cX5_set : ByteArray := prog_7_method_23_code
def yX5_set : MethodName := ⟨RX5, "set", "(IIII)Z"⟩
theorem dX5_set_0 : decode cX5_set 0 = .ok (.aload_n 0, 1) := by decide +kernel
theorem dX5_set_1 : decode cX5_set 1 = .ok (.iload_n 1, 1) := by decide +kernel
theorem dX5_set_2 : decode cX5_set 2 = .ok (.iload_n 2, 1) := by decide +kernel
theorem dX5_set_3 : decode cX5_set 3 = .ok (.invokevirtual 141, 3) := by decide +kernel
theorem dX5_set_6 : decode cX5_set 6 = .ok (.istore 5, 2) := by decide +kernel
theorem dX5_set_8 : decode cX5_set 8 = .ok (.iload 5, 2) := by decide +kernel
theorem dX5_set_10 : decode cX5_set 10 = .ok (.ifCond .lt 29, 3) := by decide +kernel
theorem dX5_set_13 : decode cX5_set 13 = .ok (.iload_n 3, 1) := by decide +kernel
theorem dX5_set_14 : decode cX5_set 14 = .ok (.ifCond .lt 25, 3) := by decide +kernel
theorem dX5_set_17 : decode cX5_set 17 = .ok (.iload_n 3, 1) := by decide +kernel
theorem dX5_set_18 : decode cX5_set 18 = .ok (.aload_n 0, 1) := by decide +kernel
theorem dX5_set_19 : decode cX5_set 19 = .ok (.getfield 16, 3) := by decide +kernel
theorem dX5_set_22 : decode cX5_set 22 = .ok (.iload 5, 2) := by decide +kernel
theorem dX5_set_24 : decode cX5_set 24 = .ok (.iaload, 1) := by decide +kernel
theorem dX5_set_25 : decode cX5_set 25 = .ok (.if_icmp .ge 14, 3) := by decide +kernel
theorem dX5_set_28 : decode cX5_set 28 = .ok (.aload_n 0, 1) := by decide +kernel
theorem dX5_set_29 : decode cX5_set 29 = .ok (.iload_n 1, 1) := by decide +kernel
theorem dX5_set_30 : decode cX5_set 30 = .ok (.iload 4, 2) := by decide +kernel
theorem dX5_set_32 : decode cX5_set 32 = .ok (.iconst 1, 1) := by decide +kernel
theorem dX5_set_33 : decode cX5_set 33 = .ok (.invokevirtual 96, 3) := by decide +kernel
theorem dX5_set_36 : decode cX5_set 36 = .ok (.ifCond .ne 5, 3) := by decide +kernel
theorem dX5_set_39 : decode cX5_set 39 = .ok (.iconst 0, 1) := by decide +kernel
theorem dX5_set_40 : decode cX5_set 40 = .ok (.ireturn, 1) := by decide +kernel
theorem dX5_set_41 : decode cX5_set 41 = .ok (.aload_n 0, 1) := by decide +kernel
theorem dX5_set_42 : decode cX5_set 42 = .ok (.iload_n 1, 1) := by decide +kernel
theorem dX5_set_43 : decode cX5_set 43 = .ok (.iload 4, 2) := by decide +kernel
theorem dX5_set_45 : decode cX5_set 45 = .ok (.invokevirtual 100, 3) := by decide +kernel
theorem dX5_set_48 : decode cX5_set 48 = .ok (.istore 6, 2) := by decide +kernel
theorem dX5_set_50 : decode cX5_set 50 = .ok (.aload_n 0, 1) := by decide +kernel
theorem dX5_set_51 : decode cX5_set 51 = .ok (.aload_n 0, 1) := by decide +kernel
theorem dX5_set_52 : decode cX5_set 52 = .ok (.getfield 7, 3) := by decide +kernel
theorem dX5_set_55 : decode cX5_set 55 = .ok (.iload 5, 2) := by decide +kernel
theorem dX5_set_57 : decode cX5_set 57 = .ok (.iload_n 3, 1) := by decide +kernel
theorem dX5_set_58 : decode cX5_set 58 = .ok (.iadd, 1) := by decide +kernel
theorem dX5_set_59 : decode cX5_set 59 = .ok (.iaload, 1) := by decide +kernel
theorem dX5_set_60 : decode cX5_set 60 = .ok (.invokevirtual 144, 3) := by decide +kernel
theorem dX5_set_63 : decode cX5_set 63 = .ok (.aload_n 0, 1) := by decide +kernel
theorem dX5_set_64 : decode cX5_set 64 = .ok (.iload 6, 2) := by decide +kernel
theorem dX5_set_66 : decode cX5_set 66 = .ok (.invokevirtual 144, 3) := by decide +kernel
theorem dX5_set_69 : decode cX5_set 69 = .ok (.aload_n 0, 1) := by decide +kernel
theorem dX5_set_70 : decode cX5_set 70 = .ok (.getfield 7, 3) := by decide +kernel
theorem dX5_set_73 : decode cX5_set 73 = .ok (.iload 5, 2) := by decide +kernel
theorem dX5_set_75 : decode cX5_set 75 = .ok (.iload_n 3, 1) := by decide +kernel
theorem dX5_set_76 : decode cX5_set 76 = .ok (.iadd, 1) := by decide +kernel
theorem dX5_set_77 : decode cX5_set 77 = .ok (.iload 6, 2) := by decide +kernel
theorem dX5_set_79 : decode cX5_set 79 = .ok (.iastore, 1) := by decide +kernel
theorem dX5_set_80 : decode cX5_set 80 = .ok (.iconst 1, 1) := by decide +kernel
theorem dX5_set_81 : decode cX5_set 81 = .ok (.ireturn, 1) := by decide +kernel
abbrev cX5_get : ByteArray := prog_7_method_24_code
def yX5_get : MethodName := ⟨RX5, "get", "(IIII)Z"⟩
theorem dX5_get_0 : decode cX5_get 0 = .ok (.aload_n 0, 1) := by decide +kernel
theorem dX5_get_1 : decode cX5_get 1 = .ok (.iload_n 1, 1) := by decide +kernel
theorem dX5_get_2 : decode cX5_get 2 = .ok (.iload_n 3, 1) := by decide +kernel
theorem dX5_get_3 : decode cX5_get 3 = .ok (.invokevirtual 141, 3) := by decide +kernel
theorem dX5_get_6 : decode cX5_get 6 = .ok (.istore 5, 2) := by decide +kernel
theorem dX5_get_8 : decode cX5_get 8 = .ok (.iload 5, 2) := by decide +kernel
theorem dX5_get_10 : decode cX5_get 10 = .ok (.ifCond .lt 30, 3) := by decide +kernel
theorem dX5_get_13 : decode cX5_get 13 = .ok (.iload 4, 2) := by decide +kernel
theorem dX5_get_15 : decode cX5_get 15 = .ok (.ifCond .lt 25, 3) := by decide +kernel
theorem dX5_get_18 : decode cX5_get 18 = .ok (.iload 4, 2) := by decide +kernel
theorem dX5_get_20 : decode cX5_get 20 = .ok (.aload_n 0, 1) := by decide +kernel
theorem dX5_get_21 : decode cX5_get 21 = .ok (.getfield 16, 3) := by decide +kernel
theorem dX5_get_24 : decode cX5_get 24 = .ok (.iload 5, 2) := by decide +kernel
theorem dX5_get_26 : decode cX5_get 26 = .ok (.iaload, 1) := by decide +kernel
theorem dX5_get_27 : decode cX5_get 27 = .ok (.if_icmp .ge 13, 3) := by decide +kernel
theorem dX5_get_30 : decode cX5_get 30 = .ok (.aload_n 0, 1) := by decide +kernel
theorem dX5_get_31 : decode cX5_get 31 = .ok (.iload_n 1, 1) := by decide +kernel
theorem dX5_get_32 : decode cX5_get 32 = .ok (.iload_n 2, 1) := by decide +kernel
theorem dX5_get_33 : decode cX5_get 33 = .ok (.iconst 0, 1) := by decide +kernel
theorem dX5_get_34 : decode cX5_get 34 = .ok (.invokevirtual 96, 3) := by decide +kernel
theorem dX5_get_37 : decode cX5_get 37 = .ok (.ifCond .ne 5, 3) := by decide +kernel
theorem dX5_get_40 : decode cX5_get 40 = .ok (.iconst 0, 1) := by decide +kernel
theorem dX5_get_41 : decode cX5_get 41 = .ok (.ireturn, 1) := by decide +kernel
theorem dX5_get_42 : decode cX5_get 42 = .ok (.aload_n 0, 1) := by decide +kernel
theorem dX5_get_43 : decode cX5_get 43 = .ok (.getfield 47, 3) := by decide +kernel
theorem dX5_get_46 : decode cX5_get 46 = .ok (.aload_n 0, 1) := by decide +kernel
theorem dX5_get_47 : decode cX5_get 47 = .ok (.iload_n 1, 1) := by decide +kernel
theorem dX5_get_48 : decode cX5_get 48 = .ok (.iload_n 2, 1) := by decide +kernel
theorem dX5_get_49 : decode cX5_get 49 = .ok (.invokevirtual 92, 3) := by decide +kernel
theorem dX5_get_52 : decode cX5_get 52 = .ok (.aload_n 0, 1) := by decide +kernel
theorem dX5_get_53 : decode cX5_get 53 = .ok (.getfield 7, 3) := by decide +kernel
theorem dX5_get_56 : decode cX5_get 56 = .ok (.iload 5, 2) := by decide +kernel
theorem dX5_get_58 : decode cX5_get 58 = .ok (.iload 4, 2) := by decide +kernel
theorem dX5_get_60 : decode cX5_get 60 = .ok (.iadd, 1) := by decide +kernel
theorem dX5_get_61 : decode cX5_get 61 = .ok (.iaload, 1) := by decide +kernel
theorem dX5_get_62 : decode cX5_get 62 = .ok (.iastore, 1) := by decide +kernel
theorem dX5_get_63 : decode cX5_get 63 = .ok (.iconst 1, 1) := by decide +kernel
theorem dX5_get_64 : decode cX5_get 64 = .ok (.ireturn, 1) := by decide +kernel
abbrev cX5_store : ByteArray := prog_7_method_25_code
def yX5_store : MethodName := ⟨RX5, "store", "(IIII)Z"⟩
theorem dX5_store_0 : decode cX5_store 0 = .ok (.aload_n 0, 1) := by decide +kernel
theorem dX5_store_1 : decode cX5_store 1 = .ok (.iload_n 1, 1) := by decide +kernel
theorem dX5_store_2 : decode cX5_store 2 = .ok (.iload_n 2, 1) := by decide +kernel
theorem dX5_store_3 : decode cX5_store 3 = .ok (.invokevirtual 141, 3) := by decide +kernel
theorem dX5_store_6 : decode cX5_store 6 = .ok (.istore 5, 2) := by decide +kernel
theorem dX5_store_8 : decode cX5_store 8 = .ok (.iload 5, 2) := by decide +kernel
theorem dX5_store_10 : decode cX5_store 10 = .ok (.ifCond .lt 25, 3) := by decide +kernel
theorem dX5_store_13 : decode cX5_store 13 = .ok (.iload_n 3, 1) := by decide +kernel
theorem dX5_store_14 : decode cX5_store 14 = .ok (.aload_n 0, 1) := by decide +kernel
theorem dX5_store_15 : decode cX5_store 15 = .ok (.getfield 16, 3) := by decide +kernel
theorem dX5_store_18 : decode cX5_store 18 = .ok (.iload 5, 2) := by decide +kernel
theorem dX5_store_20 : decode cX5_store 20 = .ok (.iaload, 1) := by decide +kernel
theorem dX5_store_21 : decode cX5_store 21 = .ok (.if_icmp .lt 14, 3) := by decide +kernel
theorem dX5_store_24 : decode cX5_store 24 = .ok (.iload_n 3, 1) := by decide +kernel
theorem dX5_store_25 : decode cX5_store 25 = .ok (.aload_n 0, 1) := by decide +kernel
theorem dX5_store_26 : decode cX5_store 26 = .ok (.getfield 13, 3) := by decide +kernel
theorem dX5_store_29 : decode cX5_store 29 = .ok (.iload 5, 2) := by decide +kernel
theorem dX5_store_31 : decode cX5_store 31 = .ok (.iaload, 1) := by decide +kernel
theorem dX5_store_32 : decode cX5_store 32 = .ok (.if_icmp .lt 5, 3) := by decide +kernel
theorem dX5_store_35 : decode cX5_store 35 = .ok (.iconst 0, 1) := by decide +kernel
theorem dX5_store_36 : decode cX5_store 36 = .ok (.ireturn, 1) := by decide +kernel
theorem dX5_store_37 : decode cX5_store 37 = .ok (.aload_n 0, 1) := by decide +kernel
theorem dX5_store_38 : decode cX5_store 38 = .ok (.getfield 7, 3) := by decide +kernel
theorem dX5_store_41 : decode cX5_store 41 = .ok (.iload 5, 2) := by decide +kernel
theorem dX5_store_43 : decode cX5_store 43 = .ok (.iload_n 3, 1) := by decide +kernel
theorem dX5_store_44 : decode cX5_store 44 = .ok (.iadd, 1) := by decide +kernel
theorem dX5_store_45 : decode cX5_store 45 = .ok (.iload 4, 2) := by decide +kernel
theorem dX5_store_47 : decode cX5_store 47 = .ok (.iastore, 1) := by decide +kernel
theorem dX5_store_48 : decode cX5_store 48 = .ok (.iconst 1, 1) := by decide +kernel
theorem dX5_store_49 : decode cX5_store 49 = .ok (.ireturn, 1) := by decide +kernel
abbrev cX5_load : ByteArray := prog_7_method_26_code
def yX5_load : MethodName := ⟨RX5, "load", "(III)I"⟩
theorem dX5_load_0 : decode cX5_load 0 = .ok (.aload_n 0, 1) := by decide +kernel
theorem dX5_load_1 : decode cX5_load 1 = .ok (.iload_n 1, 1) := by decide +kernel
theorem dX5_load_2 : decode cX5_load 2 = .ok (.iload_n 2, 1) := by decide +kernel
theorem dX5_load_3 : decode cX5_load 3 = .ok (.invokevirtual 141, 3) := by decide +kernel
theorem dX5_load_6 : decode cX5_load 6 = .ok (.istore 4, 2) := by decide +kernel
theorem dX5_load_8 : decode cX5_load 8 = .ok (.iload 4, 2) := by decide +kernel
theorem dX5_load_10 : decode cX5_load 10 = .ok (.ifCond .lt 25, 3) := by decide +kernel
theorem dX5_load_13 : decode cX5_load 13 = .ok (.iload_n 3, 1) := by decide +kernel
theorem dX5_load_14 : decode cX5_load 14 = .ok (.aload_n 0, 1) := by decide +kernel
theorem dX5_load_15 : decode cX5_load 15 = .ok (.getfield 16, 3) := by decide +kernel
theorem dX5_load_18 : decode cX5_load 18 = .ok (.iload 4, 2) := by decide +kernel
theorem dX5_load_20 : decode cX5_load 20 = .ok (.iaload, 1) := by decide +kernel
theorem dX5_load_21 : decode cX5_load 21 = .ok (.if_icmp .lt 14, 3) := by decide +kernel
theorem dX5_load_24 : decode cX5_load 24 = .ok (.iload_n 3, 1) := by decide +kernel
theorem dX5_load_25 : decode cX5_load 25 = .ok (.aload_n 0, 1) := by decide +kernel
theorem dX5_load_26 : decode cX5_load 26 = .ok (.getfield 13, 3) := by decide +kernel
theorem dX5_load_29 : decode cX5_load 29 = .ok (.iload 4, 2) := by decide +kernel
theorem dX5_load_31 : decode cX5_load 31 = .ok (.iaload, 1) := by decide +kernel
theorem dX5_load_32 : decode cX5_load 32 = .ok (.if_icmp .lt 7, 3) := by decide +kernel
theorem dX5_load_35 : decode cX5_load 35 = .ok (.iconst 0, 1) := by decide +kernel
theorem dX5_load_36 : decode cX5_load 36 = .ok (.goto 12, 3) := by decide +kernel
theorem dX5_load_39 : decode cX5_load 39 = .ok (.aload_n 0, 1) := by decide +kernel
theorem dX5_load_40 : decode cX5_load 40 = .ok (.getfield 7, 3) := by decide +kernel
theorem dX5_load_43 : decode cX5_load 43 = .ok (.iload 4, 2) := by decide +kernel
theorem dX5_load_45 : decode cX5_load 45 = .ok (.iload_n 3, 1) := by decide +kernel
theorem dX5_load_46 : decode cX5_load 46 = .ok (.iadd, 1) := by decide +kernel
theorem dX5_load_47 : decode cX5_load 47 = .ok (.iaload, 1) := by decide +kernel
theorem dX5_load_48 : decode cX5_load 48 = .ok (.ireturn, 1) := by decide +kernel
abbrev cX5_firstAt : ByteArray := prog_7_method_27_code
def yX5_firstAt : MethodName := ⟨RX5, "firstAt", "(II)I"⟩
theorem dX5_firstAt_0 : decode cX5_firstAt 0 = .ok (.iconst (-1), 1) := by decide +kernel
theorem dX5_firstAt_1 : decode cX5_firstAt 1 = .ok (.istore_n 3, 1) := by decide +kernel
theorem dX5_firstAt_2 : decode cX5_firstAt 2 = .ok (.iconst 0, 1) := by decide +kernel
theorem dX5_firstAt_3 : decode cX5_firstAt 3 = .ok (.istore 4, 2) := by decide +kernel
theorem dX5_firstAt_5 : decode cX5_firstAt 5 = .ok (.iload 4, 2) := by decide +kernel
theorem dX5_firstAt_7 : decode cX5_firstAt 7 = .ok (.bipush 6, 2) := by decide +kernel
theorem dX5_firstAt_9 : decode cX5_firstAt 9 = .ok (.if_icmp .ge 77, 3) := by decide +kernel
theorem dX5_firstAt_12 : decode cX5_firstAt 12 = .ok (.aload_n 0, 1) := by decide +kernel
theorem dX5_firstAt_13 : decode cX5_firstAt 13 = .ok (.getfield 38, 3) := by decide +kernel
theorem dX5_firstAt_16 : decode cX5_firstAt 16 = .ok (.iload 4, 2) := by decide +kernel
theorem dX5_firstAt_18 : decode cX5_firstAt 18 = .ok (.iaload, 1) := by decide +kernel
theorem dX5_firstAt_19 : decode cX5_firstAt 19 = .ok (.iload_n 2, 1) := by decide +kernel
theorem dX5_firstAt_20 : decode cX5_firstAt 20 = .ok (.if_icmp .ne 29, 3) := by decide +kernel
theorem dX5_firstAt_23 : decode cX5_firstAt 23 = .ok (.aload_n 0, 1) := by decide +kernel
theorem dX5_firstAt_24 : decode cX5_firstAt 24 = .ok (.getfield 59, 3) := by decide +kernel
theorem dX5_firstAt_27 : decode cX5_firstAt 27 = .ok (.iload 4, 2) := by decide +kernel
theorem dX5_firstAt_29 : decode cX5_firstAt 29 = .ok (.iaload, 1) := by decide +kernel
theorem dX5_firstAt_30 : decode cX5_firstAt 30 = .ok (.iload_n 1, 1) := by decide +kernel
theorem dX5_firstAt_31 : decode cX5_firstAt 31 = .ok (.if_icmp .eq 14, 3) := by decide +kernel
theorem dX5_firstAt_34 : decode cX5_firstAt 34 = .ok (.aload_n 0, 1) := by decide +kernel
theorem dX5_firstAt_35 : decode cX5_firstAt 35 = .ok (.getfield 62, 3) := by decide +kernel
theorem dX5_firstAt_38 : decode cX5_firstAt 38 = .ok (.iload 4, 2) := by decide +kernel
theorem dX5_firstAt_40 : decode cX5_firstAt 40 = .ok (.iaload, 1) := by decide +kernel
theorem dX5_firstAt_41 : decode cX5_firstAt 41 = .ok (.iload_n 1, 1) := by decide +kernel
theorem dX5_firstAt_42 : decode cX5_firstAt 42 = .ok (.if_icmp .ne 7, 3) := by decide +kernel
theorem dX5_firstAt_45 : decode cX5_firstAt 45 = .ok (.iconst 1, 1) := by decide +kernel
theorem dX5_firstAt_46 : decode cX5_firstAt 46 = .ok (.goto 4, 3) := by decide +kernel
theorem dX5_firstAt_49 : decode cX5_firstAt 49 = .ok (.iconst 0, 1) := by decide +kernel
theorem dX5_firstAt_50 : decode cX5_firstAt 50 = .ok (.istore 5, 2) := by decide +kernel
theorem dX5_firstAt_52 : decode cX5_firstAt 52 = .ok (.iload 5, 2) := by decide +kernel
theorem dX5_firstAt_54 : decode cX5_firstAt 54 = .ok (.ifCond .eq 26, 3) := by decide +kernel
theorem dX5_firstAt_57 : decode cX5_firstAt 57 = .ok (.iload_n 3, 1) := by decide +kernel
theorem dX5_firstAt_58 : decode cX5_firstAt 58 = .ok (.ifCond .lt 19, 3) := by decide +kernel
theorem dX5_firstAt_61 : decode cX5_firstAt 61 = .ok (.aload_n 0, 1) := by decide +kernel
theorem dX5_firstAt_62 : decode cX5_firstAt 62 = .ok (.getfield 56, 3) := by decide +kernel
theorem dX5_firstAt_65 : decode cX5_firstAt 65 = .ok (.iload 4, 2) := by decide +kernel
theorem dX5_firstAt_67 : decode cX5_firstAt 67 = .ok (.iaload, 1) := by decide +kernel
theorem dX5_firstAt_68 : decode cX5_firstAt 68 = .ok (.aload_n 0, 1) := by decide +kernel
theorem dX5_firstAt_69 : decode cX5_firstAt 69 = .ok (.getfield 56, 3) := by decide +kernel
theorem dX5_firstAt_72 : decode cX5_firstAt 72 = .ok (.iload_n 3, 1) := by decide +kernel
theorem dX5_firstAt_73 : decode cX5_firstAt 73 = .ok (.iaload, 1) := by decide +kernel
theorem dX5_firstAt_74 : decode cX5_firstAt 74 = .ok (.if_icmp .ge 6, 3) := by decide +kernel
theorem dX5_firstAt_77 : decode cX5_firstAt 77 = .ok (.iload 4, 2) := by decide +kernel
theorem dX5_firstAt_79 : decode cX5_firstAt 79 = .ok (.istore_n 3, 1) := by decide +kernel
theorem dX5_firstAt_80 : decode cX5_firstAt 80 = .ok (.iinc 4 1, 3) := by decide +kernel
theorem dX5_firstAt_83 : decode cX5_firstAt 83 = .ok (.goto (-78), 3) := by decide +kernel
theorem dX5_firstAt_86 : decode cX5_firstAt 86 = .ok (.iload_n 3, 1) := by decide +kernel
theorem dX5_firstAt_87 : decode cX5_firstAt 87 = .ok (.ireturn, 1) := by decide +kernel
abbrev cX5_waitFor : ByteArray := prog_7_method_28_code
def yX5_waitFor : MethodName := ⟨RX5, "waitFor", "(IIIII)V"⟩
theorem dX5_waitFor_0 : decode cX5_waitFor 0 = .ok (.aload_n 0, 1) := by decide +kernel
theorem dX5_waitFor_1 : decode cX5_waitFor 1 = .ok (.dup, 1) := by decide +kernel
theorem dX5_waitFor_2 : decode cX5_waitFor 2 = .ok (.getfield 147, 3) := by decide +kernel
theorem dX5_waitFor_5 : decode cX5_waitFor 5 = .ok (.iconst 1, 1) := by decide +kernel
theorem dX5_waitFor_6 : decode cX5_waitFor 6 = .ok (.iadd, 1) := by decide +kernel
theorem dX5_waitFor_7 : decode cX5_waitFor 7 = .ok (.putfield 147, 3) := by decide +kernel
theorem dX5_waitFor_10 : decode cX5_waitFor 10 = .ok (.aload_n 0, 1) := by decide +kernel
theorem dX5_waitFor_11 : decode cX5_waitFor 11 = .ok (.getfield 38, 3) := by decide +kernel
theorem dX5_waitFor_14 : decode cX5_waitFor 14 = .ok (.iload_n 1, 1) := by decide +kernel
theorem dX5_waitFor_15 : decode cX5_waitFor 15 = .ok (.iload_n 2, 1) := by decide +kernel
theorem dX5_waitFor_16 : decode cX5_waitFor 16 = .ok (.iastore, 1) := by decide +kernel
theorem dX5_waitFor_17 : decode cX5_waitFor 17 = .ok (.aload_n 0, 1) := by decide +kernel
theorem dX5_waitFor_18 : decode cX5_waitFor 18 = .ok (.getfield 56, 3) := by decide +kernel
theorem dX5_waitFor_21 : decode cX5_waitFor 21 = .ok (.iload_n 1, 1) := by decide +kernel
theorem dX5_waitFor_22 : decode cX5_waitFor 22 = .ok (.aload_n 0, 1) := by decide +kernel
theorem dX5_waitFor_23 : decode cX5_waitFor 23 = .ok (.getfield 147, 3) := by decide +kernel
theorem dX5_waitFor_26 : decode cX5_waitFor 26 = .ok (.iastore, 1) := by decide +kernel
theorem dX5_waitFor_27 : decode cX5_waitFor 27 = .ok (.aload_n 0, 1) := by decide +kernel
theorem dX5_waitFor_28 : decode cX5_waitFor 28 = .ok (.getfield 65, 3) := by decide +kernel
theorem dX5_waitFor_31 : decode cX5_waitFor 31 = .ok (.iload_n 1, 1) := by decide +kernel
theorem dX5_waitFor_32 : decode cX5_waitFor 32 = .ok (.iload_n 3, 1) := by decide +kernel
theorem dX5_waitFor_33 : decode cX5_waitFor 33 = .ok (.iastore, 1) := by decide +kernel
theorem dX5_waitFor_34 : decode cX5_waitFor 34 = .ok (.aload_n 0, 1) := by decide +kernel
theorem dX5_waitFor_35 : decode cX5_waitFor 35 = .ok (.getfield 59, 3) := by decide +kernel
theorem dX5_waitFor_38 : decode cX5_waitFor 38 = .ok (.iload_n 1, 1) := by decide +kernel
theorem dX5_waitFor_39 : decode cX5_waitFor 39 = .ok (.iload 4, 2) := by decide +kernel
theorem dX5_waitFor_41 : decode cX5_waitFor 41 = .ok (.iastore, 1) := by decide +kernel
theorem dX5_waitFor_42 : decode cX5_waitFor 42 = .ok (.aload_n 0, 1) := by decide +kernel
theorem dX5_waitFor_43 : decode cX5_waitFor 43 = .ok (.getfield 62, 3) := by decide +kernel
theorem dX5_waitFor_46 : decode cX5_waitFor 46 = .ok (.iload_n 1, 1) := by decide +kernel
theorem dX5_waitFor_47 : decode cX5_waitFor 47 = .ok (.iload 5, 2) := by decide +kernel
theorem dX5_waitFor_49 : decode cX5_waitFor 49 = .ok (.iastore, 1) := by decide +kernel
theorem dX5_waitFor_50 : decode cX5_waitFor 50 = .ok (.return_, 1) := by decide +kernel
abbrev cX5_hand : ByteArray := prog_7_method_29_code
def yX5_hand : MethodName := ⟨RX5, "hand", "(IIII)V"⟩
theorem dX5_hand_0 : decode cX5_hand 0 = .ok (.aload_n 0, 1) := by decide +kernel
theorem dX5_hand_1 : decode cX5_hand 1 = .ok (.getfield 47, 3) := by decide +kernel
theorem dX5_hand_4 : decode cX5_hand 4 = .ok (.aload_n 0, 1) := by decide +kernel
theorem dX5_hand_5 : decode cX5_hand 5 = .ok (.iload_n 1, 1) := by decide +kernel
theorem dX5_hand_6 : decode cX5_hand 6 = .ok (.iload_n 2, 1) := by decide +kernel
theorem dX5_hand_7 : decode cX5_hand 7 = .ok (.invokevirtual 92, 3) := by decide +kernel
theorem dX5_hand_10 : decode cX5_hand 10 = .ok (.iload_n 3, 1) := by decide +kernel
theorem dX5_hand_11 : decode cX5_hand 11 = .ok (.iastore, 1) := by decide +kernel
theorem dX5_hand_12 : decode cX5_hand 12 = .ok (.aload_n 0, 1) := by decide +kernel
theorem dX5_hand_13 : decode cX5_hand 13 = .ok (.getfield 68, 3) := by decide +kernel
theorem dX5_hand_16 : decode cX5_hand 16 = .ok (.iload_n 1, 1) := by decide +kernel
theorem dX5_hand_17 : decode cX5_hand 17 = .ok (.iload 4, 2) := by decide +kernel
theorem dX5_hand_19 : decode cX5_hand 19 = .ok (.iastore, 1) := by decide +kernel
theorem dX5_hand_20 : decode cX5_hand 20 = .ok (.aload_n 0, 1) := by decide +kernel
theorem dX5_hand_21 : decode cX5_hand 21 = .ok (.getfield 38, 3) := by decide +kernel
theorem dX5_hand_24 : decode cX5_hand 24 = .ok (.iload_n 1, 1) := by decide +kernel
theorem dX5_hand_25 : decode cX5_hand 25 = .ok (.iconst 1, 1) := by decide +kernel
theorem dX5_hand_26 : decode cX5_hand 26 = .ok (.iastore, 1) := by decide +kernel
theorem dX5_hand_27 : decode cX5_hand 27 = .ok (.return_, 1) := by decide +kernel
abbrev cX5_send : ByteArray := prog_7_method_30_code
def yX5_send : MethodName := ⟨RX5, "send", "(III)I"⟩
theorem dX5_send_0 : decode cX5_send 0 = .ok (.aload_n 0, 1) := by decide +kernel
theorem dX5_send_1 : decode cX5_send 1 = .ok (.iload_n 1, 1) := by decide +kernel
theorem dX5_send_2 : decode cX5_send 2 = .ok (.iload_n 2, 1) := by decide +kernel
theorem dX5_send_3 : decode cX5_send 3 = .ok (.iconst 0, 1) := by decide +kernel
theorem dX5_send_4 : decode cX5_send 4 = .ok (.invokevirtual 96, 3) := by decide +kernel
theorem dX5_send_7 : decode cX5_send 7 = .ok (.ifCond .eq 12, 3) := by decide +kernel
theorem dX5_send_10 : decode cX5_send 10 = .ok (.iload_n 3, 1) := by decide +kernel
theorem dX5_send_11 : decode cX5_send 11 = .ok (.ifCond .lt 8, 3) := by decide +kernel
theorem dX5_send_14 : decode cX5_send 14 = .ok (.iload_n 3, 1) := by decide +kernel
theorem dX5_send_15 : decode cX5_send 15 = .ok (.iconst 3, 1) := by decide +kernel
theorem dX5_send_16 : decode cX5_send 16 = .ok (.if_icmp .le 5, 3) := by decide +kernel
theorem dX5_send_19 : decode cX5_send 19 = .ok (.iconst (-1), 1) := by decide +kernel
theorem dX5_send_20 : decode cX5_send 20 = .ok (.ireturn, 1) := by decide +kernel
theorem dX5_send_21 : decode cX5_send 21 = .ok (.aload_n 0, 1) := by decide +kernel
theorem dX5_send_22 : decode cX5_send 22 = .ok (.iload_n 1, 1) := by decide +kernel
theorem dX5_send_23 : decode cX5_send 23 = .ok (.iload_n 2, 1) := by decide +kernel
theorem dX5_send_24 : decode cX5_send 24 = .ok (.invokevirtual 100, 3) := by decide +kernel
theorem dX5_send_27 : decode cX5_send 27 = .ok (.istore 4, 2) := by decide +kernel
theorem dX5_send_29 : decode cX5_send 29 = .ok (.aload_n 0, 1) := by decide +kernel
theorem dX5_send_30 : decode cX5_send 30 = .ok (.iload_n 3, 1) := by decide +kernel
theorem dX5_send_31 : decode cX5_send 31 = .ok (.iconst 3, 1) := by decide +kernel
theorem dX5_send_32 : decode cX5_send 32 = .ok (.invokevirtual 150, 3) := by decide +kernel
theorem dX5_send_35 : decode cX5_send 35 = .ok (.istore 5, 2) := by decide +kernel
theorem dX5_send_37 : decode cX5_send 37 = .ok (.iload 5, 2) := by decide +kernel
theorem dX5_send_39 : decode cX5_send 39 = .ok (.ifCond .lt 27, 3) := by decide +kernel
theorem dX5_send_42 : decode cX5_send 42 = .ok (.aload_n 0, 1) := by decide +kernel
theorem dX5_send_43 : decode cX5_send 43 = .ok (.iload 4, 2) := by decide +kernel
theorem dX5_send_45 : decode cX5_send 45 = .ok (.invokevirtual 144, 3) := by decide +kernel
theorem dX5_send_48 : decode cX5_send 48 = .ok (.aload_n 0, 1) := by decide +kernel
theorem dX5_send_49 : decode cX5_send 49 = .ok (.iload 5, 2) := by decide +kernel
theorem dX5_send_51 : decode cX5_send 51 = .ok (.aload_n 0, 1) := by decide +kernel
theorem dX5_send_52 : decode cX5_send 52 = .ok (.getfield 65, 3) := by decide +kernel
theorem dX5_send_55 : decode cX5_send 55 = .ok (.iload 5, 2) := by decide +kernel
theorem dX5_send_57 : decode cX5_send 57 = .ok (.iaload, 1) := by decide +kernel
theorem dX5_send_58 : decode cX5_send 58 = .ok (.iload 4, 2) := by decide +kernel
theorem dX5_send_60 : decode cX5_send 60 = .ok (.iload_n 3, 1) := by decide +kernel
theorem dX5_send_61 : decode cX5_send 61 = .ok (.invokevirtual 153, 3) := by decide +kernel
theorem dX5_send_64 : decode cX5_send 64 = .ok (.iload_n 3, 1) := by decide +kernel
theorem dX5_send_65 : decode cX5_send 65 = .ok (.ireturn, 1) := by decide +kernel
theorem dX5_send_66 : decode cX5_send 66 = .ok (.aload_n 0, 1) := by decide +kernel
theorem dX5_send_67 : decode cX5_send 67 = .ok (.getfield 74, 3) := by decide +kernel
theorem dX5_send_70 : decode cX5_send 70 = .ok (.iload_n 3, 1) := by decide +kernel
theorem dX5_send_71 : decode cX5_send 71 = .ok (.iaload, 1) := by decide +kernel
theorem dX5_send_72 : decode cX5_send 72 = .ok (.iload_n 3, 1) := by decide +kernel
theorem dX5_send_73 : decode cX5_send 73 = .ok (.if_icmp .ge 12, 3) := by decide +kernel
theorem dX5_send_76 : decode cX5_send 76 = .ok (.aload_n 0, 1) := by decide +kernel
theorem dX5_send_77 : decode cX5_send 77 = .ok (.iload_n 3, 1) := by decide +kernel
theorem dX5_send_78 : decode cX5_send 78 = .ok (.iload 4, 2) := by decide +kernel
theorem dX5_send_80 : decode cX5_send 80 = .ok (.invokevirtual 157, 3) := by decide +kernel
theorem dX5_send_83 : decode cX5_send 83 = .ok (.iload_n 3, 1) := by decide +kernel
theorem dX5_send_84 : decode cX5_send 84 = .ok (.ireturn, 1) := by decide +kernel
theorem dX5_send_85 : decode cX5_send 85 = .ok (.aload_n 0, 1) := by decide +kernel
theorem dX5_send_86 : decode cX5_send 86 = .ok (.iload_n 1, 1) := by decide +kernel
theorem dX5_send_87 : decode cX5_send 87 = .ok (.iconst 2, 1) := by decide +kernel
theorem dX5_send_88 : decode cX5_send 88 = .ok (.iload_n 2, 1) := by decide +kernel
theorem dX5_send_89 : decode cX5_send 89 = .ok (.iload_n 3, 1) := by decide +kernel
theorem dX5_send_90 : decode cX5_send 90 = .ok (.iload_n 3, 1) := by decide +kernel
theorem dX5_send_91 : decode cX5_send 91 = .ok (.invokevirtual 160, 3) := by decide +kernel
theorem dX5_send_94 : decode cX5_send 94 = .ok (.iconst 4, 1) := by decide +kernel
theorem dX5_send_95 : decode cX5_send 95 = .ok (.ireturn, 1) := by decide +kernel
abbrev cX5_enter : ByteArray := prog_7_method_31_code
def yX5_enter : MethodName := ⟨RX5, "enter", "(II)V"⟩
theorem dX5_enter_0 : decode cX5_enter 0 = .ok (.aload_n 0, 1) := by decide +kernel
theorem dX5_enter_1 : decode cX5_enter 1 = .ok (.iload_n 2, 1) := by decide +kernel
theorem dX5_enter_2 : decode cX5_enter 2 = .ok (.invokevirtual 144, 3) := by decide +kernel
theorem dX5_enter_5 : decode cX5_enter 5 = .ok (.aload_n 0, 1) := by decide +kernel
theorem dX5_enter_6 : decode cX5_enter 6 = .ok (.getfield 71, 3) := by decide +kernel
theorem dX5_enter_9 : decode cX5_enter 9 = .ok (.iconst 4, 1) := by decide +kernel
theorem dX5_enter_10 : decode cX5_enter 10 = .ok (.iload_n 1, 1) := by decide +kernel
theorem dX5_enter_11 : decode cX5_enter 11 = .ok (.imul, 1) := by decide +kernel
theorem dX5_enter_12 : decode cX5_enter 12 = .ok (.aload_n 0, 1) := by decide +kernel
theorem dX5_enter_13 : decode cX5_enter 13 = .ok (.getfield 74, 3) := by decide +kernel
theorem dX5_enter_16 : decode cX5_enter 16 = .ok (.iload_n 1, 1) := by decide +kernel
theorem dX5_enter_17 : decode cX5_enter 17 = .ok (.iaload, 1) := by decide +kernel
theorem dX5_enter_18 : decode cX5_enter 18 = .ok (.iadd, 1) := by decide +kernel
theorem dX5_enter_19 : decode cX5_enter 19 = .ok (.iload_n 2, 1) := by decide +kernel
theorem dX5_enter_20 : decode cX5_enter 20 = .ok (.iastore, 1) := by decide +kernel
theorem dX5_enter_21 : decode cX5_enter 21 = .ok (.aload_n 0, 1) := by decide +kernel
theorem dX5_enter_22 : decode cX5_enter 22 = .ok (.getfield 74, 3) := by decide +kernel
theorem dX5_enter_25 : decode cX5_enter 25 = .ok (.iload_n 1, 1) := by decide +kernel
theorem dX5_enter_26 : decode cX5_enter 26 = .ok (.dup2, 1) := by decide +kernel
theorem dX5_enter_27 : decode cX5_enter 27 = .ok (.iaload, 1) := by decide +kernel
theorem dX5_enter_28 : decode cX5_enter 28 = .ok (.iconst 1, 1) := by decide +kernel
theorem dX5_enter_29 : decode cX5_enter 29 = .ok (.iadd, 1) := by decide +kernel
theorem dX5_enter_30 : decode cX5_enter 30 = .ok (.iastore, 1) := by decide +kernel
theorem dX5_enter_31 : decode cX5_enter 31 = .ok (.return_, 1) := by decide +kernel
abbrev cX5_gives : ByteArray := prog_7_method_32_code
def yX5_gives : MethodName := ⟨RX5, "gives", "(III)Z"⟩
theorem dX5_gives_0 : decode cX5_gives 0 = .ok (.aload_n 0, 1) := by decide +kernel
theorem dX5_gives_1 : decode cX5_gives 1 = .ok (.iload_n 1, 1) := by decide +kernel
theorem dX5_gives_2 : decode cX5_gives 2 = .ok (.iconst 2, 1) := by decide +kernel
theorem dX5_gives_3 : decode cX5_gives 3 = .ok (.invokevirtual 150, 3) := by decide +kernel
theorem dX5_gives_6 : decode cX5_gives 6 = .ok (.istore 4, 2) := by decide +kernel
theorem dX5_gives_8 : decode cX5_gives 8 = .ok (.aload_n 0, 1) := by decide +kernel
theorem dX5_gives_9 : decode cX5_gives 9 = .ok (.getfield 74, 3) := by decide +kernel
theorem dX5_gives_12 : decode cX5_gives 12 = .ok (.iload_n 1, 1) := by decide +kernel
theorem dX5_gives_13 : decode cX5_gives 13 = .ok (.iaload, 1) := by decide +kernel
theorem dX5_gives_14 : decode cX5_gives 14 = .ok (.ifCond .ne 10, 3) := by decide +kernel
theorem dX5_gives_17 : decode cX5_gives 17 = .ok (.iload 4, 2) := by decide +kernel
theorem dX5_gives_19 : decode cX5_gives 19 = .ok (.ifCond .ge 5, 3) := by decide +kernel
theorem dX5_gives_22 : decode cX5_gives 22 = .ok (.iconst 0, 1) := by decide +kernel
theorem dX5_gives_23 : decode cX5_gives 23 = .ok (.ireturn, 1) := by decide +kernel
theorem dX5_gives_24 : decode cX5_gives 24 = .ok (.iload 4, 2) := by decide +kernel
theorem dX5_gives_26 : decode cX5_gives 26 = .ok (.ifCond .ge 7, 3) := by decide +kernel
theorem dX5_gives_29 : decode cX5_gives 29 = .ok (.iconst (-1), 1) := by decide +kernel
theorem dX5_gives_30 : decode cX5_gives 30 = .ok (.goto 16, 3) := by decide +kernel
theorem dX5_gives_33 : decode cX5_gives 33 = .ok (.aload_n 0, 1) := by decide +kernel
theorem dX5_gives_34 : decode cX5_gives 34 = .ok (.iload 4, 2) := by decide +kernel
theorem dX5_gives_36 : decode cX5_gives 36 = .ok (.aload_n 0, 1) := by decide +kernel
theorem dX5_gives_37 : decode cX5_gives 37 = .ok (.getfield 65, 3) := by decide +kernel
theorem dX5_gives_40 : decode cX5_gives 40 = .ok (.iload 4, 2) := by decide +kernel
theorem dX5_gives_42 : decode cX5_gives 42 = .ok (.iaload, 1) := by decide +kernel
theorem dX5_gives_43 : decode cX5_gives 43 = .ok (.invokevirtual 100, 3) := by decide +kernel
theorem dX5_gives_46 : decode cX5_gives 46 = .ok (.istore 5, 2) := by decide +kernel
theorem dX5_gives_48 : decode cX5_gives 48 = .ok (.aload_n 0, 1) := by decide +kernel
theorem dX5_gives_49 : decode cX5_gives 49 = .ok (.getfield 74, 3) := by decide +kernel
theorem dX5_gives_52 : decode cX5_gives 52 = .ok (.iload_n 1, 1) := by decide +kernel
theorem dX5_gives_53 : decode cX5_gives 53 = .ok (.iaload, 1) := by decide +kernel
theorem dX5_gives_54 : decode cX5_gives 54 = .ok (.ifCond .le 86, 3) := by decide +kernel
theorem dX5_gives_57 : decode cX5_gives 57 = .ok (.aload_n 0, 1) := by decide +kernel
theorem dX5_gives_58 : decode cX5_gives 58 = .ok (.getfield 71, 3) := by decide +kernel
theorem dX5_gives_61 : decode cX5_gives 61 = .ok (.iconst 4, 1) := by decide +kernel
theorem dX5_gives_62 : decode cX5_gives 62 = .ok (.iload_n 1, 1) := by decide +kernel
theorem dX5_gives_63 : decode cX5_gives 63 = .ok (.imul, 1) := by decide +kernel
theorem dX5_gives_64 : decode cX5_gives 64 = .ok (.iaload, 1) := by decide +kernel
theorem dX5_gives_65 : decode cX5_gives 65 = .ok (.istore 6, 2) := by decide +kernel
theorem dX5_gives_67 : decode cX5_gives 67 = .ok (.iconst 1, 1) := by decide +kernel
theorem dX5_gives_68 : decode cX5_gives 68 = .ok (.istore 7, 2) := by decide +kernel
theorem dX5_gives_70 : decode cX5_gives 70 = .ok (.iload 7, 2) := by decide +kernel
theorem dX5_gives_72 : decode cX5_gives 72 = .ok (.aload_n 0, 1) := by decide +kernel
theorem dX5_gives_73 : decode cX5_gives 73 = .ok (.getfield 74, 3) := by decide +kernel
theorem dX5_gives_76 : decode cX5_gives 76 = .ok (.iload_n 1, 1) := by decide +kernel
theorem dX5_gives_77 : decode cX5_gives 77 = .ok (.iaload, 1) := by decide +kernel
theorem dX5_gives_78 : decode cX5_gives 78 = .ok (.if_icmp .ge 33, 3) := by decide +kernel
theorem dX5_gives_81 : decode cX5_gives 81 = .ok (.aload_n 0, 1) := by decide +kernel
theorem dX5_gives_82 : decode cX5_gives 82 = .ok (.getfield 71, 3) := by decide +kernel
theorem dX5_gives_85 : decode cX5_gives 85 = .ok (.iconst 4, 1) := by decide +kernel
theorem dX5_gives_86 : decode cX5_gives 86 = .ok (.iload_n 1, 1) := by decide +kernel
theorem dX5_gives_87 : decode cX5_gives 87 = .ok (.imul, 1) := by decide +kernel
theorem dX5_gives_88 : decode cX5_gives 88 = .ok (.iload 7, 2) := by decide +kernel
theorem dX5_gives_90 : decode cX5_gives 90 = .ok (.iadd, 1) := by decide +kernel
theorem dX5_gives_91 : decode cX5_gives 91 = .ok (.iconst 1, 1) := by decide +kernel
theorem dX5_gives_92 : decode cX5_gives 92 = .ok (.isub, 1) := by decide +kernel
theorem dX5_gives_93 : decode cX5_gives 93 = .ok (.aload_n 0, 1) := by decide +kernel
theorem dX5_gives_94 : decode cX5_gives 94 = .ok (.getfield 71, 3) := by decide +kernel
theorem dX5_gives_97 : decode cX5_gives 97 = .ok (.iconst 4, 1) := by decide +kernel
theorem dX5_gives_98 : decode cX5_gives 98 = .ok (.iload_n 1, 1) := by decide +kernel
theorem dX5_gives_99 : decode cX5_gives 99 = .ok (.imul, 1) := by decide +kernel
theorem dX5_gives_100 : decode cX5_gives 100 = .ok (.iload 7, 2) := by decide +kernel
theorem dX5_gives_102 : decode cX5_gives 102 = .ok (.iadd, 1) := by decide +kernel
theorem dX5_gives_103 : decode cX5_gives 103 = .ok (.iaload, 1) := by decide +kernel
theorem dX5_gives_104 : decode cX5_gives 104 = .ok (.iastore, 1) := by decide +kernel
theorem dX5_gives_105 : decode cX5_gives 105 = .ok (.iinc 7 1, 3) := by decide +kernel
theorem dX5_gives_108 : decode cX5_gives 108 = .ok (.goto (-38), 3) := by decide +kernel
theorem dX5_gives_111 : decode cX5_gives 111 = .ok (.aload_n 0, 1) := by decide +kernel
theorem dX5_gives_112 : decode cX5_gives 112 = .ok (.getfield 74, 3) := by decide +kernel
theorem dX5_gives_115 : decode cX5_gives 115 = .ok (.iload_n 1, 1) := by decide +kernel
theorem dX5_gives_116 : decode cX5_gives 116 = .ok (.dup2, 1) := by decide +kernel
theorem dX5_gives_117 : decode cX5_gives 117 = .ok (.iaload, 1) := by decide +kernel
theorem dX5_gives_118 : decode cX5_gives 118 = .ok (.iconst 1, 1) := by decide +kernel
theorem dX5_gives_119 : decode cX5_gives 119 = .ok (.isub, 1) := by decide +kernel
theorem dX5_gives_120 : decode cX5_gives 120 = .ok (.iastore, 1) := by decide +kernel
theorem dX5_gives_121 : decode cX5_gives 121 = .ok (.iload 4, 2) := by decide +kernel
theorem dX5_gives_123 : decode cX5_gives 123 = .ok (.ifCond .lt 10, 3) := by decide +kernel
theorem dX5_gives_126 : decode cX5_gives 126 = .ok (.aload_n 0, 1) := by decide +kernel
theorem dX5_gives_127 : decode cX5_gives 127 = .ok (.iload_n 1, 1) := by decide +kernel
theorem dX5_gives_128 : decode cX5_gives 128 = .ok (.iload 5, 2) := by decide +kernel
theorem dX5_gives_130 : decode cX5_gives 130 = .ok (.invokevirtual 157, 3) := by decide +kernel
theorem dX5_gives_133 : decode cX5_gives 133 = .ok (.iload 6, 2) := by decide +kernel
theorem dX5_gives_135 : decode cX5_gives 135 = .ok (.istore 5, 2) := by decide +kernel
theorem dX5_gives_137 : decode cX5_gives 137 = .ok (.goto 9, 3) := by decide +kernel
theorem dX5_gives_140 : decode cX5_gives 140 = .ok (.aload_n 0, 1) := by decide +kernel
theorem dX5_gives_141 : decode cX5_gives 141 = .ok (.iload 5, 2) := by decide +kernel
theorem dX5_gives_143 : decode cX5_gives 143 = .ok (.invokevirtual 144, 3) := by decide +kernel
theorem dX5_gives_146 : decode cX5_gives 146 = .ok (.iload 4, 2) := by decide +kernel
theorem dX5_gives_148 : decode cX5_gives 148 = .ok (.ifCond .lt 11, 3) := by decide +kernel
theorem dX5_gives_151 : decode cX5_gives 151 = .ok (.aload_n 0, 1) := by decide +kernel
theorem dX5_gives_152 : decode cX5_gives 152 = .ok (.getfield 38, 3) := by decide +kernel
theorem dX5_gives_155 : decode cX5_gives 155 = .ok (.iload 4, 2) := by decide +kernel
theorem dX5_gives_157 : decode cX5_gives 157 = .ok (.iconst 1, 1) := by decide +kernel
theorem dX5_gives_158 : decode cX5_gives 158 = .ok (.iastore, 1) := by decide +kernel
theorem dX5_gives_159 : decode cX5_gives 159 = .ok (.aload_n 0, 1) := by decide +kernel
theorem dX5_gives_160 : decode cX5_gives 160 = .ok (.iload_n 2, 1) := by decide +kernel
theorem dX5_gives_161 : decode cX5_gives 161 = .ok (.iload_n 3, 1) := by decide +kernel
theorem dX5_gives_162 : decode cX5_gives 162 = .ok (.iload 5, 2) := by decide +kernel
theorem dX5_gives_164 : decode cX5_gives 164 = .ok (.iload_n 1, 1) := by decide +kernel
theorem dX5_gives_165 : decode cX5_gives 165 = .ok (.invokevirtual 153, 3) := by decide +kernel
theorem dX5_gives_168 : decode cX5_gives 168 = .ok (.iconst 1, 1) := by decide +kernel
theorem dX5_gives_169 : decode cX5_gives 169 = .ok (.ireturn, 1) := by decide +kernel
abbrev cX5_take : ByteArray := prog_7_method_33_code
def yX5_take : MethodName := ⟨RX5, "take", "(IIII)I"⟩
theorem dX5_take_0 : decode cX5_take 0 = .ok (.aload_n 0, 1) := by decide +kernel
theorem dX5_take_1 : decode cX5_take 1 = .ok (.iload_n 1, 1) := by decide +kernel
theorem dX5_take_2 : decode cX5_take 2 = .ok (.iload_n 2, 1) := by decide +kernel
theorem dX5_take_3 : decode cX5_take 3 = .ok (.iconst 0, 1) := by decide +kernel
theorem dX5_take_4 : decode cX5_take 4 = .ok (.invokevirtual 96, 3) := by decide +kernel
theorem dX5_take_7 : decode cX5_take 7 = .ok (.ifCond .eq 23, 3) := by decide +kernel
theorem dX5_take_10 : decode cX5_take 10 = .ok (.iload_n 3, 1) := by decide +kernel
theorem dX5_take_11 : decode cX5_take 11 = .ok (.ifCond .lt 19, 3) := by decide +kernel
theorem dX5_take_14 : decode cX5_take 14 = .ok (.iload_n 3, 1) := by decide +kernel
theorem dX5_take_15 : decode cX5_take 15 = .ok (.iconst 3, 1) := by decide +kernel
theorem dX5_take_16 : decode cX5_take 16 = .ok (.if_icmp .gt 14, 3) := by decide +kernel
theorem dX5_take_19 : decode cX5_take 19 = .ok (.iload 4, 2) := by decide +kernel
theorem dX5_take_21 : decode cX5_take 21 = .ok (.ifCond .lt 9, 3) := by decide +kernel
theorem dX5_take_24 : decode cX5_take 24 = .ok (.iload 4, 2) := by decide +kernel
theorem dX5_take_26 : decode cX5_take 26 = .ok (.iconst 3, 1) := by decide +kernel
theorem dX5_take_27 : decode cX5_take 27 = .ok (.if_icmp .le 5, 3) := by decide +kernel
theorem dX5_take_30 : decode cX5_take 30 = .ok (.iconst (-1), 1) := by decide +kernel
theorem dX5_take_31 : decode cX5_take 31 = .ok (.ireturn, 1) := by decide +kernel
theorem dX5_take_32 : decode cX5_take 32 = .ok (.aload_n 0, 1) := by decide +kernel
theorem dX5_take_33 : decode cX5_take 33 = .ok (.iload_n 3, 1) := by decide +kernel
theorem dX5_take_34 : decode cX5_take 34 = .ok (.iload_n 1, 1) := by decide +kernel
theorem dX5_take_35 : decode cX5_take 35 = .ok (.iload_n 2, 1) := by decide +kernel
theorem dX5_take_36 : decode cX5_take 36 = .ok (.invokevirtual 164, 3) := by decide +kernel
theorem dX5_take_39 : decode cX5_take 39 = .ok (.ifCond .eq 5, 3) := by decide +kernel
theorem dX5_take_42 : decode cX5_take 42 = .ok (.iload_n 3, 1) := by decide +kernel
theorem dX5_take_43 : decode cX5_take 43 = .ok (.ireturn, 1) := by decide +kernel
theorem dX5_take_44 : decode cX5_take 44 = .ok (.aload_n 0, 1) := by decide +kernel
theorem dX5_take_45 : decode cX5_take 45 = .ok (.iload 4, 2) := by decide +kernel
theorem dX5_take_47 : decode cX5_take 47 = .ok (.iload_n 1, 1) := by decide +kernel
theorem dX5_take_48 : decode cX5_take 48 = .ok (.iload_n 2, 1) := by decide +kernel
theorem dX5_take_49 : decode cX5_take 49 = .ok (.invokevirtual 164, 3) := by decide +kernel
theorem dX5_take_52 : decode cX5_take 52 = .ok (.ifCond .eq 6, 3) := by decide +kernel
theorem dX5_take_55 : decode cX5_take 55 = .ok (.iload 4, 2) := by decide +kernel
theorem dX5_take_57 : decode cX5_take 57 = .ok (.ireturn, 1) := by decide +kernel
theorem dX5_take_58 : decode cX5_take 58 = .ok (.aload_n 0, 1) := by decide +kernel
theorem dX5_take_59 : decode cX5_take 59 = .ok (.iload_n 1, 1) := by decide +kernel
theorem dX5_take_60 : decode cX5_take 60 = .ok (.iconst 3, 1) := by decide +kernel
theorem dX5_take_61 : decode cX5_take 61 = .ok (.iload_n 2, 1) := by decide +kernel
theorem dX5_take_62 : decode cX5_take 62 = .ok (.iload_n 3, 1) := by decide +kernel
theorem dX5_take_63 : decode cX5_take 63 = .ok (.iload 4, 2) := by decide +kernel
theorem dX5_take_65 : decode cX5_take 65 = .ok (.invokevirtual 160, 3) := by decide +kernel
theorem dX5_take_68 : decode cX5_take 68 = .ok (.iconst 4, 1) := by decide +kernel
theorem dX5_take_69 : decode cX5_take 69 = .ok (.ireturn, 1) := by decide +kernel
abbrev cX5_cycle : ByteArray := prog_7_method_34_code
def yX5_cycle : MethodName := ⟨RX5, "cycle", "()V"⟩
theorem dX5_cycle_0 : decode cX5_cycle 0 = .ok (.aload_n 0, 1) := by decide +kernel
theorem dX5_cycle_1 : decode cX5_cycle 1 = .ok (.bipush 16, 2) := by decide +kernel
theorem dX5_cycle_3 : decode cX5_cycle 3 = .ok (.invokevirtual 138, 3) := by decide +kernel
theorem dX5_cycle_6 : decode cX5_cycle 6 = .ok (.pop, 1) := by decide +kernel
theorem dX5_cycle_7 : decode cX5_cycle 7 = .ok (.aload_n 0, 1) := by decide +kernel
theorem dX5_cycle_8 : decode cX5_cycle 8 = .ok (.iconst 1, 1) := by decide +kernel
theorem dX5_cycle_9 : decode cX5_cycle 9 = .ok (.putfield 103, 3) := by decide +kernel
theorem dX5_cycle_12 : decode cX5_cycle 12 = .ok (.aload_n 0, 1) := by decide +kernel
theorem dX5_cycle_13 : decode cX5_cycle 13 = .ok (.iconst 0, 1) := by decide +kernel
theorem dX5_cycle_14 : decode cX5_cycle 14 = .ok (.putfield 168, 3) := by decide +kernel
theorem dX5_cycle_17 : decode cX5_cycle 17 = .ok (.aload_n 0, 1) := by decide +kernel
theorem dX5_cycle_18 : decode cX5_cycle 18 = .ok (.dup, 1) := by decide +kernel
theorem dX5_cycle_19 : decode cX5_cycle 19 = .ok (.getfield 171, 3) := by decide +kernel
theorem dX5_cycle_22 : decode cX5_cycle 22 = .ok (.iconst 1, 1) := by decide +kernel
theorem dX5_cycle_23 : decode cX5_cycle 23 = .ok (.iadd, 1) := by decide +kernel
theorem dX5_cycle_24 : decode cX5_cycle 24 = .ok (.putfield 171, 3) := by decide +kernel
theorem dX5_cycle_27 : decode cX5_cycle 27 = .ok (.iconst 0, 1) := by decide +kernel
theorem dX5_cycle_28 : decode cX5_cycle 28 = .ok (.istore_n 1, 1) := by decide +kernel
theorem dX5_cycle_29 : decode cX5_cycle 29 = .ok (.iload_n 1, 1) := by decide +kernel
theorem dX5_cycle_30 : decode cX5_cycle 30 = .ok (.bipush 6, 2) := by decide +kernel
theorem dX5_cycle_32 : decode cX5_cycle 32 = .ok (.if_icmp .ge 16, 3) := by decide +kernel
theorem dX5_cycle_35 : decode cX5_cycle 35 = .ok (.aload_n 0, 1) := by decide +kernel
theorem dX5_cycle_36 : decode cX5_cycle 36 = .ok (.getfield 53, 3) := by decide +kernel
theorem dX5_cycle_39 : decode cX5_cycle 39 = .ok (.iload_n 1, 1) := by decide +kernel
theorem dX5_cycle_40 : decode cX5_cycle 40 = .ok (.iconst 0, 1) := by decide +kernel
theorem dX5_cycle_41 : decode cX5_cycle 41 = .ok (.bastore, 1) := by decide +kernel
theorem dX5_cycle_42 : decode cX5_cycle 42 = .ok (.iinc 1 1, 3) := by decide +kernel
theorem dX5_cycle_45 : decode cX5_cycle 45 = .ok (.goto (-16), 3) := by decide +kernel
theorem dX5_cycle_48 : decode cX5_cycle 48 = .ok (.iconst 0, 1) := by decide +kernel
theorem dX5_cycle_49 : decode cX5_cycle 49 = .ok (.istore_n 1, 1) := by decide +kernel
theorem dX5_cycle_50 : decode cX5_cycle 50 = .ok (.iload_n 1, 1) := by decide +kernel
theorem dX5_cycle_51 : decode cX5_cycle 51 = .ok (.sipush 256, 3) := by decide +kernel
theorem dX5_cycle_54 : decode cX5_cycle 54 = .ok (.if_icmp .ge 23, 3) := by decide +kernel
theorem dX5_cycle_57 : decode cX5_cycle 57 = .ok (.aload_n 0, 1) := by decide +kernel
theorem dX5_cycle_58 : decode cX5_cycle 58 = .ok (.getfield 19, 3) := by decide +kernel
theorem dX5_cycle_61 : decode cX5_cycle 61 = .ok (.iload_n 1, 1) := by decide +kernel
theorem dX5_cycle_62 : decode cX5_cycle 62 = .ok (.iconst 0, 1) := by decide +kernel
theorem dX5_cycle_63 : decode cX5_cycle 63 = .ok (.bastore, 1) := by decide +kernel
theorem dX5_cycle_64 : decode cX5_cycle 64 = .ok (.aload_n 0, 1) := by decide +kernel
theorem dX5_cycle_65 : decode cX5_cycle 65 = .ok (.getfield 23, 3) := by decide +kernel
theorem dX5_cycle_68 : decode cX5_cycle 68 = .ok (.iload_n 1, 1) := by decide +kernel
theorem dX5_cycle_69 : decode cX5_cycle 69 = .ok (.iconst 0, 1) := by decide +kernel
theorem dX5_cycle_70 : decode cX5_cycle 70 = .ok (.bastore, 1) := by decide +kernel
theorem dX5_cycle_71 : decode cX5_cycle 71 = .ok (.iinc 1 1, 3) := by decide +kernel
theorem dX5_cycle_74 : decode cX5_cycle 74 = .ok (.goto (-24), 3) := by decide +kernel
theorem dX5_cycle_77 : decode cX5_cycle 77 = .ok (.iconst 0, 1) := by decide +kernel
theorem dX5_cycle_78 : decode cX5_cycle 78 = .ok (.istore_n 1, 1) := by decide +kernel
theorem dX5_cycle_79 : decode cX5_cycle 79 = .ok (.iload_n 1, 1) := by decide +kernel
theorem dX5_cycle_80 : decode cX5_cycle 80 = .ok (.bipush 16, 2) := by decide +kernel
theorem dX5_cycle_82 : decode cX5_cycle 82 = .ok (.if_icmp .ge 33, 3) := by decide +kernel
theorem dX5_cycle_85 : decode cX5_cycle 85 = .ok (.iload_n 1, 1) := by decide +kernel
theorem dX5_cycle_86 : decode cX5_cycle 86 = .ok (.iconst 4, 1) := by decide +kernel
theorem dX5_cycle_87 : decode cX5_cycle 87 = .ok (.irem, 1) := by decide +kernel
theorem dX5_cycle_88 : decode cX5_cycle 88 = .ok (.aload_n 0, 1) := by decide +kernel
theorem dX5_cycle_89 : decode cX5_cycle 89 = .ok (.getfield 74, 3) := by decide +kernel
theorem dX5_cycle_92 : decode cX5_cycle 92 = .ok (.iload_n 1, 1) := by decide +kernel
theorem dX5_cycle_93 : decode cX5_cycle 93 = .ok (.iconst 4, 1) := by decide +kernel
theorem dX5_cycle_94 : decode cX5_cycle 94 = .ok (.idiv, 1) := by decide +kernel
theorem dX5_cycle_95 : decode cX5_cycle 95 = .ok (.iaload, 1) := by decide +kernel
theorem dX5_cycle_96 : decode cX5_cycle 96 = .ok (.if_icmp .ge 13, 3) := by decide +kernel
theorem dX5_cycle_99 : decode cX5_cycle 99 = .ok (.aload_n 0, 1) := by decide +kernel
theorem dX5_cycle_100 : decode cX5_cycle 100 = .ok (.aload_n 0, 1) := by decide +kernel
theorem dX5_cycle_101 : decode cX5_cycle 101 = .ok (.getfield 71, 3) := by decide +kernel
theorem dX5_cycle_104 : decode cX5_cycle 104 = .ok (.iload_n 1, 1) := by decide +kernel
theorem dX5_cycle_105 : decode cX5_cycle 105 = .ok (.iaload, 1) := by decide +kernel
theorem dX5_cycle_106 : decode cX5_cycle 106 = .ok (.invokevirtual 144, 3) := by decide +kernel
theorem dX5_cycle_109 : decode cX5_cycle 109 = .ok (.iinc 1 1, 3) := by decide +kernel
theorem dX5_cycle_112 : decode cX5_cycle 112 = .ok (.goto (-33), 3) := by decide +kernel
theorem dX5_cycle_115 : decode cX5_cycle 115 = .ok (.return_, 1) := by decide +kernel
abbrev cX5_scan : ByteArray := prog_7_method_35_code
def yX5_scan : MethodName := ⟨RX5, "scan", "(I)V"⟩
theorem dX5_scan_0 : decode cX5_scan 0 = .ok (.aload_n 0, 1) := by decide +kernel
theorem dX5_scan_1 : decode cX5_scan 1 = .ok (.getfield 53, 3) := by decide +kernel
theorem dX5_scan_4 : decode cX5_scan 4 = .ok (.iload_n 1, 1) := by decide +kernel
theorem dX5_scan_5 : decode cX5_scan 5 = .ok (.iconst 1, 1) := by decide +kernel
theorem dX5_scan_6 : decode cX5_scan 6 = .ok (.bastore, 1) := by decide +kernel
theorem dX5_scan_7 : decode cX5_scan 7 = .ok (.iconst 0, 1) := by decide +kernel
theorem dX5_scan_8 : decode cX5_scan 8 = .ok (.istore_n 2, 1) := by decide +kernel
theorem dX5_scan_9 : decode cX5_scan 9 = .ok (.iload_n 2, 1) := by decide +kernel
theorem dX5_scan_10 : decode cX5_scan 10 = .ok (.iconst 4, 1) := by decide +kernel
theorem dX5_scan_11 : decode cX5_scan 11 = .ok (.aload_n 0, 1) := by decide +kernel
theorem dX5_scan_12 : decode cX5_scan 12 = .ok (.getfield 41, 3) := by decide +kernel
theorem dX5_scan_15 : decode cX5_scan 15 = .ok (.iload_n 1, 1) := by decide +kernel
theorem dX5_scan_16 : decode cX5_scan 16 = .ok (.iaload, 1) := by decide +kernel
theorem dX5_scan_17 : decode cX5_scan 17 = .ok (.imul, 1) := by decide +kernel
theorem dX5_scan_18 : decode cX5_scan 18 = .ok (.if_icmp .ge 24, 3) := by decide +kernel
theorem dX5_scan_21 : decode cX5_scan 21 = .ok (.aload_n 0, 1) := by decide +kernel
theorem dX5_scan_22 : decode cX5_scan 22 = .ok (.aload_n 0, 1) := by decide +kernel
theorem dX5_scan_23 : decode cX5_scan 23 = .ok (.getfield 47, 3) := by decide +kernel
theorem dX5_scan_26 : decode cX5_scan 26 = .ok (.bipush 64, 2) := by decide +kernel
theorem dX5_scan_28 : decode cX5_scan 28 = .ok (.iload_n 1, 1) := by decide +kernel
theorem dX5_scan_29 : decode cX5_scan 29 = .ok (.imul, 1) := by decide +kernel
theorem dX5_scan_30 : decode cX5_scan 30 = .ok (.iload_n 2, 1) := by decide +kernel
theorem dX5_scan_31 : decode cX5_scan 31 = .ok (.iadd, 1) := by decide +kernel
theorem dX5_scan_32 : decode cX5_scan 32 = .ok (.iaload, 1) := by decide +kernel
theorem dX5_scan_33 : decode cX5_scan 33 = .ok (.invokevirtual 144, 3) := by decide +kernel
theorem dX5_scan_36 : decode cX5_scan 36 = .ok (.iinc 2 1, 3) := by decide +kernel
theorem dX5_scan_39 : decode cX5_scan 39 = .ok (.goto (-30), 3) := by decide +kernel
theorem dX5_scan_42 : decode cX5_scan 42 = .ok (.iconst 4, 1) := by decide +kernel
theorem dX5_scan_43 : decode cX5_scan 43 = .ok (.aload_n 0, 1) := by decide +kernel
theorem dX5_scan_44 : decode cX5_scan 44 = .ok (.getfield 41, 3) := by decide +kernel
theorem dX5_scan_47 : decode cX5_scan 47 = .ok (.iload_n 1, 1) := by decide +kernel
theorem dX5_scan_48 : decode cX5_scan 48 = .ok (.iaload, 1) := by decide +kernel
theorem dX5_scan_49 : decode cX5_scan 49 = .ok (.imul, 1) := by decide +kernel
theorem dX5_scan_50 : decode cX5_scan 50 = .ok (.aload_n 0, 1) := by decide +kernel
theorem dX5_scan_51 : decode cX5_scan 51 = .ok (.getfield 44, 3) := by decide +kernel
theorem dX5_scan_54 : decode cX5_scan 54 = .ok (.iload_n 1, 1) := by decide +kernel
theorem dX5_scan_55 : decode cX5_scan 55 = .ok (.iaload, 1) := by decide +kernel
theorem dX5_scan_56 : decode cX5_scan 56 = .ok (.if_icmp .gt 38, 3) := by decide +kernel
theorem dX5_scan_59 : decode cX5_scan 59 = .ok (.aload_n 0, 1) := by decide +kernel
theorem dX5_scan_60 : decode cX5_scan 60 = .ok (.getfield 44, 3) := by decide +kernel
theorem dX5_scan_63 : decode cX5_scan 63 = .ok (.iload_n 1, 1) := by decide +kernel
theorem dX5_scan_64 : decode cX5_scan 64 = .ok (.iaload, 1) := by decide +kernel
theorem dX5_scan_65 : decode cX5_scan 65 = .ok (.iconst 2, 1) := by decide +kernel
theorem dX5_scan_66 : decode cX5_scan 66 = .ok (.if_icmp .le 28, 3) := by decide +kernel
theorem dX5_scan_69 : decode cX5_scan 69 = .ok (.aload_n 0, 1) := by decide +kernel
theorem dX5_scan_70 : decode cX5_scan 70 = .ok (.getfield 44, 3) := by decide +kernel
theorem dX5_scan_73 : decode cX5_scan 73 = .ok (.iload_n 1, 1) := by decide +kernel
theorem dX5_scan_74 : decode cX5_scan 74 = .ok (.dup2, 1) := by decide +kernel
theorem dX5_scan_75 : decode cX5_scan 75 = .ok (.iaload, 1) := by decide +kernel
theorem dX5_scan_76 : decode cX5_scan 76 = .ok (.iconst 2, 1) := by decide +kernel
theorem dX5_scan_77 : decode cX5_scan 77 = .ok (.idiv, 1) := by decide +kernel
theorem dX5_scan_78 : decode cX5_scan 78 = .ok (.iastore, 1) := by decide +kernel
theorem dX5_scan_79 : decode cX5_scan 79 = .ok (.aload_n 0, 1) := by decide +kernel
theorem dX5_scan_80 : decode cX5_scan 80 = .ok (.dup, 1) := by decide +kernel
theorem dX5_scan_81 : decode cX5_scan 81 = .ok (.getfield 107, 3) := by decide +kernel
theorem dX5_scan_84 : decode cX5_scan 84 = .ok (.aload_n 0, 1) := by decide +kernel
theorem dX5_scan_85 : decode cX5_scan 85 = .ok (.getfield 41, 3) := by decide +kernel
theorem dX5_scan_88 : decode cX5_scan 88 = .ok (.iload_n 1, 1) := by decide +kernel
theorem dX5_scan_89 : decode cX5_scan 89 = .ok (.iaload, 1) := by decide +kernel
theorem dX5_scan_90 : decode cX5_scan 90 = .ok (.iadd, 1) := by decide +kernel
theorem dX5_scan_91 : decode cX5_scan 91 = .ok (.putfield 107, 3) := by decide +kernel
theorem dX5_scan_94 : decode cX5_scan 94 = .ok (.return_, 1) := by decide +kernel
abbrev cX5_countDue : ByteArray := prog_7_method_36_code
def yX5_countDue : MethodName := ⟨RX5, "countDue", "()I"⟩
theorem dX5_countDue_0 : decode cX5_countDue 0 = .ok (.iconst 0, 1) := by decide +kernel
theorem dX5_countDue_1 : decode cX5_countDue 1 = .ok (.istore_n 1, 1) := by decide +kernel
theorem dX5_countDue_2 : decode cX5_countDue 2 = .ok (.iconst 0, 1) := by decide +kernel
theorem dX5_countDue_3 : decode cX5_countDue 3 = .ok (.istore_n 2, 1) := by decide +kernel
theorem dX5_countDue_4 : decode cX5_countDue 4 = .ok (.iload_n 2, 1) := by decide +kernel
theorem dX5_countDue_5 : decode cX5_countDue 5 = .ok (.sipush 256, 3) := by decide +kernel
theorem dX5_countDue_8 : decode cX5_countDue 8 = .ok (.if_icmp .ge 64, 3) := by decide +kernel
theorem dX5_countDue_11 : decode cX5_countDue 11 = .ok (.aload_n 0, 1) := by decide +kernel
theorem dX5_countDue_12 : decode cX5_countDue 12 = .ok (.getfield 29, 3) := by decide +kernel
theorem dX5_countDue_15 : decode cX5_countDue 15 = .ok (.iload_n 2, 1) := by decide +kernel
theorem dX5_countDue_16 : decode cX5_countDue 16 = .ok (.aload_n 0, 1) := by decide +kernel
theorem dX5_countDue_17 : decode cX5_countDue 17 = .ok (.getfield 13, 3) := by decide +kernel
theorem dX5_countDue_20 : decode cX5_countDue 20 = .ok (.iload_n 2, 1) := by decide +kernel
theorem dX5_countDue_21 : decode cX5_countDue 21 = .ok (.iaload, 1) := by decide +kernel
theorem dX5_countDue_22 : decode cX5_countDue 22 = .ok (.ifCond .le 25, 3) := by decide +kernel
theorem dX5_countDue_25 : decode cX5_countDue 25 = .ok (.aload_n 0, 1) := by decide +kernel
theorem dX5_countDue_26 : decode cX5_countDue 26 = .ok (.getfield 23, 3) := by decide +kernel
theorem dX5_countDue_29 : decode cX5_countDue 29 = .ok (.iload_n 2, 1) := by decide +kernel
theorem dX5_countDue_30 : decode cX5_countDue 30 = .ok (.baload, 1) := by decide +kernel
theorem dX5_countDue_31 : decode cX5_countDue 31 = .ok (.ifCond .eq 16, 3) := by decide +kernel
theorem dX5_countDue_34 : decode cX5_countDue 34 = .ok (.aload_n 0, 1) := by decide +kernel
theorem dX5_countDue_35 : decode cX5_countDue 35 = .ok (.getfield 19, 3) := by decide +kernel
theorem dX5_countDue_38 : decode cX5_countDue 38 = .ok (.iload_n 2, 1) := by decide +kernel
theorem dX5_countDue_39 : decode cX5_countDue 39 = .ok (.baload, 1) := by decide +kernel
theorem dX5_countDue_40 : decode cX5_countDue 40 = .ok (.ifCond .ne 7, 3) := by decide +kernel
theorem dX5_countDue_43 : decode cX5_countDue 43 = .ok (.iconst 1, 1) := by decide +kernel
theorem dX5_countDue_44 : decode cX5_countDue 44 = .ok (.goto 4, 3) := by decide +kernel
theorem dX5_countDue_47 : decode cX5_countDue 47 = .ok (.iconst 0, 1) := by decide +kernel
theorem dX5_countDue_48 : decode cX5_countDue 48 = .ok (.bastore, 1) := by decide +kernel
theorem dX5_countDue_49 : decode cX5_countDue 49 = .ok (.iload_n 1, 1) := by decide +kernel
theorem dX5_countDue_50 : decode cX5_countDue 50 = .ok (.aload_n 0, 1) := by decide +kernel
theorem dX5_countDue_51 : decode cX5_countDue 51 = .ok (.getfield 29, 3) := by decide +kernel
theorem dX5_countDue_54 : decode cX5_countDue 54 = .ok (.iload_n 2, 1) := by decide +kernel
theorem dX5_countDue_55 : decode cX5_countDue 55 = .ok (.baload, 1) := by decide +kernel
theorem dX5_countDue_56 : decode cX5_countDue 56 = .ok (.ifCond .eq 7, 3) := by decide +kernel
theorem dX5_countDue_59 : decode cX5_countDue 59 = .ok (.iconst 1, 1) := by decide +kernel
theorem dX5_countDue_60 : decode cX5_countDue 60 = .ok (.goto 4, 3) := by decide +kernel
theorem dX5_countDue_63 : decode cX5_countDue 63 = .ok (.iconst 0, 1) := by decide +kernel
theorem dX5_countDue_64 : decode cX5_countDue 64 = .ok (.iadd, 1) := by decide +kernel
theorem dX5_countDue_65 : decode cX5_countDue 65 = .ok (.istore_n 1, 1) := by decide +kernel
theorem dX5_countDue_66 : decode cX5_countDue 66 = .ok (.iinc 2 1, 3) := by decide +kernel
theorem dX5_countDue_69 : decode cX5_countDue 69 = .ok (.goto (-65), 3) := by decide +kernel
theorem dX5_countDue_72 : decode cX5_countDue 72 = .ok (.iconst (-1), 1) := by decide +kernel
theorem dX5_countDue_73 : decode cX5_countDue 73 = .ok (.istore_n 2, 1) := by decide +kernel
theorem dX5_countDue_74 : decode cX5_countDue 74 = .ok (.iconst 0, 1) := by decide +kernel
theorem dX5_countDue_75 : decode cX5_countDue 75 = .ok (.istore_n 3, 1) := by decide +kernel
theorem dX5_countDue_76 : decode cX5_countDue 76 = .ok (.iload_n 3, 1) := by decide +kernel
theorem dX5_countDue_77 : decode cX5_countDue 77 = .ok (.sipush 1000, 3) := by decide +kernel
theorem dX5_countDue_80 : decode cX5_countDue 80 = .ok (.if_icmp .ge 113, 3) := by decide +kernel
theorem dX5_countDue_83 : decode cX5_countDue 83 = .ok (.iload_n 1, 1) := by decide +kernel
theorem dX5_countDue_84 : decode cX5_countDue 84 = .ok (.iload_n 2, 1) := by decide +kernel
theorem dX5_countDue_85 : decode cX5_countDue 85 = .ok (.if_icmp .le 108, 3) := by decide +kernel
theorem dX5_countDue_88 : decode cX5_countDue 88 = .ok (.iload_n 1, 1) := by decide +kernel
theorem dX5_countDue_89 : decode cX5_countDue 89 = .ok (.istore_n 2, 1) := by decide +kernel
theorem dX5_countDue_90 : decode cX5_countDue 90 = .ok (.iconst 0, 1) := by decide +kernel
theorem dX5_countDue_91 : decode cX5_countDue 91 = .ok (.istore 4, 2) := by decide +kernel
theorem dX5_countDue_93 : decode cX5_countDue 93 = .ok (.iload 4, 2) := by decide +kernel
theorem dX5_countDue_95 : decode cX5_countDue 95 = .ok (.sipush 256, 3) := by decide +kernel
theorem dX5_countDue_98 : decode cX5_countDue 98 = .ok (.if_icmp .ge 89, 3) := by decide +kernel
theorem dX5_countDue_101 : decode cX5_countDue 101 = .ok (.iconst 0, 1) := by decide +kernel
theorem dX5_countDue_102 : decode cX5_countDue 102 = .ok (.istore 5, 2) := by decide +kernel
theorem dX5_countDue_104 : decode cX5_countDue 104 = .ok (.iload 5, 2) := by decide +kernel
theorem dX5_countDue_106 : decode cX5_countDue 106 = .ok (.aload_n 0, 1) := by decide +kernel
theorem dX5_countDue_107 : decode cX5_countDue 107 = .ok (.getfield 16, 3) := by decide +kernel
theorem dX5_countDue_110 : decode cX5_countDue 110 = .ok (.iload 4, 2) := by decide +kernel
theorem dX5_countDue_112 : decode cX5_countDue 112 = .ok (.iaload, 1) := by decide +kernel
theorem dX5_countDue_113 : decode cX5_countDue 113 = .ok (.if_icmp .ge 68, 3) := by decide +kernel
theorem dX5_countDue_116 : decode cX5_countDue 116 = .ok (.aload_n 0, 1) := by decide +kernel
theorem dX5_countDue_117 : decode cX5_countDue 117 = .ok (.getfield 29, 3) := by decide +kernel
theorem dX5_countDue_120 : decode cX5_countDue 120 = .ok (.iload 4, 2) := by decide +kernel
theorem dX5_countDue_122 : decode cX5_countDue 122 = .ok (.baload, 1) := by decide +kernel
theorem dX5_countDue_123 : decode cX5_countDue 123 = .ok (.ifCond .eq 58, 3) := by decide +kernel
theorem dX5_countDue_126 : decode cX5_countDue 126 = .ok (.aload_n 0, 1) := by decide +kernel
theorem dX5_countDue_127 : decode cX5_countDue 127 = .ok (.getfield 7, 3) := by decide +kernel
theorem dX5_countDue_130 : decode cX5_countDue 130 = .ok (.iload 4, 2) := by decide +kernel
theorem dX5_countDue_132 : decode cX5_countDue 132 = .ok (.iload 5, 2) := by decide +kernel
theorem dX5_countDue_134 : decode cX5_countDue 134 = .ok (.iadd, 1) := by decide +kernel
theorem dX5_countDue_135 : decode cX5_countDue 135 = .ok (.iaload, 1) := by decide +kernel
theorem dX5_countDue_136 : decode cX5_countDue 136 = .ok (.istore 6, 2) := by decide +kernel
theorem dX5_countDue_138 : decode cX5_countDue 138 = .ok (.iload 6, 2) := by decide +kernel
theorem dX5_countDue_140 : decode cX5_countDue 140 = .ok (.iconst (-1), 1) := by decide +kernel
theorem dX5_countDue_141 : decode cX5_countDue 141 = .ok (.if_icmp .eq 34, 3) := by decide +kernel
theorem dX5_countDue_144 : decode cX5_countDue 144 = .ok (.aload_n 0, 1) := by decide +kernel
theorem dX5_countDue_145 : decode cX5_countDue 145 = .ok (.getfield 29, 3) := by decide +kernel
theorem dX5_countDue_148 : decode cX5_countDue 148 = .ok (.iload 6, 2) := by decide +kernel
theorem dX5_countDue_150 : decode cX5_countDue 150 = .ok (.baload, 1) := by decide +kernel
theorem dX5_countDue_151 : decode cX5_countDue 151 = .ok (.ifCond .ne 24, 3) := by decide +kernel
theorem dX5_countDue_154 : decode cX5_countDue 154 = .ok (.aload_n 0, 1) := by decide +kernel
theorem dX5_countDue_155 : decode cX5_countDue 155 = .ok (.getfield 19, 3) := by decide +kernel
theorem dX5_countDue_158 : decode cX5_countDue 158 = .ok (.iload 6, 2) := by decide +kernel
theorem dX5_countDue_160 : decode cX5_countDue 160 = .ok (.baload, 1) := by decide +kernel
theorem dX5_countDue_161 : decode cX5_countDue 161 = .ok (.ifCond .ne 14, 3) := by decide +kernel
theorem dX5_countDue_164 : decode cX5_countDue 164 = .ok (.aload_n 0, 1) := by decide +kernel
theorem dX5_countDue_165 : decode cX5_countDue 165 = .ok (.getfield 29, 3) := by decide +kernel
theorem dX5_countDue_168 : decode cX5_countDue 168 = .ok (.iload 6, 2) := by decide +kernel
theorem dX5_countDue_170 : decode cX5_countDue 170 = .ok (.iconst 1, 1) := by decide +kernel
theorem dX5_countDue_171 : decode cX5_countDue 171 = .ok (.bastore, 1) := by decide +kernel
theorem dX5_countDue_172 : decode cX5_countDue 172 = .ok (.iinc 1 1, 3) := by decide +kernel
theorem dX5_countDue_175 : decode cX5_countDue 175 = .ok (.iinc 5 1, 3) := by decide +kernel
theorem dX5_countDue_178 : decode cX5_countDue 178 = .ok (.goto (-74), 3) := by decide +kernel
theorem dX5_countDue_181 : decode cX5_countDue 181 = .ok (.iinc 4 1, 3) := by decide +kernel
theorem dX5_countDue_184 : decode cX5_countDue 184 = .ok (.goto (-91), 3) := by decide +kernel
theorem dX5_countDue_187 : decode cX5_countDue 187 = .ok (.iinc 3 1, 3) := by decide +kernel
theorem dX5_countDue_190 : decode cX5_countDue 190 = .ok (.goto (-114), 3) := by decide +kernel
theorem dX5_countDue_193 : decode cX5_countDue 193 = .ok (.iload_n 1, 1) := by decide +kernel
theorem dX5_countDue_194 : decode cX5_countDue 194 = .ok (.ireturn, 1) := by decide +kernel
abbrev cX5_work : ByteArray := prog_7_method_37_code
def yX5_work : MethodName := ⟨RX5, "work", "(I)I"⟩
theorem dX5_work_0 : decode cX5_work 0 = .ok (.iconst 0, 1) := by decide +kernel
theorem dX5_work_1 : decode cX5_work 1 = .ok (.istore_n 2, 1) := by decide +kernel
theorem dX5_work_2 : decode cX5_work 2 = .ok (.iconst 0, 1) := by decide +kernel
theorem dX5_work_3 : decode cX5_work 3 = .ok (.istore_n 3, 1) := by decide +kernel
theorem dX5_work_4 : decode cX5_work 4 = .ok (.iload_n 3, 1) := by decide +kernel
theorem dX5_work_5 : decode cX5_work 5 = .ok (.bipush 6, 2) := by decide +kernel
theorem dX5_work_7 : decode cX5_work 7 = .ok (.if_icmp .ge 40, 3) := by decide +kernel
theorem dX5_work_10 : decode cX5_work 10 = .ok (.iload_n 2, 1) := by decide +kernel
theorem dX5_work_11 : decode cX5_work 11 = .ok (.iload_n 1, 1) := by decide +kernel
theorem dX5_work_12 : decode cX5_work 12 = .ok (.if_icmp .ge 35, 3) := by decide +kernel
theorem dX5_work_15 : decode cX5_work 15 = .ok (.aload_n 0, 1) := by decide +kernel
theorem dX5_work_16 : decode cX5_work 16 = .ok (.getfield 38, 3) := by decide +kernel
theorem dX5_work_19 : decode cX5_work 19 = .ok (.iload_n 3, 1) := by decide +kernel
theorem dX5_work_20 : decode cX5_work 20 = .ok (.iaload, 1) := by decide +kernel
theorem dX5_work_21 : decode cX5_work 21 = .ok (.ifCond .le 20, 3) := by decide +kernel
theorem dX5_work_24 : decode cX5_work 24 = .ok (.aload_n 0, 1) := by decide +kernel
theorem dX5_work_25 : decode cX5_work 25 = .ok (.getfield 53, 3) := by decide +kernel
theorem dX5_work_28 : decode cX5_work 28 = .ok (.iload_n 3, 1) := by decide +kernel
theorem dX5_work_29 : decode cX5_work 29 = .ok (.baload, 1) := by decide +kernel
theorem dX5_work_30 : decode cX5_work 30 = .ok (.ifCond .ne 11, 3) := by decide +kernel
theorem dX5_work_33 : decode cX5_work 33 = .ok (.aload_n 0, 1) := by decide +kernel
theorem dX5_work_34 : decode cX5_work 34 = .ok (.iload_n 3, 1) := by decide +kernel
theorem dX5_work_35 : decode cX5_work 35 = .ok (.invokevirtual 174, 3) := by decide +kernel
theorem dX5_work_38 : decode cX5_work 38 = .ok (.iinc 2 1, 3) := by decide +kernel
theorem dX5_work_41 : decode cX5_work 41 = .ok (.iinc 3 1, 3) := by decide +kernel
theorem dX5_work_44 : decode cX5_work 44 = .ok (.goto (-40), 3) := by decide +kernel
theorem dX5_work_47 : decode cX5_work 47 = .ok (.aload_n 0, 1) := by decide +kernel
theorem dX5_work_48 : decode cX5_work 48 = .ok (.invokevirtual 177, 3) := by decide +kernel
theorem dX5_work_51 : decode cX5_work 51 = .ok (.istore 4, 2) := by decide +kernel
theorem dX5_work_53 : decode cX5_work 53 = .ok (.iload 4, 2) := by decide +kernel
theorem dX5_work_55 : decode cX5_work 55 = .ok (.aload_n 0, 1) := by decide +kernel
theorem dX5_work_56 : decode cX5_work 56 = .ok (.getfield 168, 3) := by decide +kernel
theorem dX5_work_59 : decode cX5_work 59 = .ok (.isub, 1) := by decide +kernel
theorem dX5_work_60 : decode cX5_work 60 = .ok (.iload_n 1, 1) := by decide +kernel
theorem dX5_work_61 : decode cX5_work 61 = .ok (.iload_n 2, 1) := by decide +kernel
theorem dX5_work_62 : decode cX5_work 62 = .ok (.isub, 1) := by decide +kernel
theorem dX5_work_63 : decode cX5_work 63 = .ok (.if_icmp .ge 13, 3) := by decide +kernel
theorem dX5_work_66 : decode cX5_work 66 = .ok (.iload 4, 2) := by decide +kernel
theorem dX5_work_68 : decode cX5_work 68 = .ok (.aload_n 0, 1) := by decide +kernel
theorem dX5_work_69 : decode cX5_work 69 = .ok (.getfield 168, 3) := by decide +kernel
theorem dX5_work_72 : decode cX5_work 72 = .ok (.isub, 1) := by decide +kernel
theorem dX5_work_73 : decode cX5_work 73 = .ok (.goto 6, 3) := by decide +kernel
theorem dX5_work_76 : decode cX5_work 76 = .ok (.iload_n 1, 1) := by decide +kernel
theorem dX5_work_77 : decode cX5_work 77 = .ok (.iload_n 2, 1) := by decide +kernel
theorem dX5_work_78 : decode cX5_work 78 = .ok (.isub, 1) := by decide +kernel
theorem dX5_work_79 : decode cX5_work 79 = .ok (.istore 5, 2) := by decide +kernel
theorem dX5_work_81 : decode cX5_work 81 = .ok (.aload_n 0, 1) := by decide +kernel
theorem dX5_work_82 : decode cX5_work 82 = .ok (.dup, 1) := by decide +kernel
theorem dX5_work_83 : decode cX5_work 83 = .ok (.getfield 168, 3) := by decide +kernel
theorem dX5_work_86 : decode cX5_work 86 = .ok (.iload 5, 2) := by decide +kernel
theorem dX5_work_88 : decode cX5_work 88 = .ok (.iadd, 1) := by decide +kernel
theorem dX5_work_89 : decode cX5_work 89 = .ok (.putfield 168, 3) := by decide +kernel
theorem dX5_work_92 : decode cX5_work 92 = .ok (.iload_n 2, 1) := by decide +kernel
theorem dX5_work_93 : decode cX5_work 93 = .ok (.iload 5, 2) := by decide +kernel
theorem dX5_work_95 : decode cX5_work 95 = .ok (.iadd, 1) := by decide +kernel
theorem dX5_work_96 : decode cX5_work 96 = .ok (.istore_n 2, 1) := by decide +kernel
theorem dX5_work_97 : decode cX5_work 97 = .ok (.aload_n 0, 1) := by decide +kernel
theorem dX5_work_98 : decode cX5_work 98 = .ok (.dup, 1) := by decide +kernel
theorem dX5_work_99 : decode cX5_work 99 = .ok (.getfield 181, 3) := by decide +kernel
theorem dX5_work_102 : decode cX5_work 102 = .ok (.iload_n 2, 1) := by decide +kernel
theorem dX5_work_103 : decode cX5_work 103 = .ok (.iadd, 1) := by decide +kernel
theorem dX5_work_104 : decode cX5_work 104 = .ok (.putfield 181, 3) := by decide +kernel
theorem dX5_work_107 : decode cX5_work 107 = .ok (.aload_n 0, 1) := by decide +kernel
theorem dX5_work_108 : decode cX5_work 108 = .ok (.getfield 168, 3) := by decide +kernel
theorem dX5_work_111 : decode cX5_work 111 = .ok (.iload 4, 2) := by decide +kernel
theorem dX5_work_113 : decode cX5_work 113 = .ok (.if_icmp .ge 7, 3) := by decide +kernel
theorem dX5_work_116 : decode cX5_work 116 = .ok (.iconst 1, 1) := by decide +kernel
theorem dX5_work_117 : decode cX5_work 117 = .ok (.goto 4, 3) := by decide +kernel
theorem dX5_work_120 : decode cX5_work 120 = .ok (.iconst 0, 1) := by decide +kernel
theorem dX5_work_121 : decode cX5_work 121 = .ok (.istore 6, 2) := by decide +kernel
theorem dX5_work_123 : decode cX5_work 123 = .ok (.iconst 0, 1) := by decide +kernel
theorem dX5_work_124 : decode cX5_work 124 = .ok (.istore 7, 2) := by decide +kernel
theorem dX5_work_126 : decode cX5_work 126 = .ok (.iload 7, 2) := by decide +kernel
theorem dX5_work_128 : decode cX5_work 128 = .ok (.bipush 6, 2) := by decide +kernel
theorem dX5_work_130 : decode cX5_work 130 = .ok (.if_icmp .ge 41, 3) := by decide +kernel
theorem dX5_work_133 : decode cX5_work 133 = .ok (.iload 6, 2) := by decide +kernel
theorem dX5_work_135 : decode cX5_work 135 = .ok (.ifCond .ne 23, 3) := by decide +kernel
theorem dX5_work_138 : decode cX5_work 138 = .ok (.aload_n 0, 1) := by decide +kernel
theorem dX5_work_139 : decode cX5_work 139 = .ok (.getfield 38, 3) := by decide +kernel
theorem dX5_work_142 : decode cX5_work 142 = .ok (.iload 7, 2) := by decide +kernel
theorem dX5_work_144 : decode cX5_work 144 = .ok (.iaload, 1) := by decide +kernel
theorem dX5_work_145 : decode cX5_work 145 = .ok (.ifCond .le 17, 3) := by decide +kernel
theorem dX5_work_148 : decode cX5_work 148 = .ok (.aload_n 0, 1) := by decide +kernel
theorem dX5_work_149 : decode cX5_work 149 = .ok (.getfield 53, 3) := by decide +kernel
theorem dX5_work_152 : decode cX5_work 152 = .ok (.iload 7, 2) := by decide +kernel
theorem dX5_work_154 : decode cX5_work 154 = .ok (.baload, 1) := by decide +kernel
theorem dX5_work_155 : decode cX5_work 155 = .ok (.ifCond .ne 7, 3) := by decide +kernel
theorem dX5_work_158 : decode cX5_work 158 = .ok (.iconst 1, 1) := by decide +kernel
theorem dX5_work_159 : decode cX5_work 159 = .ok (.goto 4, 3) := by decide +kernel
theorem dX5_work_162 : decode cX5_work 162 = .ok (.iconst 0, 1) := by decide +kernel
theorem dX5_work_163 : decode cX5_work 163 = .ok (.istore 6, 2) := by decide +kernel
theorem dX5_work_165 : decode cX5_work 165 = .ok (.iinc 7 1, 3) := by decide +kernel
theorem dX5_work_168 : decode cX5_work 168 = .ok (.goto (-42), 3) := by decide +kernel
theorem dX5_work_171 : decode cX5_work 171 = .ok (.iload 6, 2) := by decide +kernel
theorem dX5_work_173 : decode cX5_work 173 = .ok (.ifCond .ne 7, 3) := by decide +kernel
theorem dX5_work_176 : decode cX5_work 176 = .ok (.aload_n 0, 1) := by decide +kernel
theorem dX5_work_177 : decode cX5_work 177 = .ok (.invokevirtual 184, 3) := by decide +kernel
theorem dX5_work_180 : decode cX5_work 180 = .ok (.iload_n 2, 1) := by decide +kernel
theorem dX5_work_181 : decode cX5_work 181 = .ok (.ireturn, 1) := by decide +kernel
abbrev cX5_finish : ByteArray := prog_7_method_38_code
def yX5_finish : MethodName := ⟨RX5, "finish", "()V"⟩
theorem dX5_finish_0 : decode cX5_finish 0 = .ok (.aload_n 0, 1) := by decide +kernel
theorem dX5_finish_1 : decode cX5_finish 1 = .ok (.iconst 0, 1) := by decide +kernel
theorem dX5_finish_2 : decode cX5_finish 2 = .ok (.putfield 103, 3) := by decide +kernel
theorem dX5_finish_5 : decode cX5_finish 5 = .ok (.iconst 0, 1) := by decide +kernel
theorem dX5_finish_6 : decode cX5_finish 6 = .ok (.istore_n 1, 1) := by decide +kernel
theorem dX5_finish_7 : decode cX5_finish 7 = .ok (.iconst 0, 1) := by decide +kernel
theorem dX5_finish_8 : decode cX5_finish 8 = .ok (.istore_n 2, 1) := by decide +kernel
theorem dX5_finish_9 : decode cX5_finish 9 = .ok (.iload_n 2, 1) := by decide +kernel
theorem dX5_finish_10 : decode cX5_finish 10 = .ok (.sipush 256, 3) := by decide +kernel
theorem dX5_finish_13 : decode cX5_finish 13 = .ok (.if_icmp .ge 73, 3) := by decide +kernel
theorem dX5_finish_16 : decode cX5_finish 16 = .ok (.aload_n 0, 1) := by decide +kernel
theorem dX5_finish_17 : decode cX5_finish 17 = .ok (.getfield 26, 3) := by decide +kernel
theorem dX5_finish_20 : decode cX5_finish 20 = .ok (.iload_n 2, 1) := by decide +kernel
theorem dX5_finish_21 : decode cX5_finish 21 = .ok (.aload_n 0, 1) := by decide +kernel
theorem dX5_finish_22 : decode cX5_finish 22 = .ok (.getfield 13, 3) := by decide +kernel
theorem dX5_finish_25 : decode cX5_finish 25 = .ok (.iload_n 2, 1) := by decide +kernel
theorem dX5_finish_26 : decode cX5_finish 26 = .ok (.iaload, 1) := by decide +kernel
theorem dX5_finish_27 : decode cX5_finish 27 = .ok (.ifCond .le 25, 3) := by decide +kernel
theorem dX5_finish_30 : decode cX5_finish 30 = .ok (.aload_n 0, 1) := by decide +kernel
theorem dX5_finish_31 : decode cX5_finish 31 = .ok (.getfield 19, 3) := by decide +kernel
theorem dX5_finish_34 : decode cX5_finish 34 = .ok (.iload_n 2, 1) := by decide +kernel
theorem dX5_finish_35 : decode cX5_finish 35 = .ok (.baload, 1) := by decide +kernel
theorem dX5_finish_36 : decode cX5_finish 36 = .ok (.ifCond .ne 12, 3) := by decide +kernel
theorem dX5_finish_39 : decode cX5_finish 39 = .ok (.aload_n 0, 1) := by decide +kernel
theorem dX5_finish_40 : decode cX5_finish 40 = .ok (.getfield 29, 3) := by decide +kernel
theorem dX5_finish_43 : decode cX5_finish 43 = .ok (.iload_n 2, 1) := by decide +kernel
theorem dX5_finish_44 : decode cX5_finish 44 = .ok (.baload, 1) := by decide +kernel
theorem dX5_finish_45 : decode cX5_finish 45 = .ok (.ifCond .eq 7, 3) := by decide +kernel
theorem dX5_finish_48 : decode cX5_finish 48 = .ok (.iconst 1, 1) := by decide +kernel
theorem dX5_finish_49 : decode cX5_finish 49 = .ok (.goto 4, 3) := by decide +kernel
theorem dX5_finish_52 : decode cX5_finish 52 = .ok (.iconst 0, 1) := by decide +kernel
theorem dX5_finish_53 : decode cX5_finish 53 = .ok (.bastore, 1) := by decide +kernel
theorem dX5_finish_54 : decode cX5_finish 54 = .ok (.iload_n 1, 1) := by decide +kernel
theorem dX5_finish_55 : decode cX5_finish 55 = .ok (.aload_n 0, 1) := by decide +kernel
theorem dX5_finish_56 : decode cX5_finish 56 = .ok (.getfield 26, 3) := by decide +kernel
theorem dX5_finish_59 : decode cX5_finish 59 = .ok (.iload_n 2, 1) := by decide +kernel
theorem dX5_finish_60 : decode cX5_finish 60 = .ok (.baload, 1) := by decide +kernel
theorem dX5_finish_61 : decode cX5_finish 61 = .ok (.ifCond .eq 16, 3) := by decide +kernel
theorem dX5_finish_64 : decode cX5_finish 64 = .ok (.aload_n 0, 1) := by decide +kernel
theorem dX5_finish_65 : decode cX5_finish 65 = .ok (.aload_n 0, 1) := by decide +kernel
theorem dX5_finish_66 : decode cX5_finish 66 = .ok (.getfield 13, 3) := by decide +kernel
theorem dX5_finish_69 : decode cX5_finish 69 = .ok (.iload_n 2, 1) := by decide +kernel
theorem dX5_finish_70 : decode cX5_finish 70 = .ok (.iaload, 1) := by decide +kernel
theorem dX5_finish_71 : decode cX5_finish 71 = .ok (.invokevirtual 121, 3) := by decide +kernel
theorem dX5_finish_74 : decode cX5_finish 74 = .ok (.goto 4, 3) := by decide +kernel
theorem dX5_finish_77 : decode cX5_finish 77 = .ok (.iconst 0, 1) := by decide +kernel
theorem dX5_finish_78 : decode cX5_finish 78 = .ok (.iadd, 1) := by decide +kernel
theorem dX5_finish_79 : decode cX5_finish 79 = .ok (.istore_n 1, 1) := by decide +kernel
theorem dX5_finish_80 : decode cX5_finish 80 = .ok (.iinc 2 1, 3) := by decide +kernel
theorem dX5_finish_83 : decode cX5_finish 83 = .ok (.goto (-74), 3) := by decide +kernel
theorem dX5_finish_86 : decode cX5_finish 86 = .ok (.iconst 0, 1) := by decide +kernel
theorem dX5_finish_87 : decode cX5_finish 87 = .ok (.istore_n 2, 1) := by decide +kernel
theorem dX5_finish_88 : decode cX5_finish 88 = .ok (.iload_n 2, 1) := by decide +kernel
theorem dX5_finish_89 : decode cX5_finish 89 = .ok (.bipush 16, 2) := by decide +kernel
theorem dX5_finish_91 : decode cX5_finish 91 = .ok (.if_icmp .ge 30, 3) := by decide +kernel
theorem dX5_finish_94 : decode cX5_finish 94 = .ok (.aload_n 0, 1) := by decide +kernel
theorem dX5_finish_95 : decode cX5_finish 95 = .ok (.getfield 35, 3) := by decide +kernel
theorem dX5_finish_98 : decode cX5_finish 98 = .ok (.iload_n 2, 1) := by decide +kernel
theorem dX5_finish_99 : decode cX5_finish 99 = .ok (.aload_n 0, 1) := by decide +kernel
theorem dX5_finish_100 : decode cX5_finish 100 = .ok (.getfield 32, 3) := by decide +kernel
theorem dX5_finish_103 : decode cX5_finish 103 = .ok (.iload_n 2, 1) := by decide +kernel
theorem dX5_finish_104 : decode cX5_finish 104 = .ok (.iaload, 1) := by decide +kernel
theorem dX5_finish_105 : decode cX5_finish 105 = .ok (.iconst 1, 1) := by decide +kernel
theorem dX5_finish_106 : decode cX5_finish 106 = .ok (.if_icmp .le 7, 3) := by decide +kernel
theorem dX5_finish_109 : decode cX5_finish 109 = .ok (.iconst 1, 1) := by decide +kernel
theorem dX5_finish_110 : decode cX5_finish 110 = .ok (.goto 4, 3) := by decide +kernel
theorem dX5_finish_113 : decode cX5_finish 113 = .ok (.iconst 0, 1) := by decide +kernel
theorem dX5_finish_114 : decode cX5_finish 114 = .ok (.bastore, 1) := by decide +kernel
theorem dX5_finish_115 : decode cX5_finish 115 = .ok (.iinc 2 1, 3) := by decide +kernel
theorem dX5_finish_118 : decode cX5_finish 118 = .ok (.goto (-30), 3) := by decide +kernel
theorem dX5_finish_121 : decode cX5_finish 121 = .ok (.aload_n 0, 1) := by decide +kernel
theorem dX5_finish_122 : decode cX5_finish 122 = .ok (.iconst 0, 1) := by decide +kernel
theorem dX5_finish_123 : decode cX5_finish 123 = .ok (.putfield 125, 3) := by decide +kernel
theorem dX5_finish_126 : decode cX5_finish 126 = .ok (.aload_n 0, 1) := by decide +kernel
theorem dX5_finish_127 : decode cX5_finish 127 = .ok (.iload_n 1, 1) := by decide +kernel
theorem dX5_finish_128 : decode cX5_finish 128 = .ok (.iconst 2, 1) := by decide +kernel
theorem dX5_finish_129 : decode cX5_finish 129 = .ok (.idiv, 1) := by decide +kernel
theorem dX5_finish_130 : decode cX5_finish 130 = .ok (.bipush 64, 2) := by decide +kernel
theorem dX5_finish_132 : decode cX5_finish 132 = .ok (.if_icmp .ge 8, 3) := by decide +kernel
theorem dX5_finish_135 : decode cX5_finish 135 = .ok (.bipush 64, 2) := by decide +kernel
theorem dX5_finish_137 : decode cX5_finish 137 = .ok (.goto 6, 3) := by decide +kernel
theorem dX5_finish_140 : decode cX5_finish 140 = .ok (.iload_n 1, 1) := by decide +kernel
theorem dX5_finish_141 : decode cX5_finish 141 = .ok (.iconst 2, 1) := by decide +kernel
theorem dX5_finish_142 : decode cX5_finish 142 = .ok (.idiv, 1) := by decide +kernel
theorem dX5_finish_143 : decode cX5_finish 143 = .ok (.putfield 77, 3) := by decide +kernel
theorem dX5_finish_146 : decode cX5_finish 146 = .ok (.return_, 1) := by decide +kernel
abbrev cX5_mark : ByteArray := prog_7_method_39_code
def yX5_mark : MethodName := ⟨RX5, "mark", "(I)I"⟩
theorem dX5_mark_0 : decode cX5_mark 0 = .ok (.iload_n 1, 1) := by decide +kernel
theorem dX5_mark_1 : decode cX5_mark 1 = .ok (.iconst 1, 1) := by decide +kernel
theorem dX5_mark_2 : decode cX5_mark 2 = .ok (.if_icmp .lt 10, 3) := by decide +kernel
theorem dX5_mark_5 : decode cX5_mark 5 = .ok (.aload_n 0, 1) := by decide +kernel
theorem dX5_mark_6 : decode cX5_mark 6 = .ok (.getfield 103, 3) := by decide +kernel
theorem dX5_mark_9 : decode cX5_mark 9 = .ok (.ifCond .ne 7, 3) := by decide +kernel
theorem dX5_mark_12 : decode cX5_mark 12 = .ok (.iconst 0, 1) := by decide +kernel
theorem dX5_mark_13 : decode cX5_mark 13 = .ok (.goto 8, 3) := by decide +kernel
theorem dX5_mark_16 : decode cX5_mark 16 = .ok (.aload_n 0, 1) := by decide +kernel
theorem dX5_mark_17 : decode cX5_mark 17 = .ok (.iload_n 1, 1) := by decide +kernel
theorem dX5_mark_18 : decode cX5_mark 18 = .ok (.invokevirtual 131, 3) := by decide +kernel
theorem dX5_mark_21 : decode cX5_mark 21 = .ok (.ireturn, 1) := by decide +kernel
abbrev cX5_sweep : ByteArray := prog_7_method_40_code
def yX5_sweep : MethodName := ⟨RX5, "sweep", "(I)I"⟩
theorem dX5_sweep_0 : decode cX5_sweep 0 = .ok (.aload_n 0, 1) := by decide +kernel
theorem dX5_sweep_1 : decode cX5_sweep 1 = .ok (.iload_n 1, 1) := by decide +kernel
theorem dX5_sweep_2 : decode cX5_sweep 2 = .ok (.invokevirtual 138, 3) := by decide +kernel
theorem dX5_sweep_5 : decode cX5_sweep 5 = .ok (.ireturn, 1) := by decide +kernel
abbrev cX5_collect : ByteArray := prog_7_method_41_code
def yX5_collect : MethodName := ⟨RX5, "collect", "()Z"⟩
theorem dX5_collect_0 : decode cX5_collect 0 = .ok (.aload_n 0, 1) := by decide +kernel
theorem dX5_collect_1 : decode cX5_collect 1 = .ok (.getfield 103, 3) := by decide +kernel
theorem dX5_collect_4 : decode cX5_collect 4 = .ok (.ifCond .eq 5, 3) := by decide +kernel
theorem dX5_collect_7 : decode cX5_collect 7 = .ok (.iconst 0, 1) := by decide +kernel
theorem dX5_collect_8 : decode cX5_collect 8 = .ok (.ireturn, 1) := by decide +kernel
theorem dX5_collect_9 : decode cX5_collect 9 = .ok (.aload_n 0, 1) := by decide +kernel
theorem dX5_collect_10 : decode cX5_collect 10 = .ok (.invokevirtual 128, 3) := by decide +kernel
theorem dX5_collect_13 : decode cX5_collect 13 = .ok (.iconst 1, 1) := by decide +kernel
theorem dX5_collect_14 : decode cX5_collect 14 = .ok (.ireturn, 1) := by decide +kernel
abbrev cX5_fiber : ByteArray := prog_7_method_42_code
def yX5_fiber : MethodName := ⟨RX5, "fiber", "(II)I"⟩
theorem dX5_fiber_0 : decode cX5_fiber 0 = .ok (.iload_n 1, 1) := by decide +kernel
theorem dX5_fiber_1 : decode cX5_fiber 1 = .ok (.ifCond .lt 18, 3) := by decide +kernel
theorem dX5_fiber_4 : decode cX5_fiber 4 = .ok (.iload_n 1, 1) := by decide +kernel
theorem dX5_fiber_5 : decode cX5_fiber 5 = .ok (.iconst 5, 1) := by decide +kernel
theorem dX5_fiber_6 : decode cX5_fiber 6 = .ok (.if_icmp .gt 13, 3) := by decide +kernel
theorem dX5_fiber_9 : decode cX5_fiber 9 = .ok (.iload_n 2, 1) := by decide +kernel
theorem dX5_fiber_10 : decode cX5_fiber 10 = .ok (.ifCond .lt 9, 3) := by decide +kernel
theorem dX5_fiber_13 : decode cX5_fiber 13 = .ok (.iload_n 2, 1) := by decide +kernel
theorem dX5_fiber_14 : decode cX5_fiber 14 = .ok (.bipush 9, 2) := by decide +kernel
theorem dX5_fiber_16 : decode cX5_fiber 16 = .ok (.if_icmp .le 5, 3) := by decide +kernel
theorem dX5_fiber_19 : decode cX5_fiber 19 = .ok (.iconst (-1), 1) := by decide +kernel
theorem dX5_fiber_20 : decode cX5_fiber 20 = .ok (.ireturn, 1) := by decide +kernel
theorem dX5_fiber_21 : decode cX5_fiber 21 = .ok (.iload_n 2, 1) := by decide +kernel
theorem dX5_fiber_22 : decode cX5_fiber 22 = .ok (.ifCond .eq 12, 3) := by decide +kernel
theorem dX5_fiber_25 : decode cX5_fiber 25 = .ok (.aload_n 0, 1) := by decide +kernel
theorem dX5_fiber_26 : decode cX5_fiber 26 = .ok (.getfield 38, 3) := by decide +kernel
theorem dX5_fiber_29 : decode cX5_fiber 29 = .ok (.iload_n 1, 1) := by decide +kernel
theorem dX5_fiber_30 : decode cX5_fiber 30 = .ok (.iaload, 1) := by decide +kernel
theorem dX5_fiber_31 : decode cX5_fiber 31 = .ok (.ifCond .ne 18, 3) := by decide +kernel
theorem dX5_fiber_34 : decode cX5_fiber 34 = .ok (.iload_n 2, 1) := by decide +kernel
theorem dX5_fiber_35 : decode cX5_fiber 35 = .ok (.ifCond .ne 12, 3) := by decide +kernel
theorem dX5_fiber_38 : decode cX5_fiber 38 = .ok (.aload_n 0, 1) := by decide +kernel
theorem dX5_fiber_39 : decode cX5_fiber 39 = .ok (.getfield 38, 3) := by decide +kernel
theorem dX5_fiber_42 : decode cX5_fiber 42 = .ok (.iload_n 1, 1) := by decide +kernel
theorem dX5_fiber_43 : decode cX5_fiber 43 = .ok (.iaload, 1) := by decide +kernel
theorem dX5_fiber_44 : decode cX5_fiber 44 = .ok (.goto 4, 3) := by decide +kernel
theorem dX5_fiber_47 : decode cX5_fiber 47 = .ok (.iconst (-1), 1) := by decide +kernel
theorem dX5_fiber_48 : decode cX5_fiber 48 = .ok (.ireturn, 1) := by decide +kernel
theorem dX5_fiber_49 : decode cX5_fiber 49 = .ok (.iload_n 2, 1) := by decide +kernel
theorem dX5_fiber_50 : decode cX5_fiber 50 = .ok (.iconst 4, 1) := by decide +kernel
theorem dX5_fiber_51 : decode cX5_fiber 51 = .ok (.if_icmp .lt 18, 3) := by decide +kernel
theorem dX5_fiber_54 : decode cX5_fiber 54 = .ok (.iload_n 2, 1) := by decide +kernel
theorem dX5_fiber_55 : decode cX5_fiber 55 = .ok (.bipush 8, 2) := by decide +kernel
theorem dX5_fiber_57 : decode cX5_fiber 57 = .ok (.if_icmp .ge 12, 3) := by decide +kernel
theorem dX5_fiber_60 : decode cX5_fiber 60 = .ok (.aload_n 0, 1) := by decide +kernel
theorem dX5_fiber_61 : decode cX5_fiber 61 = .ok (.iload_n 1, 1) := by decide +kernel
theorem dX5_fiber_62 : decode cX5_fiber 62 = .ok (.iload_n 2, 1) := by decide +kernel
theorem dX5_fiber_63 : decode cX5_fiber 63 = .ok (.iconst 4, 1) := by decide +kernel
theorem dX5_fiber_64 : decode cX5_fiber 64 = .ok (.isub, 1) := by decide +kernel
theorem dX5_fiber_65 : decode cX5_fiber 65 = .ok (.invokevirtual 100, 3) := by decide +kernel
theorem dX5_fiber_68 : decode cX5_fiber 68 = .ok (.ireturn, 1) := by decide +kernel
theorem dX5_fiber_69 : decode cX5_fiber 69 = .ok (.aload_n 0, 1) := by decide +kernel
theorem dX5_fiber_70 : decode cX5_fiber 70 = .ok (.getfield 103, 3) := by decide +kernel
theorem dX5_fiber_73 : decode cX5_fiber 73 = .ok (.ifCond .eq 16, 3) := by decide +kernel
theorem dX5_fiber_76 : decode cX5_fiber 76 = .ok (.aload_n 0, 1) := by decide +kernel
theorem dX5_fiber_77 : decode cX5_fiber 77 = .ok (.getfield 53, 3) := by decide +kernel
theorem dX5_fiber_80 : decode cX5_fiber 80 = .ok (.iload_n 1, 1) := by decide +kernel
theorem dX5_fiber_81 : decode cX5_fiber 81 = .ok (.baload, 1) := by decide +kernel
theorem dX5_fiber_82 : decode cX5_fiber 82 = .ok (.ifCond .eq 7, 3) := by decide +kernel
theorem dX5_fiber_85 : decode cX5_fiber 85 = .ok (.iconst 1, 1) := by decide +kernel
theorem dX5_fiber_86 : decode cX5_fiber 86 = .ok (.goto 4, 3) := by decide +kernel
theorem dX5_fiber_89 : decode cX5_fiber 89 = .ok (.iconst 0, 1) := by decide +kernel
theorem dX5_fiber_90 : decode cX5_fiber 90 = .ok (.istore_n 3, 1) := by decide +kernel
theorem dX5_fiber_91 : decode cX5_fiber 91 = .ok (.iload_n 2, 1) := by decide +kernel
theorem dX5_fiber_92 : decode cX5_fiber 92 = .ok (.iconst 1, 1) := by decide +kernel
theorem dX5_fiber_93 : decode cX5_fiber 93 = .ok (.if_icmp .ne 12, 3) := by decide +kernel
theorem dX5_fiber_96 : decode cX5_fiber 96 = .ok (.aload_n 0, 1) := by decide +kernel
theorem dX5_fiber_97 : decode cX5_fiber 97 = .ok (.getfield 41, 3) := by decide +kernel
theorem dX5_fiber_100 : decode cX5_fiber 100 = .ok (.iload_n 1, 1) := by decide +kernel
theorem dX5_fiber_101 : decode cX5_fiber 101 = .ok (.iaload, 1) := by decide +kernel
theorem dX5_fiber_102 : decode cX5_fiber 102 = .ok (.goto 59, 3) := by decide +kernel
theorem dX5_fiber_105 : decode cX5_fiber 105 = .ok (.iload_n 2, 1) := by decide +kernel
theorem dX5_fiber_106 : decode cX5_fiber 106 = .ok (.iconst 2, 1) := by decide +kernel
theorem dX5_fiber_107 : decode cX5_fiber 107 = .ok (.if_icmp .ne 12, 3) := by decide +kernel
theorem dX5_fiber_110 : decode cX5_fiber 110 = .ok (.aload_n 0, 1) := by decide +kernel
theorem dX5_fiber_111 : decode cX5_fiber 111 = .ok (.getfield 44, 3) := by decide +kernel
theorem dX5_fiber_114 : decode cX5_fiber 114 = .ok (.iload_n 1, 1) := by decide +kernel
theorem dX5_fiber_115 : decode cX5_fiber 115 = .ok (.iaload, 1) := by decide +kernel
theorem dX5_fiber_116 : decode cX5_fiber 116 = .ok (.goto 45, 3) := by decide +kernel
theorem dX5_fiber_119 : decode cX5_fiber 119 = .ok (.iload_n 2, 1) := by decide +kernel
theorem dX5_fiber_120 : decode cX5_fiber 120 = .ok (.iconst 3, 1) := by decide +kernel
theorem dX5_fiber_121 : decode cX5_fiber 121 = .ok (.if_icmp .ne 7, 3) := by decide +kernel
theorem dX5_fiber_124 : decode cX5_fiber 124 = .ok (.iload_n 3, 1) := by decide +kernel
theorem dX5_fiber_125 : decode cX5_fiber 125 = .ok (.goto 36, 3) := by decide +kernel
theorem dX5_fiber_128 : decode cX5_fiber 128 = .ok (.iload_n 2, 1) := by decide +kernel
theorem dX5_fiber_129 : decode cX5_fiber 129 = .ok (.bipush 8, 2) := by decide +kernel
theorem dX5_fiber_131 : decode cX5_fiber 131 = .ok (.if_icmp .ne 24, 3) := by decide +kernel
theorem dX5_fiber_134 : decode cX5_fiber 134 = .ok (.aload_n 0, 1) := by decide +kernel
theorem dX5_fiber_135 : decode cX5_fiber 135 = .ok (.getfield 50, 3) := by decide +kernel
theorem dX5_fiber_138 : decode cX5_fiber 138 = .ok (.bipush 16, 2) := by decide +kernel
theorem dX5_fiber_140 : decode cX5_fiber 140 = .ok (.iload_n 1, 1) := by decide +kernel
theorem dX5_fiber_141 : decode cX5_fiber 141 = .ok (.imul, 1) := by decide +kernel
theorem dX5_fiber_142 : decode cX5_fiber 142 = .ok (.aload_n 0, 1) := by decide +kernel
theorem dX5_fiber_143 : decode cX5_fiber 143 = .ok (.getfield 41, 3) := by decide +kernel
theorem dX5_fiber_146 : decode cX5_fiber 146 = .ok (.iload_n 1, 1) := by decide +kernel
theorem dX5_fiber_147 : decode cX5_fiber 147 = .ok (.iaload, 1) := by decide +kernel
theorem dX5_fiber_148 : decode cX5_fiber 148 = .ok (.iadd, 1) := by decide +kernel
theorem dX5_fiber_149 : decode cX5_fiber 149 = .ok (.iconst 1, 1) := by decide +kernel
theorem dX5_fiber_150 : decode cX5_fiber 150 = .ok (.isub, 1) := by decide +kernel
theorem dX5_fiber_151 : decode cX5_fiber 151 = .ok (.iaload, 1) := by decide +kernel
theorem dX5_fiber_152 : decode cX5_fiber 152 = .ok (.goto 9, 3) := by decide +kernel
theorem dX5_fiber_155 : decode cX5_fiber 155 = .ok (.aload_n 0, 1) := by decide +kernel
theorem dX5_fiber_156 : decode cX5_fiber 156 = .ok (.getfield 68, 3) := by decide +kernel
theorem dX5_fiber_159 : decode cX5_fiber 159 = .ok (.iload_n 1, 1) := by decide +kernel
theorem dX5_fiber_160 : decode cX5_fiber 160 = .ok (.iaload, 1) := by decide +kernel
theorem dX5_fiber_161 : decode cX5_fiber 161 = .ok (.ireturn, 1) := by decide +kernel
abbrev cX5_tally : ByteArray := prog_7_method_43_code
def yX5_tally : MethodName := ⟨RX5, "tally", "(I)I"⟩
theorem dX5_tally_0 : decode cX5_tally 0 = .ok (.iconst 0, 1) := by decide +kernel
theorem dX5_tally_1 : decode cX5_tally 1 = .ok (.istore_n 2, 1) := by decide +kernel
theorem dX5_tally_2 : decode cX5_tally 2 = .ok (.iconst 0, 1) := by decide +kernel
theorem dX5_tally_3 : decode cX5_tally 3 = .ok (.istore_n 3, 1) := by decide +kernel
theorem dX5_tally_4 : decode cX5_tally 4 = .ok (.iload_n 3, 1) := by decide +kernel
theorem dX5_tally_5 : decode cX5_tally 5 = .ok (.sipush 256, 3) := by decide +kernel
theorem dX5_tally_8 : decode cX5_tally 8 = .ok (.if_icmp .ge 48, 3) := by decide +kernel
theorem dX5_tally_11 : decode cX5_tally 11 = .ok (.iload_n 2, 1) := by decide +kernel
theorem dX5_tally_12 : decode cX5_tally 12 = .ok (.aload_n 0, 1) := by decide +kernel
theorem dX5_tally_13 : decode cX5_tally 13 = .ok (.getfield 13, 3) := by decide +kernel
theorem dX5_tally_16 : decode cX5_tally 16 = .ok (.iload_n 3, 1) := by decide +kernel
theorem dX5_tally_17 : decode cX5_tally 17 = .ok (.iaload, 1) := by decide +kernel
theorem dX5_tally_18 : decode cX5_tally 18 = .ok (.ifCond .eq 8, 3) := by decide +kernel
theorem dX5_tally_21 : decode cX5_tally 21 = .ok (.iload_n 1, 1) := by decide +kernel
theorem dX5_tally_22 : decode cX5_tally 22 = .ok (.iconst 1, 1) := by decide +kernel
theorem dX5_tally_23 : decode cX5_tally 23 = .ok (.if_icmp .le 7, 3) := by decide +kernel
theorem dX5_tally_26 : decode cX5_tally 26 = .ok (.iconst 0, 1) := by decide +kernel
theorem dX5_tally_27 : decode cX5_tally 27 = .ok (.goto 21, 3) := by decide +kernel
theorem dX5_tally_30 : decode cX5_tally 30 = .ok (.iload_n 1, 1) := by decide +kernel
theorem dX5_tally_31 : decode cX5_tally 31 = .ok (.ifCond .ne 7, 3) := by decide +kernel
theorem dX5_tally_34 : decode cX5_tally 34 = .ok (.iconst 1, 1) := by decide +kernel
theorem dX5_tally_35 : decode cX5_tally 35 = .ok (.goto 13, 3) := by decide +kernel
theorem dX5_tally_38 : decode cX5_tally 38 = .ok (.aload_n 0, 1) := by decide +kernel
theorem dX5_tally_39 : decode cX5_tally 39 = .ok (.aload_n 0, 1) := by decide +kernel
theorem dX5_tally_40 : decode cX5_tally 40 = .ok (.getfield 13, 3) := by decide +kernel
theorem dX5_tally_43 : decode cX5_tally 43 = .ok (.iload_n 3, 1) := by decide +kernel
theorem dX5_tally_44 : decode cX5_tally 44 = .ok (.iaload, 1) := by decide +kernel
theorem dX5_tally_45 : decode cX5_tally 45 = .ok (.invokevirtual 121, 3) := by decide +kernel
theorem dX5_tally_48 : decode cX5_tally 48 = .ok (.iadd, 1) := by decide +kernel
theorem dX5_tally_49 : decode cX5_tally 49 = .ok (.istore_n 2, 1) := by decide +kernel
theorem dX5_tally_50 : decode cX5_tally 50 = .ok (.iinc 3 1, 3) := by decide +kernel
theorem dX5_tally_53 : decode cX5_tally 53 = .ok (.goto (-49), 3) := by decide +kernel
theorem dX5_tally_56 : decode cX5_tally 56 = .ok (.iconst 0, 1) := by decide +kernel
theorem dX5_tally_57 : decode cX5_tally 57 = .ok (.istore_n 3, 1) := by decide +kernel
theorem dX5_tally_58 : decode cX5_tally 58 = .ok (.iload_n 3, 1) := by decide +kernel
theorem dX5_tally_59 : decode cX5_tally 59 = .ok (.bipush 16, 2) := by decide +kernel
theorem dX5_tally_61 : decode cX5_tally 61 = .ok (.if_icmp .ge 45, 3) := by decide +kernel
theorem dX5_tally_64 : decode cX5_tally 64 = .ok (.iload_n 2, 1) := by decide +kernel
theorem dX5_tally_65 : decode cX5_tally 65 = .ok (.iload_n 1, 1) := by decide +kernel
theorem dX5_tally_66 : decode cX5_tally 66 = .ok (.iconst 2, 1) := by decide +kernel
theorem dX5_tally_67 : decode cX5_tally 67 = .ok (.if_icmp .ne 12, 3) := by decide +kernel
theorem dX5_tally_70 : decode cX5_tally 70 = .ok (.aload_n 0, 1) := by decide +kernel
theorem dX5_tally_71 : decode cX5_tally 71 = .ok (.getfield 32, 3) := by decide +kernel
theorem dX5_tally_74 : decode cX5_tally 74 = .ok (.iload_n 3, 1) := by decide +kernel
theorem dX5_tally_75 : decode cX5_tally 75 = .ok (.iaload, 1) := by decide +kernel
theorem dX5_tally_76 : decode cX5_tally 76 = .ok (.ifCond .eq 17, 3) := by decide +kernel
theorem dX5_tally_79 : decode cX5_tally 79 = .ok (.iload_n 1, 1) := by decide +kernel
theorem dX5_tally_80 : decode cX5_tally 80 = .ok (.iconst 5, 1) := by decide +kernel
theorem dX5_tally_81 : decode cX5_tally 81 = .ok (.if_icmp .ne 16, 3) := by decide +kernel
theorem dX5_tally_84 : decode cX5_tally 84 = .ok (.aload_n 0, 1) := by decide +kernel
theorem dX5_tally_85 : decode cX5_tally 85 = .ok (.getfield 35, 3) := by decide +kernel
theorem dX5_tally_88 : decode cX5_tally 88 = .ok (.iload_n 3, 1) := by decide +kernel
theorem dX5_tally_89 : decode cX5_tally 89 = .ok (.baload, 1) := by decide +kernel
theorem dX5_tally_90 : decode cX5_tally 90 = .ok (.ifCond .eq 7, 3) := by decide +kernel
theorem dX5_tally_93 : decode cX5_tally 93 = .ok (.iconst 1, 1) := by decide +kernel
theorem dX5_tally_94 : decode cX5_tally 94 = .ok (.goto 4, 3) := by decide +kernel
theorem dX5_tally_97 : decode cX5_tally 97 = .ok (.iconst 0, 1) := by decide +kernel
theorem dX5_tally_98 : decode cX5_tally 98 = .ok (.iadd, 1) := by decide +kernel
theorem dX5_tally_99 : decode cX5_tally 99 = .ok (.istore_n 2, 1) := by decide +kernel
theorem dX5_tally_100 : decode cX5_tally 100 = .ok (.iinc 3 1, 3) := by decide +kernel
theorem dX5_tally_103 : decode cX5_tally 103 = .ok (.goto (-45), 3) := by decide +kernel
theorem dX5_tally_106 : decode cX5_tally 106 = .ok (.iload_n 2, 1) := by decide +kernel
theorem dX5_tally_107 : decode cX5_tally 107 = .ok (.ireturn, 1) := by decide +kernel
abbrev cX5_count : ByteArray := prog_7_method_44_code
def yX5_count : MethodName := ⟨RX5, "count", "(I)I"⟩
theorem dX5_count_0 : decode cX5_count 0 = .ok (.iload_n 1, 1) := by decide +kernel
theorem dX5_count_1 : decode cX5_count 1 = .ok (.tableswitch 101 3 11 #[51, 58, 101, 71, 76, 81, 86, 91, 96], 51) := by decide +kernel
theorem dX5_count_52 : decode cX5_count 52 = .ok (.aload_n 0, 1) := by decide +kernel
theorem dX5_count_53 : decode cX5_count 53 = .ok (.iconst 1, 1) := by decide +kernel
theorem dX5_count_54 : decode cX5_count 54 = .ok (.iconst 1, 1) := by decide +kernel
theorem dX5_count_55 : decode cX5_count 55 = .ok (.invokevirtual 117, 3) := by decide +kernel
theorem dX5_count_58 : decode cX5_count 58 = .ok (.ireturn, 1) := by decide +kernel
theorem dX5_count_59 : decode cX5_count 59 = .ok (.aload_n 0, 1) := by decide +kernel
theorem dX5_count_60 : decode cX5_count 60 = .ok (.getfield 103, 3) := by decide +kernel
theorem dX5_count_63 : decode cX5_count 63 = .ok (.ifCond .eq 7, 3) := by decide +kernel
theorem dX5_count_66 : decode cX5_count 66 = .ok (.iconst 1, 1) := by decide +kernel
theorem dX5_count_67 : decode cX5_count 67 = .ok (.goto 4, 3) := by decide +kernel
theorem dX5_count_70 : decode cX5_count 70 = .ok (.iconst 0, 1) := by decide +kernel
theorem dX5_count_71 : decode cX5_count 71 = .ok (.ireturn, 1) := by decide +kernel
theorem dX5_count_72 : decode cX5_count 72 = .ok (.aload_n 0, 1) := by decide +kernel
theorem dX5_count_73 : decode cX5_count 73 = .ok (.getfield 171, 3) := by decide +kernel
theorem dX5_count_76 : decode cX5_count 76 = .ok (.ireturn, 1) := by decide +kernel
theorem dX5_count_77 : decode cX5_count 77 = .ok (.aload_n 0, 1) := by decide +kernel
theorem dX5_count_78 : decode cX5_count 78 = .ok (.getfield 181, 3) := by decide +kernel
theorem dX5_count_81 : decode cX5_count 81 = .ok (.ireturn, 1) := by decide +kernel
theorem dX5_count_82 : decode cX5_count 82 = .ok (.aload_n 0, 1) := by decide +kernel
theorem dX5_count_83 : decode cX5_count 83 = .ok (.getfield 107, 3) := by decide +kernel
theorem dX5_count_86 : decode cX5_count 86 = .ok (.ireturn, 1) := by decide +kernel
theorem dX5_count_87 : decode cX5_count 87 = .ok (.aload_n 0, 1) := by decide +kernel
theorem dX5_count_88 : decode cX5_count 88 = .ok (.getfield 125, 3) := by decide +kernel
theorem dX5_count_91 : decode cX5_count 91 = .ok (.ireturn, 1) := by decide +kernel
theorem dX5_count_92 : decode cX5_count 92 = .ok (.aload_n 0, 1) := by decide +kernel
theorem dX5_count_93 : decode cX5_count 93 = .ok (.getfield 77, 3) := by decide +kernel
theorem dX5_count_96 : decode cX5_count 96 = .ok (.ireturn, 1) := by decide +kernel
theorem dX5_count_97 : decode cX5_count 97 = .ok (.aload_n 0, 1) := by decide +kernel
theorem dX5_count_98 : decode cX5_count 98 = .ok (.getfield 110, 3) := by decide +kernel
theorem dX5_count_101 : decode cX5_count 101 = .ok (.ireturn, 1) := by decide +kernel
theorem dX5_count_102 : decode cX5_count 102 = .ok (.iload_n 1, 1) := by decide +kernel
theorem dX5_count_103 : decode cX5_count 103 = .ok (.ifCond .lt 9, 3) := by decide +kernel
theorem dX5_count_106 : decode cX5_count 106 = .ok (.iload_n 1, 1) := by decide +kernel
theorem dX5_count_107 : decode cX5_count 107 = .ok (.bipush 11, 2) := by decide +kernel
theorem dX5_count_109 : decode cX5_count 109 = .ok (.if_icmp .le 7, 3) := by decide +kernel
theorem dX5_count_112 : decode cX5_count 112 = .ok (.iconst (-1), 1) := by decide +kernel
theorem dX5_count_113 : decode cX5_count 113 = .ok (.goto 8, 3) := by decide +kernel
theorem dX5_count_116 : decode cX5_count 116 = .ok (.aload_n 0, 1) := by decide +kernel
theorem dX5_count_117 : decode cX5_count 117 = .ok (.iload_n 1, 1) := by decide +kernel
theorem dX5_count_118 : decode cX5_count 118 = .ok (.invokevirtual 187, 3) := by decide +kernel
theorem dX5_count_121 : decode cX5_count 121 = .ok (.ireturn, 1) := by decide +kernel
abbrev cX5_page : ByteArray := prog_7_method_45_code
def yX5_page : MethodName := ⟨RX5, "page", "(I)I"⟩
theorem dX5_page_0 : decode cX5_page 0 = .ok (.iload_n 1, 1) := by decide +kernel
theorem dX5_page_1 : decode cX5_page 1 = .ok (.ifCond .lt 9, 3) := by decide +kernel
theorem dX5_page_4 : decode cX5_page 4 = .ok (.iload_n 1, 1) := by decide +kernel
theorem dX5_page_5 : decode cX5_page 5 = .ok (.bipush 15, 2) := by decide +kernel
theorem dX5_page_7 : decode cX5_page 7 = .ok (.if_icmp .le 7, 3) := by decide +kernel
theorem dX5_page_10 : decode cX5_page 10 = .ok (.iconst (-1), 1) := by decide +kernel
theorem dX5_page_11 : decode cX5_page 11 = .ok (.goto 9, 3) := by decide +kernel
theorem dX5_page_14 : decode cX5_page 14 = .ok (.aload_n 0, 1) := by decide +kernel
theorem dX5_page_15 : decode cX5_page 15 = .ok (.getfield 32, 3) := by decide +kernel
theorem dX5_page_18 : decode cX5_page 18 = .ok (.iload_n 1, 1) := by decide +kernel
theorem dX5_page_19 : decode cX5_page 19 = .ok (.iaload, 1) := by decide +kernel
theorem dX5_page_20 : decode cX5_page 20 = .ok (.ireturn, 1) := by decide +kernel
end
section
def RL : String := "FiberHeapLaw"
abbrev cL_law : ByteArray := code
def yL_law : MethodName := ⟨RL, "law", "([I)Z"⟩
theorem dL_law_0 : decode cL_law 0 = .ok (.new 7, 3) := by decide +kernel
theorem dL_law_3 : decode cL_law 3 = .ok (.dup, 1) := by decide +kernel
theorem dL_law_4 : decode cL_law 4 = .ok (.invokespecial 9, 3) := by decide +kernel
theorem dL_law_7 : decode cL_law 7 = .ok (.astore_n 1, 1) := by decide +kernel
theorem dL_law_8 : decode cL_law 8 = .ok (.new 10, 3) := by decide +kernel
theorem dL_law_11 : decode cL_law 11 = .ok (.dup, 1) := by decide +kernel
theorem dL_law_12 : decode cL_law 12 = .ok (.invokespecial 12, 3) := by decide +kernel
theorem dL_law_15 : decode cL_law 15 = .ok (.astore_n 2, 1) := by decide +kernel
theorem dL_law_16 : decode cL_law 16 = .ok (.iconst 0, 1) := by decide +kernel
theorem dL_law_17 : decode cL_law 17 = .ok (.istore_n 3, 1) := by decide +kernel
theorem dL_law_18 : decode cL_law 18 = .ok (.iload_n 3, 1) := by decide +kernel
theorem dL_law_19 : decode cL_law 19 = .ok (.aload_n 0, 1) := by decide +kernel
theorem dL_law_20 : decode cL_law 20 = .ok (.arraylength, 1) := by decide +kernel
theorem dL_law_21 : decode cL_law 21 = .ok (.iconst 5, 1) := by decide +kernel
theorem dL_law_22 : decode cL_law 22 = .ok (.isub, 1) := by decide +kernel
theorem dL_law_23 : decode cL_law 23 = .ok (.if_icmp .gt 801, 3) := by decide +kernel
theorem dL_law_26 : decode cL_law 26 = .ok (.aload_n 0, 1) := by decide +kernel
theorem dL_law_27 : decode cL_law 27 = .ok (.iload_n 3, 1) := by decide +kernel
theorem dL_law_28 : decode cL_law 28 = .ok (.iaload, 1) := by decide +kernel
theorem dL_law_29 : decode cL_law 29 = .ok (.bipush 31, 2) := by decide +kernel
theorem dL_law_31 : decode cL_law 31 = .ok (.iand, 1) := by decide +kernel
theorem dL_law_32 : decode cL_law 32 = .ok (.tableswitch 786 0 19 #[96, 129, 152, 175, 198, 221, 254, 297, 350, 403, 456, 509, 552, 595, 648, 671, 694, 707, 740, 763], 96) := by decide +kernel
theorem dL_law_128 : decode cL_law 128 = .ok (.aload_n 1, 1) := by decide +kernel
theorem dL_law_129 : decode cL_law 129 = .ok (.aload_n 0, 1) := by decide +kernel
theorem dL_law_130 : decode cL_law 130 = .ok (.iload_n 3, 1) := by decide +kernel
theorem dL_law_131 : decode cL_law 131 = .ok (.iconst 1, 1) := by decide +kernel
theorem dL_law_132 : decode cL_law 132 = .ok (.iadd, 1) := by decide +kernel
theorem dL_law_133 : decode cL_law 133 = .ok (.iaload, 1) := by decide +kernel
theorem dL_law_134 : decode cL_law 134 = .ok (.aload_n 0, 1) := by decide +kernel
theorem dL_law_135 : decode cL_law 135 = .ok (.iload_n 3, 1) := by decide +kernel
theorem dL_law_136 : decode cL_law 136 = .ok (.iconst 2, 1) := by decide +kernel
theorem dL_law_137 : decode cL_law 137 = .ok (.iadd, 1) := by decide +kernel
theorem dL_law_138 : decode cL_law 138 = .ok (.iaload, 1) := by decide +kernel
theorem dL_law_139 : decode cL_law 139 = .ok (.invokevirtual 13, 3) := by decide +kernel
theorem dL_law_142 : decode cL_law 142 = .ok (.aload_n 2, 1) := by decide +kernel
theorem dL_law_143 : decode cL_law 143 = .ok (.aload_n 0, 1) := by decide +kernel
theorem dL_law_144 : decode cL_law 144 = .ok (.iload_n 3, 1) := by decide +kernel
theorem dL_law_145 : decode cL_law 145 = .ok (.iconst 1, 1) := by decide +kernel
theorem dL_law_146 : decode cL_law 146 = .ok (.iadd, 1) := by decide +kernel
theorem dL_law_147 : decode cL_law 147 = .ok (.iaload, 1) := by decide +kernel
theorem dL_law_148 : decode cL_law 148 = .ok (.aload_n 0, 1) := by decide +kernel
theorem dL_law_149 : decode cL_law 149 = .ok (.iload_n 3, 1) := by decide +kernel
theorem dL_law_150 : decode cL_law 150 = .ok (.iconst 2, 1) := by decide +kernel
theorem dL_law_151 : decode cL_law 151 = .ok (.iadd, 1) := by decide +kernel
theorem dL_law_152 : decode cL_law 152 = .ok (.iaload, 1) := by decide +kernel
theorem dL_law_153 : decode cL_law 153 = .ok (.invokevirtual 17, 3) := by decide +kernel
theorem dL_law_156 : decode cL_law 156 = .ok (.if_icmp .eq 662, 3) := by decide +kernel
theorem dL_law_159 : decode cL_law 159 = .ok (.iconst 0, 1) := by decide +kernel
theorem dL_law_160 : decode cL_law 160 = .ok (.ireturn, 1) := by decide +kernel
theorem dL_law_161 : decode cL_law 161 = .ok (.aload_n 1, 1) := by decide +kernel
theorem dL_law_162 : decode cL_law 162 = .ok (.aload_n 0, 1) := by decide +kernel
theorem dL_law_163 : decode cL_law 163 = .ok (.iload_n 3, 1) := by decide +kernel
theorem dL_law_164 : decode cL_law 164 = .ok (.iconst 1, 1) := by decide +kernel
theorem dL_law_165 : decode cL_law 165 = .ok (.iadd, 1) := by decide +kernel
theorem dL_law_166 : decode cL_law 166 = .ok (.iaload, 1) := by decide +kernel
theorem dL_law_167 : decode cL_law 167 = .ok (.invokevirtual 18, 3) := by decide +kernel
theorem dL_law_170 : decode cL_law 170 = .ok (.aload_n 2, 1) := by decide +kernel
theorem dL_law_171 : decode cL_law 171 = .ok (.aload_n 0, 1) := by decide +kernel
theorem dL_law_172 : decode cL_law 172 = .ok (.iload_n 3, 1) := by decide +kernel
theorem dL_law_173 : decode cL_law 173 = .ok (.iconst 1, 1) := by decide +kernel
theorem dL_law_174 : decode cL_law 174 = .ok (.iadd, 1) := by decide +kernel
theorem dL_law_175 : decode cL_law 175 = .ok (.iaload, 1) := by decide +kernel
theorem dL_law_176 : decode cL_law 176 = .ok (.invokevirtual 22, 3) := by decide +kernel
theorem dL_law_179 : decode cL_law 179 = .ok (.if_icmp .eq 639, 3) := by decide +kernel
theorem dL_law_182 : decode cL_law 182 = .ok (.iconst 0, 1) := by decide +kernel
theorem dL_law_183 : decode cL_law 183 = .ok (.ireturn, 1) := by decide +kernel
theorem dL_law_184 : decode cL_law 184 = .ok (.aload_n 1, 1) := by decide +kernel
theorem dL_law_185 : decode cL_law 185 = .ok (.aload_n 0, 1) := by decide +kernel
theorem dL_law_186 : decode cL_law 186 = .ok (.iload_n 3, 1) := by decide +kernel
theorem dL_law_187 : decode cL_law 187 = .ok (.iconst 1, 1) := by decide +kernel
theorem dL_law_188 : decode cL_law 188 = .ok (.iadd, 1) := by decide +kernel
theorem dL_law_189 : decode cL_law 189 = .ok (.iaload, 1) := by decide +kernel
theorem dL_law_190 : decode cL_law 190 = .ok (.invokevirtual 23, 3) := by decide +kernel
theorem dL_law_193 : decode cL_law 193 = .ok (.aload_n 2, 1) := by decide +kernel
theorem dL_law_194 : decode cL_law 194 = .ok (.aload_n 0, 1) := by decide +kernel
theorem dL_law_195 : decode cL_law 195 = .ok (.iload_n 3, 1) := by decide +kernel
theorem dL_law_196 : decode cL_law 196 = .ok (.iconst 1, 1) := by decide +kernel
theorem dL_law_197 : decode cL_law 197 = .ok (.iadd, 1) := by decide +kernel
theorem dL_law_198 : decode cL_law 198 = .ok (.iaload, 1) := by decide +kernel
theorem dL_law_199 : decode cL_law 199 = .ok (.invokevirtual 26, 3) := by decide +kernel
theorem dL_law_202 : decode cL_law 202 = .ok (.if_icmp .eq 616, 3) := by decide +kernel
theorem dL_law_205 : decode cL_law 205 = .ok (.iconst 0, 1) := by decide +kernel
theorem dL_law_206 : decode cL_law 206 = .ok (.ireturn, 1) := by decide +kernel
theorem dL_law_207 : decode cL_law 207 = .ok (.aload_n 1, 1) := by decide +kernel
theorem dL_law_208 : decode cL_law 208 = .ok (.aload_n 0, 1) := by decide +kernel
theorem dL_law_209 : decode cL_law 209 = .ok (.iload_n 3, 1) := by decide +kernel
theorem dL_law_210 : decode cL_law 210 = .ok (.iconst 1, 1) := by decide +kernel
theorem dL_law_211 : decode cL_law 211 = .ok (.iadd, 1) := by decide +kernel
theorem dL_law_212 : decode cL_law 212 = .ok (.iaload, 1) := by decide +kernel
theorem dL_law_213 : decode cL_law 213 = .ok (.invokevirtual 27, 3) := by decide +kernel
theorem dL_law_216 : decode cL_law 216 = .ok (.aload_n 2, 1) := by decide +kernel
theorem dL_law_217 : decode cL_law 217 = .ok (.aload_n 0, 1) := by decide +kernel
theorem dL_law_218 : decode cL_law 218 = .ok (.iload_n 3, 1) := by decide +kernel
theorem dL_law_219 : decode cL_law 219 = .ok (.iconst 1, 1) := by decide +kernel
theorem dL_law_220 : decode cL_law 220 = .ok (.iadd, 1) := by decide +kernel
theorem dL_law_221 : decode cL_law 221 = .ok (.iaload, 1) := by decide +kernel
theorem dL_law_222 : decode cL_law 222 = .ok (.invokevirtual 30, 3) := by decide +kernel
theorem dL_law_225 : decode cL_law 225 = .ok (.if_icmp .eq 593, 3) := by decide +kernel
theorem dL_law_228 : decode cL_law 228 = .ok (.iconst 0, 1) := by decide +kernel
theorem dL_law_229 : decode cL_law 229 = .ok (.ireturn, 1) := by decide +kernel
theorem dL_law_230 : decode cL_law 230 = .ok (.aload_n 1, 1) := by decide +kernel
theorem dL_law_231 : decode cL_law 231 = .ok (.aload_n 0, 1) := by decide +kernel
theorem dL_law_232 : decode cL_law 232 = .ok (.iload_n 3, 1) := by decide +kernel
theorem dL_law_233 : decode cL_law 233 = .ok (.iconst 1, 1) := by decide +kernel
theorem dL_law_234 : decode cL_law 234 = .ok (.iadd, 1) := by decide +kernel
theorem dL_law_235 : decode cL_law 235 = .ok (.iaload, 1) := by decide +kernel
theorem dL_law_236 : decode cL_law 236 = .ok (.invokevirtual 31, 3) := by decide +kernel
theorem dL_law_239 : decode cL_law 239 = .ok (.aload_n 2, 1) := by decide +kernel
theorem dL_law_240 : decode cL_law 240 = .ok (.aload_n 0, 1) := by decide +kernel
theorem dL_law_241 : decode cL_law 241 = .ok (.iload_n 3, 1) := by decide +kernel
theorem dL_law_242 : decode cL_law 242 = .ok (.iconst 1, 1) := by decide +kernel
theorem dL_law_243 : decode cL_law 243 = .ok (.iadd, 1) := by decide +kernel
theorem dL_law_244 : decode cL_law 244 = .ok (.iaload, 1) := by decide +kernel
theorem dL_law_245 : decode cL_law 245 = .ok (.invokevirtual 34, 3) := by decide +kernel
theorem dL_law_248 : decode cL_law 248 = .ok (.if_icmp .eq 570, 3) := by decide +kernel
theorem dL_law_251 : decode cL_law 251 = .ok (.iconst 0, 1) := by decide +kernel
theorem dL_law_252 : decode cL_law 252 = .ok (.ireturn, 1) := by decide +kernel
theorem dL_law_253 : decode cL_law 253 = .ok (.aload_n 1, 1) := by decide +kernel
theorem dL_law_254 : decode cL_law 254 = .ok (.aload_n 0, 1) := by decide +kernel
theorem dL_law_255 : decode cL_law 255 = .ok (.iload_n 3, 1) := by decide +kernel
theorem dL_law_256 : decode cL_law 256 = .ok (.iconst 1, 1) := by decide +kernel
theorem dL_law_257 : decode cL_law 257 = .ok (.iadd, 1) := by decide +kernel
theorem dL_law_258 : decode cL_law 258 = .ok (.iaload, 1) := by decide +kernel
theorem dL_law_259 : decode cL_law 259 = .ok (.aload_n 0, 1) := by decide +kernel
theorem dL_law_260 : decode cL_law 260 = .ok (.iload_n 3, 1) := by decide +kernel
theorem dL_law_261 : decode cL_law 261 = .ok (.iconst 2, 1) := by decide +kernel
theorem dL_law_262 : decode cL_law 262 = .ok (.iadd, 1) := by decide +kernel
theorem dL_law_263 : decode cL_law 263 = .ok (.iaload, 1) := by decide +kernel
theorem dL_law_264 : decode cL_law 264 = .ok (.invokevirtual 35, 3) := by decide +kernel
theorem dL_law_267 : decode cL_law 267 = .ok (.aload_n 2, 1) := by decide +kernel
theorem dL_law_268 : decode cL_law 268 = .ok (.aload_n 0, 1) := by decide +kernel
theorem dL_law_269 : decode cL_law 269 = .ok (.iload_n 3, 1) := by decide +kernel
theorem dL_law_270 : decode cL_law 270 = .ok (.iconst 1, 1) := by decide +kernel
theorem dL_law_271 : decode cL_law 271 = .ok (.iadd, 1) := by decide +kernel
theorem dL_law_272 : decode cL_law 272 = .ok (.iaload, 1) := by decide +kernel
theorem dL_law_273 : decode cL_law 273 = .ok (.aload_n 0, 1) := by decide +kernel
theorem dL_law_274 : decode cL_law 274 = .ok (.iload_n 3, 1) := by decide +kernel
theorem dL_law_275 : decode cL_law 275 = .ok (.iconst 2, 1) := by decide +kernel
theorem dL_law_276 : decode cL_law 276 = .ok (.iadd, 1) := by decide +kernel
theorem dL_law_277 : decode cL_law 277 = .ok (.iaload, 1) := by decide +kernel
theorem dL_law_278 : decode cL_law 278 = .ok (.invokevirtual 39, 3) := by decide +kernel
theorem dL_law_281 : decode cL_law 281 = .ok (.if_icmp .eq 537, 3) := by decide +kernel
theorem dL_law_284 : decode cL_law 284 = .ok (.iconst 0, 1) := by decide +kernel
theorem dL_law_285 : decode cL_law 285 = .ok (.ireturn, 1) := by decide +kernel
theorem dL_law_286 : decode cL_law 286 = .ok (.aload_n 1, 1) := by decide +kernel
theorem dL_law_287 : decode cL_law 287 = .ok (.aload_n 0, 1) := by decide +kernel
theorem dL_law_288 : decode cL_law 288 = .ok (.iload_n 3, 1) := by decide +kernel
theorem dL_law_289 : decode cL_law 289 = .ok (.iconst 1, 1) := by decide +kernel
theorem dL_law_290 : decode cL_law 290 = .ok (.iadd, 1) := by decide +kernel
theorem dL_law_291 : decode cL_law 291 = .ok (.iaload, 1) := by decide +kernel
theorem dL_law_292 : decode cL_law 292 = .ok (.aload_n 0, 1) := by decide +kernel
theorem dL_law_293 : decode cL_law 293 = .ok (.iload_n 3, 1) := by decide +kernel
theorem dL_law_294 : decode cL_law 294 = .ok (.iconst 2, 1) := by decide +kernel
theorem dL_law_295 : decode cL_law 295 = .ok (.iadd, 1) := by decide +kernel
theorem dL_law_296 : decode cL_law 296 = .ok (.iaload, 1) := by decide +kernel
theorem dL_law_297 : decode cL_law 297 = .ok (.aload_n 0, 1) := by decide +kernel
theorem dL_law_298 : decode cL_law 298 = .ok (.iload_n 3, 1) := by decide +kernel
theorem dL_law_299 : decode cL_law 299 = .ok (.iconst 3, 1) := by decide +kernel
theorem dL_law_300 : decode cL_law 300 = .ok (.iadd, 1) := by decide +kernel
theorem dL_law_301 : decode cL_law 301 = .ok (.iaload, 1) := by decide +kernel
theorem dL_law_302 : decode cL_law 302 = .ok (.invokevirtual 40, 3) := by decide +kernel
theorem dL_law_305 : decode cL_law 305 = .ok (.aload_n 2, 1) := by decide +kernel
theorem dL_law_306 : decode cL_law 306 = .ok (.aload_n 0, 1) := by decide +kernel
theorem dL_law_307 : decode cL_law 307 = .ok (.iload_n 3, 1) := by decide +kernel
theorem dL_law_308 : decode cL_law 308 = .ok (.iconst 1, 1) := by decide +kernel
theorem dL_law_309 : decode cL_law 309 = .ok (.iadd, 1) := by decide +kernel
theorem dL_law_310 : decode cL_law 310 = .ok (.iaload, 1) := by decide +kernel
theorem dL_law_311 : decode cL_law 311 = .ok (.aload_n 0, 1) := by decide +kernel
theorem dL_law_312 : decode cL_law 312 = .ok (.iload_n 3, 1) := by decide +kernel
theorem dL_law_313 : decode cL_law 313 = .ok (.iconst 2, 1) := by decide +kernel
theorem dL_law_314 : decode cL_law 314 = .ok (.iadd, 1) := by decide +kernel
theorem dL_law_315 : decode cL_law 315 = .ok (.iaload, 1) := by decide +kernel
theorem dL_law_316 : decode cL_law 316 = .ok (.aload_n 0, 1) := by decide +kernel
theorem dL_law_317 : decode cL_law 317 = .ok (.iload_n 3, 1) := by decide +kernel
theorem dL_law_318 : decode cL_law 318 = .ok (.iconst 3, 1) := by decide +kernel
theorem dL_law_319 : decode cL_law 319 = .ok (.iadd, 1) := by decide +kernel
theorem dL_law_320 : decode cL_law 320 = .ok (.iaload, 1) := by decide +kernel
theorem dL_law_321 : decode cL_law 321 = .ok (.invokevirtual 44, 3) := by decide +kernel
theorem dL_law_324 : decode cL_law 324 = .ok (.if_icmp .eq 494, 3) := by decide +kernel
theorem dL_law_327 : decode cL_law 327 = .ok (.iconst 0, 1) := by decide +kernel
theorem dL_law_328 : decode cL_law 328 = .ok (.ireturn, 1) := by decide +kernel
theorem dL_law_329 : decode cL_law 329 = .ok (.aload_n 1, 1) := by decide +kernel
theorem dL_law_330 : decode cL_law 330 = .ok (.aload_n 0, 1) := by decide +kernel
theorem dL_law_331 : decode cL_law 331 = .ok (.iload_n 3, 1) := by decide +kernel
theorem dL_law_332 : decode cL_law 332 = .ok (.iconst 1, 1) := by decide +kernel
theorem dL_law_333 : decode cL_law 333 = .ok (.iadd, 1) := by decide +kernel
theorem dL_law_334 : decode cL_law 334 = .ok (.iaload, 1) := by decide +kernel
theorem dL_law_335 : decode cL_law 335 = .ok (.aload_n 0, 1) := by decide +kernel
theorem dL_law_336 : decode cL_law 336 = .ok (.iload_n 3, 1) := by decide +kernel
theorem dL_law_337 : decode cL_law 337 = .ok (.iconst 2, 1) := by decide +kernel
theorem dL_law_338 : decode cL_law 338 = .ok (.iadd, 1) := by decide +kernel
theorem dL_law_339 : decode cL_law 339 = .ok (.iaload, 1) := by decide +kernel
theorem dL_law_340 : decode cL_law 340 = .ok (.aload_n 0, 1) := by decide +kernel
theorem dL_law_341 : decode cL_law 341 = .ok (.iload_n 3, 1) := by decide +kernel
theorem dL_law_342 : decode cL_law 342 = .ok (.iconst 3, 1) := by decide +kernel
theorem dL_law_343 : decode cL_law 343 = .ok (.iadd, 1) := by decide +kernel
theorem dL_law_344 : decode cL_law 344 = .ok (.iaload, 1) := by decide +kernel
theorem dL_law_345 : decode cL_law 345 = .ok (.aload_n 0, 1) := by decide +kernel
theorem dL_law_346 : decode cL_law 346 = .ok (.iload_n 3, 1) := by decide +kernel
theorem dL_law_347 : decode cL_law 347 = .ok (.iconst 4, 1) := by decide +kernel
theorem dL_law_348 : decode cL_law 348 = .ok (.iadd, 1) := by decide +kernel
theorem dL_law_349 : decode cL_law 349 = .ok (.iaload, 1) := by decide +kernel
theorem dL_law_350 : decode cL_law 350 = .ok (.invokevirtual 45, 3) := by decide +kernel
theorem dL_law_353 : decode cL_law 353 = .ok (.aload_n 2, 1) := by decide +kernel
theorem dL_law_354 : decode cL_law 354 = .ok (.aload_n 0, 1) := by decide +kernel
theorem dL_law_355 : decode cL_law 355 = .ok (.iload_n 3, 1) := by decide +kernel
theorem dL_law_356 : decode cL_law 356 = .ok (.iconst 1, 1) := by decide +kernel
theorem dL_law_357 : decode cL_law 357 = .ok (.iadd, 1) := by decide +kernel
theorem dL_law_358 : decode cL_law 358 = .ok (.iaload, 1) := by decide +kernel
theorem dL_law_359 : decode cL_law 359 = .ok (.aload_n 0, 1) := by decide +kernel
theorem dL_law_360 : decode cL_law 360 = .ok (.iload_n 3, 1) := by decide +kernel
theorem dL_law_361 : decode cL_law 361 = .ok (.iconst 2, 1) := by decide +kernel
theorem dL_law_362 : decode cL_law 362 = .ok (.iadd, 1) := by decide +kernel
theorem dL_law_363 : decode cL_law 363 = .ok (.iaload, 1) := by decide +kernel
theorem dL_law_364 : decode cL_law 364 = .ok (.aload_n 0, 1) := by decide +kernel
theorem dL_law_365 : decode cL_law 365 = .ok (.iload_n 3, 1) := by decide +kernel
theorem dL_law_366 : decode cL_law 366 = .ok (.iconst 3, 1) := by decide +kernel
theorem dL_law_367 : decode cL_law 367 = .ok (.iadd, 1) := by decide +kernel
theorem dL_law_368 : decode cL_law 368 = .ok (.iaload, 1) := by decide +kernel
theorem dL_law_369 : decode cL_law 369 = .ok (.aload_n 0, 1) := by decide +kernel
theorem dL_law_370 : decode cL_law 370 = .ok (.iload_n 3, 1) := by decide +kernel
theorem dL_law_371 : decode cL_law 371 = .ok (.iconst 4, 1) := by decide +kernel
theorem dL_law_372 : decode cL_law 372 = .ok (.iadd, 1) := by decide +kernel
theorem dL_law_373 : decode cL_law 373 = .ok (.iaload, 1) := by decide +kernel
theorem dL_law_374 : decode cL_law 374 = .ok (.invokevirtual 49, 3) := by decide +kernel
theorem dL_law_377 : decode cL_law 377 = .ok (.if_icmp .eq 441, 3) := by decide +kernel
theorem dL_law_380 : decode cL_law 380 = .ok (.iconst 0, 1) := by decide +kernel
theorem dL_law_381 : decode cL_law 381 = .ok (.ireturn, 1) := by decide +kernel
theorem dL_law_382 : decode cL_law 382 = .ok (.aload_n 1, 1) := by decide +kernel
theorem dL_law_383 : decode cL_law 383 = .ok (.aload_n 0, 1) := by decide +kernel
theorem dL_law_384 : decode cL_law 384 = .ok (.iload_n 3, 1) := by decide +kernel
theorem dL_law_385 : decode cL_law 385 = .ok (.iconst 1, 1) := by decide +kernel
theorem dL_law_386 : decode cL_law 386 = .ok (.iadd, 1) := by decide +kernel
theorem dL_law_387 : decode cL_law 387 = .ok (.iaload, 1) := by decide +kernel
theorem dL_law_388 : decode cL_law 388 = .ok (.aload_n 0, 1) := by decide +kernel
theorem dL_law_389 : decode cL_law 389 = .ok (.iload_n 3, 1) := by decide +kernel
theorem dL_law_390 : decode cL_law 390 = .ok (.iconst 2, 1) := by decide +kernel
theorem dL_law_391 : decode cL_law 391 = .ok (.iadd, 1) := by decide +kernel
theorem dL_law_392 : decode cL_law 392 = .ok (.iaload, 1) := by decide +kernel
theorem dL_law_393 : decode cL_law 393 = .ok (.aload_n 0, 1) := by decide +kernel
theorem dL_law_394 : decode cL_law 394 = .ok (.iload_n 3, 1) := by decide +kernel
theorem dL_law_395 : decode cL_law 395 = .ok (.iconst 3, 1) := by decide +kernel
theorem dL_law_396 : decode cL_law 396 = .ok (.iadd, 1) := by decide +kernel
theorem dL_law_397 : decode cL_law 397 = .ok (.iaload, 1) := by decide +kernel
theorem dL_law_398 : decode cL_law 398 = .ok (.aload_n 0, 1) := by decide +kernel
theorem dL_law_399 : decode cL_law 399 = .ok (.iload_n 3, 1) := by decide +kernel
theorem dL_law_400 : decode cL_law 400 = .ok (.iconst 4, 1) := by decide +kernel
theorem dL_law_401 : decode cL_law 401 = .ok (.iadd, 1) := by decide +kernel
theorem dL_law_402 : decode cL_law 402 = .ok (.iaload, 1) := by decide +kernel
theorem dL_law_403 : decode cL_law 403 = .ok (.invokevirtual 50, 3) := by decide +kernel
theorem dL_law_406 : decode cL_law 406 = .ok (.aload_n 2, 1) := by decide +kernel
theorem dL_law_407 : decode cL_law 407 = .ok (.aload_n 0, 1) := by decide +kernel
theorem dL_law_408 : decode cL_law 408 = .ok (.iload_n 3, 1) := by decide +kernel
theorem dL_law_409 : decode cL_law 409 = .ok (.iconst 1, 1) := by decide +kernel
theorem dL_law_410 : decode cL_law 410 = .ok (.iadd, 1) := by decide +kernel
theorem dL_law_411 : decode cL_law 411 = .ok (.iaload, 1) := by decide +kernel
theorem dL_law_412 : decode cL_law 412 = .ok (.aload_n 0, 1) := by decide +kernel
theorem dL_law_413 : decode cL_law 413 = .ok (.iload_n 3, 1) := by decide +kernel
theorem dL_law_414 : decode cL_law 414 = .ok (.iconst 2, 1) := by decide +kernel
theorem dL_law_415 : decode cL_law 415 = .ok (.iadd, 1) := by decide +kernel
theorem dL_law_416 : decode cL_law 416 = .ok (.iaload, 1) := by decide +kernel
theorem dL_law_417 : decode cL_law 417 = .ok (.aload_n 0, 1) := by decide +kernel
theorem dL_law_418 : decode cL_law 418 = .ok (.iload_n 3, 1) := by decide +kernel
theorem dL_law_419 : decode cL_law 419 = .ok (.iconst 3, 1) := by decide +kernel
theorem dL_law_420 : decode cL_law 420 = .ok (.iadd, 1) := by decide +kernel
theorem dL_law_421 : decode cL_law 421 = .ok (.iaload, 1) := by decide +kernel
theorem dL_law_422 : decode cL_law 422 = .ok (.aload_n 0, 1) := by decide +kernel
theorem dL_law_423 : decode cL_law 423 = .ok (.iload_n 3, 1) := by decide +kernel
theorem dL_law_424 : decode cL_law 424 = .ok (.iconst 4, 1) := by decide +kernel
theorem dL_law_425 : decode cL_law 425 = .ok (.iadd, 1) := by decide +kernel
theorem dL_law_426 : decode cL_law 426 = .ok (.iaload, 1) := by decide +kernel
theorem dL_law_427 : decode cL_law 427 = .ok (.invokevirtual 54, 3) := by decide +kernel
theorem dL_law_430 : decode cL_law 430 = .ok (.if_icmp .eq 388, 3) := by decide +kernel
theorem dL_law_433 : decode cL_law 433 = .ok (.iconst 0, 1) := by decide +kernel
theorem dL_law_434 : decode cL_law 434 = .ok (.ireturn, 1) := by decide +kernel
theorem dL_law_435 : decode cL_law 435 = .ok (.aload_n 1, 1) := by decide +kernel
theorem dL_law_436 : decode cL_law 436 = .ok (.aload_n 0, 1) := by decide +kernel
theorem dL_law_437 : decode cL_law 437 = .ok (.iload_n 3, 1) := by decide +kernel
theorem dL_law_438 : decode cL_law 438 = .ok (.iconst 1, 1) := by decide +kernel
theorem dL_law_439 : decode cL_law 439 = .ok (.iadd, 1) := by decide +kernel
theorem dL_law_440 : decode cL_law 440 = .ok (.iaload, 1) := by decide +kernel
theorem dL_law_441 : decode cL_law 441 = .ok (.aload_n 0, 1) := by decide +kernel
theorem dL_law_442 : decode cL_law 442 = .ok (.iload_n 3, 1) := by decide +kernel
theorem dL_law_443 : decode cL_law 443 = .ok (.iconst 2, 1) := by decide +kernel
theorem dL_law_444 : decode cL_law 444 = .ok (.iadd, 1) := by decide +kernel
theorem dL_law_445 : decode cL_law 445 = .ok (.iaload, 1) := by decide +kernel
theorem dL_law_446 : decode cL_law 446 = .ok (.aload_n 0, 1) := by decide +kernel
theorem dL_law_447 : decode cL_law 447 = .ok (.iload_n 3, 1) := by decide +kernel
theorem dL_law_448 : decode cL_law 448 = .ok (.iconst 3, 1) := by decide +kernel
theorem dL_law_449 : decode cL_law 449 = .ok (.iadd, 1) := by decide +kernel
theorem dL_law_450 : decode cL_law 450 = .ok (.iaload, 1) := by decide +kernel
theorem dL_law_451 : decode cL_law 451 = .ok (.aload_n 0, 1) := by decide +kernel
theorem dL_law_452 : decode cL_law 452 = .ok (.iload_n 3, 1) := by decide +kernel
theorem dL_law_453 : decode cL_law 453 = .ok (.iconst 4, 1) := by decide +kernel
theorem dL_law_454 : decode cL_law 454 = .ok (.iadd, 1) := by decide +kernel
theorem dL_law_455 : decode cL_law 455 = .ok (.iaload, 1) := by decide +kernel
theorem dL_law_456 : decode cL_law 456 = .ok (.invokevirtual 55, 3) := by decide +kernel
theorem dL_law_459 : decode cL_law 459 = .ok (.aload_n 2, 1) := by decide +kernel
theorem dL_law_460 : decode cL_law 460 = .ok (.aload_n 0, 1) := by decide +kernel
theorem dL_law_461 : decode cL_law 461 = .ok (.iload_n 3, 1) := by decide +kernel
theorem dL_law_462 : decode cL_law 462 = .ok (.iconst 1, 1) := by decide +kernel
theorem dL_law_463 : decode cL_law 463 = .ok (.iadd, 1) := by decide +kernel
theorem dL_law_464 : decode cL_law 464 = .ok (.iaload, 1) := by decide +kernel
theorem dL_law_465 : decode cL_law 465 = .ok (.aload_n 0, 1) := by decide +kernel
theorem dL_law_466 : decode cL_law 466 = .ok (.iload_n 3, 1) := by decide +kernel
theorem dL_law_467 : decode cL_law 467 = .ok (.iconst 2, 1) := by decide +kernel
theorem dL_law_468 : decode cL_law 468 = .ok (.iadd, 1) := by decide +kernel
theorem dL_law_469 : decode cL_law 469 = .ok (.iaload, 1) := by decide +kernel
theorem dL_law_470 : decode cL_law 470 = .ok (.aload_n 0, 1) := by decide +kernel
theorem dL_law_471 : decode cL_law 471 = .ok (.iload_n 3, 1) := by decide +kernel
theorem dL_law_472 : decode cL_law 472 = .ok (.iconst 3, 1) := by decide +kernel
theorem dL_law_473 : decode cL_law 473 = .ok (.iadd, 1) := by decide +kernel
theorem dL_law_474 : decode cL_law 474 = .ok (.iaload, 1) := by decide +kernel
theorem dL_law_475 : decode cL_law 475 = .ok (.aload_n 0, 1) := by decide +kernel
theorem dL_law_476 : decode cL_law 476 = .ok (.iload_n 3, 1) := by decide +kernel
theorem dL_law_477 : decode cL_law 477 = .ok (.iconst 4, 1) := by decide +kernel
theorem dL_law_478 : decode cL_law 478 = .ok (.iadd, 1) := by decide +kernel
theorem dL_law_479 : decode cL_law 479 = .ok (.iaload, 1) := by decide +kernel
theorem dL_law_480 : decode cL_law 480 = .ok (.invokevirtual 58, 3) := by decide +kernel
theorem dL_law_483 : decode cL_law 483 = .ok (.if_icmp .eq 335, 3) := by decide +kernel
theorem dL_law_486 : decode cL_law 486 = .ok (.iconst 0, 1) := by decide +kernel
theorem dL_law_487 : decode cL_law 487 = .ok (.ireturn, 1) := by decide +kernel
theorem dL_law_488 : decode cL_law 488 = .ok (.aload_n 1, 1) := by decide +kernel
theorem dL_law_489 : decode cL_law 489 = .ok (.aload_n 0, 1) := by decide +kernel
theorem dL_law_490 : decode cL_law 490 = .ok (.iload_n 3, 1) := by decide +kernel
theorem dL_law_491 : decode cL_law 491 = .ok (.iconst 1, 1) := by decide +kernel
theorem dL_law_492 : decode cL_law 492 = .ok (.iadd, 1) := by decide +kernel
theorem dL_law_493 : decode cL_law 493 = .ok (.iaload, 1) := by decide +kernel
theorem dL_law_494 : decode cL_law 494 = .ok (.aload_n 0, 1) := by decide +kernel
theorem dL_law_495 : decode cL_law 495 = .ok (.iload_n 3, 1) := by decide +kernel
theorem dL_law_496 : decode cL_law 496 = .ok (.iconst 2, 1) := by decide +kernel
theorem dL_law_497 : decode cL_law 497 = .ok (.iadd, 1) := by decide +kernel
theorem dL_law_498 : decode cL_law 498 = .ok (.iaload, 1) := by decide +kernel
theorem dL_law_499 : decode cL_law 499 = .ok (.aload_n 0, 1) := by decide +kernel
theorem dL_law_500 : decode cL_law 500 = .ok (.iload_n 3, 1) := by decide +kernel
theorem dL_law_501 : decode cL_law 501 = .ok (.iconst 3, 1) := by decide +kernel
theorem dL_law_502 : decode cL_law 502 = .ok (.iadd, 1) := by decide +kernel
theorem dL_law_503 : decode cL_law 503 = .ok (.iaload, 1) := by decide +kernel
theorem dL_law_504 : decode cL_law 504 = .ok (.aload_n 0, 1) := by decide +kernel
theorem dL_law_505 : decode cL_law 505 = .ok (.iload_n 3, 1) := by decide +kernel
theorem dL_law_506 : decode cL_law 506 = .ok (.iconst 4, 1) := by decide +kernel
theorem dL_law_507 : decode cL_law 507 = .ok (.iadd, 1) := by decide +kernel
theorem dL_law_508 : decode cL_law 508 = .ok (.iaload, 1) := by decide +kernel
theorem dL_law_509 : decode cL_law 509 = .ok (.invokevirtual 59, 3) := by decide +kernel
theorem dL_law_512 : decode cL_law 512 = .ok (.aload_n 2, 1) := by decide +kernel
theorem dL_law_513 : decode cL_law 513 = .ok (.aload_n 0, 1) := by decide +kernel
theorem dL_law_514 : decode cL_law 514 = .ok (.iload_n 3, 1) := by decide +kernel
theorem dL_law_515 : decode cL_law 515 = .ok (.iconst 1, 1) := by decide +kernel
theorem dL_law_516 : decode cL_law 516 = .ok (.iadd, 1) := by decide +kernel
theorem dL_law_517 : decode cL_law 517 = .ok (.iaload, 1) := by decide +kernel
theorem dL_law_518 : decode cL_law 518 = .ok (.aload_n 0, 1) := by decide +kernel
theorem dL_law_519 : decode cL_law 519 = .ok (.iload_n 3, 1) := by decide +kernel
theorem dL_law_520 : decode cL_law 520 = .ok (.iconst 2, 1) := by decide +kernel
theorem dL_law_521 : decode cL_law 521 = .ok (.iadd, 1) := by decide +kernel
theorem dL_law_522 : decode cL_law 522 = .ok (.iaload, 1) := by decide +kernel
theorem dL_law_523 : decode cL_law 523 = .ok (.aload_n 0, 1) := by decide +kernel
theorem dL_law_524 : decode cL_law 524 = .ok (.iload_n 3, 1) := by decide +kernel
theorem dL_law_525 : decode cL_law 525 = .ok (.iconst 3, 1) := by decide +kernel
theorem dL_law_526 : decode cL_law 526 = .ok (.iadd, 1) := by decide +kernel
theorem dL_law_527 : decode cL_law 527 = .ok (.iaload, 1) := by decide +kernel
theorem dL_law_528 : decode cL_law 528 = .ok (.aload_n 0, 1) := by decide +kernel
theorem dL_law_529 : decode cL_law 529 = .ok (.iload_n 3, 1) := by decide +kernel
theorem dL_law_530 : decode cL_law 530 = .ok (.iconst 4, 1) := by decide +kernel
theorem dL_law_531 : decode cL_law 531 = .ok (.iadd, 1) := by decide +kernel
theorem dL_law_532 : decode cL_law 532 = .ok (.iaload, 1) := by decide +kernel
theorem dL_law_533 : decode cL_law 533 = .ok (.invokevirtual 62, 3) := by decide +kernel
theorem dL_law_536 : decode cL_law 536 = .ok (.if_icmp .eq 282, 3) := by decide +kernel
theorem dL_law_539 : decode cL_law 539 = .ok (.iconst 0, 1) := by decide +kernel
theorem dL_law_540 : decode cL_law 540 = .ok (.ireturn, 1) := by decide +kernel
theorem dL_law_541 : decode cL_law 541 = .ok (.aload_n 1, 1) := by decide +kernel
theorem dL_law_542 : decode cL_law 542 = .ok (.aload_n 0, 1) := by decide +kernel
theorem dL_law_543 : decode cL_law 543 = .ok (.iload_n 3, 1) := by decide +kernel
theorem dL_law_544 : decode cL_law 544 = .ok (.iconst 1, 1) := by decide +kernel
theorem dL_law_545 : decode cL_law 545 = .ok (.iadd, 1) := by decide +kernel
theorem dL_law_546 : decode cL_law 546 = .ok (.iaload, 1) := by decide +kernel
theorem dL_law_547 : decode cL_law 547 = .ok (.aload_n 0, 1) := by decide +kernel
theorem dL_law_548 : decode cL_law 548 = .ok (.iload_n 3, 1) := by decide +kernel
theorem dL_law_549 : decode cL_law 549 = .ok (.iconst 2, 1) := by decide +kernel
theorem dL_law_550 : decode cL_law 550 = .ok (.iadd, 1) := by decide +kernel
theorem dL_law_551 : decode cL_law 551 = .ok (.iaload, 1) := by decide +kernel
theorem dL_law_552 : decode cL_law 552 = .ok (.aload_n 0, 1) := by decide +kernel
theorem dL_law_553 : decode cL_law 553 = .ok (.iload_n 3, 1) := by decide +kernel
theorem dL_law_554 : decode cL_law 554 = .ok (.iconst 3, 1) := by decide +kernel
theorem dL_law_555 : decode cL_law 555 = .ok (.iadd, 1) := by decide +kernel
theorem dL_law_556 : decode cL_law 556 = .ok (.iaload, 1) := by decide +kernel
theorem dL_law_557 : decode cL_law 557 = .ok (.invokevirtual 63, 3) := by decide +kernel
theorem dL_law_560 : decode cL_law 560 = .ok (.aload_n 2, 1) := by decide +kernel
theorem dL_law_561 : decode cL_law 561 = .ok (.aload_n 0, 1) := by decide +kernel
theorem dL_law_562 : decode cL_law 562 = .ok (.iload_n 3, 1) := by decide +kernel
theorem dL_law_563 : decode cL_law 563 = .ok (.iconst 1, 1) := by decide +kernel
theorem dL_law_564 : decode cL_law 564 = .ok (.iadd, 1) := by decide +kernel
theorem dL_law_565 : decode cL_law 565 = .ok (.iaload, 1) := by decide +kernel
theorem dL_law_566 : decode cL_law 566 = .ok (.aload_n 0, 1) := by decide +kernel
theorem dL_law_567 : decode cL_law 567 = .ok (.iload_n 3, 1) := by decide +kernel
theorem dL_law_568 : decode cL_law 568 = .ok (.iconst 2, 1) := by decide +kernel
theorem dL_law_569 : decode cL_law 569 = .ok (.iadd, 1) := by decide +kernel
theorem dL_law_570 : decode cL_law 570 = .ok (.iaload, 1) := by decide +kernel
theorem dL_law_571 : decode cL_law 571 = .ok (.aload_n 0, 1) := by decide +kernel
theorem dL_law_572 : decode cL_law 572 = .ok (.iload_n 3, 1) := by decide +kernel
theorem dL_law_573 : decode cL_law 573 = .ok (.iconst 3, 1) := by decide +kernel
theorem dL_law_574 : decode cL_law 574 = .ok (.iadd, 1) := by decide +kernel
theorem dL_law_575 : decode cL_law 575 = .ok (.iaload, 1) := by decide +kernel
theorem dL_law_576 : decode cL_law 576 = .ok (.invokevirtual 67, 3) := by decide +kernel
theorem dL_law_579 : decode cL_law 579 = .ok (.if_icmp .eq 239, 3) := by decide +kernel
theorem dL_law_582 : decode cL_law 582 = .ok (.iconst 0, 1) := by decide +kernel
theorem dL_law_583 : decode cL_law 583 = .ok (.ireturn, 1) := by decide +kernel
theorem dL_law_584 : decode cL_law 584 = .ok (.aload_n 1, 1) := by decide +kernel
theorem dL_law_585 : decode cL_law 585 = .ok (.aload_n 0, 1) := by decide +kernel
theorem dL_law_586 : decode cL_law 586 = .ok (.iload_n 3, 1) := by decide +kernel
theorem dL_law_587 : decode cL_law 587 = .ok (.iconst 1, 1) := by decide +kernel
theorem dL_law_588 : decode cL_law 588 = .ok (.iadd, 1) := by decide +kernel
theorem dL_law_589 : decode cL_law 589 = .ok (.iaload, 1) := by decide +kernel
theorem dL_law_590 : decode cL_law 590 = .ok (.aload_n 0, 1) := by decide +kernel
theorem dL_law_591 : decode cL_law 591 = .ok (.iload_n 3, 1) := by decide +kernel
theorem dL_law_592 : decode cL_law 592 = .ok (.iconst 2, 1) := by decide +kernel
theorem dL_law_593 : decode cL_law 593 = .ok (.iadd, 1) := by decide +kernel
theorem dL_law_594 : decode cL_law 594 = .ok (.iaload, 1) := by decide +kernel
theorem dL_law_595 : decode cL_law 595 = .ok (.aload_n 0, 1) := by decide +kernel
theorem dL_law_596 : decode cL_law 596 = .ok (.iload_n 3, 1) := by decide +kernel
theorem dL_law_597 : decode cL_law 597 = .ok (.iconst 3, 1) := by decide +kernel
theorem dL_law_598 : decode cL_law 598 = .ok (.iadd, 1) := by decide +kernel
theorem dL_law_599 : decode cL_law 599 = .ok (.iaload, 1) := by decide +kernel
theorem dL_law_600 : decode cL_law 600 = .ok (.invokevirtual 68, 3) := by decide +kernel
theorem dL_law_603 : decode cL_law 603 = .ok (.aload_n 2, 1) := by decide +kernel
theorem dL_law_604 : decode cL_law 604 = .ok (.aload_n 0, 1) := by decide +kernel
theorem dL_law_605 : decode cL_law 605 = .ok (.iload_n 3, 1) := by decide +kernel
theorem dL_law_606 : decode cL_law 606 = .ok (.iconst 1, 1) := by decide +kernel
theorem dL_law_607 : decode cL_law 607 = .ok (.iadd, 1) := by decide +kernel
theorem dL_law_608 : decode cL_law 608 = .ok (.iaload, 1) := by decide +kernel
theorem dL_law_609 : decode cL_law 609 = .ok (.aload_n 0, 1) := by decide +kernel
theorem dL_law_610 : decode cL_law 610 = .ok (.iload_n 3, 1) := by decide +kernel
theorem dL_law_611 : decode cL_law 611 = .ok (.iconst 2, 1) := by decide +kernel
theorem dL_law_612 : decode cL_law 612 = .ok (.iadd, 1) := by decide +kernel
theorem dL_law_613 : decode cL_law 613 = .ok (.iaload, 1) := by decide +kernel
theorem dL_law_614 : decode cL_law 614 = .ok (.aload_n 0, 1) := by decide +kernel
theorem dL_law_615 : decode cL_law 615 = .ok (.iload_n 3, 1) := by decide +kernel
theorem dL_law_616 : decode cL_law 616 = .ok (.iconst 3, 1) := by decide +kernel
theorem dL_law_617 : decode cL_law 617 = .ok (.iadd, 1) := by decide +kernel
theorem dL_law_618 : decode cL_law 618 = .ok (.iaload, 1) := by decide +kernel
theorem dL_law_619 : decode cL_law 619 = .ok (.invokevirtual 71, 3) := by decide +kernel
theorem dL_law_622 : decode cL_law 622 = .ok (.if_icmp .eq 196, 3) := by decide +kernel
theorem dL_law_625 : decode cL_law 625 = .ok (.iconst 0, 1) := by decide +kernel
theorem dL_law_626 : decode cL_law 626 = .ok (.ireturn, 1) := by decide +kernel
theorem dL_law_627 : decode cL_law 627 = .ok (.aload_n 1, 1) := by decide +kernel
theorem dL_law_628 : decode cL_law 628 = .ok (.aload_n 0, 1) := by decide +kernel
theorem dL_law_629 : decode cL_law 629 = .ok (.iload_n 3, 1) := by decide +kernel
theorem dL_law_630 : decode cL_law 630 = .ok (.iconst 1, 1) := by decide +kernel
theorem dL_law_631 : decode cL_law 631 = .ok (.iadd, 1) := by decide +kernel
theorem dL_law_632 : decode cL_law 632 = .ok (.iaload, 1) := by decide +kernel
theorem dL_law_633 : decode cL_law 633 = .ok (.aload_n 0, 1) := by decide +kernel
theorem dL_law_634 : decode cL_law 634 = .ok (.iload_n 3, 1) := by decide +kernel
theorem dL_law_635 : decode cL_law 635 = .ok (.iconst 2, 1) := by decide +kernel
theorem dL_law_636 : decode cL_law 636 = .ok (.iadd, 1) := by decide +kernel
theorem dL_law_637 : decode cL_law 637 = .ok (.iaload, 1) := by decide +kernel
theorem dL_law_638 : decode cL_law 638 = .ok (.aload_n 0, 1) := by decide +kernel
theorem dL_law_639 : decode cL_law 639 = .ok (.iload_n 3, 1) := by decide +kernel
theorem dL_law_640 : decode cL_law 640 = .ok (.iconst 3, 1) := by decide +kernel
theorem dL_law_641 : decode cL_law 641 = .ok (.iadd, 1) := by decide +kernel
theorem dL_law_642 : decode cL_law 642 = .ok (.iaload, 1) := by decide +kernel
theorem dL_law_643 : decode cL_law 643 = .ok (.aload_n 0, 1) := by decide +kernel
theorem dL_law_644 : decode cL_law 644 = .ok (.iload_n 3, 1) := by decide +kernel
theorem dL_law_645 : decode cL_law 645 = .ok (.iconst 4, 1) := by decide +kernel
theorem dL_law_646 : decode cL_law 646 = .ok (.iadd, 1) := by decide +kernel
theorem dL_law_647 : decode cL_law 647 = .ok (.iaload, 1) := by decide +kernel
theorem dL_law_648 : decode cL_law 648 = .ok (.invokevirtual 72, 3) := by decide +kernel
theorem dL_law_651 : decode cL_law 651 = .ok (.aload_n 2, 1) := by decide +kernel
theorem dL_law_652 : decode cL_law 652 = .ok (.aload_n 0, 1) := by decide +kernel
theorem dL_law_653 : decode cL_law 653 = .ok (.iload_n 3, 1) := by decide +kernel
theorem dL_law_654 : decode cL_law 654 = .ok (.iconst 1, 1) := by decide +kernel
theorem dL_law_655 : decode cL_law 655 = .ok (.iadd, 1) := by decide +kernel
theorem dL_law_656 : decode cL_law 656 = .ok (.iaload, 1) := by decide +kernel
theorem dL_law_657 : decode cL_law 657 = .ok (.aload_n 0, 1) := by decide +kernel
theorem dL_law_658 : decode cL_law 658 = .ok (.iload_n 3, 1) := by decide +kernel
theorem dL_law_659 : decode cL_law 659 = .ok (.iconst 2, 1) := by decide +kernel
theorem dL_law_660 : decode cL_law 660 = .ok (.iadd, 1) := by decide +kernel
theorem dL_law_661 : decode cL_law 661 = .ok (.iaload, 1) := by decide +kernel
theorem dL_law_662 : decode cL_law 662 = .ok (.aload_n 0, 1) := by decide +kernel
theorem dL_law_663 : decode cL_law 663 = .ok (.iload_n 3, 1) := by decide +kernel
theorem dL_law_664 : decode cL_law 664 = .ok (.iconst 3, 1) := by decide +kernel
theorem dL_law_665 : decode cL_law 665 = .ok (.iadd, 1) := by decide +kernel
theorem dL_law_666 : decode cL_law 666 = .ok (.iaload, 1) := by decide +kernel
theorem dL_law_667 : decode cL_law 667 = .ok (.aload_n 0, 1) := by decide +kernel
theorem dL_law_668 : decode cL_law 668 = .ok (.iload_n 3, 1) := by decide +kernel
theorem dL_law_669 : decode cL_law 669 = .ok (.iconst 4, 1) := by decide +kernel
theorem dL_law_670 : decode cL_law 670 = .ok (.iadd, 1) := by decide +kernel
theorem dL_law_671 : decode cL_law 671 = .ok (.iaload, 1) := by decide +kernel
theorem dL_law_672 : decode cL_law 672 = .ok (.invokevirtual 75, 3) := by decide +kernel
theorem dL_law_675 : decode cL_law 675 = .ok (.if_icmp .eq 143, 3) := by decide +kernel
theorem dL_law_678 : decode cL_law 678 = .ok (.iconst 0, 1) := by decide +kernel
theorem dL_law_679 : decode cL_law 679 = .ok (.ireturn, 1) := by decide +kernel
theorem dL_law_680 : decode cL_law 680 = .ok (.aload_n 1, 1) := by decide +kernel
theorem dL_law_681 : decode cL_law 681 = .ok (.aload_n 0, 1) := by decide +kernel
theorem dL_law_682 : decode cL_law 682 = .ok (.iload_n 3, 1) := by decide +kernel
theorem dL_law_683 : decode cL_law 683 = .ok (.iconst 1, 1) := by decide +kernel
theorem dL_law_684 : decode cL_law 684 = .ok (.iadd, 1) := by decide +kernel
theorem dL_law_685 : decode cL_law 685 = .ok (.iaload, 1) := by decide +kernel
theorem dL_law_686 : decode cL_law 686 = .ok (.invokevirtual 76, 3) := by decide +kernel
theorem dL_law_689 : decode cL_law 689 = .ok (.aload_n 2, 1) := by decide +kernel
theorem dL_law_690 : decode cL_law 690 = .ok (.aload_n 0, 1) := by decide +kernel
theorem dL_law_691 : decode cL_law 691 = .ok (.iload_n 3, 1) := by decide +kernel
theorem dL_law_692 : decode cL_law 692 = .ok (.iconst 1, 1) := by decide +kernel
theorem dL_law_693 : decode cL_law 693 = .ok (.iadd, 1) := by decide +kernel
theorem dL_law_694 : decode cL_law 694 = .ok (.iaload, 1) := by decide +kernel
theorem dL_law_695 : decode cL_law 695 = .ok (.invokevirtual 80, 3) := by decide +kernel
theorem dL_law_698 : decode cL_law 698 = .ok (.if_icmp .eq 120, 3) := by decide +kernel
theorem dL_law_701 : decode cL_law 701 = .ok (.iconst 0, 1) := by decide +kernel
theorem dL_law_702 : decode cL_law 702 = .ok (.ireturn, 1) := by decide +kernel
theorem dL_law_703 : decode cL_law 703 = .ok (.aload_n 1, 1) := by decide +kernel
theorem dL_law_704 : decode cL_law 704 = .ok (.aload_n 0, 1) := by decide +kernel
theorem dL_law_705 : decode cL_law 705 = .ok (.iload_n 3, 1) := by decide +kernel
theorem dL_law_706 : decode cL_law 706 = .ok (.iconst 1, 1) := by decide +kernel
theorem dL_law_707 : decode cL_law 707 = .ok (.iadd, 1) := by decide +kernel
theorem dL_law_708 : decode cL_law 708 = .ok (.iaload, 1) := by decide +kernel
theorem dL_law_709 : decode cL_law 709 = .ok (.invokevirtual 81, 3) := by decide +kernel
theorem dL_law_712 : decode cL_law 712 = .ok (.aload_n 2, 1) := by decide +kernel
theorem dL_law_713 : decode cL_law 713 = .ok (.aload_n 0, 1) := by decide +kernel
theorem dL_law_714 : decode cL_law 714 = .ok (.iload_n 3, 1) := by decide +kernel
theorem dL_law_715 : decode cL_law 715 = .ok (.iconst 1, 1) := by decide +kernel
theorem dL_law_716 : decode cL_law 716 = .ok (.iadd, 1) := by decide +kernel
theorem dL_law_717 : decode cL_law 717 = .ok (.iaload, 1) := by decide +kernel
theorem dL_law_718 : decode cL_law 718 = .ok (.invokevirtual 84, 3) := by decide +kernel
theorem dL_law_721 : decode cL_law 721 = .ok (.if_icmp .eq 97, 3) := by decide +kernel
theorem dL_law_724 : decode cL_law 724 = .ok (.iconst 0, 1) := by decide +kernel
theorem dL_law_725 : decode cL_law 725 = .ok (.ireturn, 1) := by decide +kernel
theorem dL_law_726 : decode cL_law 726 = .ok (.aload_n 1, 1) := by decide +kernel
theorem dL_law_727 : decode cL_law 727 = .ok (.invokevirtual 85, 3) := by decide +kernel
theorem dL_law_730 : decode cL_law 730 = .ok (.aload_n 2, 1) := by decide +kernel
theorem dL_law_731 : decode cL_law 731 = .ok (.invokevirtual 89, 3) := by decide +kernel
theorem dL_law_734 : decode cL_law 734 = .ok (.if_icmp .eq 84, 3) := by decide +kernel
theorem dL_law_737 : decode cL_law 737 = .ok (.iconst 0, 1) := by decide +kernel
theorem dL_law_738 : decode cL_law 738 = .ok (.ireturn, 1) := by decide +kernel
theorem dL_law_739 : decode cL_law 739 = .ok (.aload_n 1, 1) := by decide +kernel
theorem dL_law_740 : decode cL_law 740 = .ok (.aload_n 0, 1) := by decide +kernel
theorem dL_law_741 : decode cL_law 741 = .ok (.iload_n 3, 1) := by decide +kernel
theorem dL_law_742 : decode cL_law 742 = .ok (.iconst 1, 1) := by decide +kernel
theorem dL_law_743 : decode cL_law 743 = .ok (.iadd, 1) := by decide +kernel
theorem dL_law_744 : decode cL_law 744 = .ok (.iaload, 1) := by decide +kernel
theorem dL_law_745 : decode cL_law 745 = .ok (.aload_n 0, 1) := by decide +kernel
theorem dL_law_746 : decode cL_law 746 = .ok (.iload_n 3, 1) := by decide +kernel
theorem dL_law_747 : decode cL_law 747 = .ok (.iconst 2, 1) := by decide +kernel
theorem dL_law_748 : decode cL_law 748 = .ok (.iadd, 1) := by decide +kernel
theorem dL_law_749 : decode cL_law 749 = .ok (.iaload, 1) := by decide +kernel
theorem dL_law_750 : decode cL_law 750 = .ok (.invokevirtual 90, 3) := by decide +kernel
theorem dL_law_753 : decode cL_law 753 = .ok (.aload_n 2, 1) := by decide +kernel
theorem dL_law_754 : decode cL_law 754 = .ok (.aload_n 0, 1) := by decide +kernel
theorem dL_law_755 : decode cL_law 755 = .ok (.iload_n 3, 1) := by decide +kernel
theorem dL_law_756 : decode cL_law 756 = .ok (.iconst 1, 1) := by decide +kernel
theorem dL_law_757 : decode cL_law 757 = .ok (.iadd, 1) := by decide +kernel
theorem dL_law_758 : decode cL_law 758 = .ok (.iaload, 1) := by decide +kernel
theorem dL_law_759 : decode cL_law 759 = .ok (.aload_n 0, 1) := by decide +kernel
theorem dL_law_760 : decode cL_law 760 = .ok (.iload_n 3, 1) := by decide +kernel
theorem dL_law_761 : decode cL_law 761 = .ok (.iconst 2, 1) := by decide +kernel
theorem dL_law_762 : decode cL_law 762 = .ok (.iadd, 1) := by decide +kernel
theorem dL_law_763 : decode cL_law 763 = .ok (.iaload, 1) := by decide +kernel
theorem dL_law_764 : decode cL_law 764 = .ok (.invokevirtual 93, 3) := by decide +kernel
theorem dL_law_767 : decode cL_law 767 = .ok (.if_icmp .eq 51, 3) := by decide +kernel
theorem dL_law_770 : decode cL_law 770 = .ok (.iconst 0, 1) := by decide +kernel
theorem dL_law_771 : decode cL_law 771 = .ok (.ireturn, 1) := by decide +kernel
theorem dL_law_772 : decode cL_law 772 = .ok (.aload_n 1, 1) := by decide +kernel
theorem dL_law_773 : decode cL_law 773 = .ok (.aload_n 0, 1) := by decide +kernel
theorem dL_law_774 : decode cL_law 774 = .ok (.iload_n 3, 1) := by decide +kernel
theorem dL_law_775 : decode cL_law 775 = .ok (.iconst 1, 1) := by decide +kernel
theorem dL_law_776 : decode cL_law 776 = .ok (.iadd, 1) := by decide +kernel
theorem dL_law_777 : decode cL_law 777 = .ok (.iaload, 1) := by decide +kernel
theorem dL_law_778 : decode cL_law 778 = .ok (.invokevirtual 94, 3) := by decide +kernel
theorem dL_law_781 : decode cL_law 781 = .ok (.aload_n 2, 1) := by decide +kernel
theorem dL_law_782 : decode cL_law 782 = .ok (.aload_n 0, 1) := by decide +kernel
theorem dL_law_783 : decode cL_law 783 = .ok (.iload_n 3, 1) := by decide +kernel
theorem dL_law_784 : decode cL_law 784 = .ok (.iconst 1, 1) := by decide +kernel
theorem dL_law_785 : decode cL_law 785 = .ok (.iadd, 1) := by decide +kernel
theorem dL_law_786 : decode cL_law 786 = .ok (.iaload, 1) := by decide +kernel
theorem dL_law_787 : decode cL_law 787 = .ok (.invokevirtual 97, 3) := by decide +kernel
theorem dL_law_790 : decode cL_law 790 = .ok (.if_icmp .eq 28, 3) := by decide +kernel
theorem dL_law_793 : decode cL_law 793 = .ok (.iconst 0, 1) := by decide +kernel
theorem dL_law_794 : decode cL_law 794 = .ok (.ireturn, 1) := by decide +kernel
theorem dL_law_795 : decode cL_law 795 = .ok (.aload_n 1, 1) := by decide +kernel
theorem dL_law_796 : decode cL_law 796 = .ok (.aload_n 0, 1) := by decide +kernel
theorem dL_law_797 : decode cL_law 797 = .ok (.iload_n 3, 1) := by decide +kernel
theorem dL_law_798 : decode cL_law 798 = .ok (.iconst 1, 1) := by decide +kernel
theorem dL_law_799 : decode cL_law 799 = .ok (.iadd, 1) := by decide +kernel
theorem dL_law_800 : decode cL_law 800 = .ok (.iaload, 1) := by decide +kernel
theorem dL_law_801 : decode cL_law 801 = .ok (.invokevirtual 98, 3) := by decide +kernel
theorem dL_law_804 : decode cL_law 804 = .ok (.aload_n 2, 1) := by decide +kernel
theorem dL_law_805 : decode cL_law 805 = .ok (.aload_n 0, 1) := by decide +kernel
theorem dL_law_806 : decode cL_law 806 = .ok (.iload_n 3, 1) := by decide +kernel
theorem dL_law_807 : decode cL_law 807 = .ok (.iconst 1, 1) := by decide +kernel
theorem dL_law_808 : decode cL_law 808 = .ok (.iadd, 1) := by decide +kernel
theorem dL_law_809 : decode cL_law 809 = .ok (.iaload, 1) := by decide +kernel
theorem dL_law_810 : decode cL_law 810 = .ok (.invokevirtual 101, 3) := by decide +kernel
theorem dL_law_813 : decode cL_law 813 = .ok (.if_icmp .eq 5, 3) := by decide +kernel
theorem dL_law_816 : decode cL_law 816 = .ok (.iconst 0, 1) := by decide +kernel
theorem dL_law_817 : decode cL_law 817 = .ok (.ireturn, 1) := by decide +kernel
theorem dL_law_818 : decode cL_law 818 = .ok (.iinc 3 5, 3) := by decide +kernel
theorem dL_law_821 : decode cL_law 821 = .ok (.goto (-803), 3) := by decide +kernel
theorem dL_law_824 : decode cL_law 824 = .ok (.iconst 1, 1) := by decide +kernel
theorem dL_law_825 : decode cL_law 825 = .ok (.ireturn, 1) := by decide +kernel
abbrev cJ_fill : ByteArray := prog_10_method_103_code
def yJ_fill : MethodName := ⟨"java/util/Arrays", "fill", "([II)V"⟩
theorem dJ_fill_0 : decode cJ_fill 0 = .ok (.iconst 0, 1) := by decide +kernel
theorem dJ_fill_1 : decode cJ_fill 1 = .ok (.istore_n 2, 1) := by decide +kernel
theorem dJ_fill_2 : decode cJ_fill 2 = .ok (.aload_n 0, 1) := by decide +kernel
theorem dJ_fill_3 : decode cJ_fill 3 = .ok (.arraylength, 1) := by decide +kernel
theorem dJ_fill_4 : decode cJ_fill 4 = .ok (.istore_n 3, 1) := by decide +kernel
theorem dJ_fill_5 : decode cJ_fill 5 = .ok (.iload_n 2, 1) := by decide +kernel
theorem dJ_fill_6 : decode cJ_fill 6 = .ok (.iload_n 3, 1) := by decide +kernel
theorem dJ_fill_7 : decode cJ_fill 7 = .ok (.if_icmp .ge 13, 3) := by decide +kernel
theorem dJ_fill_10 : decode cJ_fill 10 = .ok (.aload_n 0, 1) := by decide +kernel
theorem dJ_fill_11 : decode cJ_fill 11 = .ok (.iload_n 2, 1) := by decide +kernel
theorem dJ_fill_12 : decode cJ_fill 12 = .ok (.iload_n 1, 1) := by decide +kernel
theorem dJ_fill_13 : decode cJ_fill 13 = .ok (.iastore, 1) := by decide +kernel
theorem dJ_fill_14 : decode cJ_fill 14 = .ok (.iinc 2 1, 3) := by decide +kernel
theorem dJ_fill_17 : decode cJ_fill 17 = .ok (.goto (-12), 3) := by decide +kernel
theorem dJ_fill_20 : decode cJ_fill 20 = .ok (.return_, 1) := by decide +kernel
end
section
abbrev vwCl : List vw_C := [(RX0, TX0, 2), (RX1, TX1, 10), (RX2, TX2, 12), (RX3, TX3, 7), (RX4, TX4, 5), (RX5, TX5, 31)]
def zh_WS : List Cond := lw_tbl.filter goodWord
theorem zh_good : ∀ w ∈ zh_WS, (w.onTables && w.keeps) = true ∨ ∃ ty, w = .arrayClass ty := fun w h => good_of_word (List.mem_filter.mp h).2
theorem zh_t1 {w : Cond} (i : Nat) (h : tables_1_1[i]? = some w) (hg : goodWord w = true) : w ∈ zh_WS := List.mem_filter.mpr ⟨List.mem_append_right _ (List.mem_append_left _ (List.mem_of_getElem? h)), hg⟩
theorem zh_t2 {w : Cond} (i : Nat) (h : tables_1_2[i]? = some w) (hg : goodWord w = true) : w ∈ zh_WS := List.mem_filter.mpr ⟨List.mem_append_right _ (List.mem_append_right _ (List.mem_append_left _ (List.mem_of_getElem? h))), hg⟩
theorem zh_t3 {w : Cond} (i : Nat) (h : tables_1_3[i]? = some w) (hg : goodWord w = true) : w ∈ zh_WS := List.mem_filter.mpr ⟨List.mem_append_right _ (List.mem_append_right _ (List.mem_append_right _ (List.mem_append_left _ (List.mem_of_getElem? h)))), hg⟩
theorem zh_t4 {w : Cond} (i : Nat) (h : tables_1_4[i]? = some w) (hg : goodWord w = true) : w ∈ zh_WS := List.mem_filter.mpr ⟨List.mem_append_right _ (List.mem_append_right _ (List.mem_append_right _ (List.mem_append_right _ (List.mem_of_getElem? h)))), hg⟩
theorem zh_sel {y : MethodName} {n : Nat} (h : (y, n) ∈ lw_privs) (hg : goodWord (.selects y.cls y y) = true) : Cond.selects y.cls y y ∈ zh_WS := List.mem_filter.mpr ⟨List.mem_append_left _ (List.mem_map.mpr ⟨(y, n), h, rfl⟩), hg⟩
def zh_isR (ci k : Nat) : Bool := match ci with
  | 0 => [0].elem k
  | 1 => [0, 1, 2, 3].elem k
  | 2 => [0, 1].elem k
  | 3 => [0, 1, 2, 3, 4, 5].elem k
  | 4 => [0, 1, 2, 3].elem k
  | 5 => [0, 1, 2, 3, 4, 5, 6, 7, 8, 9, 10, 11, 12, 13, 14, 15, 16, 17, 18, 19, 20, 21].elem k
  | _ => false
def zh_RA (k : Nat) : Bool := k == 102 || k == 103
def zh_tys (cA : Nat → ClassId) : List (ClassId × FieldType) := [(cA 0, .int), (cA 1, .boolean), (cA 2, .object "FiberHeap$Fiber"), (cA 3, .object "FiberHeap$Channel")]
theorem in_X0 : ∀ w ∈ u_ws RX0 TX0 2, w ∈ zh_WS := by decide +kernel
theorem in2_X0 : Cond.instantiable RX0 2 ∈ zh_WS ∧ Cond.initialized RX0 ∈ zh_WS := ⟨zh_t1 112 (by decide +kernel) (by decide +kernel), zh_t1 4 (by decide +kernel) (by decide +kernel)⟩
theorem df_X0 : ∀ j, j < 2 → defaultValue (tyX0 j) = if zh_isR 0 j = true then .null else .int 0 := by
  intro j hj
  rcases (show j = 0 ∨ j = 1 by omega) with rfl | rfl <;> rfl
theorem in_X1 : ∀ w ∈ u_ws RX1 TX1 10, w ∈ zh_WS := by decide +kernel
theorem in2_X1 : Cond.instantiable RX1 10 ∈ zh_WS ∧ Cond.initialized RX1 ∈ zh_WS := ⟨zh_t1 128 (by decide +kernel) (by decide +kernel), zh_t1 5 (by decide +kernel) (by decide +kernel)⟩
theorem df_X1 : ∀ j, j < 10 → defaultValue (tyX1 j) = if zh_isR 1 j = true then .null else .int 0 := by
  intro j hj
  rcases (show j = 0 ∨ j = 1 ∨ j = 2 ∨ j = 3 ∨ j = 4 ∨ j = 5 ∨ j = 6 ∨ j = 7 ∨ j = 8 ∨ j = 9 by omega) with rfl | rfl | rfl | rfl | rfl | rfl | rfl | rfl | rfl | rfl <;> rfl
theorem in_X2 : ∀ w ∈ u_ws RX2 TX2 12, w ∈ zh_WS := by decide +kernel
theorem in2_X2 : Cond.instantiable RX2 12 ∈ zh_WS ∧ Cond.initialized RX2 ∈ zh_WS := ⟨zh_t1 56 (by decide +kernel) (by decide +kernel), zh_t1 3 (by decide +kernel) (by decide +kernel)⟩
theorem df_X2 : ∀ j, j < 12 → defaultValue (tyX2 j) = if zh_isR 2 j = true then .null else .int 0 := by
  intro j hj
  rcases (show j = 0 ∨ j = 1 ∨ j = 2 ∨ j = 3 ∨ j = 4 ∨ j = 5 ∨ j = 6 ∨ j = 7 ∨ j = 8 ∨ j = 9 ∨ j = 10 ∨ j = 11 by omega) with rfl | rfl | rfl | rfl | rfl | rfl | rfl | rfl | rfl | rfl | rfl | rfl <;> rfl
theorem in_X3 : ∀ w ∈ u_ws RX3 TX3 7, w ∈ zh_WS := by decide +kernel
theorem in2_X3 : Cond.instantiable RX3 7 ∈ zh_WS ∧ Cond.initialized RX3 ∈ zh_WS := ⟨zh_t1 19 (by decide +kernel) (by decide +kernel), zh_t1 2 (by decide +kernel) (by decide +kernel)⟩
theorem df_X3 : ∀ j, j < 7 → defaultValue (tyX3 j) = if zh_isR 3 j = true then .null else .int 0 := by
  intro j hj
  rcases (show j = 0 ∨ j = 1 ∨ j = 2 ∨ j = 3 ∨ j = 4 ∨ j = 5 ∨ j = 6 by omega) with rfl | rfl | rfl | rfl | rfl | rfl | rfl <;> rfl
theorem in_X4 : ∀ w ∈ u_ws RX4 TX4 5, w ∈ zh_WS := by decide +kernel
theorem in2_X4 : Cond.instantiable RX4 5 ∈ zh_WS ∧ Cond.initialized RX4 ∈ zh_WS := ⟨zh_t1 11 (by decide +kernel) (by decide +kernel), zh_t1 1 (by decide +kernel) (by decide +kernel)⟩
theorem df_X4 : ∀ j, j < 5 → defaultValue (tyX4 j) = if zh_isR 4 j = true then .null else .int 0 := by
  intro j hj
  rcases (show j = 0 ∨ j = 1 ∨ j = 2 ∨ j = 3 ∨ j = 4 by omega) with rfl | rfl | rfl | rfl | rfl <;> rfl
theorem in_X5 : ∀ w ∈ u_ws RX5 TX5 31, w ∈ zh_WS := by decide +kernel
theorem in2_X5 : Cond.instantiable RX5 31 ∈ zh_WS ∧ Cond.initialized RX5 ∈ zh_WS := ⟨zh_t3 52 (by decide +kernel) (by decide +kernel), zh_t1 6 (by decide +kernel) (by decide +kernel)⟩
theorem df_X5 : ∀ j, j < 31 → defaultValue (tyX5 j) = if zh_isR 5 j = true then .null else .int 0 := by
  intro j hj
  rcases (show j = 0 ∨ j = 1 ∨ j = 2 ∨ j = 3 ∨ j = 4 ∨ j = 5 ∨ j = 6 ∨ j = 7 ∨ j = 8 ∨ j = 9 ∨ j = 10 ∨ j = 11 ∨ j = 12 ∨ j = 13 ∨ j = 14 ∨ j = 15 ∨ j = 16 ∨ j = 17 ∨ j = 18 ∨ j = 19 ∨ j = 20 ∨ j = 21 ∨ j = 22 ∨ j = 23 ∨ j = 24 ∨ j = 25 ∨ j = 26 ∨ j = 27 ∨ j = 28 ∨ j = 29 ∨ j = 30 by omega) with rfl | rfl | rfl | rfl | rfl | rfl | rfl | rfl | rfl | rfl | rfl | rfl | rfl | rfl | rfl | rfl | rfl | rfl | rfl | rfl | rfl | rfl | rfl | rfl | rfl | rfl | rfl | rfl | rfl | rfl | rfl <;> rfl
theorem me_arr_int : Cond.arrayClass .int ∈ zh_WS := zh_t1 52 (by decide +kernel) (by decide +kernel)
theorem me_arr_boolean : Cond.arrayClass .boolean ∈ zh_WS := zh_t1 53 (by decide +kernel) (by decide +kernel)
theorem me_over_Fiber : Cond.arrayOver (.object "FiberHeap$Fiber") ∈ zh_WS := by decide +kernel
theorem me_over_Channel : Cond.arrayOver (.object "FiberHeap$Channel") ∈ zh_WS := by decide +kernel
theorem me_obj : Cond.instanceMethod Lib.objectInit ∈ zh_WS ∧ Cond.code Lib.objectInit ⟨#[0xb1]⟩ 1 none ∈ zh_WS := ⟨by decide +kernel, zh_t1 17 rfl rfl⟩
theorem me_max : Cond.static Lib.Math.max.name ∈ zh_WS ∧ Cond.initialized "java/lang/Math" ∈ zh_WS ∧ Cond.code Lib.Math.max.name Lib.Math.max.code 2 (some .int) ∈ zh_WS := ⟨by decide +kernel, zh_t1 8 (by decide +kernel) (by decide +kernel), zh_t2 58 rfl rfl⟩
theorem me_min : Cond.static Lib.Math.min.name ∈ zh_WS ∧ Cond.initialized "java/lang/Math" ∈ zh_WS ∧ Cond.code Lib.Math.min.name Lib.Math.min.code 2 (some .int) ∈ zh_WS := ⟨by decide +kernel, zh_t1 8 (by decide +kernel) (by decide +kernel), zh_t2 76 rfl rfl⟩
theorem me_copy : Cond.native arraycopyName ∈ zh_WS ∧ Cond.static arraycopyName ∈ zh_WS ∧ Cond.initialized "java/lang/System" ∈ zh_WS := ⟨by decide +kernel, by decide +kernel, by decide +kernel⟩
theorem mc_X0_3 : Cond.methodLink RX0 3 Lib.objectInit ∈ zh_WS := zh_t1 116 (by decide +kernel) (by decide +kernel)
theorem mf_X0_9 : Cond.fieldLink RX0 9 "FiberHeap$Channel" "pointers" "[I" ∈ zh_WS := zh_t1 117 (by decide +kernel) (by decide +kernel)
theorem mf_X0_15 : Cond.fieldLink RX0 15 "FiberHeap$Channel" "held" "I" ∈ zh_WS := zh_t1 119 (by decide +kernel) (by decide +kernel)
theorem mc_X0_19 : Cond.methodLink RX0 19 yX0_hasSpace ∈ zh_WS := zh_t2 213 (by decide +kernel) (by decide +kernel)
theorem mc_X1_3 : Cond.methodLink RX1 3 Lib.objectInit ∈ zh_WS := zh_t1 132 (by decide +kernel) (by decide +kernel)
theorem mf_X1_9 : Cond.fieldLink RX1 9 "FiberHeap$Collector" "heap" "LFiberHeap$Heap;" ∈ zh_WS := zh_t1 133 (by decide +kernel) (by decide +kernel)
theorem mf_X1_15 : Cond.fieldLink RX1 15 "FiberHeap$Collector" "fibers" "[LFiberHeap$Fiber;" ∈ zh_WS := zh_t1 134 (by decide +kernel) (by decide +kernel)
theorem mf_X1_19 : Cond.fieldLink RX1 19 "FiberHeap$Collector" "channels" "[LFiberHeap$Channel;" ∈ zh_WS := zh_t1 135 (by decide +kernel) (by decide +kernel)
theorem mf_X1_23 : Cond.fieldLink RX1 23 "FiberHeap$Collector" "pending" "[I" ∈ zh_WS := zh_t1 136 (by decide +kernel) (by decide +kernel)
theorem mf_X1_27 : Cond.fieldLink RX1 27 "FiberHeap$Collector" "pendingCount" "I" ∈ zh_WS := zh_t1 137 (by decide +kernel) (by decide +kernel)
theorem mf_X1_31 : Cond.fieldLink RX1 31 "FiberHeap$Collector" "marking" "Z" ∈ zh_WS := zh_t1 138 (by decide +kernel) (by decide +kernel)
theorem mf_X1_35 : Cond.fieldLink RX1 35 "FiberHeap$Collector" "cycles" "I" ∈ zh_WS := zh_t1 140 (by decide +kernel) (by decide +kernel)
theorem mf_X1_38 : Cond.fieldLink RX1 38 "FiberHeap$Collector" "pieces" "I" ∈ zh_WS := zh_t1 142 (by decide +kernel) (by decide +kernel)
theorem mf_X1_41 : Cond.fieldLink RX1 41 "FiberHeap$Collector" "fresh" "I" ∈ zh_WS := zh_t1 144 (by decide +kernel) (by decide +kernel)
theorem mf_X1_44 : Cond.fieldLink RX1 44 "FiberHeap$Collector" "trigger" "I" ∈ zh_WS := zh_t1 146 (by decide +kernel) (by decide +kernel)
theorem mc_X1_47 : Cond.methodLink RX1 47 yX3_sweepSpans ∈ zh_WS := zh_t2 45 (by decide +kernel) (by decide +kernel)
theorem mf_X1_53 : Cond.fieldLink RX1 53 "FiberHeap$Heap" "marks" "[I" ∈ zh_WS := zh_t1 34 (by decide +kernel) (by decide +kernel)
theorem mc_X1_56 : Cond.methodLink RX1 56 yJ_fill ∈ zh_WS := zh_t2 63 (by decide +kernel) (by decide +kernel)
theorem mf_X1_62 : Cond.fieldLink RX1 62 "FiberHeap$Fiber" "scanned" "Z" ∈ zh_WS := zh_t1 76 (by decide +kernel) (by decide +kernel)
theorem mf_X1_67 : Cond.fieldLink RX1 67 "FiberHeap$Channel" "held" "I" ∈ zh_WS := zh_t1 120 (by decide +kernel) (by decide +kernel)
theorem mf_X1_72 : Cond.fieldLink RX1 72 "FiberHeap$Channel" "pointers" "[I" ∈ zh_WS := zh_t1 118 (by decide +kernel) (by decide +kernel)
theorem mc_X1_75 : Cond.methodLink RX1 75 yX1_note ∈ zh_WS := zh_t2 66 (by decide +kernel) (by decide +kernel)
theorem mc_X1_79 : Cond.methodLink RX1 79 yX1_beginCycle ∈ zh_WS := zh_t2 41 (by decide +kernel) (by decide +kernel)
theorem mc_X1_82 : Cond.methodLink RX1 82 yX1_work ∈ zh_WS := zh_t2 70 (by decide +kernel) (by decide +kernel)
theorem mc_X1_85 : Cond.methodLink RX1 85 Lib.Math.min.name ∈ zh_WS := zh_t2 74 (by decide +kernel) (by decide +kernel)
theorem mc_X1_91 : Cond.methodLink RX1 91 yX1_workIsLeft ∈ zh_WS := zh_t2 77 (by decide +kernel) (by decide +kernel)
theorem mc_X1_95 : Cond.methodLink RX1 95 yX1_doPiece ∈ zh_WS := zh_t2 85 (by decide +kernel) (by decide +kernel)
theorem mc_X1_98 : Cond.methodLink RX1 98 yX1_endMarking ∈ zh_WS := zh_t2 101 (by decide +kernel) (by decide +kernel)
theorem mc_X1_101 : Cond.methodLink RX1 101 yX1_nextToScan ∈ zh_WS := zh_t2 81 (by decide +kernel) (by decide +kernel)
theorem mf_X1_105 : Cond.fieldLink RX1 105 "FiberHeap$Fiber" "state" "I" ∈ zh_WS := zh_t1 67 (by decide +kernel) (by decide +kernel)
theorem mc_X1_108 : Cond.methodLink RX1 108 yX1_scan ∈ zh_WS := zh_t2 89 (by decide +kernel) (by decide +kernel)
theorem mc_X1_112 : Cond.methodLink RX1 112 yX1_lookAt ∈ zh_WS := zh_t2 97 (by decide +kernel) (by decide +kernel)
theorem mf_X1_115 : Cond.fieldLink RX1 115 "FiberHeap$Fiber" "frames" "I" ∈ zh_WS := zh_t1 70 (by decide +kernel) (by decide +kernel)
theorem mf_X1_118 : Cond.fieldLink RX1 118 "FiberHeap$Fiber" "cells" "[I" ∈ zh_WS := zh_t1 62 (by decide +kernel) (by decide +kernel)
theorem mc_X1_121 : Cond.methodLink RX1 121 yX2_shrinkRoom ∈ zh_WS := zh_t2 93 (by decide +kernel) (by decide +kernel)
theorem mf_X1_124 : Cond.fieldLink RX1 124 "FiberHeap$Heap" "pointerCounts" "[I" ∈ zh_WS := zh_t1 32 (by decide +kernel) (by decide +kernel)
theorem mf_X1_127 : Cond.fieldLink RX1 127 "FiberHeap$Heap" "words" "[I" ∈ zh_WS := zh_t1 26 (by decide +kernel) (by decide +kernel)
theorem mc_X1_130 : Cond.methodLink RX1 130 yX3_leaveAllUnswept ∈ zh_WS := zh_t2 105 (by decide +kernel) (by decide +kernel)
theorem mc_X1_133 : Cond.methodLink RX1 133 yX3_keptWords ∈ zh_WS := zh_t2 109 (by decide +kernel) (by decide +kernel)
theorem mc_X1_137 : Cond.methodLink RX1 137 Lib.Math.max.name ∈ zh_WS := zh_t2 114 (by decide +kernel) (by decide +kernel)
theorem mc_X2_3 : Cond.methodLink RX2 3 Lib.objectInit ∈ zh_WS := zh_t1 60 (by decide +kernel) (by decide +kernel)
theorem mf_X2_9 : Cond.fieldLink RX2 9 "FiberHeap$Fiber" "cells" "[I" ∈ zh_WS := zh_t1 61 (by decide +kernel) (by decide +kernel)
theorem mf_X2_15 : Cond.fieldLink RX2 15 "FiberHeap$Fiber" "refs" "[I" ∈ zh_WS := zh_t1 63 (by decide +kernel) (by decide +kernel)
theorem mf_X2_18 : Cond.fieldLink RX2 18 "FiberHeap$Fiber" "state" "I" ∈ zh_WS := zh_t1 65 (by decide +kernel) (by decide +kernel)
theorem mf_X2_22 : Cond.fieldLink RX2 22 "FiberHeap$Fiber" "frames" "I" ∈ zh_WS := zh_t1 68 (by decide +kernel) (by decide +kernel)
theorem mf_X2_25 : Cond.fieldLink RX2 25 "FiberHeap$Fiber" "room" "I" ∈ zh_WS := zh_t1 71 (by decide +kernel) (by decide +kernel)
theorem mf_X2_28 : Cond.fieldLink RX2 28 "FiberHeap$Fiber" "tookFrom" "I" ∈ zh_WS := zh_t1 78 (by decide +kernel) (by decide +kernel)
theorem mf_X2_31 : Cond.fieldLink RX2 31 "FiberHeap$Fiber" "scanned" "Z" ∈ zh_WS := zh_t1 75 (by decide +kernel) (by decide +kernel)
theorem mc_X2_35 : Cond.methodLink RX2 35 yX2_cellIndex ∈ zh_WS := zh_t1 213 (by decide +kernel) (by decide +kernel)
theorem mc_X2_39 : Cond.methodLink RX2 39 yX2_isCell ∈ zh_WS := zh_t1 209 (by decide +kernel) (by decide +kernel)
theorem mc_X2_43 : Cond.methodLink RX2 43 yX2_moveTo ∈ zh_WS := zh_t2 1 (by decide +kernel) (by decide +kernel)
theorem mc_X2_47 : Cond.methodLink RX2 47 arraycopyName ∈ zh_WS := zh_t2 5 (by decide +kernel) (by decide +kernel)
theorem mf_X2_53 : Cond.fieldLink RX2 53 "FiberHeap$Fiber" "copied" "I" ∈ zh_WS := zh_t1 73 (by decide +kernel) (by decide +kernel)
theorem mf_X2_56 : Cond.fieldLink RX2 56 "FiberHeap$Fiber" "waitCell" "I" ∈ zh_WS := zh_t1 80 (by decide +kernel) (by decide +kernel)
theorem mf_X2_59 : Cond.fieldLink RX2 59 "FiberHeap$Fiber" "waitChannel" "I" ∈ zh_WS := zh_t1 81 (by decide +kernel) (by decide +kernel)
theorem mf_X2_62 : Cond.fieldLink RX2 62 "FiberHeap$Fiber" "otherWaitChannel" "I" ∈ zh_WS := zh_t1 82 (by decide +kernel) (by decide +kernel)
theorem mf_X2_65 : Cond.fieldLink RX2 65 "FiberHeap$Fiber" "ticket" "I" ∈ zh_WS := zh_t1 83 (by decide +kernel) (by decide +kernel)
theorem mc_X3_3 : Cond.methodLink RX3 3 Lib.objectInit ∈ zh_WS := zh_t1 23 (by decide +kernel) (by decide +kernel)
theorem mf_X3_9 : Cond.fieldLink RX3 9 "FiberHeap$Heap" "words" "[I" ∈ zh_WS := zh_t1 24 (by decide +kernel) (by decide +kernel)
theorem mf_X3_15 : Cond.fieldLink RX3 15 "FiberHeap$Heap" "pages" "[I" ∈ zh_WS := zh_t1 27 (by decide +kernel) (by decide +kernel)
theorem mf_X3_18 : Cond.fieldLink RX3 18 "FiberHeap$Heap" "unswept" "[Z" ∈ zh_WS := zh_t1 29 (by decide +kernel) (by decide +kernel)
theorem mf_X3_22 : Cond.fieldLink RX3 22 "FiberHeap$Heap" "sizes" "[I" ∈ zh_WS := zh_t1 30 (by decide +kernel) (by decide +kernel)
theorem mf_X3_25 : Cond.fieldLink RX3 25 "FiberHeap$Heap" "pointerCounts" "[I" ∈ zh_WS := zh_t1 31 (by decide +kernel) (by decide +kernel)
theorem mf_X3_28 : Cond.fieldLink RX3 28 "FiberHeap$Heap" "marks" "[I" ∈ zh_WS := zh_t1 33 (by decide +kernel) (by decide +kernel)
theorem mf_X3_31 : Cond.fieldLink RX3 31 "FiberHeap$Heap" "freed" "I" ∈ zh_WS := zh_t1 35 (by decide +kernel) (by decide +kernel)
theorem mc_X3_35 : Cond.methodLink RX3 35 Lib.Math.max.name ∈ zh_WS := zh_t2 56 (by decide +kernel) (by decide +kernel)
theorem mc_X3_41 : Cond.methodLink RX3 41 yX3_slotWordsFor ∈ zh_WS := zh_t2 113 (by decide +kernel) (by decide +kernel)
theorem mc_X3_45 : Cond.methodLink RX3 45 yX3_slotInSpans ∈ zh_WS := zh_t2 127 (by decide +kernel) (by decide +kernel)
theorem mc_X3_48 : Cond.methodLink RX3 48 yX3_slotInNewSpan ∈ zh_WS := zh_t2 135 (by decide +kernel) (by decide +kernel)
theorem mc_X3_51 : Cond.methodLink RX3 51 yX3_fillSlot ∈ zh_WS := zh_t2 147 (by decide +kernel) (by decide +kernel)
theorem mc_X3_55 : Cond.methodLink RX3 55 yX3_sweepSpan ∈ zh_WS := zh_t2 49 (by decide +kernel) (by decide +kernel)
theorem mc_X3_59 : Cond.methodLink RX3 59 yX3_openSlot ∈ zh_WS := zh_t2 131 (by decide +kernel) (by decide +kernel)
theorem mc_X3_62 : Cond.methodLink RX3 62 yX3_pagesOfSpan ∈ zh_WS := zh_t2 53 (by decide +kernel) (by decide +kernel)
theorem mc_X3_65 : Cond.methodLink RX3 65 yX3_shortestRun ∈ zh_WS := zh_t2 139 (by decide +kernel) (by decide +kernel)
theorem mc_X3_68 : Cond.methodLink RX3 68 yX3_fillPages ∈ zh_WS := zh_t2 59 (by decide +kernel) (by decide +kernel)
theorem mc_X3_72 : Cond.methodLink RX3 72 yX3_endsRun ∈ zh_WS := zh_t2 143 (by decide +kernel) (by decide +kernel)
theorem mc_X4_3 : Cond.methodLink RX4 3 Lib.objectInit ∈ zh_WS := zh_t1 15 (by decide +kernel) (by decide +kernel)
theorem mk_X4_9 : Cond.classLink RX4 9 RX3 ∈ zh_WS := zh_t1 18 (by decide +kernel) (by decide +kernel)
theorem mc_X4_11 : Cond.methodLink RX4 11 yX3_init ∈ zh_WS := zh_t1 20 (by decide +kernel) (by decide +kernel)
theorem mf_X4_12 : Cond.fieldLink RX4 12 "FiberHeap" "heap" "LFiberHeap$Heap;" ∈ zh_WS := zh_t1 173 (by decide +kernel) (by decide +kernel)
theorem mk_X4_16 : Cond.classLink RX4 16 RX2 ∈ zh_WS := zh_t1 54 (by decide +kernel) (by decide +kernel)
theorem mf_X4_18 : Cond.fieldLink RX4 18 "FiberHeap" "fibers" "[LFiberHeap$Fiber;" ∈ zh_WS := zh_t1 174 (by decide +kernel) (by decide +kernel)
theorem mc_X4_22 : Cond.methodLink RX4 22 yX2_init ∈ zh_WS := zh_t1 57 (by decide +kernel) (by decide +kernel)
theorem mk_X4_23 : Cond.classLink RX4 23 RX0 ∈ zh_WS := zh_t1 110 (by decide +kernel) (by decide +kernel)
theorem mf_X4_25 : Cond.fieldLink RX4 25 "FiberHeap" "channels" "[LFiberHeap$Channel;" ∈ zh_WS := zh_t1 175 (by decide +kernel) (by decide +kernel)
theorem mc_X4_29 : Cond.methodLink RX4 29 yX0_init ∈ zh_WS := zh_t1 113 (by decide +kernel) (by decide +kernel)
theorem mk_X4_32 : Cond.classLink RX4 32 RX1 ∈ zh_WS := zh_t1 127 (by decide +kernel) (by decide +kernel)
theorem mc_X4_34 : Cond.methodLink RX4 34 yX1_init ∈ zh_WS := zh_t1 129 (by decide +kernel) (by decide +kernel)
theorem mf_X4_37 : Cond.fieldLink RX4 37 "FiberHeap" "collector" "LFiberHeap$Collector;" ∈ zh_WS := zh_t1 176 (by decide +kernel) (by decide +kernel)
theorem mf_X4_41 : Cond.fieldLink RX4 41 "FiberHeap" "nextTicket" "I" ∈ zh_WS := zh_t1 177 (by decide +kernel) (by decide +kernel)
theorem mc_X4_45 : Cond.methodLink RX4 45 yX2_beginToLive ∈ zh_WS := zh_t1 169 (by decide +kernel) (by decide +kernel)
theorem mc_X4_48 : Cond.methodLink RX4 48 yX4_readyFiber ∈ zh_WS := zh_t1 193 (by decide +kernel) (by decide +kernel)
theorem mc_X4_52 : Cond.methodLink RX4 52 yX4_lowestGoneFiber ∈ zh_WS := zh_t1 201 (by decide +kernel) (by decide +kernel)
theorem mc_X4_56 : Cond.methodLink RX4 56 yX2_isSource ∈ zh_WS := zh_t1 205 (by decide +kernel) (by decide +kernel)
theorem mc_X4_60 : Cond.methodLink RX4 60 yX2_pointerFrom ∈ zh_WS := zh_t1 217 (by decide +kernel) (by decide +kernel)
theorem mc_X4_64 : Cond.methodLink RX4 64 yX4_lives ∈ zh_WS := zh_t1 197 (by decide +kernel) (by decide +kernel)
theorem mc_X4_67 : Cond.methodLink RX4 67 yX4_livingFibers ∈ zh_WS := zh_t1 225 (by decide +kernel) (by decide +kernel)
theorem mf_X4_70 : Cond.fieldLink RX4 70 "FiberHeap$Fiber" "state" "I" ∈ zh_WS := zh_t1 66 (by decide +kernel) (by decide +kernel)
theorem mf_X4_73 : Cond.fieldLink RX4 73 "FiberHeap$Fiber" "frames" "I" ∈ zh_WS := zh_t1 69 (by decide +kernel) (by decide +kernel)
theorem mc_X4_76 : Cond.methodLink RX4 76 yX2_addFrame ∈ zh_WS := zh_t1 237 (by decide +kernel) (by decide +kernel)
theorem mc_X4_79 : Cond.methodLink RX4 79 yX2_dropFrame ∈ zh_WS := zh_t2 12 (by decide +kernel) (by decide +kernel)
theorem mf_X4_82 : Cond.fieldLink RX4 82 "FiberHeap$Fiber" "refs" "[I" ∈ zh_WS := zh_t1 64 (by decide +kernel) (by decide +kernel)
theorem mc_X4_86 : Cond.methodLink RX4 86 yX2_cellIndex ∈ zh_WS := zh_t2 20 (by decide +kernel) (by decide +kernel)
theorem mc_X4_89 : Cond.methodLink RX4 89 yX2_isCell ∈ zh_WS := zh_t2 25 (by decide +kernel) (by decide +kernel)
theorem mc_X4_92 : Cond.methodLink RX4 92 yX2_fillCell ∈ zh_WS := zh_t2 26 (by decide +kernel) (by decide +kernel)
theorem mc_X4_96 : Cond.methodLink RX4 96 yX3_slotWordsFor ∈ zh_WS := zh_t2 34 (by decide +kernel) (by decide +kernel)
theorem mc_X4_99 : Cond.methodLink RX4 99 yX1_workBeforePlacing ∈ zh_WS := zh_t2 37 (by decide +kernel) (by decide +kernel)
theorem mc_X4_102 : Cond.methodLink RX4 102 yX4_placeAtAnyCost ∈ zh_WS := zh_t2 115 (by decide +kernel) (by decide +kernel)
theorem mf_X4_106 : Cond.fieldLink RX4 106 "FiberHeap$Collector" "fresh" "I" ∈ zh_WS := zh_t1 145 (by decide +kernel) (by decide +kernel)
theorem mc_X4_109 : Cond.methodLink RX4 109 yX3_isPointerWord ∈ zh_WS := zh_t2 161 (by decide +kernel) (by decide +kernel)
theorem mf_X4_113 : Cond.fieldLink RX4 113 "FiberHeap$Heap" "words" "[I" ∈ zh_WS := zh_t1 25 (by decide +kernel) (by decide +kernel)
theorem mc_X4_116 : Cond.methodLink RX4 116 yX1_note ∈ zh_WS := zh_t2 165 (by decide +kernel) (by decide +kernel)
theorem mc_X4_119 : Cond.methodLink RX4 119 yX4_intWordIndex ∈ zh_WS := zh_t2 174 (by decide +kernel) (by decide +kernel)
theorem mc_X4_123 : Cond.methodLink RX4 123 yX4_isChannel ∈ zh_WS := zh_t2 190 (by decide +kernel) (by decide +kernel)
theorem mc_X4_126 : Cond.methodLink RX4 126 yX4_firstWaiting ∈ zh_WS := zh_t2 193 (by decide +kernel) (by decide +kernel)
theorem mc_X4_130 : Cond.methodLink RX4 130 yX2_endTaking ∈ zh_WS := zh_t2 201 (by decide +kernel) (by decide +kernel)
theorem mc_X4_133 : Cond.methodLink RX4 133 yX0_hasSpace ∈ zh_WS := zh_t2 205 (by decide +kernel) (by decide +kernel)
theorem mc_X4_137 : Cond.methodLink RX4 137 yX0_addLast ∈ zh_WS := zh_t2 209 (by decide +kernel) (by decide +kernel)
theorem mc_X4_140 : Cond.methodLink RX4 140 yX4_newTicket ∈ zh_WS := zh_t2 214 (by decide +kernel) (by decide +kernel)
theorem mc_X4_143 : Cond.methodLink RX4 143 yX2_beginToWait ∈ zh_WS := zh_t2 218 (by decide +kernel) (by decide +kernel)
theorem mc_X4_147 : Cond.methodLink RX4 147 yX4_canGive ∈ zh_WS := zh_t2 226 (by decide +kernel) (by decide +kernel)
theorem mc_X4_150 : Cond.methodLink RX4 150 yX4_pointerOutOf ∈ zh_WS := zh_t2 230 (by decide +kernel) (by decide +kernel)
theorem mf_X4_153 : Cond.fieldLink RX4 153 "FiberHeap$Fiber" "tookFrom" "I" ∈ zh_WS := zh_t1 79 (by decide +kernel) (by decide +kernel)
theorem mf_X4_156 : Cond.fieldLink RX4 156 "FiberHeap$Collector" "marking" "Z" ∈ zh_WS := zh_t1 139 (by decide +kernel) (by decide +kernel)
theorem mc_X4_160 : Cond.methodLink RX4 160 yX1_work ∈ zh_WS := zh_t3 6 (by decide +kernel) (by decide +kernel)
theorem mc_X4_163 : Cond.methodLink RX4 163 yX3_sweepSpans ∈ zh_WS := zh_t2 155 (by decide +kernel) (by decide +kernel)
theorem mc_X4_166 : Cond.methodLink RX4 166 yX1_beginCycle ∈ zh_WS := zh_t2 156 (by decide +kernel) (by decide +kernel)
theorem mf_X4_169 : Cond.fieldLink RX4 169 "FiberHeap$Fiber" "room" "I" ∈ zh_WS := zh_t1 72 (by decide +kernel) (by decide +kernel)
theorem mf_X4_172 : Cond.fieldLink RX4 172 "FiberHeap$Fiber" "scanned" "Z" ∈ zh_WS := zh_t1 77 (by decide +kernel) (by decide +kernel)
theorem mc_X4_175 : Cond.methodLink RX4 175 yX3_takenSlots ∈ zh_WS := zh_t3 23 (by decide +kernel) (by decide +kernel)
theorem mc_X4_178 : Cond.methodLink RX4 178 yX3_takenWords ∈ zh_WS := zh_t3 27 (by decide +kernel) (by decide +kernel)
theorem mc_X4_181 : Cond.methodLink RX4 181 yX3_freePages ∈ zh_WS := zh_t3 31 (by decide +kernel) (by decide +kernel)
theorem mc_X4_184 : Cond.methodLink RX4 184 yX3_longestRun ∈ zh_WS := zh_t3 35 (by decide +kernel) (by decide +kernel)
theorem mc_X4_187 : Cond.methodLink RX4 187 yX3_unsweptSpans ∈ zh_WS := zh_t3 39 (by decide +kernel) (by decide +kernel)
theorem mf_X4_190 : Cond.fieldLink RX4 190 "FiberHeap$Collector" "cycles" "I" ∈ zh_WS := zh_t1 141 (by decide +kernel) (by decide +kernel)
theorem mf_X4_193 : Cond.fieldLink RX4 193 "FiberHeap$Collector" "pieces" "I" ∈ zh_WS := zh_t1 143 (by decide +kernel) (by decide +kernel)
theorem mc_X4_196 : Cond.methodLink RX4 196 yX4_copiedFrames ∈ zh_WS := zh_t3 43 (by decide +kernel) (by decide +kernel)
theorem mf_X4_199 : Cond.fieldLink RX4 199 "FiberHeap$Collector" "trigger" "I" ∈ zh_WS := zh_t1 147 (by decide +kernel) (by decide +kernel)
theorem mf_X4_202 : Cond.fieldLink RX4 202 "FiberHeap$Heap" "freed" "I" ∈ zh_WS := zh_t1 36 (by decide +kernel) (by decide +kernel)
theorem mf_X4_205 : Cond.fieldLink RX4 205 "FiberHeap$Heap" "pages" "[I" ∈ zh_WS := zh_t1 28 (by decide +kernel) (by decide +kernel)
theorem mf_X4_208 : Cond.fieldLink RX4 208 "FiberHeap$Fiber" "copied" "I" ∈ zh_WS := zh_t1 74 (by decide +kernel) (by decide +kernel)
theorem mc_X4_211 : Cond.methodLink RX4 211 yX1_markOfPlaced ∈ zh_WS := zh_t2 119 (by decide +kernel) (by decide +kernel)
theorem mc_X4_214 : Cond.methodLink RX4 214 yX3_place ∈ zh_WS := zh_t2 123 (by decide +kernel) (by decide +kernel)
theorem mc_X4_217 : Cond.methodLink RX4 217 yX1_finishMarking ∈ zh_WS := zh_t2 151 (by decide +kernel) (by decide +kernel)
theorem mc_X4_220 : Cond.methodLink RX4 220 yX3_isIntWord ∈ zh_WS := zh_t2 178 (by decide +kernel) (by decide +kernel)
theorem mc_X4_223 : Cond.methodLink RX4 223 yX2_waitsAt ∈ zh_WS := zh_t2 197 (by decide +kernel) (by decide +kernel)
theorem mf_X4_226 : Cond.fieldLink RX4 226 "FiberHeap$Fiber" "ticket" "I" ∈ zh_WS := zh_t1 84 (by decide +kernel) (by decide +kernel)
theorem mf_X4_229 : Cond.fieldLink RX4 229 "FiberHeap$Channel" "held" "I" ∈ zh_WS := zh_t1 121 (by decide +kernel) (by decide +kernel)
theorem mc_X4_232 : Cond.methodLink RX4 232 yX2_endSending ∈ zh_WS := zh_t2 234 (by decide +kernel) (by decide +kernel)
theorem mc_X4_235 : Cond.methodLink RX4 235 yX0_removeFirst ∈ zh_WS := zh_t2 238 (by decide +kernel) (by decide +kernel)
theorem mc_X5_1 : Cond.methodLink RX5 1 Lib.objectInit ∈ zh_WS := zh_t3 56 (by decide +kernel) (by decide +kernel)
theorem mf_X5_7 : Cond.fieldLink RX5 7 "FiberHeapModel" "mem" "[I" ∈ zh_WS := zh_t3 61 (by decide +kernel) (by decide +kernel)
theorem mf_X5_13 : Cond.fieldLink RX5 13 "FiberHeapModel" "words" "[I" ∈ zh_WS := zh_t3 62 (by decide +kernel) (by decide +kernel)
theorem mf_X5_16 : Cond.fieldLink RX5 16 "FiberHeapModel" "pointers" "[I" ∈ zh_WS := zh_t3 63 (by decide +kernel) (by decide +kernel)
theorem mf_X5_19 : Cond.fieldLink RX5 19 "FiberHeapModel" "young" "[Z" ∈ zh_WS := zh_t3 64 (by decide +kernel) (by decide +kernel)
theorem mf_X5_23 : Cond.fieldLink RX5 23 "FiberHeapModel" "noted" "[Z" ∈ zh_WS := zh_t3 65 (by decide +kernel) (by decide +kernel)
theorem mf_X5_26 : Cond.fieldLink RX5 26 "FiberHeapModel" "kept" "[Z" ∈ zh_WS := zh_t3 66 (by decide +kernel) (by decide +kernel)
theorem mf_X5_29 : Cond.fieldLink RX5 29 "FiberHeapModel" "due" "[Z" ∈ zh_WS := zh_t3 67 (by decide +kernel) (by decide +kernel)
theorem mf_X5_32 : Cond.fieldLink RX5 32 "FiberHeapModel" "kind" "[I" ∈ zh_WS := zh_t3 68 (by decide +kernel) (by decide +kernel)
theorem mf_X5_35 : Cond.fieldLink RX5 35 "FiberHeapModel" "unswept" "[Z" ∈ zh_WS := zh_t3 69 (by decide +kernel) (by decide +kernel)
theorem mf_X5_38 : Cond.fieldLink RX5 38 "FiberHeapModel" "state" "[I" ∈ zh_WS := zh_t3 70 (by decide +kernel) (by decide +kernel)
theorem mf_X5_41 : Cond.fieldLink RX5 41 "FiberHeapModel" "frames" "[I" ∈ zh_WS := zh_t3 71 (by decide +kernel) (by decide +kernel)
theorem mf_X5_44 : Cond.fieldLink RX5 44 "FiberHeapModel" "room" "[I" ∈ zh_WS := zh_t3 72 (by decide +kernel) (by decide +kernel)
theorem mf_X5_47 : Cond.fieldLink RX5 47 "FiberHeapModel" "cells" "[I" ∈ zh_WS := zh_t3 73 (by decide +kernel) (by decide +kernel)
theorem mf_X5_50 : Cond.fieldLink RX5 50 "FiberHeapModel" "refs" "[I" ∈ zh_WS := zh_t3 74 (by decide +kernel) (by decide +kernel)
theorem mf_X5_53 : Cond.fieldLink RX5 53 "FiberHeapModel" "scanned" "[Z" ∈ zh_WS := zh_t3 75 (by decide +kernel) (by decide +kernel)
theorem mf_X5_56 : Cond.fieldLink RX5 56 "FiberHeapModel" "since" "[I" ∈ zh_WS := zh_t3 76 (by decide +kernel) (by decide +kernel)
theorem mf_X5_59 : Cond.fieldLink RX5 59 "FiberHeapModel" "at" "[I" ∈ zh_WS := zh_t3 77 (by decide +kernel) (by decide +kernel)
theorem mf_X5_62 : Cond.fieldLink RX5 62 "FiberHeapModel" "orAt" "[I" ∈ zh_WS := zh_t3 78 (by decide +kernel) (by decide +kernel)
theorem mf_X5_65 : Cond.fieldLink RX5 65 "FiberHeapModel" "into" "[I" ∈ zh_WS := zh_t3 79 (by decide +kernel) (by decide +kernel)
theorem mf_X5_68 : Cond.fieldLink RX5 68 "FiberHeapModel" "from" "[I" ∈ zh_WS := zh_t3 80 (by decide +kernel) (by decide +kernel)
theorem mf_X5_71 : Cond.fieldLink RX5 71 "FiberHeapModel" "queue" "[I" ∈ zh_WS := zh_t3 81 (by decide +kernel) (by decide +kernel)
theorem mf_X5_74 : Cond.fieldLink RX5 74 "FiberHeapModel" "length" "[I" ∈ zh_WS := zh_t3 82 (by decide +kernel) (by decide +kernel)
theorem mf_X5_77 : Cond.fieldLink RX5 77 "FiberHeapModel" "trigger" "I" ∈ zh_WS := zh_t3 90 (by decide +kernel) (by decide +kernel)
theorem mc_X5_81 : Cond.methodLink RX5 81 yX5_begin ∈ zh_WS := zh_t3 57 (by decide +kernel) (by decide +kernel)
theorem mc_X5_85 : Cond.methodLink RX5 85 yX5_lives ∈ zh_WS := zh_t3 167 (by decide +kernel) (by decide +kernel)
theorem mc_X5_89 : Cond.methodLink RX5 89 yX5_ready ∈ zh_WS := zh_t3 163 (by decide +kernel) (by decide +kernel)
theorem mc_X5_92 : Cond.methodLink RX5 92 yX5_place ∈ zh_WS := zh_t3 171 (by decide +kernel) (by decide +kernel)
theorem mc_X5_96 : Cond.methodLink RX5 96 yX5_cell ∈ zh_WS := zh_t3 159 (by decide +kernel) (by decide +kernel)
theorem mc_X5_100 : Cond.methodLink RX5 100 yX5_value ∈ zh_WS := zh_t3 175 (by decide +kernel) (by decide +kernel)
theorem mf_X5_103 : Cond.fieldLink RX5 103 "FiberHeapModel" "marking" "Z" ∈ zh_WS := zh_t3 84 (by decide +kernel) (by decide +kernel)
theorem mf_X5_107 : Cond.fieldLink RX5 107 "FiberHeapModel" "copied" "I" ∈ zh_WS := zh_t3 88 (by decide +kernel) (by decide +kernel)
theorem mf_X5_110 : Cond.fieldLink RX5 110 "FiberHeapModel" "freed" "I" ∈ zh_WS := zh_t3 91 (by decide +kernel) (by decide +kernel)
theorem mc_X5_113 : Cond.methodLink RX5 113 yX5_sweepSpan ∈ zh_WS := zh_t3 219 (by decide +kernel) (by decide +kernel)
theorem mc_X5_117 : Cond.methodLink RX5 117 yX5_runOf ∈ zh_WS := zh_t4 7 (by decide +kernel) (by decide +kernel)
theorem mc_X5_121 : Cond.methodLink RX5 121 yX5_slotOf ∈ zh_WS := zh_t3 207 (by decide +kernel) (by decide +kernel)
theorem mf_X5_125 : Cond.fieldLink RX5 125 "FiberHeapModel" "fresh" "I" ∈ zh_WS := zh_t3 89 (by decide +kernel) (by decide +kernel)
theorem mc_X5_128 : Cond.methodLink RX5 128 yX5_cycle ∈ zh_WS := zh_t3 211 (by decide +kernel) (by decide +kernel)
theorem mc_X5_131 : Cond.methodLink RX5 131 yX5_work ∈ zh_WS := zh_t3 227 (by decide +kernel) (by decide +kernel)
theorem mc_X5_134 : Cond.methodLink RX5 134 yX5_seat ∈ zh_WS := zh_t4 3 (by decide +kernel) (by decide +kernel)
theorem mv_X5_137 : Cond.constant RX5 137 1000000 ∈ zh_WS := zh_t4 11 (by decide +kernel) (by decide +kernel)
theorem mc_X5_138 : Cond.methodLink RX5 138 yX5_sweepUpTo ∈ zh_WS := zh_t3 215 (by decide +kernel) (by decide +kernel)
theorem mc_X5_141 : Cond.methodLink RX5 141 yX5_object ∈ zh_WS := zh_t4 16 (by decide +kernel) (by decide +kernel)
theorem mc_X5_144 : Cond.methodLink RX5 144 yX5_note ∈ zh_WS := zh_t3 223 (by decide +kernel) (by decide +kernel)
theorem mf_X5_147 : Cond.fieldLink RX5 147 "FiberHeapModel" "clock" "I" ∈ zh_WS := zh_t3 83 (by decide +kernel) (by decide +kernel)
theorem mc_X5_150 : Cond.methodLink RX5 150 yX5_firstAt ∈ zh_WS := zh_t4 36 (by decide +kernel) (by decide +kernel)
theorem mc_X5_153 : Cond.methodLink RX5 153 yX5_hand ∈ zh_WS := zh_t4 40 (by decide +kernel) (by decide +kernel)
theorem mc_X5_157 : Cond.methodLink RX5 157 yX5_enter ∈ zh_WS := zh_t4 44 (by decide +kernel) (by decide +kernel)
theorem mc_X5_160 : Cond.methodLink RX5 160 yX5_waitFor ∈ zh_WS := zh_t4 48 (by decide +kernel) (by decide +kernel)
theorem mc_X5_164 : Cond.methodLink RX5 164 yX5_gives ∈ zh_WS := zh_t4 56 (by decide +kernel) (by decide +kernel)
theorem mf_X5_168 : Cond.fieldLink RX5 168 "FiberHeapModel" "looked" "I" ∈ zh_WS := zh_t3 85 (by decide +kernel) (by decide +kernel)
theorem mf_X5_171 : Cond.fieldLink RX5 171 "FiberHeapModel" "cycles" "I" ∈ zh_WS := zh_t3 86 (by decide +kernel) (by decide +kernel)
theorem mc_X5_174 : Cond.methodLink RX5 174 yX5_scan ∈ zh_WS := zh_t3 231 (by decide +kernel) (by decide +kernel)
theorem mc_X5_177 : Cond.methodLink RX5 177 yX5_countDue ∈ zh_WS := zh_t3 235 (by decide +kernel) (by decide +kernel)
theorem mf_X5_181 : Cond.fieldLink RX5 181 "FiberHeapModel" "pieces" "I" ∈ zh_WS := zh_t3 87 (by decide +kernel) (by decide +kernel)
theorem mc_X5_184 : Cond.methodLink RX5 184 yX5_finish ∈ zh_WS := zh_t3 239 (by decide +kernel) (by decide +kernel)
theorem mc_X5_187 : Cond.methodLink RX5 187 yX5_tally ∈ zh_WS := zh_t4 80 (by decide +kernel) (by decide +kernel)
theorem mk_L_7 : Cond.classLink RL 7 RX4 ∈ zh_WS := zh_t1 10 (by decide +kernel) (by decide +kernel)
theorem mc_L_9 : Cond.methodLink RL 9 yX4_init ∈ zh_WS := zh_t1 12 (by decide +kernel) (by decide +kernel)
theorem mk_L_10 : Cond.classLink RL 10 RX5 ∈ zh_WS := zh_t3 51 (by decide +kernel) (by decide +kernel)
theorem mc_L_12 : Cond.methodLink RL 12 yX5_init ∈ zh_WS := zh_t3 53 (by decide +kernel) (by decide +kernel)
theorem mc_L_13 : Cond.methodLink RL 13 yX4_spawn ∈ zh_WS := zh_t1 189 (by decide +kernel) (by decide +kernel)
theorem mc_L_17 : Cond.methodLink RL 17 yX5_spawn ∈ zh_WS := zh_t3 155 (by decide +kernel) (by decide +kernel)
theorem mc_L_18 : Cond.methodLink RL 18 yX4_end ∈ zh_WS := zh_t1 221 (by decide +kernel) (by decide +kernel)
theorem mc_L_22 : Cond.methodLink RL 22 yX5_end ∈ zh_WS := zh_t3 179 (by decide +kernel) (by decide +kernel)
theorem mc_L_23 : Cond.methodLink RL 23 yX4_wake ∈ zh_WS := zh_t1 229 (by decide +kernel) (by decide +kernel)
theorem mc_L_26 : Cond.methodLink RL 26 yX5_wake ∈ zh_WS := zh_t3 183 (by decide +kernel) (by decide +kernel)
theorem mc_L_27 : Cond.methodLink RL 27 yX4_call ∈ zh_WS := zh_t1 233 (by decide +kernel) (by decide +kernel)
theorem mc_L_30 : Cond.methodLink RL 30 yX5_call ∈ zh_WS := zh_t3 187 (by decide +kernel) (by decide +kernel)
theorem mc_L_31 : Cond.methodLink RL 31 yX4_leave ∈ zh_WS := zh_t2 8 (by decide +kernel) (by decide +kernel)
theorem mc_L_34 : Cond.methodLink RL 34 yX5_leave ∈ zh_WS := zh_t3 191 (by decide +kernel) (by decide +kernel)
theorem mc_L_35 : Cond.methodLink RL 35 yX4_aim ∈ zh_WS := zh_t2 16 (by decide +kernel) (by decide +kernel)
theorem mc_L_39 : Cond.methodLink RL 39 yX5_aim ∈ zh_WS := zh_t3 195 (by decide +kernel) (by decide +kernel)
theorem mc_L_40 : Cond.methodLink RL 40 yX4_copy ∈ zh_WS := zh_t2 21 (by decide +kernel) (by decide +kernel)
theorem mc_L_44 : Cond.methodLink RL 44 yX5_copy ∈ zh_WS := zh_t3 199 (by decide +kernel) (by decide +kernel)
theorem mc_L_45 : Cond.methodLink RL 45 yX4_make ∈ zh_WS := zh_t2 30 (by decide +kernel) (by decide +kernel)
theorem mc_L_49 : Cond.methodLink RL 49 yX5_make ∈ zh_WS := zh_t3 203 (by decide +kernel) (by decide +kernel)
theorem mc_L_50 : Cond.methodLink RL 50 yX4_set ∈ zh_WS := zh_t2 157 (by decide +kernel) (by decide +kernel)
theorem mc_L_54 : Cond.methodLink RL 54 yX5_set ∈ zh_WS := zh_t4 12 (by decide +kernel) (by decide +kernel)
theorem mc_L_55 : Cond.methodLink RL 55 yX4_get ∈ zh_WS := zh_t2 166 (by decide +kernel) (by decide +kernel)
theorem mc_L_58 : Cond.methodLink RL 58 yX5_get ∈ zh_WS := zh_t4 20 (by decide +kernel) (by decide +kernel)
theorem mc_L_59 : Cond.methodLink RL 59 yX4_store ∈ zh_WS := zh_t2 170 (by decide +kernel) (by decide +kernel)
theorem mc_L_62 : Cond.methodLink RL 62 yX5_store ∈ zh_WS := zh_t4 24 (by decide +kernel) (by decide +kernel)
theorem mc_L_63 : Cond.methodLink RL 63 yX4_load ∈ zh_WS := zh_t2 182 (by decide +kernel) (by decide +kernel)
theorem mc_L_67 : Cond.methodLink RL 67 yX5_load ∈ zh_WS := zh_t4 28 (by decide +kernel) (by decide +kernel)
theorem mc_L_68 : Cond.methodLink RL 68 yX4_send ∈ zh_WS := zh_t2 186 (by decide +kernel) (by decide +kernel)
theorem mc_L_71 : Cond.methodLink RL 71 yX5_send ∈ zh_WS := zh_t4 32 (by decide +kernel) (by decide +kernel)
theorem mc_L_72 : Cond.methodLink RL 72 yX4_take ∈ zh_WS := zh_t2 222 (by decide +kernel) (by decide +kernel)
theorem mc_L_75 : Cond.methodLink RL 75 yX5_take ∈ zh_WS := zh_t4 52 (by decide +kernel) (by decide +kernel)
theorem mc_L_76 : Cond.methodLink RL 76 yX4_mark ∈ zh_WS := zh_t3 2 (by decide +kernel) (by decide +kernel)
theorem mc_L_80 : Cond.methodLink RL 80 yX5_mark ∈ zh_WS := zh_t4 60 (by decide +kernel) (by decide +kernel)
theorem mc_L_81 : Cond.methodLink RL 81 yX4_sweep ∈ zh_WS := zh_t3 7 (by decide +kernel) (by decide +kernel)
theorem mc_L_84 : Cond.methodLink RL 84 yX5_sweep ∈ zh_WS := zh_t4 64 (by decide +kernel) (by decide +kernel)
theorem mc_L_85 : Cond.methodLink RL 85 yX4_collect ∈ zh_WS := zh_t3 11 (by decide +kernel) (by decide +kernel)
theorem mc_L_89 : Cond.methodLink RL 89 yX5_collect ∈ zh_WS := zh_t4 68 (by decide +kernel) (by decide +kernel)
theorem mc_L_90 : Cond.methodLink RL 90 yX4_fiber ∈ zh_WS := zh_t3 15 (by decide +kernel) (by decide +kernel)
theorem mc_L_93 : Cond.methodLink RL 93 yX5_fiber ∈ zh_WS := zh_t4 72 (by decide +kernel) (by decide +kernel)
theorem mc_L_94 : Cond.methodLink RL 94 yX4_count ∈ zh_WS := zh_t3 19 (by decide +kernel) (by decide +kernel)
theorem mc_L_97 : Cond.methodLink RL 97 yX5_count ∈ zh_WS := zh_t4 76 (by decide +kernel) (by decide +kernel)
theorem mc_L_98 : Cond.methodLink RL 98 yX4_page ∈ zh_WS := zh_t3 47 (by decide +kernel) (by decide +kernel)
theorem mc_L_101 : Cond.methodLink RL 101 yX5_page ∈ zh_WS := zh_t4 84 (by decide +kernel) (by decide +kernel)
theorem me_X0_init : Cond.instanceMethod yX0_init ∈ zh_WS ∧ Cond.initialized yX0_init.cls ∈ zh_WS ∧ Cond.code yX0_init cX0_init 2 none ∈ zh_WS := ⟨zh_t1 114 (by decide +kernel) (by decide +kernel), in2_X0.2, zh_t1 115 rfl rfl⟩
theorem me_X0_hasSpace : Cond.instanceMethod yX0_hasSpace ∈ zh_WS ∧ Cond.selects yX0_hasSpace.cls yX0_hasSpace yX0_hasSpace ∈ zh_WS ∧ Cond.initialized yX0_hasSpace.cls ∈ zh_WS ∧ Cond.code yX0_hasSpace cX0_hasSpace 1 (some .boolean) ∈ zh_WS := ⟨zh_t2 206 (by decide +kernel) (by decide +kernel), zh_t2 207 (by decide +kernel) (by decide +kernel), in2_X0.2, zh_t2 208 rfl rfl⟩
theorem me_X0_addLast : Cond.instanceMethod yX0_addLast ∈ zh_WS ∧ Cond.selects yX0_addLast.cls yX0_addLast yX0_addLast ∈ zh_WS ∧ Cond.initialized yX0_addLast.cls ∈ zh_WS ∧ Cond.code yX0_addLast cX0_addLast 2 none ∈ zh_WS := ⟨zh_t2 210 (by decide +kernel) (by decide +kernel), zh_t2 211 (by decide +kernel) (by decide +kernel), in2_X0.2, zh_t2 212 rfl rfl⟩
theorem me_X0_removeFirst : Cond.instanceMethod yX0_removeFirst ∈ zh_WS ∧ Cond.selects yX0_removeFirst.cls yX0_removeFirst yX0_removeFirst ∈ zh_WS ∧ Cond.initialized yX0_removeFirst.cls ∈ zh_WS ∧ Cond.code yX0_removeFirst cX0_removeFirst 3 (some .int) ∈ zh_WS := ⟨zh_t2 239 (by decide +kernel) (by decide +kernel), zh_t3 0 (by decide +kernel) (by decide +kernel), in2_X0.2, zh_t3 1 rfl rfl⟩
theorem me_X1_init : Cond.instanceMethod yX1_init ∈ zh_WS ∧ Cond.initialized yX1_init.cls ∈ zh_WS ∧ Cond.code yX1_init cX1_init 4 none ∈ zh_WS := ⟨zh_t1 130 (by decide +kernel) (by decide +kernel), in2_X1.2, zh_t1 131 rfl rfl⟩
theorem me_X1_beginCycle : Cond.instanceMethod yX1_beginCycle ∈ zh_WS ∧ Cond.selects yX1_beginCycle.cls yX1_beginCycle yX1_beginCycle ∈ zh_WS ∧ Cond.initialized yX1_beginCycle.cls ∈ zh_WS ∧ Cond.code yX1_beginCycle cX1_beginCycle 3 none ∈ zh_WS := ⟨zh_t2 42 (by decide +kernel) (by decide +kernel), zh_t2 43 (by decide +kernel) (by decide +kernel), in2_X1.2, zh_t2 44 rfl rfl⟩
theorem me_X1_workBeforePlacing : Cond.instanceMethod yX1_workBeforePlacing ∈ zh_WS ∧ Cond.selects yX1_workBeforePlacing.cls yX1_workBeforePlacing yX1_workBeforePlacing ∈ zh_WS ∧ Cond.initialized yX1_workBeforePlacing.cls ∈ zh_WS ∧ Cond.code yX1_workBeforePlacing cX1_workBeforePlacing 2 none ∈ zh_WS := ⟨zh_t2 38 (by decide +kernel) (by decide +kernel), zh_t2 39 (by decide +kernel) (by decide +kernel), in2_X1.2, zh_t2 40 rfl rfl⟩
theorem me_X1_markOfPlaced : Cond.instanceMethod yX1_markOfPlaced ∈ zh_WS ∧ Cond.selects yX1_markOfPlaced.cls yX1_markOfPlaced yX1_markOfPlaced ∈ zh_WS ∧ Cond.initialized yX1_markOfPlaced.cls ∈ zh_WS ∧ Cond.code yX1_markOfPlaced cX1_markOfPlaced 1 (some .int) ∈ zh_WS := ⟨zh_t2 120 (by decide +kernel) (by decide +kernel), zh_t2 121 (by decide +kernel) (by decide +kernel), in2_X1.2, zh_t2 122 rfl rfl⟩
theorem me_X1_finishMarking : Cond.instanceMethod yX1_finishMarking ∈ zh_WS ∧ Cond.selects yX1_finishMarking.cls yX1_finishMarking yX1_finishMarking ∈ zh_WS ∧ Cond.initialized yX1_finishMarking.cls ∈ zh_WS ∧ Cond.code yX1_finishMarking cX1_finishMarking 1 none ∈ zh_WS := ⟨zh_t2 152 (by decide +kernel) (by decide +kernel), zh_t2 153 (by decide +kernel) (by decide +kernel), in2_X1.2, zh_t2 154 rfl rfl⟩
theorem me_X1_work : Cond.instanceMethod yX1_work ∈ zh_WS ∧ Cond.selects yX1_work.cls yX1_work yX1_work ∈ zh_WS ∧ Cond.initialized yX1_work.cls ∈ zh_WS ∧ Cond.code yX1_work cX1_work 4 (some .int) ∈ zh_WS := ⟨zh_t2 71 (by decide +kernel) (by decide +kernel), zh_t2 72 (by decide +kernel) (by decide +kernel), in2_X1.2, zh_t2 73 rfl rfl⟩
theorem me_X1_note : Cond.instanceMethod yX1_note ∈ zh_WS ∧ Cond.selects yX1_note.cls yX1_note yX1_note ∈ zh_WS ∧ Cond.initialized yX1_note.cls ∈ zh_WS ∧ Cond.code yX1_note cX1_note 3 none ∈ zh_WS := ⟨zh_t2 67 (by decide +kernel) (by decide +kernel), zh_t2 68 (by decide +kernel) (by decide +kernel), in2_X1.2, zh_t2 69 rfl rfl⟩
theorem me_X1_workIsLeft : Cond.instanceMethod yX1_workIsLeft ∈ zh_WS ∧ Cond.selects yX1_workIsLeft.cls yX1_workIsLeft yX1_workIsLeft ∈ zh_WS ∧ Cond.initialized yX1_workIsLeft.cls ∈ zh_WS ∧ Cond.code yX1_workIsLeft cX1_workIsLeft 1 (some .boolean) ∈ zh_WS := ⟨zh_t2 79 (by decide +kernel) (by decide +kernel), zh_sel (n := 10) (by decide +kernel) (by decide +kernel), in2_X1.2, zh_t2 80 rfl rfl⟩
theorem me_X1_nextToScan : Cond.instanceMethod yX1_nextToScan ∈ zh_WS ∧ Cond.selects yX1_nextToScan.cls yX1_nextToScan yX1_nextToScan ∈ zh_WS ∧ Cond.initialized yX1_nextToScan.cls ∈ zh_WS ∧ Cond.code yX1_nextToScan cX1_nextToScan 2 (some (.object "FiberHeap$Fiber")) ∈ zh_WS := ⟨zh_t2 83 (by decide +kernel) (by decide +kernel), zh_sel (n := 10) (by decide +kernel) (by decide +kernel), in2_X1.2, zh_t2 84 rfl rfl⟩
theorem me_X1_doPiece : Cond.instanceMethod yX1_doPiece ∈ zh_WS ∧ Cond.selects yX1_doPiece.cls yX1_doPiece yX1_doPiece ∈ zh_WS ∧ Cond.initialized yX1_doPiece.cls ∈ zh_WS ∧ Cond.code yX1_doPiece cX1_doPiece 2 none ∈ zh_WS := ⟨zh_t2 87 (by decide +kernel) (by decide +kernel), zh_sel (n := 10) (by decide +kernel) (by decide +kernel), in2_X1.2, zh_t2 88 rfl rfl⟩
theorem me_X1_scan : Cond.instanceMethod yX1_scan ∈ zh_WS ∧ Cond.selects yX1_scan.cls yX1_scan yX1_scan ∈ zh_WS ∧ Cond.initialized yX1_scan.cls ∈ zh_WS ∧ Cond.code yX1_scan cX1_scan 3 none ∈ zh_WS := ⟨zh_t2 91 (by decide +kernel) (by decide +kernel), zh_sel (n := 10) (by decide +kernel) (by decide +kernel), in2_X1.2, zh_t2 92 rfl rfl⟩
theorem me_X1_lookAt : Cond.instanceMethod yX1_lookAt ∈ zh_WS ∧ Cond.selects yX1_lookAt.cls yX1_lookAt yX1_lookAt ∈ zh_WS ∧ Cond.initialized yX1_lookAt.cls ∈ zh_WS ∧ Cond.code yX1_lookAt cX1_lookAt 4 none ∈ zh_WS := ⟨zh_t2 99 (by decide +kernel) (by decide +kernel), zh_sel (n := 10) (by decide +kernel) (by decide +kernel), in2_X1.2, zh_t2 100 rfl rfl⟩
theorem me_X1_endMarking : Cond.instanceMethod yX1_endMarking ∈ zh_WS ∧ Cond.selects yX1_endMarking.cls yX1_endMarking yX1_endMarking ∈ zh_WS ∧ Cond.initialized yX1_endMarking.cls ∈ zh_WS ∧ Cond.code yX1_endMarking cX1_endMarking 1 none ∈ zh_WS := ⟨zh_t2 103 (by decide +kernel) (by decide +kernel), zh_sel (n := 10) (by decide +kernel) (by decide +kernel), in2_X1.2, zh_t2 104 rfl rfl⟩
theorem me_X2_init : Cond.instanceMethod yX2_init ∈ zh_WS ∧ Cond.initialized yX2_init.cls ∈ zh_WS ∧ Cond.code yX2_init cX2_init 1 none ∈ zh_WS := ⟨zh_t1 58 (by decide +kernel) (by decide +kernel), in2_X2.2, zh_t1 59 rfl rfl⟩
theorem me_X2_beginToLive : Cond.instanceMethod yX2_beginToLive ∈ zh_WS ∧ Cond.selects yX2_beginToLive.cls yX2_beginToLive yX2_beginToLive ∈ zh_WS ∧ Cond.initialized yX2_beginToLive.cls ∈ zh_WS ∧ Cond.code yX2_beginToLive cX2_beginToLive 3 none ∈ zh_WS := ⟨zh_t1 170 (by decide +kernel) (by decide +kernel), zh_t1 171 (by decide +kernel) (by decide +kernel), in2_X2.2, zh_t1 172 rfl rfl⟩
theorem me_X2_cellIndex : Cond.instanceMethod yX2_cellIndex ∈ zh_WS ∧ Cond.selects yX2_cellIndex.cls yX2_cellIndex yX2_cellIndex ∈ zh_WS ∧ Cond.initialized yX2_cellIndex.cls ∈ zh_WS ∧ Cond.code yX2_cellIndex cX2_cellIndex 2 (some .int) ∈ zh_WS := ⟨zh_t1 214 (by decide +kernel) (by decide +kernel), zh_t1 215 (by decide +kernel) (by decide +kernel), in2_X2.2, zh_t1 216 rfl rfl⟩
theorem me_X2_isCell : Cond.instanceMethod yX2_isCell ∈ zh_WS ∧ Cond.selects yX2_isCell.cls yX2_isCell yX2_isCell ∈ zh_WS ∧ Cond.initialized yX2_isCell.cls ∈ zh_WS ∧ Cond.code yX2_isCell cX2_isCell 2 (some .boolean) ∈ zh_WS := ⟨zh_t1 210 (by decide +kernel) (by decide +kernel), zh_t1 211 (by decide +kernel) (by decide +kernel), in2_X2.2, zh_t1 212 rfl rfl⟩
theorem me_X2_isSource : Cond.instanceMethod yX2_isSource ∈ zh_WS ∧ Cond.selects yX2_isSource.cls yX2_isSource yX2_isSource ∈ zh_WS ∧ Cond.initialized yX2_isSource.cls ∈ zh_WS ∧ Cond.code yX2_isSource cX2_isSource 2 (some .boolean) ∈ zh_WS := ⟨zh_t1 206 (by decide +kernel) (by decide +kernel), zh_t1 207 (by decide +kernel) (by decide +kernel), in2_X2.2, zh_t1 208 rfl rfl⟩
theorem me_X2_pointerFrom : Cond.instanceMethod yX2_pointerFrom ∈ zh_WS ∧ Cond.selects yX2_pointerFrom.cls yX2_pointerFrom yX2_pointerFrom ∈ zh_WS ∧ Cond.initialized yX2_pointerFrom.cls ∈ zh_WS ∧ Cond.code yX2_pointerFrom cX2_pointerFrom 3 (some .int) ∈ zh_WS := ⟨zh_t1 218 (by decide +kernel) (by decide +kernel), zh_t1 219 (by decide +kernel) (by decide +kernel), in2_X2.2, zh_t1 220 rfl rfl⟩
theorem me_X2_fillCell : Cond.instanceMethod yX2_fillCell ∈ zh_WS ∧ Cond.selects yX2_fillCell.cls yX2_fillCell yX2_fillCell ∈ zh_WS ∧ Cond.initialized yX2_fillCell.cls ∈ zh_WS ∧ Cond.code yX2_fillCell cX2_fillCell 4 none ∈ zh_WS := ⟨zh_t2 27 (by decide +kernel) (by decide +kernel), zh_t2 28 (by decide +kernel) (by decide +kernel), in2_X2.2, zh_t2 29 rfl rfl⟩
theorem me_X2_addFrame : Cond.instanceMethod yX2_addFrame ∈ zh_WS ∧ Cond.selects yX2_addFrame.cls yX2_addFrame yX2_addFrame ∈ zh_WS ∧ Cond.initialized yX2_addFrame.cls ∈ zh_WS ∧ Cond.code yX2_addFrame cX2_addFrame 1 none ∈ zh_WS := ⟨zh_t1 238 (by decide +kernel) (by decide +kernel), zh_t1 239 (by decide +kernel) (by decide +kernel), in2_X2.2, zh_t2 0 rfl rfl⟩
theorem me_X2_dropFrame : Cond.instanceMethod yX2_dropFrame ∈ zh_WS ∧ Cond.selects yX2_dropFrame.cls yX2_dropFrame yX2_dropFrame ∈ zh_WS ∧ Cond.initialized yX2_dropFrame.cls ∈ zh_WS ∧ Cond.code yX2_dropFrame cX2_dropFrame 2 none ∈ zh_WS := ⟨zh_t2 13 (by decide +kernel) (by decide +kernel), zh_t2 14 (by decide +kernel) (by decide +kernel), in2_X2.2, zh_t2 15 rfl rfl⟩
theorem me_X2_shrinkRoom : Cond.instanceMethod yX2_shrinkRoom ∈ zh_WS ∧ Cond.selects yX2_shrinkRoom.cls yX2_shrinkRoom yX2_shrinkRoom ∈ zh_WS ∧ Cond.initialized yX2_shrinkRoom.cls ∈ zh_WS ∧ Cond.code yX2_shrinkRoom cX2_shrinkRoom 1 none ∈ zh_WS := ⟨zh_t2 94 (by decide +kernel) (by decide +kernel), zh_t2 95 (by decide +kernel) (by decide +kernel), in2_X2.2, zh_t2 96 rfl rfl⟩
theorem me_X2_moveTo : Cond.instanceMethod yX2_moveTo ∈ zh_WS ∧ Cond.selects yX2_moveTo.cls yX2_moveTo yX2_moveTo ∈ zh_WS ∧ Cond.initialized yX2_moveTo.cls ∈ zh_WS ∧ Cond.code yX2_moveTo cX2_moveTo 2 none ∈ zh_WS := ⟨zh_t2 3 (by decide +kernel) (by decide +kernel), zh_sel (n := 12) (by decide +kernel) (by decide +kernel), in2_X2.2, zh_t2 4 rfl rfl⟩
theorem me_X2_beginToWait : Cond.instanceMethod yX2_beginToWait ∈ zh_WS ∧ Cond.selects yX2_beginToWait.cls yX2_beginToWait yX2_beginToWait ∈ zh_WS ∧ Cond.initialized yX2_beginToWait.cls ∈ zh_WS ∧ Cond.code yX2_beginToWait cX2_beginToWait 6 none ∈ zh_WS := ⟨zh_t2 219 (by decide +kernel) (by decide +kernel), zh_t2 220 (by decide +kernel) (by decide +kernel), in2_X2.2, zh_t2 221 rfl rfl⟩
theorem me_X2_waitsAt : Cond.instanceMethod yX2_waitsAt ∈ zh_WS ∧ Cond.selects yX2_waitsAt.cls yX2_waitsAt yX2_waitsAt ∈ zh_WS ∧ Cond.initialized yX2_waitsAt.cls ∈ zh_WS ∧ Cond.code yX2_waitsAt cX2_waitsAt 3 (some .boolean) ∈ zh_WS := ⟨zh_t2 198 (by decide +kernel) (by decide +kernel), zh_t2 199 (by decide +kernel) (by decide +kernel), in2_X2.2, zh_t2 200 rfl rfl⟩
theorem me_X2_endSending : Cond.instanceMethod yX2_endSending ∈ zh_WS ∧ Cond.selects yX2_endSending.cls yX2_endSending yX2_endSending ∈ zh_WS ∧ Cond.initialized yX2_endSending.cls ∈ zh_WS ∧ Cond.code yX2_endSending cX2_endSending 1 (some .int) ∈ zh_WS := ⟨zh_t2 235 (by decide +kernel) (by decide +kernel), zh_t2 236 (by decide +kernel) (by decide +kernel), in2_X2.2, zh_t2 237 rfl rfl⟩
theorem me_X2_endTaking : Cond.instanceMethod yX2_endTaking ∈ zh_WS ∧ Cond.selects yX2_endTaking.cls yX2_endTaking yX2_endTaking ∈ zh_WS ∧ Cond.initialized yX2_endTaking.cls ∈ zh_WS ∧ Cond.code yX2_endTaking cX2_endTaking 3 none ∈ zh_WS := ⟨zh_t2 202 (by decide +kernel) (by decide +kernel), zh_t2 203 (by decide +kernel) (by decide +kernel), in2_X2.2, zh_t2 204 rfl rfl⟩
theorem me_X3_init : Cond.instanceMethod yX3_init ∈ zh_WS ∧ Cond.initialized yX3_init.cls ∈ zh_WS ∧ Cond.code yX3_init cX3_init 1 none ∈ zh_WS := ⟨zh_t1 21 (by decide +kernel) (by decide +kernel), in2_X3.2, zh_t1 22 rfl rfl⟩
theorem me_X3_slotWordsFor : Cond.static yX3_slotWordsFor ∈ zh_WS ∧ Cond.initialized yX3_slotWordsFor.cls ∈ zh_WS ∧ Cond.code yX3_slotWordsFor cX3_slotWordsFor 1 (some .int) ∈ zh_WS := ⟨zh_t2 35 (by decide +kernel) (by decide +kernel), in2_X3.2, zh_t2 36 rfl rfl⟩
theorem me_X3_pagesOfSpan : Cond.static yX3_pagesOfSpan ∈ zh_WS ∧ Cond.initialized yX3_pagesOfSpan.cls ∈ zh_WS ∧ Cond.code yX3_pagesOfSpan cX3_pagesOfSpan 1 (some .int) ∈ zh_WS := ⟨zh_t2 54 (by decide +kernel) (by decide +kernel), in2_X3.2, zh_t2 55 rfl rfl⟩
theorem me_X3_isPointerWord : Cond.instanceMethod yX3_isPointerWord ∈ zh_WS ∧ Cond.selects yX3_isPointerWord.cls yX3_isPointerWord yX3_isPointerWord ∈ zh_WS ∧ Cond.initialized yX3_isPointerWord.cls ∈ zh_WS ∧ Cond.code yX3_isPointerWord cX3_isPointerWord 3 (some .boolean) ∈ zh_WS := ⟨zh_t2 162 (by decide +kernel) (by decide +kernel), zh_t2 163 (by decide +kernel) (by decide +kernel), in2_X3.2, zh_t2 164 rfl rfl⟩
theorem me_X3_isIntWord : Cond.instanceMethod yX3_isIntWord ∈ zh_WS ∧ Cond.selects yX3_isIntWord.cls yX3_isIntWord yX3_isIntWord ∈ zh_WS ∧ Cond.initialized yX3_isIntWord.cls ∈ zh_WS ∧ Cond.code yX3_isIntWord cX3_isIntWord 3 (some .boolean) ∈ zh_WS := ⟨zh_t2 179 (by decide +kernel) (by decide +kernel), zh_t2 180 (by decide +kernel) (by decide +kernel), in2_X3.2, zh_t2 181 rfl rfl⟩
theorem me_X3_place : Cond.instanceMethod yX3_place ∈ zh_WS ∧ Cond.selects yX3_place.cls yX3_place yX3_place ∈ zh_WS ∧ Cond.initialized yX3_place.cls ∈ zh_WS ∧ Cond.code yX3_place cX3_place 6 (some .int) ∈ zh_WS := ⟨zh_t2 124 (by decide +kernel) (by decide +kernel), zh_t2 125 (by decide +kernel) (by decide +kernel), in2_X3.2, zh_t2 126 rfl rfl⟩
theorem me_X3_slotInSpans : Cond.instanceMethod yX3_slotInSpans ∈ zh_WS ∧ Cond.selects yX3_slotInSpans.cls yX3_slotInSpans yX3_slotInSpans ∈ zh_WS ∧ Cond.initialized yX3_slotInSpans.cls ∈ zh_WS ∧ Cond.code yX3_slotInSpans cX3_slotInSpans 4 (some .int) ∈ zh_WS := ⟨zh_t2 129 (by decide +kernel) (by decide +kernel), zh_sel (n := 7) (by decide +kernel) (by decide +kernel), in2_X3.2, zh_t2 130 rfl rfl⟩
theorem me_X3_openSlot : Cond.instanceMethod yX3_openSlot ∈ zh_WS ∧ Cond.selects yX3_openSlot.cls yX3_openSlot yX3_openSlot ∈ zh_WS ∧ Cond.initialized yX3_openSlot.cls ∈ zh_WS ∧ Cond.code yX3_openSlot cX3_openSlot 5 (some .int) ∈ zh_WS := ⟨zh_t2 133 (by decide +kernel) (by decide +kernel), zh_sel (n := 7) (by decide +kernel) (by decide +kernel), in2_X3.2, zh_t2 134 rfl rfl⟩
theorem me_X3_slotInNewSpan : Cond.instanceMethod yX3_slotInNewSpan ∈ zh_WS ∧ Cond.selects yX3_slotInNewSpan.cls yX3_slotInNewSpan yX3_slotInNewSpan ∈ zh_WS ∧ Cond.initialized yX3_slotInNewSpan.cls ∈ zh_WS ∧ Cond.code yX3_slotInNewSpan cX3_slotInNewSpan 4 (some .int) ∈ zh_WS := ⟨zh_t2 137 (by decide +kernel) (by decide +kernel), zh_sel (n := 7) (by decide +kernel) (by decide +kernel), in2_X3.2, zh_t2 138 rfl rfl⟩
theorem me_X3_shortestRun : Cond.instanceMethod yX3_shortestRun ∈ zh_WS ∧ Cond.selects yX3_shortestRun.cls yX3_shortestRun yX3_shortestRun ∈ zh_WS ∧ Cond.initialized yX3_shortestRun.cls ∈ zh_WS ∧ Cond.code yX3_shortestRun cX3_shortestRun 6 (some .int) ∈ zh_WS := ⟨zh_t2 141 (by decide +kernel) (by decide +kernel), zh_sel (n := 7) (by decide +kernel) (by decide +kernel), in2_X3.2, zh_t2 142 rfl rfl⟩
theorem me_X3_endsRun : Cond.instanceMethod yX3_endsRun ∈ zh_WS ∧ Cond.selects yX3_endsRun.cls yX3_endsRun yX3_endsRun ∈ zh_WS ∧ Cond.initialized yX3_endsRun.cls ∈ zh_WS ∧ Cond.code yX3_endsRun cX3_endsRun 2 (some .boolean) ∈ zh_WS := ⟨zh_t2 145 (by decide +kernel) (by decide +kernel), zh_sel (n := 7) (by decide +kernel) (by decide +kernel), in2_X3.2, zh_t2 146 rfl rfl⟩
theorem me_X3_fillSlot : Cond.instanceMethod yX3_fillSlot ∈ zh_WS ∧ Cond.selects yX3_fillSlot.cls yX3_fillSlot yX3_fillSlot ∈ zh_WS ∧ Cond.initialized yX3_fillSlot.cls ∈ zh_WS ∧ Cond.code yX3_fillSlot cX3_fillSlot 6 none ∈ zh_WS := ⟨zh_t2 149 (by decide +kernel) (by decide +kernel), zh_sel (n := 7) (by decide +kernel) (by decide +kernel), in2_X3.2, zh_t2 150 rfl rfl⟩
theorem me_X3_sweepSpans : Cond.instanceMethod yX3_sweepSpans ∈ zh_WS ∧ Cond.selects yX3_sweepSpans.cls yX3_sweepSpans yX3_sweepSpans ∈ zh_WS ∧ Cond.initialized yX3_sweepSpans.cls ∈ zh_WS ∧ Cond.code yX3_sweepSpans cX3_sweepSpans 4 (some .int) ∈ zh_WS := ⟨zh_t2 46 (by decide +kernel) (by decide +kernel), zh_t2 47 (by decide +kernel) (by decide +kernel), in2_X3.2, zh_t2 48 rfl rfl⟩
theorem me_X3_sweepSpan : Cond.instanceMethod yX3_sweepSpan ∈ zh_WS ∧ Cond.selects yX3_sweepSpan.cls yX3_sweepSpan yX3_sweepSpan ∈ zh_WS ∧ Cond.initialized yX3_sweepSpan.cls ∈ zh_WS ∧ Cond.code yX3_sweepSpan cX3_sweepSpan 4 none ∈ zh_WS := ⟨zh_t2 51 (by decide +kernel) (by decide +kernel), zh_sel (n := 7) (by decide +kernel) (by decide +kernel), in2_X3.2, zh_t2 52 rfl rfl⟩
theorem me_X3_fillPages : Cond.instanceMethod yX3_fillPages ∈ zh_WS ∧ Cond.selects yX3_fillPages.cls yX3_fillPages yX3_fillPages ∈ zh_WS ∧ Cond.initialized yX3_fillPages.cls ∈ zh_WS ∧ Cond.code yX3_fillPages cX3_fillPages 5 none ∈ zh_WS := ⟨zh_t2 61 (by decide +kernel) (by decide +kernel), zh_sel (n := 7) (by decide +kernel) (by decide +kernel), in2_X3.2, zh_t2 62 rfl rfl⟩
theorem me_X3_leaveAllUnswept : Cond.instanceMethod yX3_leaveAllUnswept ∈ zh_WS ∧ Cond.selects yX3_leaveAllUnswept.cls yX3_leaveAllUnswept yX3_leaveAllUnswept ∈ zh_WS ∧ Cond.initialized yX3_leaveAllUnswept.cls ∈ zh_WS ∧ Cond.code yX3_leaveAllUnswept cX3_leaveAllUnswept 2 none ∈ zh_WS := ⟨zh_t2 106 (by decide +kernel) (by decide +kernel), zh_t2 107 (by decide +kernel) (by decide +kernel), in2_X3.2, zh_t2 108 rfl rfl⟩
theorem me_X3_takenSlots : Cond.instanceMethod yX3_takenSlots ∈ zh_WS ∧ Cond.selects yX3_takenSlots.cls yX3_takenSlots yX3_takenSlots ∈ zh_WS ∧ Cond.initialized yX3_takenSlots.cls ∈ zh_WS ∧ Cond.code yX3_takenSlots cX3_takenSlots 3 (some .int) ∈ zh_WS := ⟨zh_t3 24 (by decide +kernel) (by decide +kernel), zh_t3 25 (by decide +kernel) (by decide +kernel), in2_X3.2, zh_t3 26 rfl rfl⟩
theorem me_X3_takenWords : Cond.instanceMethod yX3_takenWords ∈ zh_WS ∧ Cond.selects yX3_takenWords.cls yX3_takenWords yX3_takenWords ∈ zh_WS ∧ Cond.initialized yX3_takenWords.cls ∈ zh_WS ∧ Cond.code yX3_takenWords cX3_takenWords 3 (some .int) ∈ zh_WS := ⟨zh_t3 28 (by decide +kernel) (by decide +kernel), zh_t3 29 (by decide +kernel) (by decide +kernel), in2_X3.2, zh_t3 30 rfl rfl⟩
theorem me_X3_keptWords : Cond.instanceMethod yX3_keptWords ∈ zh_WS ∧ Cond.selects yX3_keptWords.cls yX3_keptWords yX3_keptWords ∈ zh_WS ∧ Cond.initialized yX3_keptWords.cls ∈ zh_WS ∧ Cond.code yX3_keptWords cX3_keptWords 3 (some .int) ∈ zh_WS := ⟨zh_t2 110 (by decide +kernel) (by decide +kernel), zh_t2 111 (by decide +kernel) (by decide +kernel), in2_X3.2, zh_t2 112 rfl rfl⟩
theorem me_X3_freePages : Cond.instanceMethod yX3_freePages ∈ zh_WS ∧ Cond.selects yX3_freePages.cls yX3_freePages yX3_freePages ∈ zh_WS ∧ Cond.initialized yX3_freePages.cls ∈ zh_WS ∧ Cond.code yX3_freePages cX3_freePages 3 (some .int) ∈ zh_WS := ⟨zh_t3 32 (by decide +kernel) (by decide +kernel), zh_t3 33 (by decide +kernel) (by decide +kernel), in2_X3.2, zh_t3 34 rfl rfl⟩
theorem me_X3_longestRun : Cond.instanceMethod yX3_longestRun ∈ zh_WS ∧ Cond.selects yX3_longestRun.cls yX3_longestRun yX3_longestRun ∈ zh_WS ∧ Cond.initialized yX3_longestRun.cls ∈ zh_WS ∧ Cond.code yX3_longestRun cX3_longestRun 4 (some .int) ∈ zh_WS := ⟨zh_t3 36 (by decide +kernel) (by decide +kernel), zh_t3 37 (by decide +kernel) (by decide +kernel), in2_X3.2, zh_t3 38 rfl rfl⟩
theorem me_X3_unsweptSpans : Cond.instanceMethod yX3_unsweptSpans ∈ zh_WS ∧ Cond.selects yX3_unsweptSpans.cls yX3_unsweptSpans yX3_unsweptSpans ∈ zh_WS ∧ Cond.initialized yX3_unsweptSpans.cls ∈ zh_WS ∧ Cond.code yX3_unsweptSpans cX3_unsweptSpans 3 (some .int) ∈ zh_WS := ⟨zh_t3 40 (by decide +kernel) (by decide +kernel), zh_t3 41 (by decide +kernel) (by decide +kernel), in2_X3.2, zh_t3 42 rfl rfl⟩
theorem me_X4_init : Cond.instanceMethod yX4_init ∈ zh_WS ∧ Cond.initialized yX4_init.cls ∈ zh_WS ∧ Cond.code yX4_init cX4_init 2 none ∈ zh_WS := ⟨zh_t1 13 (by decide +kernel) (by decide +kernel), in2_X4.2, zh_t1 14 rfl rfl⟩
theorem me_X4_spawn : Cond.instanceMethod yX4_spawn ∈ zh_WS ∧ Cond.selects yX4_spawn.cls yX4_spawn yX4_spawn ∈ zh_WS ∧ Cond.initialized yX4_spawn.cls ∈ zh_WS ∧ Cond.code yX4_spawn cX4_spawn 5 (some .int) ∈ zh_WS := ⟨zh_t1 190 (by decide +kernel) (by decide +kernel), zh_t1 191 (by decide +kernel) (by decide +kernel), in2_X4.2, zh_t1 192 rfl rfl⟩
theorem me_X4_end : Cond.instanceMethod yX4_end ∈ zh_WS ∧ Cond.selects yX4_end.cls yX4_end yX4_end ∈ zh_WS ∧ Cond.initialized yX4_end.cls ∈ zh_WS ∧ Cond.code yX4_end cX4_end 2 (some .boolean) ∈ zh_WS := ⟨zh_t1 222 (by decide +kernel) (by decide +kernel), zh_t1 223 (by decide +kernel) (by decide +kernel), in2_X4.2, zh_t1 224 rfl rfl⟩
theorem me_X4_wake : Cond.instanceMethod yX4_wake ∈ zh_WS ∧ Cond.selects yX4_wake.cls yX4_wake yX4_wake ∈ zh_WS ∧ Cond.initialized yX4_wake.cls ∈ zh_WS ∧ Cond.code yX4_wake cX4_wake 2 (some .boolean) ∈ zh_WS := ⟨zh_t1 230 (by decide +kernel) (by decide +kernel), zh_t1 231 (by decide +kernel) (by decide +kernel), in2_X4.2, zh_t1 232 rfl rfl⟩
theorem me_X4_call : Cond.instanceMethod yX4_call ∈ zh_WS ∧ Cond.selects yX4_call.cls yX4_call yX4_call ∈ zh_WS ∧ Cond.initialized yX4_call.cls ∈ zh_WS ∧ Cond.code yX4_call cX4_call 3 (some .boolean) ∈ zh_WS := ⟨zh_t1 234 (by decide +kernel) (by decide +kernel), zh_t1 235 (by decide +kernel) (by decide +kernel), in2_X4.2, zh_t1 236 rfl rfl⟩
theorem me_X4_leave : Cond.instanceMethod yX4_leave ∈ zh_WS ∧ Cond.selects yX4_leave.cls yX4_leave yX4_leave ∈ zh_WS ∧ Cond.initialized yX4_leave.cls ∈ zh_WS ∧ Cond.code yX4_leave cX4_leave 3 (some .boolean) ∈ zh_WS := ⟨zh_t2 9 (by decide +kernel) (by decide +kernel), zh_t2 10 (by decide +kernel) (by decide +kernel), in2_X4.2, zh_t2 11 rfl rfl⟩
theorem me_X4_aim : Cond.instanceMethod yX4_aim ∈ zh_WS ∧ Cond.selects yX4_aim.cls yX4_aim yX4_aim ∈ zh_WS ∧ Cond.initialized yX4_aim.cls ∈ zh_WS ∧ Cond.code yX4_aim cX4_aim 4 (some .boolean) ∈ zh_WS := ⟨zh_t2 17 (by decide +kernel) (by decide +kernel), zh_t2 18 (by decide +kernel) (by decide +kernel), in2_X4.2, zh_t2 19 rfl rfl⟩
theorem me_X4_copy : Cond.instanceMethod yX4_copy ∈ zh_WS ∧ Cond.selects yX4_copy.cls yX4_copy yX4_copy ∈ zh_WS ∧ Cond.initialized yX4_copy.cls ∈ zh_WS ∧ Cond.code yX4_copy cX4_copy 5 (some .boolean) ∈ zh_WS := ⟨zh_t2 22 (by decide +kernel) (by decide +kernel), zh_t2 23 (by decide +kernel) (by decide +kernel), in2_X4.2, zh_t2 24 rfl rfl⟩
theorem me_X4_make : Cond.instanceMethod yX4_make ∈ zh_WS ∧ Cond.selects yX4_make.cls yX4_make yX4_make ∈ zh_WS ∧ Cond.initialized yX4_make.cls ∈ zh_WS ∧ Cond.code yX4_make cX4_make 7 (some .int) ∈ zh_WS := ⟨zh_t2 31 (by decide +kernel) (by decide +kernel), zh_t2 32 (by decide +kernel) (by decide +kernel), in2_X4.2, zh_t2 33 rfl rfl⟩
theorem me_X4_set : Cond.instanceMethod yX4_set ∈ zh_WS ∧ Cond.selects yX4_set.cls yX4_set yX4_set ∈ zh_WS ∧ Cond.initialized yX4_set.cls ∈ zh_WS ∧ Cond.code yX4_set cX4_set 8 (some .boolean) ∈ zh_WS := ⟨zh_t2 158 (by decide +kernel) (by decide +kernel), zh_t2 159 (by decide +kernel) (by decide +kernel), in2_X4.2, zh_t2 160 rfl rfl⟩
theorem me_X4_get : Cond.instanceMethod yX4_get ∈ zh_WS ∧ Cond.selects yX4_get.cls yX4_get yX4_get ∈ zh_WS ∧ Cond.initialized yX4_get.cls ∈ zh_WS ∧ Cond.code yX4_get cX4_get 7 (some .boolean) ∈ zh_WS := ⟨zh_t2 167 (by decide +kernel) (by decide +kernel), zh_t2 168 (by decide +kernel) (by decide +kernel), in2_X4.2, zh_t2 169 rfl rfl⟩
theorem me_X4_store : Cond.instanceMethod yX4_store ∈ zh_WS ∧ Cond.selects yX4_store.cls yX4_store yX4_store ∈ zh_WS ∧ Cond.initialized yX4_store.cls ∈ zh_WS ∧ Cond.code yX4_store cX4_store 6 (some .boolean) ∈ zh_WS := ⟨zh_t2 171 (by decide +kernel) (by decide +kernel), zh_t2 172 (by decide +kernel) (by decide +kernel), in2_X4.2, zh_t2 173 rfl rfl⟩
theorem me_X4_load : Cond.instanceMethod yX4_load ∈ zh_WS ∧ Cond.selects yX4_load.cls yX4_load yX4_load ∈ zh_WS ∧ Cond.initialized yX4_load.cls ∈ zh_WS ∧ Cond.code yX4_load cX4_load 5 (some .int) ∈ zh_WS := ⟨zh_t2 183 (by decide +kernel) (by decide +kernel), zh_t2 184 (by decide +kernel) (by decide +kernel), in2_X4.2, zh_t2 185 rfl rfl⟩
theorem me_X4_send : Cond.instanceMethod yX4_send ∈ zh_WS ∧ Cond.selects yX4_send.cls yX4_send yX4_send ∈ zh_WS ∧ Cond.initialized yX4_send.cls ∈ zh_WS ∧ Cond.code yX4_send cX4_send 7 (some .int) ∈ zh_WS := ⟨zh_t2 187 (by decide +kernel) (by decide +kernel), zh_t2 188 (by decide +kernel) (by decide +kernel), in2_X4.2, zh_t2 189 rfl rfl⟩
theorem me_X4_take : Cond.instanceMethod yX4_take ∈ zh_WS ∧ Cond.selects yX4_take.cls yX4_take yX4_take ∈ zh_WS ∧ Cond.initialized yX4_take.cls ∈ zh_WS ∧ Cond.code yX4_take cX4_take 7 (some .int) ∈ zh_WS := ⟨zh_t2 223 (by decide +kernel) (by decide +kernel), zh_t2 224 (by decide +kernel) (by decide +kernel), in2_X4.2, zh_t2 225 rfl rfl⟩
theorem me_X4_mark : Cond.instanceMethod yX4_mark ∈ zh_WS ∧ Cond.selects yX4_mark.cls yX4_mark yX4_mark ∈ zh_WS ∧ Cond.initialized yX4_mark.cls ∈ zh_WS ∧ Cond.code yX4_mark cX4_mark 2 (some .int) ∈ zh_WS := ⟨zh_t3 3 (by decide +kernel) (by decide +kernel), zh_t3 4 (by decide +kernel) (by decide +kernel), in2_X4.2, zh_t3 5 rfl rfl⟩
theorem me_X4_sweep : Cond.instanceMethod yX4_sweep ∈ zh_WS ∧ Cond.selects yX4_sweep.cls yX4_sweep yX4_sweep ∈ zh_WS ∧ Cond.initialized yX4_sweep.cls ∈ zh_WS ∧ Cond.code yX4_sweep cX4_sweep 2 (some .int) ∈ zh_WS := ⟨zh_t3 8 (by decide +kernel) (by decide +kernel), zh_t3 9 (by decide +kernel) (by decide +kernel), in2_X4.2, zh_t3 10 rfl rfl⟩
theorem me_X4_collect : Cond.instanceMethod yX4_collect ∈ zh_WS ∧ Cond.selects yX4_collect.cls yX4_collect yX4_collect ∈ zh_WS ∧ Cond.initialized yX4_collect.cls ∈ zh_WS ∧ Cond.code yX4_collect cX4_collect 1 (some .boolean) ∈ zh_WS := ⟨zh_t3 12 (by decide +kernel) (by decide +kernel), zh_t3 13 (by decide +kernel) (by decide +kernel), in2_X4.2, zh_t3 14 rfl rfl⟩
theorem me_X4_fiber : Cond.instanceMethod yX4_fiber ∈ zh_WS ∧ Cond.selects yX4_fiber.cls yX4_fiber yX4_fiber ∈ zh_WS ∧ Cond.initialized yX4_fiber.cls ∈ zh_WS ∧ Cond.code yX4_fiber cX4_fiber 4 (some .int) ∈ zh_WS := ⟨zh_t3 16 (by decide +kernel) (by decide +kernel), zh_t3 17 (by decide +kernel) (by decide +kernel), in2_X4.2, zh_t3 18 rfl rfl⟩
theorem me_X4_count : Cond.instanceMethod yX4_count ∈ zh_WS ∧ Cond.selects yX4_count.cls yX4_count yX4_count ∈ zh_WS ∧ Cond.initialized yX4_count.cls ∈ zh_WS ∧ Cond.code yX4_count cX4_count 2 (some .int) ∈ zh_WS := ⟨zh_t3 20 (by decide +kernel) (by decide +kernel), zh_t3 21 (by decide +kernel) (by decide +kernel), in2_X4.2, zh_t3 22 rfl rfl⟩
theorem me_X4_page : Cond.instanceMethod yX4_page ∈ zh_WS ∧ Cond.selects yX4_page.cls yX4_page yX4_page ∈ zh_WS ∧ Cond.initialized yX4_page.cls ∈ zh_WS ∧ Cond.code yX4_page cX4_page 2 (some .int) ∈ zh_WS := ⟨zh_t3 48 (by decide +kernel) (by decide +kernel), zh_t3 49 (by decide +kernel) (by decide +kernel), in2_X4.2, zh_t3 50 rfl rfl⟩
theorem me_X4_lives : Cond.instanceMethod yX4_lives ∈ zh_WS ∧ Cond.selects yX4_lives.cls yX4_lives yX4_lives ∈ zh_WS ∧ Cond.initialized yX4_lives.cls ∈ zh_WS ∧ Cond.code yX4_lives cX4_lives 2 (some .boolean) ∈ zh_WS := ⟨zh_t1 199 (by decide +kernel) (by decide +kernel), zh_sel (n := 5) (by decide +kernel) (by decide +kernel), in2_X4.2, zh_t1 200 rfl rfl⟩
theorem me_X4_readyFiber : Cond.instanceMethod yX4_readyFiber ∈ zh_WS ∧ Cond.selects yX4_readyFiber.cls yX4_readyFiber yX4_readyFiber ∈ zh_WS ∧ Cond.initialized yX4_readyFiber.cls ∈ zh_WS ∧ Cond.code yX4_readyFiber cX4_readyFiber 2 (some (.object "FiberHeap$Fiber")) ∈ zh_WS := ⟨zh_t1 195 (by decide +kernel) (by decide +kernel), zh_sel (n := 5) (by decide +kernel) (by decide +kernel), in2_X4.2, zh_t1 196 rfl rfl⟩
theorem me_X4_livingFibers : Cond.instanceMethod yX4_livingFibers ∈ zh_WS ∧ Cond.selects yX4_livingFibers.cls yX4_livingFibers yX4_livingFibers ∈ zh_WS ∧ Cond.initialized yX4_livingFibers.cls ∈ zh_WS ∧ Cond.code yX4_livingFibers cX4_livingFibers 3 (some .int) ∈ zh_WS := ⟨zh_t1 227 (by decide +kernel) (by decide +kernel), zh_sel (n := 5) (by decide +kernel) (by decide +kernel), in2_X4.2, zh_t1 228 rfl rfl⟩
theorem me_X4_lowestGoneFiber : Cond.instanceMethod yX4_lowestGoneFiber ∈ zh_WS ∧ Cond.selects yX4_lowestGoneFiber.cls yX4_lowestGoneFiber yX4_lowestGoneFiber ∈ zh_WS ∧ Cond.initialized yX4_lowestGoneFiber.cls ∈ zh_WS ∧ Cond.code yX4_lowestGoneFiber cX4_lowestGoneFiber 2 (some .int) ∈ zh_WS := ⟨zh_t1 203 (by decide +kernel) (by decide +kernel), zh_sel (n := 5) (by decide +kernel) (by decide +kernel), in2_X4.2, zh_t1 204 rfl rfl⟩
theorem me_X4_copiedFrames : Cond.instanceMethod yX4_copiedFrames ∈ zh_WS ∧ Cond.selects yX4_copiedFrames.cls yX4_copiedFrames yX4_copiedFrames ∈ zh_WS ∧ Cond.initialized yX4_copiedFrames.cls ∈ zh_WS ∧ Cond.code yX4_copiedFrames cX4_copiedFrames 3 (some .int) ∈ zh_WS := ⟨zh_t3 45 (by decide +kernel) (by decide +kernel), zh_sel (n := 5) (by decide +kernel) (by decide +kernel), in2_X4.2, zh_t3 46 rfl rfl⟩
theorem me_X4_placeAtAnyCost : Cond.instanceMethod yX4_placeAtAnyCost ∈ zh_WS ∧ Cond.selects yX4_placeAtAnyCost.cls yX4_placeAtAnyCost yX4_placeAtAnyCost ∈ zh_WS ∧ Cond.initialized yX4_placeAtAnyCost.cls ∈ zh_WS ∧ Cond.code yX4_placeAtAnyCost cX4_placeAtAnyCost 4 (some .int) ∈ zh_WS := ⟨zh_t2 117 (by decide +kernel) (by decide +kernel), zh_sel (n := 5) (by decide +kernel) (by decide +kernel), in2_X4.2, zh_t2 118 rfl rfl⟩
theorem me_X4_intWordIndex : Cond.instanceMethod yX4_intWordIndex ∈ zh_WS ∧ Cond.selects yX4_intWordIndex.cls yX4_intWordIndex yX4_intWordIndex ∈ zh_WS ∧ Cond.initialized yX4_intWordIndex.cls ∈ zh_WS ∧ Cond.code yX4_intWordIndex cX4_intWordIndex 6 (some .int) ∈ zh_WS := ⟨zh_t2 176 (by decide +kernel) (by decide +kernel), zh_sel (n := 5) (by decide +kernel) (by decide +kernel), in2_X4.2, zh_t2 177 rfl rfl⟩
theorem me_X4_isChannel : Cond.static yX4_isChannel ∈ zh_WS ∧ Cond.initialized yX4_isChannel.cls ∈ zh_WS ∧ Cond.code yX4_isChannel cX4_isChannel 1 (some .boolean) ∈ zh_WS := ⟨zh_t2 191 (by decide +kernel) (by decide +kernel), in2_X4.2, zh_t2 192 rfl rfl⟩
theorem me_X4_newTicket : Cond.instanceMethod yX4_newTicket ∈ zh_WS ∧ Cond.selects yX4_newTicket.cls yX4_newTicket yX4_newTicket ∈ zh_WS ∧ Cond.initialized yX4_newTicket.cls ∈ zh_WS ∧ Cond.code yX4_newTicket cX4_newTicket 1 (some .int) ∈ zh_WS := ⟨zh_t2 216 (by decide +kernel) (by decide +kernel), zh_sel (n := 5) (by decide +kernel) (by decide +kernel), in2_X4.2, zh_t2 217 rfl rfl⟩
theorem me_X4_firstWaiting : Cond.instanceMethod yX4_firstWaiting ∈ zh_WS ∧ Cond.selects yX4_firstWaiting.cls yX4_firstWaiting yX4_firstWaiting ∈ zh_WS ∧ Cond.initialized yX4_firstWaiting.cls ∈ zh_WS ∧ Cond.code yX4_firstWaiting cX4_firstWaiting 6 (some (.object "FiberHeap$Fiber")) ∈ zh_WS := ⟨zh_t2 195 (by decide +kernel) (by decide +kernel), zh_sel (n := 5) (by decide +kernel) (by decide +kernel), in2_X4.2, zh_t2 196 rfl rfl⟩
theorem me_X4_canGive : Cond.instanceMethod yX4_canGive ∈ zh_WS ∧ Cond.selects yX4_canGive.cls yX4_canGive yX4_canGive ∈ zh_WS ∧ Cond.initialized yX4_canGive.cls ∈ zh_WS ∧ Cond.code yX4_canGive cX4_canGive 2 (some .boolean) ∈ zh_WS := ⟨zh_t2 228 (by decide +kernel) (by decide +kernel), zh_sel (n := 5) (by decide +kernel) (by decide +kernel), in2_X4.2, zh_t2 229 rfl rfl⟩
theorem me_X4_pointerOutOf : Cond.instanceMethod yX4_pointerOutOf ∈ zh_WS ∧ Cond.selects yX4_pointerOutOf.cls yX4_pointerOutOf yX4_pointerOutOf ∈ zh_WS ∧ Cond.initialized yX4_pointerOutOf.cls ∈ zh_WS ∧ Cond.code yX4_pointerOutOf cX4_pointerOutOf 6 (some .int) ∈ zh_WS := ⟨zh_t2 232 (by decide +kernel) (by decide +kernel), zh_sel (n := 5) (by decide +kernel) (by decide +kernel), in2_X4.2, zh_t2 233 rfl rfl⟩
theorem me_X5_init : Cond.instanceMethod yX5_init ∈ zh_WS ∧ Cond.initialized yX5_init.cls ∈ zh_WS ∧ Cond.code yX5_init cX5_init 1 none ∈ zh_WS := ⟨zh_t3 54 (by decide +kernel) (by decide +kernel), in2_X5.2, zh_t3 55 rfl rfl⟩
theorem me_X5_begin : Cond.instanceMethod yX5_begin ∈ zh_WS ∧ Cond.selects yX5_begin.cls yX5_begin yX5_begin ∈ zh_WS ∧ Cond.initialized yX5_begin.cls ∈ zh_WS ∧ Cond.code yX5_begin cX5_begin 4 none ∈ zh_WS := ⟨zh_t3 59 (by decide +kernel) (by decide +kernel), zh_sel (n := 31) (by decide +kernel) (by decide +kernel), in2_X5.2, zh_t3 60 rfl rfl⟩
theorem me_X5_lives : Cond.instanceMethod yX5_lives ∈ zh_WS ∧ Cond.selects yX5_lives.cls yX5_lives yX5_lives ∈ zh_WS ∧ Cond.initialized yX5_lives.cls ∈ zh_WS ∧ Cond.code yX5_lives cX5_lives 2 (some .boolean) ∈ zh_WS := ⟨zh_t3 169 (by decide +kernel) (by decide +kernel), zh_sel (n := 31) (by decide +kernel) (by decide +kernel), in2_X5.2, zh_t3 170 rfl rfl⟩
theorem me_X5_ready : Cond.instanceMethod yX5_ready ∈ zh_WS ∧ Cond.selects yX5_ready.cls yX5_ready yX5_ready ∈ zh_WS ∧ Cond.initialized yX5_ready.cls ∈ zh_WS ∧ Cond.code yX5_ready cX5_ready 2 (some .boolean) ∈ zh_WS := ⟨zh_t3 165 (by decide +kernel) (by decide +kernel), zh_sel (n := 31) (by decide +kernel) (by decide +kernel), in2_X5.2, zh_t3 166 rfl rfl⟩
theorem me_X5_place : Cond.instanceMethod yX5_place ∈ zh_WS ∧ Cond.selects yX5_place.cls yX5_place yX5_place ∈ zh_WS ∧ Cond.initialized yX5_place.cls ∈ zh_WS ∧ Cond.code yX5_place cX5_place 5 (some .int) ∈ zh_WS := ⟨zh_t3 173 (by decide +kernel) (by decide +kernel), zh_sel (n := 31) (by decide +kernel) (by decide +kernel), in2_X5.2, zh_t3 174 rfl rfl⟩
theorem me_X5_cell : Cond.instanceMethod yX5_cell ∈ zh_WS ∧ Cond.selects yX5_cell.cls yX5_cell yX5_cell ∈ zh_WS ∧ Cond.initialized yX5_cell.cls ∈ zh_WS ∧ Cond.code yX5_cell cX5_cell 4 (some .boolean) ∈ zh_WS := ⟨zh_t3 161 (by decide +kernel) (by decide +kernel), zh_sel (n := 31) (by decide +kernel) (by decide +kernel), in2_X5.2, zh_t3 162 rfl rfl⟩
theorem me_X5_value : Cond.instanceMethod yX5_value ∈ zh_WS ∧ Cond.selects yX5_value.cls yX5_value yX5_value ∈ zh_WS ∧ Cond.initialized yX5_value.cls ∈ zh_WS ∧ Cond.code yX5_value cX5_value 4 (some .int) ∈ zh_WS := ⟨zh_t3 177 (by decide +kernel) (by decide +kernel), zh_sel (n := 31) (by decide +kernel) (by decide +kernel), in2_X5.2, zh_t3 178 rfl rfl⟩
theorem me_X5_object : Cond.instanceMethod yX5_object ∈ zh_WS ∧ Cond.selects yX5_object.cls yX5_object yX5_object ∈ zh_WS ∧ Cond.initialized yX5_object.cls ∈ zh_WS ∧ Cond.code yX5_object cX5_object 3 (some .int) ∈ zh_WS := ⟨zh_t4 18 (by decide +kernel) (by decide +kernel), zh_sel (n := 31) (by decide +kernel) (by decide +kernel), in2_X5.2, zh_t4 19 rfl rfl⟩
theorem me_X5_note : Cond.instanceMethod yX5_note ∈ zh_WS ∧ Cond.selects yX5_note.cls yX5_note yX5_note ∈ zh_WS ∧ Cond.initialized yX5_note.cls ∈ zh_WS ∧ Cond.code yX5_note cX5_note 2 none ∈ zh_WS := ⟨zh_t3 225 (by decide +kernel) (by decide +kernel), zh_sel (n := 31) (by decide +kernel) (by decide +kernel), in2_X5.2, zh_t3 226 rfl rfl⟩
theorem me_X5_spawn : Cond.instanceMethod yX5_spawn ∈ zh_WS ∧ Cond.selects yX5_spawn.cls yX5_spawn yX5_spawn ∈ zh_WS ∧ Cond.initialized yX5_spawn.cls ∈ zh_WS ∧ Cond.code yX5_spawn cX5_spawn 5 (some .int) ∈ zh_WS := ⟨zh_t3 156 (by decide +kernel) (by decide +kernel), zh_t3 157 (by decide +kernel) (by decide +kernel), in2_X5.2, zh_t3 158 rfl rfl⟩
theorem me_X5_end : Cond.instanceMethod yX5_end ∈ zh_WS ∧ Cond.selects yX5_end.cls yX5_end yX5_end ∈ zh_WS ∧ Cond.initialized yX5_end.cls ∈ zh_WS ∧ Cond.code yX5_end cX5_end 4 (some .boolean) ∈ zh_WS := ⟨zh_t3 180 (by decide +kernel) (by decide +kernel), zh_t3 181 (by decide +kernel) (by decide +kernel), in2_X5.2, zh_t3 182 rfl rfl⟩
theorem me_X5_wake : Cond.instanceMethod yX5_wake ∈ zh_WS ∧ Cond.selects yX5_wake.cls yX5_wake yX5_wake ∈ zh_WS ∧ Cond.initialized yX5_wake.cls ∈ zh_WS ∧ Cond.code yX5_wake cX5_wake 2 (some .boolean) ∈ zh_WS := ⟨zh_t3 184 (by decide +kernel) (by decide +kernel), zh_t3 185 (by decide +kernel) (by decide +kernel), in2_X5.2, zh_t3 186 rfl rfl⟩
theorem me_X5_call : Cond.instanceMethod yX5_call ∈ zh_WS ∧ Cond.selects yX5_call.cls yX5_call yX5_call ∈ zh_WS ∧ Cond.initialized yX5_call.cls ∈ zh_WS ∧ Cond.code yX5_call cX5_call 4 (some .boolean) ∈ zh_WS := ⟨zh_t3 188 (by decide +kernel) (by decide +kernel), zh_t3 189 (by decide +kernel) (by decide +kernel), in2_X5.2, zh_t3 190 rfl rfl⟩
theorem me_X5_leave : Cond.instanceMethod yX5_leave ∈ zh_WS ∧ Cond.selects yX5_leave.cls yX5_leave yX5_leave ∈ zh_WS ∧ Cond.initialized yX5_leave.cls ∈ zh_WS ∧ Cond.code yX5_leave cX5_leave 3 (some .boolean) ∈ zh_WS := ⟨zh_t3 192 (by decide +kernel) (by decide +kernel), zh_t3 193 (by decide +kernel) (by decide +kernel), in2_X5.2, zh_t3 194 rfl rfl⟩
theorem me_X5_aim : Cond.instanceMethod yX5_aim ∈ zh_WS ∧ Cond.selects yX5_aim.cls yX5_aim yX5_aim ∈ zh_WS ∧ Cond.initialized yX5_aim.cls ∈ zh_WS ∧ Cond.code yX5_aim cX5_aim 3 (some .boolean) ∈ zh_WS := ⟨zh_t3 196 (by decide +kernel) (by decide +kernel), zh_t3 197 (by decide +kernel) (by decide +kernel), in2_X5.2, zh_t3 198 rfl rfl⟩
theorem me_X5_copy : Cond.instanceMethod yX5_copy ∈ zh_WS ∧ Cond.selects yX5_copy.cls yX5_copy yX5_copy ∈ zh_WS ∧ Cond.initialized yX5_copy.cls ∈ zh_WS ∧ Cond.code yX5_copy cX5_copy 4 (some .boolean) ∈ zh_WS := ⟨zh_t3 200 (by decide +kernel) (by decide +kernel), zh_t3 201 (by decide +kernel) (by decide +kernel), in2_X5.2, zh_t3 202 rfl rfl⟩
theorem me_X5_slotOf : Cond.instanceMethod yX5_slotOf ∈ zh_WS ∧ Cond.selects yX5_slotOf.cls yX5_slotOf yX5_slotOf ∈ zh_WS ∧ Cond.initialized yX5_slotOf.cls ∈ zh_WS ∧ Cond.code yX5_slotOf cX5_slotOf 2 (some .int) ∈ zh_WS := ⟨zh_t3 209 (by decide +kernel) (by decide +kernel), zh_sel (n := 31) (by decide +kernel) (by decide +kernel), in2_X5.2, zh_t3 210 rfl rfl⟩
theorem me_X5_sweepSpan : Cond.instanceMethod yX5_sweepSpan ∈ zh_WS ∧ Cond.selects yX5_sweepSpan.cls yX5_sweepSpan yX5_sweepSpan ∈ zh_WS ∧ Cond.initialized yX5_sweepSpan.cls ∈ zh_WS ∧ Cond.code yX5_sweepSpan cX5_sweepSpan 5 none ∈ zh_WS := ⟨zh_t3 221 (by decide +kernel) (by decide +kernel), zh_sel (n := 31) (by decide +kernel) (by decide +kernel), in2_X5.2, zh_t3 222 rfl rfl⟩
theorem me_X5_sweepUpTo : Cond.instanceMethod yX5_sweepUpTo ∈ zh_WS ∧ Cond.selects yX5_sweepUpTo.cls yX5_sweepUpTo yX5_sweepUpTo ∈ zh_WS ∧ Cond.initialized yX5_sweepUpTo.cls ∈ zh_WS ∧ Cond.code yX5_sweepUpTo cX5_sweepUpTo 4 (some .int) ∈ zh_WS := ⟨zh_t3 217 (by decide +kernel) (by decide +kernel), zh_sel (n := 31) (by decide +kernel) (by decide +kernel), in2_X5.2, zh_t3 218 rfl rfl⟩
theorem me_X5_runOf : Cond.instanceMethod yX5_runOf ∈ zh_WS ∧ Cond.selects yX5_runOf.cls yX5_runOf yX5_runOf ∈ zh_WS ∧ Cond.initialized yX5_runOf.cls ∈ zh_WS ∧ Cond.code yX5_runOf cX5_runOf 7 (some .int) ∈ zh_WS := ⟨zh_t4 9 (by decide +kernel) (by decide +kernel), zh_sel (n := 31) (by decide +kernel) (by decide +kernel), in2_X5.2, zh_t4 10 rfl rfl⟩
theorem me_X5_seat : Cond.instanceMethod yX5_seat ∈ zh_WS ∧ Cond.selects yX5_seat.cls yX5_seat yX5_seat ∈ zh_WS ∧ Cond.initialized yX5_seat.cls ∈ zh_WS ∧ Cond.code yX5_seat cX5_seat 5 (some .int) ∈ zh_WS := ⟨zh_t4 5 (by decide +kernel) (by decide +kernel), zh_sel (n := 31) (by decide +kernel) (by decide +kernel), in2_X5.2, zh_t4 6 rfl rfl⟩
theorem me_X5_make : Cond.instanceMethod yX5_make ∈ zh_WS ∧ Cond.selects yX5_make.cls yX5_make yX5_make ∈ zh_WS ∧ Cond.initialized yX5_make.cls ∈ zh_WS ∧ Cond.code yX5_make cX5_make 8 (some .int) ∈ zh_WS := ⟨zh_t3 204 (by decide +kernel) (by decide +kernel), zh_t3 205 (by decide +kernel) (by decide +kernel), in2_X5.2, zh_t3 206 rfl rfl⟩
theorem me_X5_set : Cond.instanceMethod yX5_set ∈ zh_WS ∧ Cond.selects yX5_set.cls yX5_set yX5_set ∈ zh_WS ∧ Cond.initialized yX5_set.cls ∈ zh_WS ∧ Cond.code yX5_set cX5_set 7 (some .boolean) ∈ zh_WS := ⟨zh_t4 13 (by decide +kernel) (by decide +kernel), zh_t4 14 (by decide +kernel) (by decide +kernel), in2_X5.2, zh_t4 15 rfl rfl⟩
theorem me_X5_get : Cond.instanceMethod yX5_get ∈ zh_WS ∧ Cond.selects yX5_get.cls yX5_get yX5_get ∈ zh_WS ∧ Cond.initialized yX5_get.cls ∈ zh_WS ∧ Cond.code yX5_get cX5_get 6 (some .boolean) ∈ zh_WS := ⟨zh_t4 21 (by decide +kernel) (by decide +kernel), zh_t4 22 (by decide +kernel) (by decide +kernel), in2_X5.2, zh_t4 23 rfl rfl⟩
theorem me_X5_store : Cond.instanceMethod yX5_store ∈ zh_WS ∧ Cond.selects yX5_store.cls yX5_store yX5_store ∈ zh_WS ∧ Cond.initialized yX5_store.cls ∈ zh_WS ∧ Cond.code yX5_store cX5_store 6 (some .boolean) ∈ zh_WS := ⟨zh_t4 25 (by decide +kernel) (by decide +kernel), zh_t4 26 (by decide +kernel) (by decide +kernel), in2_X5.2, zh_t4 27 rfl rfl⟩
theorem me_X5_load : Cond.instanceMethod yX5_load ∈ zh_WS ∧ Cond.selects yX5_load.cls yX5_load yX5_load ∈ zh_WS ∧ Cond.initialized yX5_load.cls ∈ zh_WS ∧ Cond.code yX5_load cX5_load 5 (some .int) ∈ zh_WS := ⟨zh_t4 29 (by decide +kernel) (by decide +kernel), zh_t4 30 (by decide +kernel) (by decide +kernel), in2_X5.2, zh_t4 31 rfl rfl⟩
theorem me_X5_firstAt : Cond.instanceMethod yX5_firstAt ∈ zh_WS ∧ Cond.selects yX5_firstAt.cls yX5_firstAt yX5_firstAt ∈ zh_WS ∧ Cond.initialized yX5_firstAt.cls ∈ zh_WS ∧ Cond.code yX5_firstAt cX5_firstAt 6 (some .int) ∈ zh_WS := ⟨zh_t4 38 (by decide +kernel) (by decide +kernel), zh_sel (n := 31) (by decide +kernel) (by decide +kernel), in2_X5.2, zh_t4 39 rfl rfl⟩
theorem me_X5_waitFor : Cond.instanceMethod yX5_waitFor ∈ zh_WS ∧ Cond.selects yX5_waitFor.cls yX5_waitFor yX5_waitFor ∈ zh_WS ∧ Cond.initialized yX5_waitFor.cls ∈ zh_WS ∧ Cond.code yX5_waitFor cX5_waitFor 6 none ∈ zh_WS := ⟨zh_t4 50 (by decide +kernel) (by decide +kernel), zh_sel (n := 31) (by decide +kernel) (by decide +kernel), in2_X5.2, zh_t4 51 rfl rfl⟩
theorem me_X5_hand : Cond.instanceMethod yX5_hand ∈ zh_WS ∧ Cond.selects yX5_hand.cls yX5_hand yX5_hand ∈ zh_WS ∧ Cond.initialized yX5_hand.cls ∈ zh_WS ∧ Cond.code yX5_hand cX5_hand 5 none ∈ zh_WS := ⟨zh_t4 42 (by decide +kernel) (by decide +kernel), zh_sel (n := 31) (by decide +kernel) (by decide +kernel), in2_X5.2, zh_t4 43 rfl rfl⟩
theorem me_X5_send : Cond.instanceMethod yX5_send ∈ zh_WS ∧ Cond.selects yX5_send.cls yX5_send yX5_send ∈ zh_WS ∧ Cond.initialized yX5_send.cls ∈ zh_WS ∧ Cond.code yX5_send cX5_send 6 (some .int) ∈ zh_WS := ⟨zh_t4 33 (by decide +kernel) (by decide +kernel), zh_t4 34 (by decide +kernel) (by decide +kernel), in2_X5.2, zh_t4 35 rfl rfl⟩
theorem me_X5_enter : Cond.instanceMethod yX5_enter ∈ zh_WS ∧ Cond.selects yX5_enter.cls yX5_enter yX5_enter ∈ zh_WS ∧ Cond.initialized yX5_enter.cls ∈ zh_WS ∧ Cond.code yX5_enter cX5_enter 3 none ∈ zh_WS := ⟨zh_t4 46 (by decide +kernel) (by decide +kernel), zh_sel (n := 31) (by decide +kernel) (by decide +kernel), in2_X5.2, zh_t4 47 rfl rfl⟩
theorem me_X5_gives : Cond.instanceMethod yX5_gives ∈ zh_WS ∧ Cond.selects yX5_gives.cls yX5_gives yX5_gives ∈ zh_WS ∧ Cond.initialized yX5_gives.cls ∈ zh_WS ∧ Cond.code yX5_gives cX5_gives 8 (some .boolean) ∈ zh_WS := ⟨zh_t4 58 (by decide +kernel) (by decide +kernel), zh_sel (n := 31) (by decide +kernel) (by decide +kernel), in2_X5.2, zh_t4 59 rfl rfl⟩
theorem me_X5_take : Cond.instanceMethod yX5_take ∈ zh_WS ∧ Cond.selects yX5_take.cls yX5_take yX5_take ∈ zh_WS ∧ Cond.initialized yX5_take.cls ∈ zh_WS ∧ Cond.code yX5_take cX5_take 5 (some .int) ∈ zh_WS := ⟨zh_t4 53 (by decide +kernel) (by decide +kernel), zh_t4 54 (by decide +kernel) (by decide +kernel), in2_X5.2, zh_t4 55 rfl rfl⟩
theorem me_X5_cycle : Cond.instanceMethod yX5_cycle ∈ zh_WS ∧ Cond.selects yX5_cycle.cls yX5_cycle yX5_cycle ∈ zh_WS ∧ Cond.initialized yX5_cycle.cls ∈ zh_WS ∧ Cond.code yX5_cycle cX5_cycle 2 none ∈ zh_WS := ⟨zh_t3 213 (by decide +kernel) (by decide +kernel), zh_sel (n := 31) (by decide +kernel) (by decide +kernel), in2_X5.2, zh_t3 214 rfl rfl⟩
theorem me_X5_scan : Cond.instanceMethod yX5_scan ∈ zh_WS ∧ Cond.selects yX5_scan.cls yX5_scan yX5_scan ∈ zh_WS ∧ Cond.initialized yX5_scan.cls ∈ zh_WS ∧ Cond.code yX5_scan cX5_scan 3 none ∈ zh_WS := ⟨zh_t3 233 (by decide +kernel) (by decide +kernel), zh_sel (n := 31) (by decide +kernel) (by decide +kernel), in2_X5.2, zh_t3 234 rfl rfl⟩
theorem me_X5_countDue : Cond.instanceMethod yX5_countDue ∈ zh_WS ∧ Cond.selects yX5_countDue.cls yX5_countDue yX5_countDue ∈ zh_WS ∧ Cond.initialized yX5_countDue.cls ∈ zh_WS ∧ Cond.code yX5_countDue cX5_countDue 7 (some .int) ∈ zh_WS := ⟨zh_t3 237 (by decide +kernel) (by decide +kernel), zh_sel (n := 31) (by decide +kernel) (by decide +kernel), in2_X5.2, zh_t3 238 rfl rfl⟩
theorem me_X5_work : Cond.instanceMethod yX5_work ∈ zh_WS ∧ Cond.selects yX5_work.cls yX5_work yX5_work ∈ zh_WS ∧ Cond.initialized yX5_work.cls ∈ zh_WS ∧ Cond.code yX5_work cX5_work 8 (some .int) ∈ zh_WS := ⟨zh_t3 229 (by decide +kernel) (by decide +kernel), zh_sel (n := 31) (by decide +kernel) (by decide +kernel), in2_X5.2, zh_t3 230 rfl rfl⟩
theorem me_X5_finish : Cond.instanceMethod yX5_finish ∈ zh_WS ∧ Cond.selects yX5_finish.cls yX5_finish yX5_finish ∈ zh_WS ∧ Cond.initialized yX5_finish.cls ∈ zh_WS ∧ Cond.code yX5_finish cX5_finish 3 none ∈ zh_WS := ⟨zh_t4 1 (by decide +kernel) (by decide +kernel), zh_sel (n := 31) (by decide +kernel) (by decide +kernel), in2_X5.2, zh_t4 2 rfl rfl⟩
theorem me_X5_mark : Cond.instanceMethod yX5_mark ∈ zh_WS ∧ Cond.selects yX5_mark.cls yX5_mark yX5_mark ∈ zh_WS ∧ Cond.initialized yX5_mark.cls ∈ zh_WS ∧ Cond.code yX5_mark cX5_mark 2 (some .int) ∈ zh_WS := ⟨zh_t4 61 (by decide +kernel) (by decide +kernel), zh_t4 62 (by decide +kernel) (by decide +kernel), in2_X5.2, zh_t4 63 rfl rfl⟩
theorem me_X5_sweep : Cond.instanceMethod yX5_sweep ∈ zh_WS ∧ Cond.selects yX5_sweep.cls yX5_sweep yX5_sweep ∈ zh_WS ∧ Cond.initialized yX5_sweep.cls ∈ zh_WS ∧ Cond.code yX5_sweep cX5_sweep 2 (some .int) ∈ zh_WS := ⟨zh_t4 65 (by decide +kernel) (by decide +kernel), zh_t4 66 (by decide +kernel) (by decide +kernel), in2_X5.2, zh_t4 67 rfl rfl⟩
theorem me_X5_collect : Cond.instanceMethod yX5_collect ∈ zh_WS ∧ Cond.selects yX5_collect.cls yX5_collect yX5_collect ∈ zh_WS ∧ Cond.initialized yX5_collect.cls ∈ zh_WS ∧ Cond.code yX5_collect cX5_collect 1 (some .boolean) ∈ zh_WS := ⟨zh_t4 69 (by decide +kernel) (by decide +kernel), zh_t4 70 (by decide +kernel) (by decide +kernel), in2_X5.2, zh_t4 71 rfl rfl⟩
theorem me_X5_fiber : Cond.instanceMethod yX5_fiber ∈ zh_WS ∧ Cond.selects yX5_fiber.cls yX5_fiber yX5_fiber ∈ zh_WS ∧ Cond.initialized yX5_fiber.cls ∈ zh_WS ∧ Cond.code yX5_fiber cX5_fiber 4 (some .int) ∈ zh_WS := ⟨zh_t4 73 (by decide +kernel) (by decide +kernel), zh_t4 74 (by decide +kernel) (by decide +kernel), in2_X5.2, zh_t4 75 rfl rfl⟩
theorem me_X5_tally : Cond.instanceMethod yX5_tally ∈ zh_WS ∧ Cond.selects yX5_tally.cls yX5_tally yX5_tally ∈ zh_WS ∧ Cond.initialized yX5_tally.cls ∈ zh_WS ∧ Cond.code yX5_tally cX5_tally 4 (some .int) ∈ zh_WS := ⟨zh_t4 82 (by decide +kernel) (by decide +kernel), zh_sel (n := 31) (by decide +kernel) (by decide +kernel), in2_X5.2, zh_t4 83 rfl rfl⟩
theorem me_X5_count : Cond.instanceMethod yX5_count ∈ zh_WS ∧ Cond.selects yX5_count.cls yX5_count yX5_count ∈ zh_WS ∧ Cond.initialized yX5_count.cls ∈ zh_WS ∧ Cond.code yX5_count cX5_count 2 (some .int) ∈ zh_WS := ⟨zh_t4 77 (by decide +kernel) (by decide +kernel), zh_t4 78 (by decide +kernel) (by decide +kernel), in2_X5.2, zh_t4 79 rfl rfl⟩
theorem me_X5_page : Cond.instanceMethod yX5_page ∈ zh_WS ∧ Cond.selects yX5_page.cls yX5_page yX5_page ∈ zh_WS ∧ Cond.initialized yX5_page.cls ∈ zh_WS ∧ Cond.code yX5_page cX5_page 2 (some .int) ∈ zh_WS := ⟨zh_t4 85 (by decide +kernel) (by decide +kernel), zh_t4 86 (by decide +kernel) (by decide +kernel), in2_X5.2, zh_t4 87 rfl rfl⟩
theorem me_fill : Cond.static yJ_fill ∈ zh_WS ∧ Cond.initialized yJ_fill.cls ∈ zh_WS ∧ Cond.code yJ_fill cJ_fill 4 none ∈ zh_WS := ⟨zh_t2 64 (by decide +kernel) (by decide +kernel), zh_t1 9 (by decide +kernel) (by decide +kernel), zh_t2 65 rfl rfl⟩
end
