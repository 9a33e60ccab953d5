abbrev vwCl : List vw_C := [(RX0, TX0, 2), (RX1, TX1, 10), (RX2, TX2, 12), (RX3, TX3, 7), (RX4, TX4, 5), (RX5, TX5, 31)]
def zh_WS : List Cond := lw_tbl.filter goodWord
theorem zh_good : ∀ w ∈ zh_WS, (w.onTables && w.keeps) = true ∨ ∃ ty, w = .arrayClass ty := fun w h => good_of_word (List.mem_filter.mp h).2
theorem zh_t1 {w : Cond} (i : Nat) (h : tables_1_1[i]? = some w) (hg : goodWord w = true) : w ∈ zh_WS := List.mem_filter.mpr ⟨List.mem_append_right _ (List.mem_append_left _ (List.mem_of_getElem? h)), hg⟩
theorem zh_t2 {w : Cond} (i : Nat) (h : tables_1_2[i]? = some w) (hg : goodWord w = true) : w ∈ zh_WS := List.mem_filter.mpr ⟨List.mem_append_right _ (List.mem_append_right _ (List.mem_append_left _ (List.mem_of_getElem? h))), hg⟩
theorem zh_t3 {w : Cond} (i : Nat) (h : tables_1_3[i]? = some w) (hg : goodWord w = true) : w ∈ zh_WS := List.mem_filter.mpr ⟨List.mem_append_right _ (List.mem_append_right _ (List.mem_append_right _ (List.mem_append_left _ (List.mem_of_getElem? h)))), hg⟩
theorem zh_t4 {w : Cond} (i : Nat) (h : tables_1_4[i]? = some w) (hg : goodWord w = true) : w ∈ zh_WS := List.mem_filter.mpr ⟨List.mem_append_right _ (List.mem_append_right _ (List.mem_append_right _ (List.mem_append_right _ (List.mem_of_getElem? h)))), hg⟩
theorem zh_sel {y : MethodName} {n : Nat} (h : (y, n) ∈ lw_privs) (hg : goodWord (.selects y.cls y y) = true) : Cond.selects y.cls y y ∈ zh_WS := List.mem_filter.mpr ⟨List.mem_append_left _ (List.mem_map.mpr ⟨(y, n), h, rfl⟩), hg⟩
def zh_isR (ci k : Nat) : Bool := match ci with
  | 0 => [0].elem k
  | 1 => [0, 1, 2, 3].elem k
  | 2 => [0, 1].elem k
  | 3 => [0, 1, 2, 3, 4, 5].elem k
  | 4 => [0, 1, 2, 3].elem k
  | 5 => [0, 1, 2, 3, 4, 5, 6, 7, 8, 9, 10, 11, 12, 13, 14, 15, 16, 17, 18, 19, 20, 21].elem k
  | _ => false
def zh_RA (k : Nat) : Bool := k == 102 || k == 103
def zh_tys (cA : Nat → ClassId) : List (ClassId × FieldType) := [(cA 0, .int), (cA 1, .boolean), (cA 2, .object "FiberHeap$Fiber"), (cA 3, .object "FiberHeap$Channel")]
theorem in_X0 : ∀ w ∈ u_ws RX0 TX0 2, w ∈ zh_WS := by decide +kernel
theorem in2_X0 : Cond.instantiable RX0 2 ∈ zh_WS ∧ Cond.initialized RX0 ∈ zh_WS := ⟨zh_t1 112 (by decide +kernel) (by decide +kernel), zh_t1 4 (by decide +kernel) (by decide +kernel)⟩
theorem df_X0 : ∀ j, j < 2 → defaultValue (tyX0 j) = if zh_isR 0 j = true then .null else .int 0 := by
  intro j hj
  rcases (show j = 0 ∨ j = 1 by omega) with rfl | rfl <;> rfl
theorem in_X1 : ∀ w ∈ u_ws RX1 TX1 10, w ∈ zh_WS := by decide +kernel
theorem in2_X1 : Cond.instantiable RX1 10 ∈ zh_WS ∧ Cond.initialized RX1 ∈ zh_WS := ⟨zh_t1 128 (by decide +kernel) (by decide +kernel), zh_t1 5 (by decide +kernel) (by decide +kernel)⟩
theorem df_X1 : ∀ j, j < 10 → defaultValue (tyX1 j) = if zh_isR 1 j = true then .null else .int 0 := by
  intro j hj
  rcases (show j = 0 ∨ j = 1 ∨ j = 2 ∨ j = 3 ∨ j = 4 ∨ j = 5 ∨ j = 6 ∨ j = 7 ∨ j = 8 ∨ j = 9 by omega) with rfl | rfl | rfl | rfl | rfl | rfl | rfl | rfl | rfl | rfl <;> rfl
theorem in_X2 : ∀ w ∈ u_ws RX2 TX2 12, w ∈ zh_WS := by decide +kernel
theorem in2_X2 : Cond.instantiable RX2 12 ∈ zh_WS ∧ Cond.initialized RX2 ∈ zh_WS := ⟨zh_t1 56 (by decide +kernel) (by decide +kernel), zh_t1 3 (by decide +kernel) (by decide +kernel)⟩
theorem df_X2 : ∀ j, j < 12 → defaultValue (tyX2 j) = if zh_isR 2 j = true then .null else .int 0 := by
  intro j hj
  rcases (show j = 0 ∨ j = 1 ∨ j = 2 ∨ j = 3 ∨ j = 4 ∨ j = 5 ∨ j = 6 ∨ j = 7 ∨ j = 8 ∨ j = 9 ∨ j = 10 ∨ j = 11 by omega) with rfl | rfl | rfl | rfl | rfl | rfl | rfl | rfl | rfl | rfl | rfl | rfl <;> rfl
theorem in_X3 : ∀ w ∈ u_ws RX3 TX3 7, w ∈ zh_WS := by decide +kernel
theorem in2_X3 : Cond.instantiable RX3 7 ∈ zh_WS ∧ Cond.initialized RX3 ∈ zh_WS := ⟨zh_t1 19 (by decide +kernel) (by decide +kernel), zh_t1 2 (by decide +kernel) (by decide +kernel)⟩
theorem df_X3 : ∀ j, j < 7 → defaultValue (tyX3 j) = if zh_isR 3 j = true then .null else .int 0 := by
  intro j hj
  rcases (show j = 0 ∨ j = 1 ∨ j = 2 ∨ j = 3 ∨ j = 4 ∨ j = 5 ∨ j = 6 by omega) with rfl | rfl | rfl | rfl | rfl | rfl | rfl <;> rfl
theorem in_X4 : ∀ w ∈ u_ws RX4 TX4 5, w ∈ zh_WS := by decide +kernel
theorem in2_X4 : Cond.instantiable RX4 5 ∈ zh_WS ∧ Cond.initialized RX4 ∈ zh_WS := ⟨zh_t1 11 (by decide +kernel) (by decide +kernel), zh_t1 1 (by decide +kernel) (by decide +kernel)⟩
theorem df_X4 : ∀ j, j < 5 → defaultValue (tyX4 j) = if zh_isR 4 j = true then .null else .int 0 := by
  intro j hj
  rcases (show j = 0 ∨ j = 1 ∨ j = 2 ∨ j = 3 ∨ j = 4 by omega) with rfl | rfl | rfl | rfl | rfl <;> rfl
theorem in_X5 : ∀ w ∈ u_ws RX5 TX5 31, w ∈ zh_WS := by decide +kernel
theorem in2_X5 : Cond.instantiable RX5 31 ∈ zh_WS ∧ Cond.initialized RX5 ∈ zh_WS := ⟨zh_t3 52 (by decide +kernel) (by decide +kernel), zh_t1 6 (by decide +kernel) (by decide +kernel)⟩
theorem df_X5 : ∀ j, j < 31 → defaultValue (tyX5 j) = if zh_isR 5 j = true then .null else .int 0 := by
  intro j hj
  rcases (show j = 0 ∨ j = 1 ∨ j = 2 ∨ j = 3 ∨ j = 4 ∨ j = 5 ∨ j = 6 ∨ j = 7 ∨ j = 8 ∨ j = 9 ∨ j = 10 ∨ j = 11 ∨ j = 12 ∨ j = 13 ∨ j = 14 ∨ j = 15 ∨ j = 16 ∨ j = 17 ∨ j = 18 ∨ j = 19 ∨ j = 20 ∨ j = 21 ∨ j = 22 ∨ j = 23 ∨ j = 24 ∨ j = 25 ∨ j = 26 ∨ j = 27 ∨ j = 28 ∨ j = 29 ∨ j = 30 by omega) with rfl | rfl | rfl | rfl | rfl | rfl | rfl | rfl | rfl | rfl | rfl | rfl | rfl | rfl | rfl | rfl | rfl | rfl | rfl | rfl | rfl | rfl | rfl | rfl | rfl | rfl | rfl | rfl | rfl | rfl | rfl <;> rfl
theorem me_arr_int : Cond.arrayClass .int ∈ zh_WS := zh_t1 52 (by decide +kernel) (by decide +kernel)
theorem me_arr_boolean : Cond.arrayClass .boolean ∈ zh_WS := zh_t1 53 (by decide +kernel) (by decide +kernel)
theorem me_obj : Cond.instanceMethod Lib.objectInit ∈ zh_WS ∧ Cond.code Lib.objectInit ⟨#[0xb1]⟩ 1 none ∈ zh_WS := ⟨by decide +kernel, zh_t1 17 rfl rfl⟩
theorem me_max : Cond.static Lib.Math.max.name ∈ zh_WS ∧ Cond.initialized "java/lang/Math" ∈ zh_WS ∧ Cond.code Lib.Math.max.name Lib.Math.max.code 2 (some .int) ∈ zh_WS := ⟨by decide +kernel, zh_t1 8 (by decide +kernel) (by decide +kernel), zh_t2 58 rfl rfl⟩
theorem me_min : Cond.static Lib.Math.min.name ∈ zh_WS ∧ Cond.initialized "java/lang/Math" ∈ zh_WS ∧ Cond.code Lib.Math.min.name Lib.Math.min.code 2 (some .int) ∈ zh_WS := ⟨by decide +kernel, zh_t1 8 (by decide +kernel) (by decide +kernel), zh_t2 76 rfl rfl⟩
theorem me_copy : Cond.native arraycopyName ∈ zh_WS ∧ Cond.static arraycopyName ∈ zh_WS ∧ Cond.initialized "java/lang/System" ∈ zh_WS := ⟨by decide +kernel, by decide +kernel, by decide +kernel⟩
theorem mc_X0_3 : Cond.methodLink RX0 3 Lib.objectInit ∈ zh_WS := zh_t1 116 (by decide +kernel) (by decide +kernel)
theorem mf_X0_9 : Cond.fieldLink RX0 9 "FiberHeap$Channel" "pointers" "[I" ∈ zh_WS := zh_t1 117 (by decide +kernel) (by decide +kernel)
theorem mf_X0_15 : Cond.fieldLink RX0 15 "FiberHeap$Channel" "held" "I" ∈ zh_WS := zh_t1 119 (by decide +kernel) (by decide +kernel)
theorem mc_X0_19 : Cond.methodLink RX0 19 yX0_hasSpace ∈ zh_WS := zh_t2 213 (by decide +kernel) (by decide +kernel)
theorem mc_X1_3 : Cond.methodLink RX1 3 Lib.objectInit ∈ zh_WS := zh_t1 132 (by decide +kernel) (by decide +kernel)
theorem mf_X1_9 : Cond.fieldLink RX1 9 "FiberHeap$Collector" "heap" "LFiberHeap$Heap;" ∈ zh_WS := zh_t1 133 (by decide +kernel) (by decide +kernel)
theorem mf_X1_15 : Cond.fieldLink RX1 15 "FiberHeap$Collector" "fibers" "[LFiberHeap$Fiber;" ∈ zh_WS := zh_t1 134 (by decide +kernel) (by decide +kernel)
theorem mf_X1_19 : Cond.fieldLink RX1 19 "FiberHeap$Collector" "channels" "[LFiberHeap$Channel;" ∈ zh_WS := zh_t1 135 (by decide +kernel) (by decide +kernel)
theorem mf_X1_23 : Cond.fieldLink RX1 23 "FiberHeap$Collector" "pending" "[I" ∈ zh_WS := zh_t1 136 (by decide +kernel) (by decide +kernel)
theorem mf_X1_27 : Cond.fieldLink RX1 27 "FiberHeap$Collector" "pendingCount" "I" ∈ zh_WS := zh_t1 137 (by decide +kernel) (by decide +kernel)
theorem mf_X1_31 : Cond.fieldLink RX1 31 "FiberHeap$Collector" "marking" "Z" ∈ zh_WS := zh_t1 138 (by decide +kernel) (by decide +kernel)
theorem mf_X1_35 : Cond.fieldLink RX1 35 "FiberHeap$Collector" "cycles" "I" ∈ zh_WS := zh_t1 140 (by decide +kernel) (by decide +kernel)
theorem mf_X1_38 : Cond.fieldLink RX1 38 "FiberHeap$Collector" "pieces" "I" ∈ zh_WS := zh_t1 142 (by decide +kernel) (by decide +kernel)
theorem mf_X1_41 : Cond.fieldLink RX1 41 "FiberHeap$Collector" "fresh" "I" ∈ zh_WS := zh_t1 144 (by decide +kernel) (by decide +kernel)
theorem mf_X1_44 : Cond.fieldLink RX1 44 "FiberHeap$Collector" "trigger" "I" ∈ zh_WS := zh_t1 146 (by decide +kernel) (by decide +kernel)
theorem mc_X1_47 : Cond.methodLink RX1 47 yX3_sweepSpans ∈ zh_WS := zh_t2 45 (by decide +kernel) (by decide +kernel)
theorem mf_X1_53 : Cond.fieldLink RX1 53 "FiberHeap$Heap" "marks" "[I" ∈ zh_WS := zh_t1 34 (by decide +kernel) (by decide +kernel)
theorem mc_X1_56 : Cond.methodLink RX1 56 yJ_fill ∈ zh_WS := zh_t2 63 (by decide +kernel) (by decide +kernel)
theorem mf_X1_62 : Cond.fieldLink RX1 62 "FiberHeap$Fiber" "scanned" "Z" ∈ zh_WS := zh_t1 76 (by decide +kernel) (by decide +kernel)
theorem mf_X1_67 : Cond.fieldLink RX1 67 "FiberHeap$Channel" "held" "I" ∈ zh_WS := zh_t1 120 (by decide +kernel) (by decide +kernel)
theorem mf_X1_72 : Cond.fieldLink RX1 72 "FiberHeap$Channel" "pointers" "[I" ∈ zh_WS := zh_t1 118 (by decide +kernel) (by decide +kernel)
theorem mc_X1_75 : Cond.methodLink RX1 75 yX1_note ∈ zh_WS := zh_t2 66 (by decide +kernel) (by decide +kernel)
theorem mc_X1_79 : Cond.methodLink RX1 79 yX1_beginCycle ∈ zh_WS := zh_t2 41 (by decide +kernel) (by decide +kernel)
theorem mc_X1_82 : Cond.methodLink RX1 82 yX1_work ∈ zh_WS := zh_t2 70 (by decide +kernel) (by decide +kernel)
theorem mc_X1_85 : Cond.methodLink RX1 85 Lib.Math.min.name ∈ zh_WS := zh_t2 74 (by decide +kernel) (by decide +kernel)
theorem mc_X1_91 : Cond.methodLink RX1 91 yX1_workIsLeft ∈ zh_WS := zh_t2 77 (by decide +kernel) (by decide +kernel)
theorem mc_X1_95 : Cond.methodLink RX1 95 yX1_doPiece ∈ zh_WS := zh_t2 85 (by decide +kernel) (by decide +kernel)
theorem mc_X1_98 : Cond.methodLink RX1 98 yX1_endMarking ∈ zh_WS := zh_t2 101 (by decide +kernel) (by decide +kernel)
theorem mc_X1_101 : Cond.methodLink RX1 101 yX1_nextToScan ∈ zh_WS := zh_t2 81 (by decide +kernel) (by decide +kernel)
theorem mf_X1_105 : Cond.fieldLink RX1 105 "FiberHeap$Fiber" "state" "I" ∈ zh_WS := zh_t1 67 (by decide +kernel) (by decide +kernel)
theorem mc_X1_108 : Cond.methodLink RX1 108 yX1_scan ∈ zh_WS := zh_t2 89 (by decide +kernel) (by decide +kernel)
theorem mc_X1_112 : Cond.methodLink RX1 112 yX1_lookAt ∈ zh_WS := zh_t2 97 (by decide +kernel) (by decide +kernel)
theorem mf_X1_115 : Cond.fieldLink RX1 115 "FiberHeap$Fiber" "frames" "I" ∈ zh_WS := zh_t1 70 (by decide +kernel) (by decide +kernel)
theorem mf_X1_118 : Cond.fieldLink RX1 118 "FiberHeap$Fiber" "cells" "[I" ∈ zh_WS := zh_t1 62 (by decide +kernel) (by decide +kernel)
theorem mc_X1_121 : Cond.methodLink RX1 121 yX2_shrinkRoom ∈ zh_WS := zh_t2 93 (by decide +kernel) (by decide +kernel)
theorem mf_X1_124 : Cond.fieldLink RX1 124 "FiberHeap$Heap" "pointerCounts" "[I" ∈ zh_WS := zh_t1 32 (by decide +kernel) (by decide +kernel)
theorem mf_X1_127 : Cond.fieldLink RX1 127 "FiberHeap$Heap" "words" "[I" ∈ zh_WS := zh_t1 26 (by decide +kernel) (by decide +kernel)
theorem mc_X1_130 : Cond.methodLink RX1 130 yX3_leaveAllUnswept ∈ zh_WS := zh_t2 105 (by decide +kernel) (by decide +kernel)
theorem mc_X1_133 : Cond.methodLink RX1 133 yX3_keptWords ∈ zh_WS := zh_t2 109 (by decide +kernel) (by decide +kernel)
theorem mc_X1_137 : Cond.methodLink RX1 137 Lib.Math.max.name ∈ zh_WS := zh_t2 114 (by decide +kernel) (by decide +kernel)
theorem mc_X2_3 : Cond.methodLink RX2 3 Lib.objectInit ∈ zh_WS := zh_t1 60 (by decide +kernel) (by decide +kernel)
theorem mf_X2_9 : Cond.fieldLink RX2 9 "FiberHeap$Fiber" "cells" "[I" ∈ zh_WS := zh_t1 61 (by decide +kernel) (by decide +kernel)
theorem mf_X2_15 : Cond.fieldLink RX2 15 "FiberHeap$Fiber" "refs" "[I" ∈ zh_WS := zh_t1 63 (by decide +kernel) (by decide +kernel)
theorem mf_X2_18 : Cond.fieldLink RX2 18 "FiberHeap$Fiber" "state" "I" ∈ zh_WS := zh_t1 65 (by decide +kernel) (by decide +kernel)
theorem mf_X2_22 : Cond.fieldLink RX2 22 "FiberHeap$Fiber" "frames" "I" ∈ zh_WS := zh_t1 68 (by decide +kernel) (by decide +kernel)
theorem mf_X2_25 : Cond.fieldLink RX2 25 "FiberHeap$Fiber" "room" "I" ∈ zh_WS := zh_t1 71 (by decide +kernel) (by decide +kernel)
theorem mf_X2_28 : Cond.fieldLink RX2 28 "FiberHeap$Fiber" "tookFrom" "I" ∈ zh_WS := zh_t1 78 (by decide +kernel) (by decide +kernel)
theorem mf_X2_31 : Cond.fieldLink RX2 31 "FiberHeap$Fiber" "scanned" "Z" ∈ zh_WS := zh_t1 75 (by decide +kernel) (by decide +kernel)
theorem mc_X2_35 : Cond.methodLink RX2 35 yX2_cellIndex ∈ zh_WS := zh_t1 213 (by decide +kernel) (by decide +kernel)
theorem mc_X2_39 : Cond.methodLink RX2 39 yX2_isCell ∈ zh_WS := zh_t1 209 (by decide +kernel) (by decide +kernel)
theorem mc_X2_43 : Cond.methodLink RX2 43 yX2_moveTo ∈ zh_WS := zh_t2 1 (by decide +kernel) (by decide +kernel)
theorem mc_X2_47 : Cond.methodLink RX2 47 arraycopyName ∈ zh_WS := zh_t2 5 (by decide +kernel) (by decide +kernel)
theorem mf_X2_53 : Cond.fieldLink RX2 53 "FiberHeap$Fiber" "copied" "I" ∈ zh_WS := zh_t1 73 (by decide +kernel) (by decide +kernel)
theorem mf_X2_56 : Cond.fieldLink RX2 56 "FiberHeap$Fiber" "waitCell" "I" ∈ zh_WS := zh_t1 80 (by decide +kernel) (by decide +kernel)
theorem mf_X2_59 : Cond.fieldLink RX2 59 "FiberHeap$Fiber" "waitChannel" "I" ∈ zh_WS := zh_t1 81 (by decide +kernel) (by decide +kernel)
theorem mf_X2_62 : Cond.fieldLink RX2 62 "FiberHeap$Fiber" "otherWaitChannel" "I" ∈ zh_WS := zh_t1 82 (by decide +kernel) (by decide +kernel)
theorem mf_X2_65 : Cond.fieldLink RX2 65 "FiberHeap$Fiber" "ticket" "I" ∈ zh_WS := zh_t1 83 (by decide +kernel) (by decide +kernel)
theorem mc_X3_3 : Cond.methodLink RX3 3 Lib.objectInit ∈ zh_WS := zh_t1 23 (by decide +kernel) (by decide +kernel)
theorem mf_X3_9 : Cond.fieldLink RX3 9 "FiberHeap$Heap" "words" "[I" ∈ zh_WS := zh_t1 24 (by decide +kernel) (by decide +kernel)
theorem mf_X3_15 : Cond.fieldLink RX3 15 "FiberHeap$Heap" "pages" "[I" ∈ zh_WS := zh_t1 27 (by decide +kernel) (by decide +kernel)
theorem mf_X3_18 : Cond.fieldLink RX3 18 "FiberHeap$Heap" "unswept" "[Z" ∈ zh_WS := zh_t1 29 (by decide +kernel) (by decide +kernel)
theorem mf_X3_22 : Cond.fieldLink RX3 22 "FiberHeap$Heap" "sizes" "[I" ∈ zh_WS := zh_t1 30 (by decide +kernel) (by decide +kernel)
theorem mf_X3_25 : Cond.fieldLink RX3 25 "FiberHeap$Heap" "pointerCounts" "[I" ∈ zh_WS := zh_t1 31 (by decide +kernel) (by decide +kernel)
theorem mf_X3_28 : Cond.fieldLink RX3 28 "FiberHeap$Heap" "marks" "[I" ∈ zh_WS := zh_t1 33 (by decide +kernel) (by decide +kernel)
theorem mf_X3_31 : Cond.fieldLink RX3 31 "FiberHeap$Heap" "freed" "I" ∈ zh_WS := zh_t1 35 (by decide +kernel) (by decide +kernel)
theorem mc_X3_35 : Cond.methodLink RX3 35 Lib.Math.max.name ∈ zh_WS := zh_t2 56 (by decide +kernel) (by decide +kernel)
theorem mc_X3_41 : Cond.methodLink RX3 41 yX3_slotWordsFor ∈ zh_WS := zh_t2 113 (by decide +kernel) (by decide +kernel)
theorem mc_X3_45 : Cond.methodLink RX3 45 yX3_slotInSpans ∈ zh_WS := zh_t2 127 (by decide +kernel) (by decide +kernel)
theorem mc_X3_48 : Cond.methodLink RX3 48 yX3_slotInNewSpan ∈ zh_WS := zh_t2 135 (by decide +kernel) (by decide +kernel)
theorem mc_X3_51 : Cond.methodLink RX3 51 yX3_fillSlot ∈ zh_WS := zh_t2 147 (by decide +kernel) (by decide +kernel)
theorem mc_X3_55 : Cond.methodLink RX3 55 yX3_sweepSpan ∈ zh_WS := zh_t2 49 (by decide +kernel) (by decide +kernel)
theorem mc_X3_59 : Cond.methodLink RX3 59 yX3_openSlot ∈ zh_WS := zh_t2 131 (by decide +kernel) (by decide +kernel)
theorem mc_X3_62 : Cond.methodLink RX3 62 yX3_pagesOfSpan ∈ zh_WS := zh_t2 53 (by decide +kernel) (by decide +kernel)
theorem mc_X3_65 : Cond.methodLink RX3 65 yX3_shortestRun ∈ zh_WS := zh_t2 139 (by decide +kernel) (by decide +kernel)
theorem mc_X3_68 : Cond.methodLink RX3 68 yX3_fillPages ∈ zh_WS := zh_t2 59 (by decide +kernel) (by decide +kernel)
theorem mc_X3_72 : Cond.methodLink RX3 72 yX3_endsRun ∈ zh_WS := zh_t2 143 (by decide +kernel) (by decide +kernel)
theorem mc_X4_3 : Cond.methodLink RX4 3 Lib.objectInit ∈ zh_WS := zh_t1 15 (by decide +kernel) (by decide +kernel)
theorem mk_X4_9 : Cond.classLink RX4 9 RX3 ∈ zh_WS := zh_t1 18 (by decide +kernel) (by decide +kernel)
theorem mc_X4_11 : Cond.methodLink RX4 11 yX3_init ∈ zh_WS := zh_t1 20 (by decide +kernel) (by decide +kernel)
theorem mf_X4_12 : Cond.fieldLink RX4 12 "FiberHeap" "heap" "LFiberHeap$Heap;" ∈ zh_WS := zh_t1 173 (by decide +kernel) (by decide +kernel)
theorem mk_X4_16 : Cond.classLink RX4 16 RX2 ∈ zh_WS := zh_t1 54 (by decide +kernel) (by decide +kernel)
theorem mf_X4_18 : Cond.fieldLink RX4 18 "FiberHeap" "fibers" "[LFiberHeap$Fiber;" ∈ zh_WS := zh_t1 174 (by decide +kernel) (by decide +kernel)
theorem mc_X4_22 : Cond.methodLink RX4 22 yX2_init ∈ zh_WS := zh_t1 57 (by decide +kernel) (by decide +kernel)
theorem mk_X4_23 : Cond.classLink RX4 23 RX0 ∈ zh_WS := zh_t1 110 (by decide +kernel) (by decide +kernel)
theorem mf_X4_25 : Cond.fieldLink RX4 25 "FiberHeap" "channels" "[LFiberHeap$Channel;" ∈ zh_WS := zh_t1 175 (by decide +kernel) (by decide +kernel)
theorem mc_X4_29 : Cond.methodLink RX4 29 yX0_init ∈ zh_WS := zh_t1 113 (by decide +kernel) (by decide +kernel)
theorem mk_X4_32 : Cond.classLink RX4 32 RX1 ∈ zh_WS := zh_t1 127 (by decide +kernel) (by decide +kernel)
theorem mc_X4_34 : Cond.methodLink RX4 34 yX1_init ∈ zh_WS := zh_t1 129 (by decide +kernel) (by decide +kernel)
theorem mf_X4_37 : Cond.fieldLink RX4 37 "FiberHeap" "collector" "LFiberHeap$Collector;" ∈ zh_WS := zh_t1 176 (by decide +kernel) (by decide +kernel)
theorem mf_X4_41 : Cond.fieldLink RX4 41 "FiberHeap" "nextTicket" "I" ∈ zh_WS := zh_t1 177 (by decide +kernel) (by decide +kernel)
theorem mc_X4_45 : Cond.methodLink RX4 45 yX2_beginToLive ∈ zh_WS := zh_t1 169 (by decide +kernel) (by decide +kernel)
theorem mc_X4_48 : Cond.methodLink RX4 48 yX4_readyFiber ∈ zh_WS := zh_t1 193 (by decide +kernel) (by decide +kernel)
theorem mc_X4_52 : Cond.methodLink RX4 52 yX4_lowestGoneFiber ∈ zh_WS := zh_t1 201 (by decide +kernel) (by decide +kernel)
theorem mc_X4_56 : Cond.methodLink RX4 56 yX2_isSource ∈ zh_WS := zh_t1 205 (by decide +kernel) (by decide +kernel)
theorem mc_X4_60 : Cond.methodLink RX4 60 yX2_pointerFrom ∈ zh_WS := zh_t1 217 (by decide +kernel) (by decide +kernel)
theorem mc_X4_64 : Cond.methodLink RX4 64 yX4_lives ∈ zh_WS := zh_t1 197 (by decide +kernel) (by decide +kernel)
theorem mc_X4_67 : Cond.methodLink RX4 67 yX4_livingFibers ∈ zh_WS := zh_t1 225 (by decide +kernel) (by decide +kernel)
theorem mf_X4_70 : Cond.fieldLink RX4 70 "FiberHeap$Fiber" "state" "I" ∈ zh_WS := zh_t1 66 (by decide +kernel) (by decide +kernel)
theorem mf_X4_73 : Cond.fieldLink RX4 73 "FiberHeap$Fiber" "frames" "I" ∈ zh_WS := zh_t1 69 (by decide +kernel) (by decide +kernel)
theorem mc_X4_76 : Cond.methodLink RX4 76 yX2_addFrame ∈ zh_WS := zh_t1 237 (by decide +kernel) (by decide +kernel)
theorem mc_X4_79 : Cond.methodLink RX4 79 yX2_dropFrame ∈ zh_WS := zh_t2 12 (by decide +kernel) (by decide +kernel)
theorem mf_X4_82 : Cond.fieldLink RX4 82 "FiberHeap$Fiber" "refs" "[I" ∈ zh_WS := zh_t1 64 (by decide +kernel) (by decide +kernel)
theorem mc_X4_86 : Cond.methodLink RX4 86 yX2_cellIndex ∈ zh_WS := zh_t2 20 (by decide +kernel) (by decide +kernel)
theorem mc_X4_89 : Cond.methodLink RX4 89 yX2_isCell ∈ zh_WS := zh_t2 25 (by decide +kernel) (by decide +kernel)
theorem mc_X4_92 : Cond.methodLink RX4 92 yX2_fillCell ∈ zh_WS := zh_t2 26 (by decide +kernel) (by decide +kernel)
theorem mc_X4_96 : Cond.methodLink RX4 96 yX3_slotWordsFor ∈ zh_WS := zh_t2 34 (by decide +kernel) (by decide +kernel)
theorem mc_X4_99 : Cond.methodLink RX4 99 yX1_workBeforePlacing ∈ zh_WS := zh_t2 37 (by decide +kernel) (by decide +kernel)
theorem mc_X4_102 : Cond.methodLink RX4 102 yX4_placeAtAnyCost ∈ zh_WS := zh_t2 115 (by decide +kernel) (by decide +kernel)
theorem mf_X4_106 : Cond.fieldLink RX4 106 "FiberHeap$Collector" "fresh" "I" ∈ zh_WS := zh_t1 145 (by decide +kernel) (by decide +kernel)
theorem mc_X4_109 : Cond.methodLink RX4 109 yX3_isPointerWord ∈ zh_WS := zh_t2 161 (by decide +kernel) (by decide +kernel)
theorem mf_X4_113 : Cond.fieldLink RX4 113 "FiberHeap$Heap" "words" "[I" ∈ zh_WS := zh_t1 25 (by decide +kernel) (by decide +kernel)
theorem mc_X4_116 : Cond.methodLink RX4 116 yX1_note ∈ zh_WS := zh_t2 165 (by decide +kernel) (by decide +kernel)
theorem mc_X4_119 : Cond.methodLink RX4 119 yX4_intWordIndex ∈ zh_WS := zh_t2 174 (by decide +kernel) (by decide +kernel)
theorem mc_X4_123 : Cond.methodLink RX4 123 yX4_isChannel ∈ zh_WS := zh_t2 190 (by decide +kernel) (by decide +kernel)
theorem mc_X4_126 : Cond.methodLink RX4 126 yX4_firstWaiting ∈ zh_WS := zh_t2 193 (by decide +kernel) (by decide +kernel)
theorem mc_X4_130 : Cond.methodLink RX4 130 yX2_endTaking ∈ zh_WS := zh_t2 201 (by decide +kernel) (by decide +kernel)
theorem mc_X4_133 : Cond.methodLink RX4 133 yX0_hasSpace ∈ zh_WS := zh_t2 205 (by decide +kernel) (by decide +kernel)
theorem mc_X4_137 : Cond.methodLink RX4 137 yX0_addLast ∈ zh_WS := zh_t2 209 (by decide +kernel) (by decide +kernel)
theorem mc_X4_140 : Cond.methodLink RX4 140 yX4_newTicket ∈ zh_WS := zh_t2 214 (by decide +kernel) (by decide +kernel)
theorem mc_X4_143 : Cond.methodLink RX4 143 yX2_beginToWait ∈ zh_WS := zh_t2 218 (by decide +kernel) (by decide +kernel)
theorem mc_X4_147 : Cond.methodLink RX4 147 yX4_canGive ∈ zh_WS := zh_t2 226 (by decide +kernel) (by decide +kernel)
theorem mc_X4_150 : Cond.methodLink RX4 150 yX4_pointerOutOf ∈ zh_WS := zh_t2 230 (by decide +kernel) (by decide +kernel)
theorem mf_X4_153 : Cond.fieldLink RX4 153 "FiberHeap$Fiber" "tookFrom" "I" ∈ zh_WS := zh_t1 79 (by decide +kernel) (by decide +kernel)
theorem mf_X4_156 : Cond.fieldLink RX4 156 "FiberHeap$Collector" "marking" "Z" ∈ zh_WS := zh_t1 139 (by decide +kernel) (by decide +kernel)
theorem mc_X4_160 : Cond.methodLink RX4 160 yX1_work ∈ zh_WS := zh_t3 6 (by decide +kernel) (by decide +kernel)
theorem mc_X4_163 : Cond.methodLink RX4 163 yX3_sweepSpans ∈ zh_WS := zh_t2 155 (by decide +kernel) (by decide +kernel)
theorem mc_X4_166 : Cond.methodLink RX4 166 yX1_beginCycle ∈ zh_WS := zh_t2 156 (by decide +kernel) (by decide +kernel)
theorem mf_X4_169 : Cond.fieldLink RX4 169 "FiberHeap$Fiber" "room" "I" ∈ zh_WS := zh_t1 72 (by decide +kernel) (by decide +kernel)
theorem mf_X4_172 : Cond.fieldLink RX4 172 "FiberHeap$Fiber" "scanned" "Z" ∈ zh_WS := zh_t1 77 (by decide +kernel) (by decide +kernel)
theorem mc_X4_175 : Cond.methodLink RX4 175 yX3_takenSlots ∈ zh_WS := zh_t3 23 (by decide +kernel) (by decide +kernel)
theorem mc_X4_178 : Cond.methodLink RX4 178 yX3_takenWords ∈ zh_WS := zh_t3 27 (by decide +kernel) (by decide +kernel)
theorem mc_X4_181 : Cond.methodLink RX4 181 yX3_freePages ∈ zh_WS := zh_t3 31 (by decide +kernel) (by decide +kernel)
theorem mc_X4_184 : Cond.methodLink RX4 184 yX3_longestRun ∈ zh_WS := zh_t3 35 (by decide +kernel) (by decide +kernel)
theorem mc_X4_187 : Cond.methodLink RX4 187 yX3_unsweptSpans ∈ zh_WS := zh_t3 39 (by decide +kernel) (by decide +kernel)
theorem mf_X4_190 : Cond.fieldLink RX4 190 "FiberHeap$Collector" "cycles" "I" ∈ zh_WS := zh_t1 141 (by decide +kernel) (by decide +kernel)
theorem mf_X4_193 : Cond.fieldLink RX4 193 "FiberHeap$Collector" "pieces" "I" ∈ zh_WS := zh_t1 143 (by decide +kernel) (by decide +kernel)
theorem mc_X4_196 : Cond.methodLink RX4 196 yX4_copiedFrames ∈ zh_WS := zh_t3 43 (by decide +kernel) (by decide +kernel)
theorem mf_X4_199 : Cond.fieldLink RX4 199 "FiberHeap$Collector" "trigger" "I" ∈ zh_WS := zh_t1 147 (by decide +kernel) (by decide +kernel)
theorem mf_X4_202 : Cond.fieldLink RX4 202 "FiberHeap$Heap" "freed" "I" ∈ zh_WS := zh_t1 36 (by decide +kernel) (by decide +kernel)
theorem mf_X4_205 : Cond.fieldLink RX4 205 "FiberHeap$Heap" "pages" "[I" ∈ zh_WS := zh_t1 28 (by decide +kernel) (by decide +kernel)
theorem mf_X4_208 : Cond.fieldLink RX4 208 "FiberHeap$Fiber" "copied" "I" ∈ zh_WS := zh_t1 74 (by decide +kernel) (by decide +kernel)
theorem mc_X4_211 : Cond.methodLink RX4 211 yX1_markOfPlaced ∈ zh_WS := zh_t2 119 (by decide +kernel) (by decide +kernel)
theorem mc_X4_214 : Cond.methodLink RX4 214 yX3_place ∈ zh_WS := zh_t2 123 (by decide +kernel) (by decide +kernel)
theorem mc_X4_217 : Cond.methodLink RX4 217 yX1_finishMarking ∈ zh_WS := zh_t2 151 (by decide +kernel) (by decide +kernel)
theorem mc_X4_220 : Cond.methodLink RX4 220 yX3_isIntWord ∈ zh_WS := zh_t2 178 (by decide +kernel) (by decide +kernel)
theorem mc_X4_223 : Cond.methodLink RX4 223 yX2_waitsAt ∈ zh_WS := zh_t2 197 (by decide +kernel) (by decide +kernel)
theorem mf_X4_226 : Cond.fieldLink RX4 226 "FiberHeap$Fiber" "ticket" "I" ∈ zh_WS := zh_t1 84 (by decide +kernel) (by decide +kernel)
theorem mf_X4_229 : Cond.fieldLink RX4 229 "FiberHeap$Channel" "held" "I" ∈ zh_WS := zh_t1 121 (by decide +kernel) (by decide +kernel)
theorem mc_X4_232 : Cond.methodLink RX4 232 yX2_endSending ∈ zh_WS := zh_t2 234 (by decide +kernel) (by decide +kernel)
theorem mc_X4_235 : Cond.methodLink RX4 235 yX0_removeFirst ∈ zh_WS := zh_t2 238 (by decide +kernel) (by decide +kernel)
theorem mc_X5_1 : Cond.methodLink RX5 1 Lib.objectInit ∈ zh_WS := zh_t3 56 (by decide +kernel) (by decide +kernel)
theorem mf_X5_7 : Cond.fieldLink RX5 7 "FiberHeapModel" "mem" "[I" ∈ zh_WS := zh_t3 61 (by decide +kernel) (by decide +kernel)
theorem mf_X5_13 : Cond.fieldLink RX5 13 "FiberHeapModel" "words" "[I" ∈ zh_WS := zh_t3 62 (by decide +kernel) (by decide +kernel)
theorem mf_X5_16 : Cond.fieldLink RX5 16 "FiberHeapModel" "pointers" "[I" ∈ zh_WS := zh_t3 63 (by decide +kernel) (by decide +kernel)
theorem mf_X5_19 : Cond.fieldLink RX5 19 "FiberHeapModel" "young" "[Z" ∈ zh_WS := zh_t3 64 (by decide +kernel) (by decide +kernel)
theorem mf_X5_23 : Cond.fieldLink RX5 23 "FiberHeapModel" "noted" "[Z" ∈ zh_WS := zh_t3 65 (by decide +kernel) (by decide +kernel)
theorem mf_X5_26 : Cond.fieldLink RX5 26 "FiberHeapModel" "kept" "[Z" ∈ zh_WS := zh_t3 66 (by decide +kernel) (by decide +kernel)
theorem mf_X5_29 : Cond.fieldLink RX5 29 "FiberHeapModel" "due" "[Z" ∈ zh_WS := zh_t3 67 (by decide +kernel) (by decide +kernel)
theorem mf_X5_32 : Cond.fieldLink RX5 32 "FiberHeapModel" "kind" "[I" ∈ zh_WS := zh_t3 68 (by decide +kernel) (by decide +kernel)
theorem mf_X5_35 : Cond.fieldLink RX5 35 "FiberHeapModel" "unswept" "[Z" ∈ zh_WS := zh_t3 69 (by decide +kernel) (by decide +kernel)
theorem mf_X5_38 : Cond.fieldLink RX5 38 "FiberHeapModel" "state" "[I" ∈ zh_WS := zh_t3 70 (by decide +kernel) (by decide +kernel)
theorem mf_X5_41 : Cond.fieldLink RX5 41 "FiberHeapModel" "frames" "[I" ∈ zh_WS := zh_t3 71 (by decide +kernel) (by decide +kernel)
theorem mf_X5_44 : Cond.fieldLink RX5 44 "FiberHeapModel" "room" "[I" ∈ zh_WS := zh_t3 72 (by decide +kernel) (by decide +kernel)
theorem mf_X5_47 : Cond.fieldLink RX5 47 "FiberHeapModel" "cells" "[I" ∈ zh_WS := zh_t3 73 (by decide +kernel) (by decide +kernel)
theorem mf_X5_50 : Cond.fieldLink RX5 50 "FiberHeapModel" "refs" "[I" ∈ zh_WS := zh_t3 74 (by decide +kernel) (by decide +kernel)
theorem mf_X5_53 : Cond.fieldLink RX5 53 "FiberHeapModel" "scanned" "[Z" ∈ zh_WS := zh_t3 75 (by decide +kernel) (by decide +kernel)
theorem mf_X5_56 : Cond.fieldLink RX5 56 "FiberHeapModel" "since" "[I" ∈ zh_WS := zh_t3 76 (by decide +kernel) (by decide +kernel)
theorem mf_X5_59 : Cond.fieldLink RX5 59 "FiberHeapModel" "at" "[I" ∈ zh_WS := zh_t3 77 (by decide +kernel) (by decide +kernel)
theorem mf_X5_62 : Cond.fieldLink RX5 62 "FiberHeapModel" "orAt" "[I" ∈ zh_WS := zh_t3 78 (by decide +kernel) (by decide +kernel)
theorem mf_X5_65 : Cond.fieldLink RX5 65 "FiberHeapModel" "into" "[I" ∈ zh_WS := zh_t3 79 (by decide +kernel) (by decide +kernel)
theorem mf_X5_68 : Cond.fieldLink RX5 68 "FiberHeapModel" "from" "[I" ∈ zh_WS := zh_t3 80 (by decide +kernel) (by decide +kernel)
theorem mf_X5_71 : Cond.fieldLink RX5 71 "FiberHeapModel" "queue" "[I" ∈ zh_WS := zh_t3 81 (by decide +kernel) (by decide +kernel)
theorem mf_X5_74 : Cond.fieldLink RX5 74 "FiberHeapModel" "length" "[I" ∈ zh_WS := zh_t3 82 (by decide +kernel) (by decide +kernel)
theorem mf_X5_77 : Cond.fieldLink RX5 77 "FiberHeapModel" "trigger" "I" ∈ zh_WS := zh_t3 90 (by decide +kernel) (by decide +kernel)
theorem mc_X5_81 : Cond.methodLink RX5 81 yX5_begin ∈ zh_WS := zh_t3 57 (by decide +kernel) (by decide +kernel)
theorem mc_X5_85 : Cond.methodLink RX5 85 yX5_lives ∈ zh_WS := zh_t3 167 (by decide +kernel) (by decide +kernel)
theorem mc_X5_89 : Cond.methodLink RX5 89 yX5_ready ∈ zh_WS := zh_t3 163 (by decide +kernel) (by decide +kernel)
theorem mc_X5_92 : Cond.methodLink RX5 92 yX5_place ∈ zh_WS := zh_t3 171 (by decide +kernel) (by decide +kernel)
theorem mc_X5_96 : Cond.methodLink RX5 96 yX5_cell ∈ zh_WS := zh_t3 159 (by decide +kernel) (by decide +kernel)
theorem mc_X5_100 : Cond.methodLink RX5 100 yX5_value ∈ zh_WS := zh_t3 175 (by decide +kernel) (by decide +kernel)
theorem mf_X5_103 : Cond.fieldLink RX5 103 "FiberHeapModel" "marking" "Z" ∈ zh_WS := zh_t3 84 (by decide +kernel) (by decide +kernel)
theorem mf_X5_107 : Cond.fieldLink RX5 107 "FiberHeapModel" "copied" "I" ∈ zh_WS := zh_t3 88 (by decide +kernel) (by decide +kernel)
theorem mf_X5_110 : Cond.fieldLink RX5 110 "FiberHeapModel" "freed" "I" ∈ zh_WS := zh_t3 91 (by decide +kernel) (by decide +kernel)
theorem mc_X5_113 : Cond.methodLink RX5 113 yX5_sweepSpan ∈ zh_WS := zh_t3 219 (by decide +kernel) (by decide +kernel)
theorem mc_X5_117 : Cond.methodLink RX5 117 yX5_runOf ∈ zh_WS := zh_t4 7 (by decide +kernel) (by decide +kernel)
theorem mc_X5_121 : Cond.methodLink RX5 121 yX5_slotOf ∈ zh_WS := zh_t3 207 (by decide +kernel) (by decide +kernel)
theorem mf_X5_125 : Cond.fieldLink RX5 125 "FiberHeapModel" "fresh" "I" ∈ zh_WS := zh_t3 89 (by decide +kernel) (by decide +kernel)
theorem mc_X5_128 : Cond.methodLink RX5 128 yX5_cycle ∈ zh_WS := zh_t3 211 (by decide +kernel) (by decide +kernel)
theorem mc_X5_131 : Cond.methodLink RX5 131 yX5_work ∈ zh_WS := zh_t3 227 (by decide +kernel) (by decide +kernel)
theorem mc_X5_134 : Cond.methodLink RX5 134 yX5_seat ∈ zh_WS := zh_t4 3 (by decide +kernel) (by decide +kernel)
theorem mv_X5_137 : Cond.constant RX5 137 1000000 ∈ zh_WS := zh_t4 11 (by decide +kernel) (by decide +kernel)
theorem mc_X5_138 : Cond.methodLink RX5 138 yX5_sweepUpTo ∈ zh_WS := zh_t3 215 (by decide +kernel) (by decide +kernel)
theorem mc_X5_141 : Cond.methodLink RX5 141 yX5_object ∈ zh_WS := zh_t4 16 (by decide +kernel) (by decide +kernel)
theorem mc_X5_144 : Cond.methodLink RX5 144 yX5_note ∈ zh_WS := zh_t3 223 (by decide +kernel) (by decide +kernel)
theorem mf_X5_147 : Cond.fieldLink RX5 147 "FiberHeapModel" "clock" "I" ∈ zh_WS := zh_t3 83 (by decide +kernel) (by decide +kernel)
theorem mc_X5_150 : Cond.methodLink RX5 150 yX5_firstAt ∈ zh_WS := zh_t4 36 (by decide +kernel) (by decide +kernel)
theorem mc_X5_153 : Cond.methodLink RX5 153 yX5_hand ∈ zh_WS := zh_t4 40 (by decide +kernel) (by decide +kernel)
theorem mc_X5_157 : Cond.methodLink RX5 157 yX5_enter ∈ zh_WS := zh_t4 44 (by decide +kernel) (by decide +kernel)
theorem mc_X5_160 : Cond.methodLink RX5 160 yX5_waitFor ∈ zh_WS := zh_t4 48 (by decide +kernel) (by decide +kernel)
theorem mc_X5_164 : Cond.methodLink RX5 164 yX5_gives ∈ zh_WS := zh_t4 56 (by decide +kernel) (by decide +kernel)
theorem mf_X5_168 : Cond.fieldLink RX5 168 "FiberHeapModel" "looked" "I" ∈ zh_WS := zh_t3 85 (by decide +kernel) (by decide +kernel)
theorem mf_X5_171 : Cond.fieldLink RX5 171 "FiberHeapModel" "cycles" "I" ∈ zh_WS := zh_t3 86 (by decide +kernel) (by decide +kernel)
theorem mc_X5_174 : Cond.methodLink RX5 174 yX5_scan ∈ zh_WS := zh_t3 231 (by decide +kernel) (by decide +kernel)
theorem mc_X5_177 : Cond.methodLink RX5 177 yX5_countDue ∈ zh_WS := zh_t3 235 (by decide +kernel) (by decide +kernel)
theorem mf_X5_181 : Cond.fieldLink RX5 181 "FiberHeapModel" "pieces" "I" ∈ zh_WS := zh_t3 87 (by decide +kernel) (by decide +kernel)
theorem mc_X5_184 : Cond.methodLink RX5 184 yX5_finish ∈ zh_WS := zh_t3 239 (by decide +kernel) (by decide +kernel)
theorem mc_X5_187 : Cond.methodLink RX5 187 yX5_tally ∈ zh_WS := zh_t4 80 (by decide +kernel) (by decide +kernel)
theorem mk_L_7 : Cond.classLink RL 7 RX4 ∈ zh_WS := zh_t1 10 (by decide +kernel) (by decide +kernel)
theorem mc_L_9 : Cond.methodLink RL 9 yX4_init ∈ zh_WS := zh_t1 12 (by decide +kernel) (by decide +kernel)
theorem mk_L_10 : Cond.classLink RL 10 RX5 ∈ zh_WS := zh_t3 51 (by decide +kernel) (by decide +kernel)
theorem mc_L_12 : Cond.methodLink RL 12 yX5_init ∈ zh_WS := zh_t3 53 (by decide +kernel) (by decide +kernel)
theorem mc_L_13 : Cond.methodLink RL 13 yX4_spawn ∈ zh_WS := zh_t1 189 (by decide +kernel) (by decide +kernel)
theorem mc_L_17 : Cond.methodLink RL 17 yX5_spawn ∈ zh_WS := zh_t3 155 (by decide +kernel) (by decide +kernel)
theorem mc_L_18 : Cond.methodLink RL 18 yX4_end ∈ zh_WS := zh_t1 221 (by decide +kernel) (by decide +kernel)
theorem mc_L_22 : Cond.methodLink RL 22 yX5_end ∈ zh_WS := zh_t3 179 (by decide +kernel) (by decide +kernel)
theorem mc_L_23 : Cond.methodLink RL 23 yX4_wake ∈ zh_WS := zh_t1 229 (by decide +kernel) (by decide +kernel)
theorem mc_L_26 : Cond.methodLink RL 26 yX5_wake ∈ zh_WS := zh_t3 183 (by decide +kernel) (by decide +kernel)
theorem mc_L_27 : Cond.methodLink RL 27 yX4_call ∈ zh_WS := zh_t1 233 (by decide +kernel) (by decide +kernel)
theorem mc_L_30 : Cond.methodLink RL 30 yX5_call ∈ zh_WS := zh_t3 187 (by decide +kernel) (by decide +kernel)
theorem mc_L_31 : Cond.methodLink RL 31 yX4_leave ∈ zh_WS := zh_t2 8 (by decide +kernel) (by decide +kernel)
theorem mc_L_34 : Cond.methodLink RL 34 yX5_leave ∈ zh_WS := zh_t3 191 (by decide +kernel) (by decide +kernel)
theorem mc_L_35 : Cond.methodLink RL 35 yX4_aim ∈ zh_WS := zh_t2 16 (by decide +kernel) (by decide +kernel)
theorem mc_L_39 : Cond.methodLink RL 39 yX5_aim ∈ zh_WS := zh_t3 195 (by decide +kernel) (by decide +kernel)
theorem mc_L_40 : Cond.methodLink RL 40 yX4_copy ∈ zh_WS := zh_t2 21 (by decide +kernel) (by decide +kernel)
theorem mc_L_44 : Cond.methodLink RL 44 yX5_copy ∈ zh_WS := zh_t3 199 (by decide +kernel) (by decide +kernel)
theorem mc_L_45 : Cond.methodLink RL 45 yX4_make ∈ zh_WS := zh_t2 30 (by decide +kernel) (by decide +kernel)
theorem mc_L_49 : Cond.methodLink RL 49 yX5_make ∈ zh_WS := zh_t3 203 (by decide +kernel) (by decide +kernel)
theorem mc_L_50 : Cond.methodLink RL 50 yX4_set ∈ zh_WS := zh_t2 157 (by decide +kernel) (by decide +kernel)
theorem mc_L_54 : Cond.methodLink RL 54 yX5_set ∈ zh_WS := zh_t4 12 (by decide +kernel) (by decide +kernel)
theorem mc_L_55 : Cond.methodLink RL 55 yX4_get ∈ zh_WS := zh_t2 166 (by decide +kernel) (by decide +kernel)
theorem mc_L_58 : Cond.methodLink RL 58 yX5_get ∈ zh_WS := zh_t4 20 (by decide +kernel) (by decide +kernel)
theorem mc_L_59 : Cond.methodLink RL 59 yX4_store ∈ zh_WS := zh_t2 170 (by decide +kernel) (by decide +kernel)
theorem mc_L_62 : Cond.methodLink RL 62 yX5_store ∈ zh_WS := zh_t4 24 (by decide +kernel) (by decide +kernel)
theorem mc_L_63 : Cond.methodLink RL 63 yX4_load ∈ zh_WS := zh_t2 182 (by decide +kernel) (by decide +kernel)
theorem mc_L_67 : Cond.methodLink RL 67 yX5_load ∈ zh_WS := zh_t4 28 (by decide +kernel) (by decide +kernel)
theorem mc_L_68 : Cond.methodLink RL 68 yX4_send ∈ zh_WS := zh_t2 186 (by decide +kernel) (by decide +kernel)
theorem mc_L_71 : Cond.methodLink RL 71 yX5_send ∈ zh_WS := zh_t4 32 (by decide +kernel) (by decide +kernel)
theorem mc_L_72 : Cond.methodLink RL 72 yX4_take ∈ zh_WS := zh_t2 222 (by decide +kernel) (by decide +kernel)
theorem mc_L_75 : Cond.methodLink RL 75 yX5_take ∈ zh_WS := zh_t4 52 (by decide +kernel) (by decide +kernel)
theorem mc_L_76 : Cond.methodLink RL 76 yX4_mark ∈ zh_WS := zh_t3 2 (by decide +kernel) (by decide +kernel)
theorem mc_L_80 : Cond.methodLink RL 80 yX5_mark ∈ zh_WS := zh_t4 60 (by decide +kernel) (by decide +kernel)
theorem mc_L_81 : Cond.methodLink RL 81 yX4_sweep ∈ zh_WS := zh_t3 7 (by decide +kernel) (by decide +kernel)
theorem mc_L_84 : Cond.methodLink RL 84 yX5_sweep ∈ zh_WS := zh_t4 64 (by decide +kernel) (by decide +kernel)
theorem mc_L_85 : Cond.methodLink RL 85 yX4_collect ∈ zh_WS := zh_t3 11 (by decide +kernel) (by decide +kernel)
theorem mc_L_89 : Cond.methodLink RL 89 yX5_collect ∈ zh_WS := zh_t4 68 (by decide +kernel) (by decide +kernel)
theorem mc_L_90 : Cond.methodLink RL 90 yX4_fiber ∈ zh_WS := zh_t3 15 (by decide +kernel) (by decide +kernel)
theorem mc_L_93 : Cond.methodLink RL 93 yX5_fiber ∈ zh_WS := zh_t4 72 (by decide +kernel) (by decide +kernel)
theorem mc_L_94 : Cond.methodLink RL 94 yX4_count ∈ zh_WS := zh_t3 19 (by decide +kernel) (by decide +kernel)
theorem mc_L_97 : Cond.methodLink RL 97 yX5_count ∈ zh_WS := zh_t4 76 (by decide +kernel) (by decide +kernel)
theorem mc_L_98 : Cond.methodLink RL 98 yX4_page ∈ zh_WS := zh_t3 47 (by decide +kernel) (by decide +kernel)
theorem mc_L_101 : Cond.methodLink RL 101 yX5_page ∈ zh_WS := zh_t4 84 (by decide +kernel) (by decide +kernel)
theorem me_X0_init : Cond.instanceMethod yX0_init ∈ zh_WS ∧ Cond.initialized yX0_init.cls ∈ zh_WS ∧ Cond.code yX0_init cX0_init 2 none ∈ zh_WS := ⟨zh_t1 114 (by decide +kernel) (by decide +kernel), in2_X0.2, zh_t1 115 rfl rfl⟩
theorem me_X0_hasSpace : Cond.instanceMethod yX0_hasSpace ∈ zh_WS ∧ Cond.selects yX0_hasSpace.cls yX0_hasSpace yX0_hasSpace ∈ zh_WS ∧ Cond.initialized yX0_hasSpace.cls ∈ zh_WS ∧ Cond.code yX0_hasSpace cX0_hasSpace 1 (some .boolean) ∈ zh_WS := ⟨zh_t2 206 (by decide +kernel) (by decide +kernel), zh_t2 207 (by decide +kernel) (by decide +kernel), in2_X0.2, zh_t2 208 rfl rfl⟩
theorem me_X0_addLast : Cond.instanceMethod yX0_addLast ∈ zh_WS ∧ Cond.selects yX0_addLast.cls yX0_addLast yX0_addLast ∈ zh_WS ∧ Cond.initialized yX0_addLast.cls ∈ zh_WS ∧ Cond.code yX0_addLast cX0_addLast 2 none ∈ zh_WS := ⟨zh_t2 210 (by decide +kernel) (by decide +kernel), zh_t2 211 (by decide +kernel) (by decide +kernel), in2_X0.2, zh_t2 212 rfl rfl⟩
theorem me_X0_removeFirst : Cond.instanceMethod yX0_removeFirst ∈ zh_WS ∧ Cond.selects yX0_removeFirst.cls yX0_removeFirst yX0_removeFirst ∈ zh_WS ∧ Cond.initialized yX0_removeFirst.cls ∈ zh_WS ∧ Cond.code yX0_removeFirst cX0_removeFirst 3 (some .int) ∈ zh_WS := ⟨zh_t2 239 (by decide +kernel) (by decide +kernel), zh_t3 0 (by decide +kernel) (by decide +kernel), in2_X0.2, zh_t3 1 rfl rfl⟩
theorem me_X1_init : Cond.instanceMethod yX1_init ∈ zh_WS ∧ Cond.initialized yX1_init.cls ∈ zh_WS ∧ Cond.code yX1_init cX1_init 4 none ∈ zh_WS := ⟨zh_t1 130 (by decide +kernel) (by decide +kernel), in2_X1.2, zh_t1 131 rfl rfl⟩
theorem me_X1_beginCycle : Cond.instanceMethod yX1_beginCycle ∈ zh_WS ∧ Cond.selects yX1_beginCycle.cls yX1_beginCycle yX1_beginCycle ∈ zh_WS ∧ Cond.initialized yX1_beginCycle.cls ∈ zh_WS ∧ Cond.code yX1_beginCycle cX1_beginCycle 3 none ∈ zh_WS := ⟨zh_t2 42 (by decide +kernel) (by decide +kernel), zh_t2 43 (by decide +kernel) (by decide +kernel), in2_X1.2, zh_t2 44 rfl rfl⟩
theorem me_X1_workBeforePlacing : Cond.instanceMethod yX1_workBeforePlacing ∈ zh_WS ∧ Cond.selects yX1_workBeforePlacing.cls yX1_workBeforePlacing yX1_workBeforePlacing ∈ zh_WS ∧ Cond.initialized yX1_workBeforePlacing.cls ∈ zh_WS ∧ Cond.code yX1_workBeforePlacing cX1_workBeforePlacing 2 none ∈ zh_WS := ⟨zh_t2 38 (by decide +kernel) (by decide +kernel), zh_t2 39 (by decide +kernel) (by decide +kernel), in2_X1.2, zh_t2 40 rfl rfl⟩
theorem me_X1_markOfPlaced : Cond.instanceMethod yX1_markOfPlaced ∈ zh_WS ∧ Cond.selects yX1_markOfPlaced.cls yX1_markOfPlaced yX1_markOfPlaced ∈ zh_WS ∧ Cond.initialized yX1_markOfPlaced.cls ∈ zh_WS ∧ Cond.code yX1_markOfPlaced cX1_markOfPlaced 1 (some .int) ∈ zh_WS := ⟨zh_t2 120 (by decide +kernel) (by decide +kernel), zh_t2 121 (by decide +kernel) (by decide +kernel), in2_X1.2, zh_t2 122 rfl rfl⟩
theorem me_X1_finishMarking : Cond.instanceMethod yX1_finishMarking ∈ zh_WS ∧ Cond.selects yX1_finishMarking.cls yX1_finishMarking yX1_finishMarking ∈ zh_WS ∧ Cond.initialized yX1_finishMarking.cls ∈ zh_WS ∧ Cond.code yX1_finishMarking cX1_finishMarking 1 none ∈ zh_WS := ⟨zh_t2 152 (by decide +kernel) (by decide +kernel), zh_t2 153 (by decide +kernel) (by decide +kernel), in2_X1.2, zh_t2 154 rfl rfl⟩
theorem me_X1_work : Cond.instanceMethod yX1_work ∈ zh_WS ∧ Cond.selects yX1_work.cls yX1_work yX1_work ∈ zh_WS ∧ Cond.initialized yX1_work.cls ∈ zh_WS ∧ Cond.code yX1_work cX1_work 4 (some .int) ∈ zh_WS := ⟨zh_t2 71 (by decide +kernel) (by decide +kernel), zh_t2 72 (by decide +kernel) (by decide +kernel), in2_X1.2, zh_t2 73 rfl rfl⟩
theorem me_X1_note : Cond.instanceMethod yX1_note ∈ zh_WS ∧ Cond.selects yX1_note.cls yX1_note yX1_note ∈ zh_WS ∧ Cond.initialized yX1_note.cls ∈ zh_WS ∧ Cond.code yX1_note cX1_note 3 none ∈ zh_WS := ⟨zh_t2 67 (by decide +kernel) (by decide +kernel), zh_t2 68 (by decide +kernel) (by decide +kernel), in2_X1.2, zh_t2 69 rfl rfl⟩
theorem me_X1_workIsLeft : Cond.instanceMethod yX1_workIsLeft ∈ zh_WS ∧ Cond.selects yX1_workIsLeft.cls yX1_workIsLeft yX1_workIsLeft ∈ zh_WS ∧ Cond.initialized yX1_workIsLeft.cls ∈ zh_WS ∧ Cond.code yX1_workIsLeft cX1_workIsLeft 1 (some .boolean) ∈ zh_WS := ⟨zh_t2 79 (by decide +kernel) (by decide +kernel), zh_sel (n := 10) (by decide +kernel) (by decide +kernel), in2_X1.2, zh_t2 80 rfl rfl⟩
theorem me_X1_nextToScan : Cond.instanceMethod yX1_nextToScan ∈ zh_WS ∧ Cond.selects yX1_nextToScan.cls yX1_nextToScan yX1_nextToScan ∈ zh_WS ∧ Cond.initialized yX1_nextToScan.cls ∈ zh_WS ∧ Cond.code yX1_nextToScan cX1_nextToScan 2 (some (.object "FiberHeap$Fiber")) ∈ zh_WS := ⟨zh_t2 83 (by decide +kernel) (by decide +kernel), zh_sel (n := 10) (by decide +kernel) (by decide +kernel), in2_X1.2, zh_t2 84 rfl rfl⟩
theorem me_X1_doPiece : Cond.instanceMethod yX1_doPiece ∈ zh_WS ∧ Cond.selects yX1_doPiece.cls yX1_doPiece yX1_doPiece ∈ zh_WS ∧ Cond.initialized yX1_doPiece.cls ∈ zh_WS ∧ Cond.code yX1_doPiece cX1_doPiece 2 none ∈ zh_WS := ⟨zh_t2 87 (by decide +kernel) (by decide +kernel), zh_sel (n := 10) (by decide +kernel) (by decide +kernel), in2_X1.2, zh_t2 88 rfl rfl⟩
theorem me_X1_scan : Cond.instanceMethod yX1_scan ∈ zh_WS ∧ Cond.selects yX1_scan.cls yX1_scan yX1_scan ∈ zh_WS ∧ Cond.initialized yX1_scan.cls ∈ zh_WS ∧ Cond.code yX1_scan cX1_scan 3 none ∈ zh_WS := ⟨zh_t2 91 (by decide +kernel) (by decide +kernel), zh_sel (n := 10) (by decide +kernel) (by decide +kernel), in2_X1.2, zh_t2 92 rfl rfl⟩
theorem me_X1_lookAt : Cond.instanceMethod yX1_lookAt ∈ zh_WS ∧ Cond.selects yX1_lookAt.cls yX1_lookAt yX1_lookAt ∈ zh_WS ∧ Cond.initialized yX1_lookAt.cls ∈ zh_WS ∧ Cond.code yX1_lookAt cX1_lookAt 4 none ∈ zh_WS := ⟨zh_t2 99 (by decide +kernel) (by decide +kernel), zh_sel (n := 10) (by decide +kernel) (by decide +kernel), in2_X1.2, zh_t2 100 rfl rfl⟩
theorem me_X1_endMarking : Cond.instanceMethod yX1_endMarking ∈ zh_WS ∧ Cond.selects yX1_endMarking.cls yX1_endMarking yX1_endMarking ∈ zh_WS ∧ Cond.initialized yX1_endMarking.cls ∈ zh_WS ∧ Cond.code yX1_endMarking cX1_endMarking 1 none ∈ zh_WS := ⟨zh_t2 103 (by decide +kernel) (by decide +kernel), zh_sel (n := 10) (by decide +kernel) (by decide +kernel), in2_X1.2, zh_t2 104 rfl rfl⟩
theorem me_X2_init : Cond.instanceMethod yX2_init ∈ zh_WS ∧ Cond.initialized yX2_init.cls ∈ zh_WS ∧ Cond.code yX2_init cX2_init 1 none ∈ zh_WS := ⟨zh_t1 58 (by decide +kernel) (by decide +kernel), in2_X2.2, zh_t1 59 rfl rfl⟩
theorem me_X2_beginToLive : Cond.instanceMethod yX2_beginToLive ∈ zh_WS ∧ Cond.selects yX2_beginToLive.cls yX2_beginToLive yX2_beginToLive ∈ zh_WS ∧ Cond.initialized yX2_beginToLive.cls ∈ zh_WS ∧ Cond.code yX2_beginToLive cX2_beginToLive 3 none ∈ zh_WS := ⟨zh_t1 170 (by decide +kernel) (by decide +kernel), zh_t1 171 (by decide +kernel) (by decide +kernel), in2_X2.2, zh_t1 172 rfl rfl⟩
theorem me_X2_cellIndex : Cond.instanceMethod yX2_cellIndex ∈ zh_WS ∧ Cond.selects yX2_cellIndex.cls yX2_cellIndex yX2_cellIndex ∈ zh_WS ∧ Cond.initialized yX2_cellIndex.cls ∈ zh_WS ∧ Cond.code yX2_cellIndex cX2_cellIndex 2 (some .int) ∈ zh_WS := ⟨zh_t1 214 (by decide +kernel) (by decide +kernel), zh_t1 215 (by decide +kernel) (by decide +kernel), in2_X2.2, zh_t1 216 rfl rfl⟩
theorem me_X2_isCell : Cond.instanceMethod yX2_isCell ∈ zh_WS ∧ Cond.selects yX2_isCell.cls yX2_isCell yX2_isCell ∈ zh_WS ∧ Cond.initialized yX2_isCell.cls ∈ zh_WS ∧ Cond.code yX2_isCell cX2_isCell 2 (some .boolean) ∈ zh_WS := ⟨zh_t1 210 (by decide +kernel) (by decide +kernel), zh_t1 211 (by decide +kernel) (by decide +kernel), in2_X2.2, zh_t1 212 rfl rfl⟩
theorem me_X2_isSource : Cond.instanceMethod yX2_isSource ∈ zh_WS ∧ Cond.selects yX2_isSource.cls yX2_isSource yX2_isSource ∈ zh_WS ∧ Cond.initialized yX2_isSource.cls ∈ zh_WS ∧ Cond.code yX2_isSource cX2_isSource 2 (some .boolean) ∈ zh_WS := ⟨zh_t1 206 (by decide +kernel) (by decide +kernel), zh_t1 207 (by decide +kernel) (by decide +kernel), in2_X2.2, zh_t1 208 rfl rfl⟩
theorem me_X2_pointerFrom : Cond.instanceMethod yX2_pointerFrom ∈ zh_WS ∧ Cond.selects yX2_pointerFrom.cls yX2_pointerFrom yX2_pointerFrom ∈ zh_WS ∧ Cond.initialized yX2_pointerFrom.cls ∈ zh_WS ∧ Cond.code yX2_pointerFrom cX2_pointerFrom 3 (some .int) ∈ zh_WS := ⟨zh_t1 218 (by decide +kernel) (by decide +kernel), zh_t1 219 (by decide +kernel) (by decide +kernel), in2_X2.2, zh_t1 220 rfl rfl⟩
theorem me_X2_fillCell : Cond.instanceMethod yX2_fillCell ∈ zh_WS ∧ Cond.selects yX2_fillCell.cls yX2_fillCell yX2_fillCell ∈ zh_WS ∧ Cond.initialized yX2_fillCell.cls ∈ zh_WS ∧ Cond.code yX2_fillCell cX2_fillCell 4 none ∈ zh_WS := ⟨zh_t2 27 (by decide +kernel) (by decide +kernel), zh_t2 28 (by decide +kernel) (by decide +kernel), in2_X2.2, zh_t2 29 rfl rfl⟩
theorem me_X2_addFrame : Cond.instanceMethod yX2_addFrame ∈ zh_WS ∧ Cond.selects yX2_addFrame.cls yX2_addFrame yX2_addFrame ∈ zh_WS ∧ Cond.initialized yX2_addFrame.cls ∈ zh_WS ∧ Cond.code yX2_addFrame cX2_addFrame 1 none ∈ zh_WS := ⟨zh_t1 238 (by decide +kernel) (by decide +kernel), zh_t1 239 (by decide +kernel) (by decide +kernel), in2_X2.2, zh_t2 0 rfl rfl⟩
theorem me_X2_dropFrame : Cond.instanceMethod yX2_dropFrame ∈ zh_WS ∧ Cond.selects yX2_dropFrame.cls yX2_dropFrame yX2_dropFrame ∈ zh_WS ∧ Cond.initialized yX2_dropFrame.cls ∈ zh_WS ∧ Cond.code yX2_dropFrame cX2_dropFrame 2 none ∈ zh_WS := ⟨zh_t2 13 (by decide +kernel) (by decide +kernel), zh_t2 14 (by decide +kernel) (by decide +kernel), in2_X2.2, zh_t2 15 rfl rfl⟩
theorem me_X2_shrinkRoom : Cond.instanceMethod yX2_shrinkRoom ∈ zh_WS ∧ Cond.selects yX2_shrinkRoom.cls yX2_shrinkRoom yX2_shrinkRoom ∈ zh_WS ∧ Cond.initialized yX2_shrinkRoom.cls ∈ zh_WS ∧ Cond.code yX2_shrinkRoom cX2_shrinkRoom 1 none ∈ zh_WS := ⟨zh_t2 94 (by decide +kernel) (by decide +kernel), zh_t2 95 (by decide +kernel) (by decide +kernel), in2_X2.2, zh_t2 96 rfl rfl⟩
theorem me_X2_moveTo : Cond.instanceMethod yX2_moveTo ∈ zh_WS ∧ Cond.selects yX2_moveTo.cls yX2_moveTo yX2_moveTo ∈ zh_WS ∧ Cond.initialized yX2_moveTo.cls ∈ zh_WS ∧ Cond.code yX2_moveTo cX2_moveTo 2 none ∈ zh_WS := ⟨zh_t2 3 (by decide +kernel) (by decide +kernel), zh_sel (n := 12) (by decide +kernel) (by decide +kernel), in2_X2.2, zh_t2 4 rfl rfl⟩
theorem me_X2_beginToWait : Cond.instanceMethod yX2_beginToWait ∈ zh_WS ∧ Cond.selects yX2_beginToWait.cls yX2_beginToWait yX2_beginToWait ∈ zh_WS ∧ Cond.initialized yX2_beginToWait.cls ∈ zh_WS ∧ Cond.code yX2_beginToWait cX2_beginToWait 6 none ∈ zh_WS := ⟨zh_t2 219 (by decide +kernel) (by decide +kernel), zh_t2 220 (by decide +kernel) (by decide +kernel), in2_X2.2, zh_t2 221 rfl rfl⟩
theorem me_X2_waitsAt : Cond.instanceMethod yX2_waitsAt ∈ zh_WS ∧ Cond.selects yX2_waitsAt.cls yX2_waitsAt yX2_waitsAt ∈ zh_WS ∧ Cond.initialized yX2_waitsAt.cls ∈ zh_WS ∧ Cond.code yX2_waitsAt cX2_waitsAt 3 (some .boolean) ∈ zh_WS := ⟨zh_t2 198 (by decide +kernel) (by decide +kernel), zh_t2 199 (by decide +kernel) (by decide +kernel), in2_X2.2, zh_t2 200 rfl rfl⟩
theorem me_X2_endSending : Cond.instanceMethod yX2_endSending ∈ zh_WS ∧ Cond.selects yX2_endSending.cls yX2_endSending yX2_endSending ∈ zh_WS ∧ Cond.initialized yX2_endSending.cls ∈ zh_WS ∧ Cond.code yX2_endSending cX2_endSending 1 (some .int) ∈ zh_WS := ⟨zh_t2 235 (by decide +kernel) (by decide +kernel), zh_t2 236 (by decide +kernel) (by decide +kernel), in2_X2.2, zh_t2 237 rfl rfl⟩
theorem me_X2_endTaking : Cond.instanceMethod yX2_endTaking ∈ zh_WS ∧ Cond.selects yX2_endTaking.cls yX2_endTaking yX2_endTaking ∈ zh_WS ∧ Cond.initialized yX2_endTaking.cls ∈ zh_WS ∧ Cond.code yX2_endTaking cX2_endTaking 3 none ∈ zh_WS := ⟨zh_t2 202 (by decide +kernel) (by decide +kernel), zh_t2 203 (by decide +kernel) (by decide +kernel), in2_X2.2, zh_t2 204 rfl rfl⟩
theorem me_X3_init : Cond.instanceMethod yX3_init ∈ zh_WS ∧ Cond.initialized yX3_init.cls ∈ zh_WS ∧ Cond.code yX3_init cX3_init 1 none ∈ zh_WS := ⟨zh_t1 21 (by decide +kernel) (by decide +kernel), in2_X3.2, zh_t1 22 rfl rfl⟩
theorem me_X3_slotWordsFor : Cond.static yX3_slotWordsFor ∈ zh_WS ∧ Cond.initialized yX3_slotWordsFor.cls ∈ zh_WS ∧ Cond.code yX3_slotWordsFor cX3_slotWordsFor 1 (some .int) ∈ zh_WS := ⟨zh_t2 35 (by decide +kernel) (by decide +kernel), in2_X3.2, zh_t2 36 rfl rfl⟩
theorem me_X3_pagesOfSpan : Cond.static yX3_pagesOfSpan ∈ zh_WS ∧ Cond.initialized yX3_pagesOfSpan.cls ∈ zh_WS ∧ Cond.code yX3_pagesOfSpan cX3_pagesOfSpan 1 (some .int) ∈ zh_WS := ⟨zh_t2 54 (by decide +kernel) (by decide +kernel), in2_X3.2, zh_t2 55 rfl rfl⟩
theorem me_X3_isPointerWord : Cond.instanceMethod yX3_isPointerWord ∈ zh_WS ∧ Cond.selects yX3_isPointerWord.cls yX3_isPointerWord yX3_isPointerWord ∈ zh_WS ∧ Cond.initialized yX3_isPointerWord.cls ∈ zh_WS ∧ Cond.code yX3_isPointerWord cX3_isPointerWord 3 (some .boolean) ∈ zh_WS := ⟨zh_t2 162 (by decide +kernel) (by decide +kernel), zh_t2 163 (by decide +kernel) (by decide +kernel), in2_X3.2, zh_t2 164 rfl rfl⟩
theorem me_X3_isIntWord : Cond.instanceMethod yX3_isIntWord ∈ zh_WS ∧ Cond.selects yX3_isIntWord.cls yX3_isIntWord yX3_isIntWord ∈ zh_WS ∧ Cond.initialized yX3_isIntWord.cls ∈ zh_WS ∧ Cond.code yX3_isIntWord cX3_isIntWord 3 (some .boolean) ∈ zh_WS := ⟨zh_t2 179 (by decide +kernel) (by decide +kernel), zh_t2 180 (by decide +kernel) (by decide +kernel), in2_X3.2, zh_t2 181 rfl rfl⟩
theorem me_X3_place : Cond.instanceMethod yX3_place ∈ zh_WS ∧ Cond.selects yX3_place.cls yX3_place yX3_place ∈ zh_WS ∧ Cond.initialized yX3_place.cls ∈ zh_WS ∧ Cond.code yX3_place cX3_place 6 (some .int) ∈ zh_WS := ⟨zh_t2 124 (by decide +kernel) (by decide +kernel), zh_t2 125 (by decide +kernel) (by decide +kernel), in2_X3.2, zh_t2 126 rfl rfl⟩
theorem me_X3_slotInSpans : Cond.instanceMethod yX3_slotInSpans ∈ zh_WS ∧ Cond.selects yX3_slotInSpans.cls yX3_slotInSpans yX3_slotInSpans ∈ zh_WS ∧ Cond.initialized yX3_slotInSpans.cls ∈ zh_WS ∧ Cond.code yX3_slotInSpans cX3_slotInSpans 4 (some .int) ∈ zh_WS := ⟨zh_t2 129 (by decide +kernel) (by decide +kernel), zh_sel (n := 7) (by decide +kernel) (by decide +kernel), in2_X3.2, zh_t2 130 rfl rfl⟩
theorem me_X3_openSlot : Cond.instanceMethod yX3_openSlot ∈ zh_WS ∧ Cond.selects yX3_openSlot.cls yX3_openSlot yX3_openSlot ∈ zh_WS ∧ Cond.initialized yX3_openSlot.cls ∈ zh_WS ∧ Cond.code yX3_openSlot cX3_openSlot 5 (some .int) ∈ zh_WS := ⟨zh_t2 133 (by decide +kernel) (by decide +kernel), zh_sel (n := 7) (by decide +kernel) (by decide +kernel), in2_X3.2, zh_t2 134 rfl rfl⟩
theorem me_X3_slotInNewSpan : Cond.instanceMethod yX3_slotInNewSpan ∈ zh_WS ∧ Cond.selects yX3_slotInNewSpan.cls yX3_slotInNewSpan yX3_slotInNewSpan ∈ zh_WS ∧ Cond.initialized yX3_slotInNewSpan.cls ∈ zh_WS ∧ Cond.code yX3_slotInNewSpan cX3_slotInNewSpan 4 (some .int) ∈ zh_WS := ⟨zh_t2 137 (by decide +kernel) (by decide +kernel), zh_sel (n := 7) (by decide +kernel) (by decide +kernel), in2_X3.2, zh_t2 138 rfl rfl⟩
theorem me_X3_shortestRun : Cond.instanceMethod yX3_shortestRun ∈ zh_WS ∧ Cond.selects yX3_shortestRun.cls yX3_shortestRun yX3_shortestRun ∈ zh_WS ∧ Cond.initialized yX3_shortestRun.cls ∈ zh_WS ∧ Cond.code yX3_shortestRun cX3_shortestRun 6 (some .int) ∈ zh_WS := ⟨zh_t2 141 (by decide +kernel) (by decide +kernel), zh_sel (n := 7) (by decide +kernel) (by decide +kernel), in2_X3.2, zh_t2 142 rfl rfl⟩
theorem me_X3_endsRun : Cond.instanceMethod yX3_endsRun ∈ zh_WS ∧ Cond.selects yX3_endsRun.cls yX3_endsRun yX3_endsRun ∈ zh_WS ∧ Cond.initialized yX3_endsRun.cls ∈ zh_WS ∧ Cond.code yX3_endsRun cX3_endsRun 2 (some .boolean) ∈ zh_WS := ⟨zh_t2 145 (by decide +kernel) (by decide +kernel), zh_sel (n := 7) (by decide +kernel) (by decide +kernel), in2_X3.2, zh_t2 146 rfl rfl⟩
theorem me_X3_fillSlot : Cond.instanceMethod yX3_fillSlot ∈ zh_WS ∧ Cond.selects yX3_fillSlot.cls yX3_fillSlot yX3_fillSlot ∈ zh_WS ∧ Cond.initialized yX3_fillSlot.cls ∈ zh_WS ∧ Cond.code yX3_fillSlot cX3_fillSlot 6 none ∈ zh_WS := ⟨zh_t2 149 (by decide +kernel) (by decide +kernel), zh_sel (n := 7) (by decide +kernel) (by decide +kernel), in2_X3.2, zh_t2 150 rfl rfl⟩
theorem me_X3_sweepSpans : Cond.instanceMethod yX3_sweepSpans ∈ zh_WS ∧ Cond.selects yX3_sweepSpans.cls yX3_sweepSpans yX3_sweepSpans ∈ zh_WS ∧ Cond.initialized yX3_sweepSpans.cls ∈ zh_WS ∧ Cond.code yX3_sweepSpans cX3_sweepSpans 4 (some .int) ∈ zh_WS := ⟨zh_t2 46 (by decide +kernel) (by decide +kernel), zh_t2 47 (by decide +kernel) (by decide +kernel), in2_X3.2, zh_t2 48 rfl rfl⟩
theorem me_X3_sweepSpan : Cond.instanceMethod yX3_sweepSpan ∈ zh_WS ∧ Cond.selects yX3_sweepSpan.cls yX3_sweepSpan yX3_sweepSpan ∈ zh_WS ∧ Cond.initialized yX3_sweepSpan.cls ∈ zh_WS ∧ Cond.code yX3_sweepSpan cX3_sweepSpan 4 none ∈ zh_WS := ⟨zh_t2 51 (by decide +kernel) (by decide +kernel), zh_sel (n := 7) (by decide +kernel) (by decide +kernel), in2_X3.2, zh_t2 52 rfl rfl⟩
theorem me_X3_fillPages : Cond.instanceMethod yX3_fillPages ∈ zh_WS ∧ Cond.selects yX3_fillPages.cls yX3_fillPages yX3_fillPages ∈ zh_WS ∧ Cond.initialized yX3_fillPages.cls ∈ zh_WS ∧ Cond.code yX3_fillPages cX3_fillPages 5 none ∈ zh_WS := ⟨zh_t2 61 (by decide +kernel) (by decide +kernel), zh_sel (n := 7) (by decide +kernel) (by decide +kernel), in2_X3.2, zh_t2 62 rfl rfl⟩
theorem me_X3_leaveAllUnswept : Cond.instanceMethod yX3_leaveAllUnswept ∈ zh_WS ∧ Cond.selects yX3_leaveAllUnswept.cls yX3_leaveAllUnswept yX3_leaveAllUnswept ∈ zh_WS ∧ Cond.initialized yX3_leaveAllUnswept.cls ∈ zh_WS ∧ Cond.code yX3_leaveAllUnswept cX3_leaveAllUnswept 2 none ∈ zh_WS := ⟨zh_t2 106 (by decide +kernel) (by decide +kernel), zh_t2 107 (by decide +kernel) (by decide +kernel), in2_X3.2, zh_t2 108 rfl rfl⟩
theorem me_X3_takenSlots : Cond.instanceMethod yX3_takenSlots ∈ zh_WS ∧ Cond.selects yX3_takenSlots.cls yX3_takenSlots yX3_takenSlots ∈ zh_WS ∧ Cond.initialized yX3_takenSlots.cls ∈ zh_WS ∧ Cond.code yX3_takenSlots cX3_takenSlots 3 (some .int) ∈ zh_WS := ⟨zh_t3 24 (by decide +kernel) (by decide +kernel), zh_t3 25 (by decide +kernel) (by decide +kernel), in2_X3.2, zh_t3 26 rfl rfl⟩
theorem me_X3_takenWords : Cond.instanceMethod yX3_takenWords ∈ zh_WS ∧ Cond.selects yX3_takenWords.cls yX3_takenWords yX3_takenWords ∈ zh_WS ∧ Cond.initialized yX3_takenWords.cls ∈ zh_WS ∧ Cond.code yX3_takenWords cX3_takenWords 3 (some .int) ∈ zh_WS := ⟨zh_t3 28 (by decide +kernel) (by decide +kernel), zh_t3 29 (by decide +kernel) (by decide +kernel), in2_X3.2, zh_t3 30 rfl rfl⟩
theorem me_X3_keptWords : Cond.instanceMethod yX3_keptWords ∈ zh_WS ∧ Cond.selects yX3_keptWords.cls yX3_keptWords yX3_keptWords ∈ zh_WS ∧ Cond.initialized yX3_keptWords.cls ∈ zh_WS ∧ Cond.code yX3_keptWords cX3_keptWords 3 (some .int) ∈ zh_WS := ⟨zh_t2 110 (by decide +kernel) (by decide +kernel), zh_t2 111 (by decide +kernel) (by decide +kernel), in2_X3.2, zh_t2 112 rfl rfl⟩
theorem me_X3_freePages : Cond.instanceMethod yX3_freePages ∈ zh_WS ∧ Cond.selects yX3_freePages.cls yX3_freePages yX3_freePages ∈ zh_WS ∧ Cond.initialized yX3_freePages.cls ∈ zh_WS ∧ Cond.code yX3_freePages cX3_freePages 3 (some .int) ∈ zh_WS := ⟨zh_t3 32 (by decide +kernel) (by decide +kernel), zh_t3 33 (by decide +kernel) (by decide +kernel), in2_X3.2, zh_t3 34 rfl rfl⟩
theorem me_X3_longestRun : Cond.instanceMethod yX3_longestRun ∈ zh_WS ∧ Cond.selects yX3_longestRun.cls yX3_longestRun yX3_longestRun ∈ zh_WS ∧ Cond.initialized yX3_longestRun.cls ∈ zh_WS ∧ Cond.code yX3_longestRun cX3_longestRun 4 (some .int) ∈ zh_WS := ⟨zh_t3 36 (by decide +kernel) (by decide +kernel), zh_t3 37 (by decide +kernel) (by decide +kernel), in2_X3.2, zh_t3 38 rfl rfl⟩
theorem me_X3_unsweptSpans : Cond.instanceMethod yX3_unsweptSpans ∈ zh_WS ∧ Cond.selects yX3_unsweptSpans.cls yX3_unsweptSpans yX3_unsweptSpans ∈ zh_WS ∧ Cond.initialized yX3_unsweptSpans.cls ∈ zh_WS ∧ Cond.code yX3_unsweptSpans cX3_unsweptSpans 3 (some .int) ∈ zh_WS := ⟨zh_t3 40 (by decide +kernel) (by decide +kernel), zh_t3 41 (by decide +kernel) (by decide +kernel), in2_X3.2, zh_t3 42 rfl rfl⟩
theorem me_X4_init : Cond.instanceMethod yX4_init ∈ zh_WS ∧ Cond.initialized yX4_init.cls ∈ zh_WS ∧ Cond.code yX4_init cX4_init 2 none ∈ zh_WS := ⟨zh_t1 13 (by decide +kernel) (by decide +kernel), in2_X4.2, zh_t1 14 rfl rfl⟩
theorem me_X4_spawn : Cond.instanceMethod yX4_spawn ∈ zh_WS ∧ Cond.selects yX4_spawn.cls yX4_spawn yX4_spawn ∈ zh_WS ∧ Cond.initialized yX4_spawn.cls ∈ zh_WS ∧ Cond.code yX4_spawn cX4_spawn 5 (some .int) ∈ zh_WS := ⟨zh_t1 190 (by decide +kernel) (by decide +kernel), zh_t1 191 (by decide +kernel) (by decide +kernel), in2_X4.2, zh_t1 192 rfl rfl⟩
theorem me_X4_end : Cond.instanceMethod yX4_end ∈ zh_WS ∧ Cond.selects yX4_end.cls yX4_end yX4_end ∈ zh_WS ∧ Cond.initialized yX4_end.cls ∈ zh_WS ∧ Cond.code yX4_end cX4_end 2 (some .boolean) ∈ zh_WS := ⟨zh_t1 222 (by decide +kernel) (by decide +kernel), zh_t1 223 (by decide +kernel) (by decide +kernel), in2_X4.2, zh_t1 224 rfl rfl⟩
theorem me_X4_wake : Cond.instanceMethod yX4_wake ∈ zh_WS ∧ Cond.selects yX4_wake.cls yX4_wake yX4_wake ∈ zh_WS ∧ Cond.initialized yX4_wake.cls ∈ zh_WS ∧ Cond.code yX4_wake cX4_wake 2 (some .boolean) ∈ zh_WS := ⟨zh_t1 230 (by decide +kernel) (by decide +kernel), zh_t1 231 (by decide +kernel) (by decide +kernel), in2_X4.2, zh_t1 232 rfl rfl⟩
theorem me_X4_call : Cond.instanceMethod yX4_call ∈ zh_WS ∧ Cond.selects yX4_call.cls yX4_call yX4_call ∈ zh_WS ∧ Cond.initialized yX4_call.cls ∈ zh_WS ∧ Cond.code yX4_call cX4_call 3 (some .boolean) ∈ zh_WS := ⟨zh_t1 234 (by decide +kernel) (by decide +kernel), zh_t1 235 (by decide +kernel) (by decide +kernel), in2_X4.2, zh_t1 236 rfl rfl⟩
theorem me_X4_leave : Cond.instanceMethod yX4_leave ∈ zh_WS ∧ Cond.selects yX4_leave.cls yX4_leave yX4_leave ∈ zh_WS ∧ Cond.initialized yX4_leave.cls ∈ zh_WS ∧ Cond.code yX4_leave cX4_leave 3 (some .boolean) ∈ zh_WS := ⟨zh_t2 9 (by decide +kernel) (by decide +kernel), zh_t2 10 (by decide +kernel) (by decide +kernel), in2_X4.2, zh_t2 11 rfl rfl⟩
theorem me_X4_aim : Cond.instanceMethod yX4_aim ∈ zh_WS ∧ Cond.selects yX4_aim.cls yX4_aim yX4_aim ∈ zh_WS ∧ Cond.initialized yX4_aim.cls ∈ zh_WS ∧ Cond.code yX4_aim cX4_aim 4 (some .boolean) ∈ zh_WS := ⟨zh_t2 17 (by decide +kernel) (by decide +kernel), zh_t2 18 (by decide +kernel) (by decide +kernel), in2_X4.2, zh_t2 19 rfl rfl⟩
theorem me_X4_copy : Cond.instanceMethod yX4_copy ∈ zh_WS ∧ Cond.selects yX4_copy.cls yX4_copy yX4_copy ∈ zh_WS ∧ Cond.initialized yX4_copy.cls ∈ zh_WS ∧ Cond.code yX4_copy cX4_copy 5 (some .boolean) ∈ zh_WS := ⟨zh_t2 22 (by decide +kernel) (by decide +kernel), zh_t2 23 (by decide +kernel) (by decide +kernel), in2_X4.2, zh_t2 24 rfl rfl⟩
theorem me_X4_make : Cond.instanceMethod yX4_make ∈ zh_WS ∧ Cond.selects yX4_make.cls yX4_make yX4_make ∈ zh_WS ∧ Cond.initialized yX4_make.cls ∈ zh_WS ∧ Cond.code yX4_make cX4_make 7 (some .int) ∈ zh_WS := ⟨zh_t2 31 (by decide +kernel) (by decide +kernel), zh_t2 32 (by decide +kernel) (by decide +kernel), in2_X4.2, zh_t2 33 rfl rfl⟩
theorem me_X4_set : Cond.instanceMethod yX4_set ∈ zh_WS ∧ Cond.selects yX4_set.cls yX4_set yX4_set ∈ zh_WS ∧ Cond.initialized yX4_set.cls ∈ zh_WS ∧ Cond.code yX4_set cX4_set 8 (some .boolean) ∈ zh_WS := ⟨zh_t2 158 (by decide +kernel) (by decide +kernel), zh_t2 159 (by decide +kernel) (by decide +kernel), in2_X4.2, zh_t2 160 rfl rfl⟩
theorem me_X4_get : Cond.instanceMethod yX4_get ∈ zh_WS ∧ Cond.selects yX4_get.cls yX4_get yX4_get ∈ zh_WS ∧ Cond.initialized yX4_get.cls ∈ zh_WS ∧ Cond.code yX4_get cX4_get 7 (some .boolean) ∈ zh_WS := ⟨zh_t2 167 (by decide +kernel) (by decide +kernel), zh_t2 168 (by decide +kernel) (by decide +kernel), in2_X4.2, zh_t2 169 rfl rfl⟩
theorem me_X4_store : Cond.instanceMethod yX4_store ∈ zh_WS ∧ Cond.selects yX4_store.cls yX4_store yX4_store ∈ zh_WS ∧ Cond.initialized yX4_store.cls ∈ zh_WS ∧ Cond.code yX4_store cX4_store 6 (some .boolean) ∈ zh_WS := ⟨zh_t2 171 (by decide +kernel) (by decide +kernel), zh_t2 172 (by decide +kernel) (by decide +kernel), in2_X4.2, zh_t2 173 rfl rfl⟩
theorem me_X4_load : Cond.instanceMethod yX4_load ∈ zh_WS ∧ Cond.selects yX4_load.cls yX4_load yX4_load ∈ zh_WS ∧ Cond.initialized yX4_load.cls ∈ zh_WS ∧ Cond.code yX4_load cX4_load 5 (some .int) ∈ zh_WS := ⟨zh_t2 183 (by decide +kernel) (by decide +kernel), zh_t2 184 (by decide +kernel) (by decide +kernel), in2_X4.2, zh_t2 185 rfl rfl⟩
theorem me_X4_send : Cond.instanceMethod yX4_send ∈ zh_WS ∧ Cond.selects yX4_send.cls yX4_send yX4_send ∈ zh_WS ∧ Cond.initialized yX4_send.cls ∈ zh_WS ∧ Cond.code yX4_send cX4_send 7 (some .int) ∈ zh_WS := ⟨zh_t2 187 (by decide +kernel) (by decide +kernel), zh_t2 188 (by decide +kernel) (by decide +kernel), in2_X4.2, zh_t2 189 rfl rfl⟩
theorem me_X4_take : Cond.instanceMethod yX4_take ∈ zh_WS ∧ Cond.selects yX4_take.cls yX4_take yX4_take ∈ zh_WS ∧ Cond.initialized yX4_take.cls ∈ zh_WS ∧ Cond.code yX4_take cX4_take 7 (some .int) ∈ zh_WS := ⟨zh_t2 223 (by decide +kernel) (by decide +kernel), zh_t2 224 (by decide +kernel) (by decide +kernel), in2_X4.2, zh_t2 225 rfl rfl⟩
theorem me_X4_mark : Cond.instanceMethod yX4_mark ∈ zh_WS ∧ Cond.selects yX4_mark.cls yX4_mark yX4_mark ∈ zh_WS ∧ Cond.initialized yX4_mark.cls ∈ zh_WS ∧ Cond.code yX4_mark cX4_mark 2 (some .int) ∈ zh_WS := ⟨zh_t3 3 (by decide +kernel) (by decide +kernel), zh_t3 4 (by decide +kernel) (by decide +kernel), in2_X4.2, zh_t3 5 rfl rfl⟩
theorem me_X4_sweep : Cond.instanceMethod yX4_sweep ∈ zh_WS ∧ Cond.selects yX4_sweep.cls yX4_sweep yX4_sweep ∈ zh_WS ∧ Cond.initialized yX4_sweep.cls ∈ zh_WS ∧ Cond.code yX4_sweep cX4_sweep 2 (some .int) ∈ zh_WS := ⟨zh_t3 8 (by decide +kernel) (by decide +kernel), zh_t3 9 (by decide +kernel) (by decide +kernel), in2_X4.2, zh_t3 10 rfl rfl⟩
theorem me_X4_collect : Cond.instanceMethod yX4_collect ∈ zh_WS ∧ Cond.selects yX4_collect.cls yX4_collect yX4_collect ∈ zh_WS ∧ Cond.initialized yX4_collect.cls ∈ zh_WS ∧ Cond.code yX4_collect cX4_collect 1 (some .boolean) ∈ zh_WS := ⟨zh_t3 12 (by decide +kernel) (by decide +kernel), zh_t3 13 (by decide +kernel) (by decide +kernel), in2_X4.2, zh_t3 14 rfl rfl⟩
theorem me_X4_fiber : Cond.instanceMethod yX4_fiber ∈ zh_WS ∧ Cond.selects yX4_fiber.cls yX4_fiber yX4_fiber ∈ zh_WS ∧ Cond.initialized yX4_fiber.cls ∈ zh_WS ∧ Cond.code yX4_fiber cX4_fiber 4 (some .int) ∈ zh_WS := ⟨zh_t3 16 (by decide +kernel) (by decide +kernel), zh_t3 17 (by decide +kernel) (by decide +kernel), in2_X4.2, zh_t3 18 rfl rfl⟩
theorem me_X4_count : Cond.instanceMethod yX4_count ∈ zh_WS ∧ Cond.selects yX4_count.cls yX4_count yX4_count ∈ zh_WS ∧ Cond.initialized yX4_count.cls ∈ zh_WS ∧ Cond.code yX4_count cX4_count 2 (some .int) ∈ zh_WS := ⟨zh_t3 20 (by decide +kernel) (by decide +kernel), zh_t3 21 (by decide +kernel) (by decide +kernel), in2_X4.2, zh_t3 22 rfl rfl⟩
theorem me_X4_page : Cond.instanceMethod yX4_page ∈ zh_WS ∧ Cond.selects yX4_page.cls yX4_page yX4_page ∈ zh_WS ∧ Cond.initialized yX4_page.cls ∈ zh_WS ∧ Cond.code yX4_page cX4_page 2 (some .int) ∈ zh_WS := ⟨zh_t3 48 (by decide +kernel) (by decide +kernel), zh_t3 49 (by decide +kernel) (by decide +kernel), in2_X4.2, zh_t3 50 rfl rfl⟩
theorem me_X4_lives : Cond.instanceMethod yX4_lives ∈ zh_WS ∧ Cond.selects yX4_lives.cls yX4_lives yX4_lives ∈ zh_WS ∧ Cond.initialized yX4_lives.cls ∈ zh_WS ∧ Cond.code yX4_lives cX4_lives 2 (some .boolean) ∈ zh_WS := ⟨zh_t1 199 (by decide +kernel) (by decide +kernel), zh_sel (n := 5) (by decide +kernel) (by decide +kernel), in2_X4.2, zh_t1 200 rfl rfl⟩
theorem me_X4_readyFiber : Cond.instanceMethod yX4_readyFiber ∈ zh_WS ∧ Cond.selects yX4_readyFiber.cls yX4_readyFiber yX4_readyFiber ∈ zh_WS ∧ Cond.initialized yX4_readyFiber.cls ∈ zh_WS ∧ Cond.code yX4_readyFiber cX4_readyFiber 2 (some (.object "FiberHeap$Fiber")) ∈ zh_WS := ⟨zh_t1 195 (by decide +kernel) (by decide +kernel), zh_sel (n := 5) (by decide +kernel) (by decide +kernel), in2_X4.2, zh_t1 196 rfl rfl⟩
theorem me_X4_livingFibers : Cond.instanceMethod yX4_livingFibers ∈ zh_WS ∧ Cond.selects yX4_livingFibers.cls yX4_livingFibers yX4_livingFibers ∈ zh_WS ∧ Cond.initialized yX4_livingFibers.cls ∈ zh_WS ∧ Cond.code yX4_livingFibers cX4_livingFibers 3 (some .int) ∈ zh_WS := ⟨zh_t1 227 (by decide +kernel) (by decide +kernel), zh_sel (n := 5) (by decide +kernel) (by decide +kernel), in2_X4.2, zh_t1 228 rfl rfl⟩
theorem me_X4_lowestGoneFiber : Cond.instanceMethod yX4_lowestGoneFiber ∈ zh_WS ∧ Cond.selects yX4_lowestGoneFiber.cls yX4_lowestGoneFiber yX4_lowestGoneFiber ∈ zh_WS ∧ Cond.initialized yX4_lowestGoneFiber.cls ∈ zh_WS ∧ Cond.code yX4_lowestGoneFiber cX4_lowestGoneFiber 2 (some .int) ∈ zh_WS := ⟨zh_t1 203 (by decide +kernel) (by decide +kernel), zh_sel (n := 5) (by decide +kernel) (by decide +kernel), in2_X4.2, zh_t1 204 rfl rfl⟩
theorem me_X4_copiedFrames : Cond.instanceMethod yX4_copiedFrames ∈ zh_WS ∧ Cond.selects yX4_copiedFrames.cls yX4_copiedFrames yX4_copiedFrames ∈ zh_WS ∧ Cond.initialized yX4_copiedFrames.cls ∈ zh_WS ∧ Cond.code yX4_copiedFrames cX4_copiedFrames 3 (some .int) ∈ zh_WS := ⟨zh_t3 45 (by decide +kernel) (by decide +kernel), zh_sel (n := 5) (by decide +kernel) (by decide +kernel), in2_X4.2, zh_t3 46 rfl rfl⟩
theorem me_X4_placeAtAnyCost : Cond.instanceMethod yX4_placeAtAnyCost ∈ zh_WS ∧ Cond.selects yX4_placeAtAnyCost.cls yX4_placeAtAnyCost yX4_placeAtAnyCost ∈ zh_WS ∧ Cond.initialized yX4_placeAtAnyCost.cls ∈ zh_WS ∧ Cond.code yX4_placeAtAnyCost cX4_placeAtAnyCost 4 (some .int) ∈ zh_WS := ⟨zh_t2 117 (by decide +kernel) (by decide +kernel), zh_sel (n := 5) (by decide +kernel) (by decide +kernel), in2_X4.2, zh_t2 118 rfl rfl⟩
theorem me_X4_intWordIndex : Cond.instanceMethod yX4_intWordIndex ∈ zh_WS ∧ Cond.selects yX4_intWordIndex.cls yX4_intWordIndex yX4_intWordIndex ∈ zh_WS ∧ Cond.initialized yX4_intWordIndex.cls ∈ zh_WS ∧ Cond.code yX4_intWordIndex cX4_intWordIndex 6 (some .int) ∈ zh_WS := ⟨zh_t2 176 (by decide +kernel) (by decide +kernel), zh_sel (n := 5) (by decide +kernel) (by decide +kernel), in2_X4.2, zh_t2 177 rfl rfl⟩
theorem me_X4_isChannel : Cond.static yX4_isChannel ∈ zh_WS ∧ Cond.initialized yX4_isChannel.cls ∈ zh_WS ∧ Cond.code yX4_isChannel cX4_isChannel 1 (some .boolean) ∈ zh_WS := ⟨zh_t2 191 (by decide +kernel) (by decide +kernel), in2_X4.2, zh_t2 192 rfl rfl⟩
theorem me_X4_newTicket : Cond.instanceMethod yX4_newTicket ∈ zh_WS ∧ Cond.selects yX4_newTicket.cls yX4_newTicket yX4_newTicket ∈ zh_WS ∧ Cond.initialized yX4_newTicket.cls ∈ zh_WS ∧ Cond.code yX4_newTicket cX4_newTicket 1 (some .int) ∈ zh_WS := ⟨zh_t2 216 (by decide +kernel) (by decide +kernel), zh_sel (n := 5) (by decide +kernel) (by decide +kernel), in2_X4.2, zh_t2 217 rfl rfl⟩
theorem me_X4_firstWaiting : Cond.instanceMethod yX4_firstWaiting ∈ zh_WS ∧ Cond.selects yX4_firstWaiting.cls yX4_firstWaiting yX4_firstWaiting ∈ zh_WS ∧ Cond.initialized yX4_firstWaiting.cls ∈ zh_WS ∧ Cond.code yX4_firstWaiting cX4_firstWaiting 6 (some (.object "FiberHeap$Fiber")) ∈ zh_WS := ⟨zh_t2 195 (by decide +kernel) (by decide +kernel), zh_sel (n := 5) (by decide +kernel) (by decide +kernel), in2_X4.2, zh_t2 196 rfl rfl⟩
theorem me_X4_canGive : Cond.instanceMethod yX4_canGive ∈ zh_WS ∧ Cond.selects yX4_canGive.cls yX4_canGive yX4_canGive ∈ zh_WS ∧ Cond.initialized yX4_canGive.cls ∈ zh_WS ∧ Cond.code yX4_canGive cX4_canGive 2 (some .boolean) ∈ zh_WS := ⟨zh_t2 228 (by decide +kernel) (by decide +kernel), zh_sel (n := 5) (by decide +kernel) (by decide +kernel), in2_X4.2, zh_t2 229 rfl rfl⟩
theorem me_X4_pointerOutOf : Cond.instanceMethod yX4_pointerOutOf ∈ zh_WS ∧ Cond.selects yX4_pointerOutOf.cls yX4_pointerOutOf yX4_pointerOutOf ∈ zh_WS ∧ Cond.initialized yX4_pointerOutOf.cls ∈ zh_WS ∧ Cond.code yX4_pointerOutOf cX4_pointerOutOf 6 (some .int) ∈ zh_WS := ⟨zh_t2 232 (by decide +kernel) (by decide +kernel), zh_sel (n := 5) (by decide +kernel) (by decide +kernel), in2_X4.2, zh_t2 233 rfl rfl⟩
theorem me_X5_init : Cond.instanceMethod yX5_init ∈ zh_WS ∧ Cond.initialized yX5_init.cls ∈ zh_WS ∧ Cond.code yX5_init cX5_init 1 none ∈ zh_WS := ⟨zh_t3 54 (by decide +kernel) (by decide +kernel), in2_X5.2, zh_t3 55 rfl rfl⟩
theorem me_X5_begin : Cond.instanceMethod yX5_begin ∈ zh_WS ∧ Cond.selects yX5_begin.cls yX5_begin yX5_begin ∈ zh_WS ∧ Cond.initialized yX5_begin.cls ∈ zh_WS ∧ Cond.code yX5_begin cX5_begin 4 none ∈ zh_WS := ⟨zh_t3 59 (by decide +kernel) (by decide +kernel), zh_sel (n := 31) (by decide +kernel) (by decide +kernel), in2_X5.2, zh_t3 60 rfl rfl⟩
theorem me_X5_lives : Cond.instanceMethod yX5_lives ∈ zh_WS ∧ Cond.selects yX5_lives.cls yX5_lives yX5_lives ∈ zh_WS ∧ Cond.initialized yX5_lives.cls ∈ zh_WS ∧ Cond.code yX5_lives cX5_lives 2 (some .boolean) ∈ zh_WS := ⟨zh_t3 169 (by decide +kernel) (by decide +kernel), zh_sel (n := 31) (by decide +kernel) (by decide +kernel), in2_X5.2, zh_t3 170 rfl rfl⟩
theorem me_X5_ready : Cond.instanceMethod yX5_ready ∈ zh_WS ∧ Cond.selects yX5_ready.cls yX5_ready yX5_ready ∈ zh_WS ∧ Cond.initialized yX5_ready.cls ∈ zh_WS ∧ Cond.code yX5_ready cX5_ready 2 (some .boolean) ∈ zh_WS := ⟨zh_t3 165 (by decide +kernel) (by decide +kernel), zh_sel (n := 31) (by decide +kernel) (by decide +kernel), in2_X5.2, zh_t3 166 rfl rfl⟩
theorem me_X5_place : Cond.instanceMethod yX5_place ∈ zh_WS ∧ Cond.selects yX5_place.cls yX5_place yX5_place ∈ zh_WS ∧ Cond.initialized yX5_place.cls ∈ zh_WS ∧ Cond.code yX5_place cX5_place 5 (some .int) ∈ zh_WS := ⟨zh_t3 173 (by decide +kernel) (by decide +kernel), zh_sel (n := 31) (by decide +kernel) (by decide +kernel), in2_X5.2, zh_t3 174 rfl rfl⟩
theorem me_X5_cell : Cond.instanceMethod yX5_cell ∈ zh_WS ∧ Cond.selects yX5_cell.cls yX5_cell yX5_cell ∈ zh_WS ∧ Cond.initialized yX5_cell.cls ∈ zh_WS ∧ Cond.code yX5_cell cX5_cell 4 (some .boolean) ∈ zh_WS := ⟨zh_t3 161 (by decide +kernel) (by decide +kernel), zh_sel (n := 31) (by decide +kernel) (by decide +kernel), in2_X5.2, zh_t3 162 rfl rfl⟩
theorem me_X5_value : Cond.instanceMethod yX5_value ∈ zh_WS ∧ Cond.selects yX5_value.cls yX5_value yX5_value ∈ zh_WS ∧ Cond.initialized yX5_value.cls ∈ zh_WS ∧ Cond.code yX5_value cX5_value 4 (some .int) ∈ zh_WS := ⟨zh_t3 177 (by decide +kernel) (by decide +kernel), zh_sel (n := 31) (by decide +kernel) (by decide +kernel), in2_X5.2, zh_t3 178 rfl rfl⟩
theorem me_X5_object : Cond.instanceMethod yX5_object ∈ zh_WS ∧ Cond.selects yX5_object.cls yX5_object yX5_object ∈ zh_WS ∧ Cond.initialized yX5_object.cls ∈ zh_WS ∧ Cond.code yX5_object cX5_object 3 (some .int) ∈ zh_WS := ⟨zh_t4 18 (by decide +kernel) (by decide +kernel), zh_sel (n := 31) (by decide +kernel) (by decide +kernel), in2_X5.2, zh_t4 19 rfl rfl⟩
theorem me_X5_note : Cond.instanceMethod yX5_note ∈ zh_WS ∧ Cond.selects yX5_note.cls yX5_note yX5_note ∈ zh_WS ∧ Cond.initialized yX5_note.cls ∈ zh_WS ∧ Cond.code yX5_note cX5_note 2 none ∈ zh_WS := ⟨zh_t3 225 (by decide +kernel) (by decide +kernel), zh_sel (n := 31) (by decide +kernel) (by decide +kernel), in2_X5.2, zh_t3 226 rfl rfl⟩
theorem me_X5_spawn : Cond.instanceMethod yX5_spawn ∈ zh_WS ∧ Cond.selects yX5_spawn.cls yX5_spawn yX5_spawn ∈ zh_WS ∧ Cond.initialized yX5_spawn.cls ∈ zh_WS ∧ Cond.code yX5_spawn cX5_spawn 5 (some .int) ∈ zh_WS := ⟨zh_t3 156 (by decide +kernel) (by decide +kernel), zh_t3 157 (by decide +kernel) (by decide +kernel), in2_X5.2, zh_t3 158 rfl rfl⟩
theorem me_X5_end : Cond.instanceMethod yX5_end ∈ zh_WS ∧ Cond.selects yX5_end.cls yX5_end yX5_end ∈ zh_WS ∧ Cond.initialized yX5_end.cls ∈ zh_WS ∧ Cond.code yX5_end cX5_end 4 (some .boolean) ∈ zh_WS := ⟨zh_t3 180 (by decide +kernel) (by decide +kernel), zh_t3 181 (by decide +kernel) (by decide +kernel), in2_X5.2, zh_t3 182 rfl rfl⟩
theorem me_X5_wake : Cond.instanceMethod yX5_wake ∈ zh_WS ∧ Cond.selects yX5_wake.cls yX5_wake yX5_wake ∈ zh_WS ∧ Cond.initialized yX5_wake.cls ∈ zh_WS ∧ Cond.code yX5_wake cX5_wake 2 (some .boolean) ∈ zh_WS := ⟨zh_t3 184 (by decide +kernel) (by decide +kernel), zh_t3 185 (by decide +kernel) (by decide +kernel), in2_X5.2, zh_t3 186 rfl rfl⟩
theorem me_X5_call : Cond.instanceMethod yX5_call ∈ zh_WS ∧ Cond.selects yX5_call.cls yX5_call yX5_call ∈ zh_WS ∧ Cond.initialized yX5_call.cls ∈ zh_WS ∧ Cond.code yX5_call cX5_call 4 (some .boolean) ∈ zh_WS := ⟨zh_t3 188 (by decide +kernel) (by decide +kernel), zh_t3 189 (by decide +kernel) (by decide +kernel), in2_X5.2, zh_t3 190 rfl rfl⟩
theorem me_X5_leave : Cond.instanceMethod yX5_leave ∈ zh_WS ∧ Cond.selects yX5_leave.cls yX5_leave yX5_leave ∈ zh_WS ∧ Cond.initialized yX5_leave.cls ∈ zh_WS ∧ Cond.code yX5_leave cX5_leave 3 (some .boolean) ∈ zh_WS := ⟨zh_t3 192 (by decide +kernel) (by decide +kernel), zh_t3 193 (by decide +kernel) (by decide +kernel), in2_X5.2, zh_t3 194 rfl rfl⟩
theorem me_X5_aim : Cond.instanceMethod yX5_aim ∈ zh_WS ∧ Cond.selects yX5_aim.cls yX5_aim yX5_aim ∈ zh_WS ∧ Cond.initialized yX5_aim.cls ∈ zh_WS ∧ Cond.code yX5_aim cX5_aim 3 (some .boolean) ∈ zh_WS := ⟨zh_t3 196 (by decide +kernel) (by decide +kernel), zh_t3 197 (by decide +kernel) (by decide +kernel), in2_X5.2, zh_t3 198 rfl rfl⟩
theorem me_X5_copy : Cond.instanceMethod yX5_copy ∈ zh_WS ∧ Cond.selects yX5_copy.cls yX5_copy yX5_copy ∈ zh_WS ∧ Cond.initialized yX5_copy.cls ∈ zh_WS ∧ Cond.code yX5_copy cX5_copy 4 (some .boolean) ∈ zh_WS := ⟨zh_t3 200 (by decide +kernel) (by decide +kernel), zh_t3 201 (by decide +kernel) (by decide +kernel), in2_X5.2, zh_t3 202 rfl rfl⟩
theorem me_X5_slotOf : Cond.instanceMethod yX5_slotOf ∈ zh_WS ∧ Cond.selects yX5_slotOf.cls yX5_slotOf yX5_slotOf ∈ zh_WS ∧ Cond.initialized yX5_slotOf.cls ∈ zh_WS ∧ Cond.code yX5_slotOf cX5_slotOf 2 (some .int) ∈ zh_WS := ⟨zh_t3 209 (by decide +kernel) (by decide +kernel), zh_sel (n := 31) (by decide +kernel) (by decide +kernel), in2_X5.2, zh_t3 210 rfl rfl⟩
theorem me_X5_sweepSpan : Cond.instanceMethod yX5_sweepSpan ∈ zh_WS ∧ Cond.selects yX5_sweepSpan.cls yX5_sweepSpan yX5_sweepSpan ∈ zh_WS ∧ Cond.initialized yX5_sweepSpan.cls ∈ zh_WS ∧ Cond.code yX5_sweepSpan cX5_sweepSpan 5 none ∈ zh_WS := ⟨zh_t3 221 (by decide +kernel) (by decide +kernel), zh_sel (n := 31) (by decide +kernel) (by decide +kernel), in2_X5.2, zh_t3 222 rfl rfl⟩
theorem me_X5_sweepUpTo : Cond.instanceMethod yX5_sweepUpTo ∈ zh_WS ∧ Cond.selects yX5_sweepUpTo.cls yX5_sweepUpTo yX5_sweepUpTo ∈ zh_WS ∧ Cond.initialized yX5_sweepUpTo.cls ∈ zh_WS ∧ Cond.code yX5_sweepUpTo cX5_sweepUpTo 4 (some .int) ∈ zh_WS := ⟨zh_t3 217 (by decide +kernel) (by decide +kernel), zh_sel (n := 31) (by decide +kernel) (by decide +kernel), in2_X5.2, zh_t3 218 rfl rfl⟩
theorem me_X5_runOf : Cond.instanceMethod yX5_runOf ∈ zh_WS ∧ Cond.selects yX5_runOf.cls yX5_runOf yX5_runOf ∈ zh_WS ∧ Cond.initialized yX5_runOf.cls ∈ zh_WS ∧ Cond.code yX5_runOf cX5_runOf 7 (some .int) ∈ zh_WS := ⟨zh_t4 9 (by decide +kernel) (by decide +kernel), zh_sel (n := 31) (by decide +kernel) (by decide +kernel), in2_X5.2, zh_t4 10 rfl rfl⟩
theorem me_X5_seat : Cond.instanceMethod yX5_seat ∈ zh_WS ∧ Cond.selects yX5_seat.cls yX5_seat yX5_seat ∈ zh_WS ∧ Cond.initialized yX5_seat.cls ∈ zh_WS ∧ Cond.code yX5_seat cX5_seat 5 (some .int) ∈ zh_WS := ⟨zh_t4 5 (by decide +kernel) (by decide +kernel), zh_sel (n := 31) (by decide +kernel) (by decide +kernel), in2_X5.2, zh_t4 6 rfl rfl⟩
theorem me_X5_make : Cond.instanceMethod yX5_make ∈ zh_WS ∧ Cond.selects yX5_make.cls yX5_make yX5_make ∈ zh_WS ∧ Cond.initialized yX5_make.cls ∈ zh_WS ∧ Cond.code yX5_make cX5_make 8 (some .int) ∈ zh_WS := ⟨zh_t3 204 (by decide +kernel) (by decide +kernel), zh_t3 205 (by decide +kernel) (by decide +kernel), in2_X5.2, zh_t3 206 rfl rfl⟩
theorem me_X5_set : Cond.instanceMethod yX5_set ∈ zh_WS ∧ Cond.selects yX5_set.cls yX5_set yX5_set ∈ zh_WS ∧ Cond.initialized yX5_set.cls ∈ zh_WS ∧ Cond.code yX5_set cX5_set 7 (some .boolean) ∈ zh_WS := ⟨zh_t4 13 (by decide +kernel) (by decide +kernel), zh_t4 14 (by decide +kernel) (by decide +kernel), in2_X5.2, zh_t4 15 rfl rfl⟩
theorem me_X5_get : Cond.instanceMethod yX5_get ∈ zh_WS ∧ Cond.selects yX5_get.cls yX5_get yX5_get ∈ zh_WS ∧ Cond.initialized yX5_get.cls ∈ zh_WS ∧ Cond.code yX5_get cX5_get 6 (some .boolean) ∈ zh_WS := ⟨zh_t4 21 (by decide +kernel) (by decide +kernel), zh_t4 22 (by decide +kernel) (by decide +kernel), in2_X5.2, zh_t4 23 rfl rfl⟩
theorem me_X5_store : Cond.instanceMethod yX5_store ∈ zh_WS ∧ Cond.selects yX5_store.cls yX5_store yX5_store ∈ zh_WS ∧ Cond.initialized yX5_store.cls ∈ zh_WS ∧ Cond.code yX5_store cX5_store 6 (some .boolean) ∈ zh_WS := ⟨zh_t4 25 (by decide +kernel) (by decide +kernel), zh_t4 26 (by decide +kernel) (by decide +kernel), in2_X5.2, zh_t4 27 rfl rfl⟩
theorem me_X5_load : Cond.instanceMethod yX5_load ∈ zh_WS ∧ Cond.selects yX5_load.cls yX5_load yX5_load ∈ zh_WS ∧ Cond.initialized yX5_load.cls ∈ zh_WS ∧ Cond.code yX5_load cX5_load 5 (some .int) ∈ zh_WS := ⟨zh_t4 29 (by decide +kernel) (by decide +kernel), zh_t4 30 (by decide +kernel) (by decide +kernel), in2_X5.2, zh_t4 31 rfl rfl⟩
theorem me_X5_firstAt : Cond.instanceMethod yX5_firstAt ∈ zh_WS ∧ Cond.selects yX5_firstAt.cls yX5_firstAt yX5_firstAt ∈ zh_WS ∧ Cond.initialized yX5_firstAt.cls ∈ zh_WS ∧ Cond.code yX5_firstAt cX5_firstAt 6 (some .int) ∈ zh_WS := ⟨zh_t4 38 (by decide +kernel) (by decide +kernel), zh_sel (n := 31) (by decide +kernel) (by decide +kernel), in2_X5.2, zh_t4 39 rfl rfl⟩
theorem me_X5_waitFor : Cond.instanceMethod yX5_waitFor ∈ zh_WS ∧ Cond.selects yX5_waitFor.cls yX5_waitFor yX5_waitFor ∈ zh_WS ∧ Cond.initialized yX5_waitFor.cls ∈ zh_WS ∧ Cond.code yX5_waitFor cX5_waitFor 6 none ∈ zh_WS := ⟨zh_t4 50 (by decide +kernel) (by decide +kernel), zh_sel (n := 31) (by decide +kernel) (by decide +kernel), in2_X5.2, zh_t4 51 rfl rfl⟩
theorem me_X5_hand : Cond.instanceMethod yX5_hand ∈ zh_WS ∧ Cond.selects yX5_hand.cls yX5_hand yX5_hand ∈ zh_WS ∧ Cond.initialized yX5_hand.cls ∈ zh_WS ∧ Cond.code yX5_hand cX5_hand 5 none ∈ zh_WS := ⟨zh_t4 42 (by decide +kernel) (by decide +kernel), zh_sel (n := 31) (by decide +kernel) (by decide +kernel), in2_X5.2, zh_t4 43 rfl rfl⟩
theorem me_X5_send : Cond.instanceMethod yX5_send ∈ zh_WS ∧ Cond.selects yX5_send.cls yX5_send yX5_send ∈ zh_WS ∧ Cond.initialized yX5_send.cls ∈ zh_WS ∧ Cond.code yX5_send cX5_send 6 (some .int) ∈ zh_WS := ⟨zh_t4 33 (by decide +kernel) (by decide +kernel), zh_t4 34 (by decide +kernel) (by decide +kernel), in2_X5.2, zh_t4 35 rfl rfl⟩
theorem me_X5_enter : Cond.instanceMethod yX5_enter ∈ zh_WS ∧ Cond.selects yX5_enter.cls yX5_enter yX5_enter ∈ zh_WS ∧ Cond.initialized yX5_enter.cls ∈ zh_WS ∧ Cond.code yX5_enter cX5_enter 3 none ∈ zh_WS := ⟨zh_t4 46 (by decide +kernel) (by decide +kernel), zh_sel (n := 31) (by decide +kernel) (by decide +kernel), in2_X5.2, zh_t4 47 rfl rfl⟩
theorem me_X5_gives : Cond.instanceMethod yX5_gives ∈ zh_WS ∧ Cond.selects yX5_gives.cls yX5_gives yX5_gives ∈ zh_WS ∧ Cond.initialized yX5_gives.cls ∈ zh_WS ∧ Cond.code yX5_gives cX5_gives 8 (some .boolean) ∈ zh_WS := ⟨zh_t4 58 (by decide +kernel) (by decide +kernel), zh_sel (n := 31) (by decide +kernel) (by decide +kernel), in2_X5.2, zh_t4 59 rfl rfl⟩
theorem me_X5_take : Cond.instanceMethod yX5_take ∈ zh_WS ∧ Cond.selects yX5_take.cls yX5_take yX5_take ∈ zh_WS ∧ Cond.initialized yX5_take.cls ∈ zh_WS ∧ Cond.code yX5_take cX5_take 5 (some .int) ∈ zh_WS := ⟨zh_t4 53 (by decide +kernel) (by decide +kernel), zh_t4 54 (by decide +kernel) (by decide +kernel), in2_X5.2, zh_t4 55 rfl rfl⟩
theorem me_X5_cycle : Cond.instanceMethod yX5_cycle ∈ zh_WS ∧ Cond.selects yX5_cycle.cls yX5_cycle yX5_cycle ∈ zh_WS ∧ Cond.initialized yX5_cycle.cls ∈ zh_WS ∧ Cond.code yX5_cycle cX5_cycle 2 none ∈ zh_WS := ⟨zh_t3 213 (by decide +kernel) (by decide +kernel), zh_sel (n := 31) (by decide +kernel) (by decide +kernel), in2_X5.2, zh_t3 214 rfl rfl⟩
theorem me_X5_scan : Cond.instanceMethod yX5_scan ∈ zh_WS ∧ Cond.selects yX5_scan.cls yX5_scan yX5_scan ∈ zh_WS ∧ Cond.initialized yX5_scan.cls ∈ zh_WS ∧ Cond.code yX5_scan cX5_scan 3 none ∈ zh_WS := ⟨zh_t3 233 (by decide +kernel) (by decide +kernel), zh_sel (n := 31) (by decide +kernel) (by decide +kernel), in2_X5.2, zh_t3 234 rfl rfl⟩
theorem me_X5_countDue : Cond.instanceMethod yX5_countDue ∈ zh_WS ∧ Cond.selects yX5_countDue.cls yX5_countDue yX5_countDue ∈ zh_WS ∧ Cond.initialized yX5_countDue.cls ∈ zh_WS ∧ Cond.code yX5_countDue cX5_countDue 7 (some .int) ∈ zh_WS := ⟨zh_t3 237 (by decide +kernel) (by decide +kernel), zh_sel (n := 31) (by decide +kernel) (by decide +kernel), in2_X5.2, zh_t3 238 rfl rfl⟩
theorem me_X5_work : Cond.instanceMethod yX5_work ∈ zh_WS ∧ Cond.selects yX5_work.cls yX5_work yX5_work ∈ zh_WS ∧ Cond.initialized yX5_work.cls ∈ zh_WS ∧ Cond.code yX5_work cX5_work 8 (some .int) ∈ zh_WS := ⟨zh_t3 229 (by decide +kernel) (by decide +kernel), zh_sel (n := 31) (by decide +kernel) (by decide +kernel), in2_X5.2, zh_t3 230 rfl rfl⟩
theorem me_X5_finish : Cond.instanceMethod yX5_finish ∈ zh_WS ∧ Cond.selects yX5_finish.cls yX5_finish yX5_finish ∈ zh_WS ∧ Cond.initialized yX5_finish.cls ∈ zh_WS ∧ Cond.code yX5_finish cX5_finish 3 none ∈ zh_WS := ⟨zh_t4 1 (by decide +kernel) (by decide +kernel), zh_sel (n := 31) (by decide +kernel) (by decide +kernel), in2_X5.2, zh_t4 2 rfl rfl⟩
theorem me_X5_mark : Cond.instanceMethod yX5_mark ∈ zh_WS ∧ Cond.selects yX5_mark.cls yX5_mark yX5_mark ∈ zh_WS ∧ Cond.initialized yX5_mark.cls ∈ zh_WS ∧ Cond.code yX5_mark cX5_mark 2 (some .int) ∈ zh_WS := ⟨zh_t4 61 (by decide +kernel) (by decide +kernel), zh_t4 62 (by decide +kernel) (by decide +kernel), in2_X5.2, zh_t4 63 rfl rfl⟩
theorem me_X5_sweep : Cond.instanceMethod yX5_sweep ∈ zh_WS ∧ Cond.selects yX5_sweep.cls yX5_sweep yX5_sweep ∈ zh_WS ∧ Cond.initialized yX5_sweep.cls ∈ zh_WS ∧ Cond.code yX5_sweep cX5_sweep 2 (some .int) ∈ zh_WS := ⟨zh_t4 65 (by decide +kernel) (by decide +kernel), zh_t4 66 (by decide +kernel) (by decide +kernel), in2_X5.2, zh_t4 67 rfl rfl⟩
theorem me_X5_collect : Cond.instanceMethod yX5_collect ∈ zh_WS ∧ Cond.selects yX5_collect.cls yX5_collect yX5_collect ∈ zh_WS ∧ Cond.initialized yX5_collect.cls ∈ zh_WS ∧ Cond.code yX5_collect cX5_collect 1 (some .boolean) ∈ zh_WS := ⟨zh_t4 69 (by decide +kernel) (by decide +kernel), zh_t4 70 (by decide +kernel) (by decide +kernel), in2_X5.2, zh_t4 71 rfl rfl⟩
theorem me_X5_fiber : Cond.instanceMethod yX5_fiber ∈ zh_WS ∧ Cond.selects yX5_fiber.cls yX5_fiber yX5_fiber ∈ zh_WS ∧ Cond.initialized yX5_fiber.cls ∈ zh_WS ∧ Cond.code yX5_fiber cX5_fiber 4 (some .int) ∈ zh_WS := ⟨zh_t4 73 (by decide +kernel) (by decide +kernel), zh_t4 74 (by decide +kernel) (by decide +kernel), in2_X5.2, zh_t4 75 rfl rfl⟩
theorem me_X5_tally : Cond.instanceMethod yX5_tally ∈ zh_WS ∧ Cond.selects yX5_tally.cls yX5_tally yX5_tally ∈ zh_WS ∧ Cond.initialized yX5_tally.cls ∈ zh_WS ∧ Cond.code yX5_tally cX5_tally 4 (some .int) ∈ zh_WS := ⟨zh_t4 82 (by decide +kernel) (by decide +kernel), zh_sel (n := 31) (by decide +kernel) (by decide +kernel), in2_X5.2, zh_t4 83 rfl rfl⟩
theorem me_X5_count : Cond.instanceMethod yX5_count ∈ zh_WS ∧ Cond.selects yX5_count.cls yX5_count yX5_count ∈ zh_WS ∧ Cond.initialized yX5_count.cls ∈ zh_WS ∧ Cond.code yX5_count cX5_count 2 (some .int) ∈ zh_WS := ⟨zh_t4 77 (by decide +kernel) (by decide +kernel), zh_t4 78 (by decide +kernel) (by decide +kernel), in2_X5.2, zh_t4 79 rfl rfl⟩
theorem me_X5_page : Cond.instanceMethod yX5_page ∈ zh_WS ∧ Cond.selects yX5_page.cls yX5_page yX5_page ∈ zh_WS ∧ Cond.initialized yX5_page.cls ∈ zh_WS ∧ Cond.code yX5_page cX5_page 2 (some .int) ∈ zh_WS := ⟨zh_t4 85 (by decide +kernel) (by decide +kernel), zh_t4 86 (by decide +kernel) (by decide +kernel), in2_X5.2, zh_t4 87 rfl rfl⟩
theorem me_fill : Cond.static yJ_fill ∈ zh_WS ∧ Cond.initialized yJ_fill.cls ∈ zh_WS ∧ Cond.code yJ_fill cJ_fill 4 none ∈ zh_WS := ⟨zh_t2 64 (by decide +kernel) (by decide +kernel), zh_t1 9 (by decide +kernel) (by decide +kernel), zh_t2 65 rfl rfl⟩
