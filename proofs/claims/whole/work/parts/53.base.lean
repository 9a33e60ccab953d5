abbrev zh_LC : Type := Nat × Nat × (Nat → Option Nat)
def zh_ad (base b : Nat) : Nat → Nat
  | 0 => b
  | i + 1 => base + i
def zh_tr (base b : Nat) (v : Value) : Value := match v with
  | .ref i => .ref (zh_ad base b i)
  | v => v
def zh_at (L : List zh_LC) (id : Nat) : Option zh_LC := match id with
  | 0 => none
  | i + 1 => L[i]?
theorem zh_at_some {L : List zh_LC} {id : Nat} {c : zh_LC} (h : zh_at L id = some c) : ∃ i, id = i + 1 ∧ L[i]? = some c := by
  cases id with
  | zero => cases h
  | succ i => exact ⟨i, rfl, h⟩
def zh_fv (base b ci : Nat) (rf : Nat → Option Nat) (f : Nat → Int32) (k : Nat) : Value := if zh_isR ci k = true then va_rf ((rf k).map (zh_ad base b)) else .int (f k)
def zh_E (base b : Nat) (cA : Nat → ClassId) (f : Nat → Int32) (c : zh_LC) : va_E :=
  if c.1 < 100 then .inr (c.1, (List.range c.2.1).map (fun k => zh_fv base b c.1 c.2.2 f k))
  else .inl (cA (c.1 - 100), c.2.1, if zh_RA c.1 = true then .inr (.inr (.inr (.inr (fun k => (c.2.2 k).map (zh_ad base b))))) else .inl f)
def zh_ws (base b : Nat) (cA : Nat → ClassId) (L : List zh_LC) (M : zh_M) : va_W := L.mapIdx (fun i c => (base + i, zh_E base b cA (M (i + 1)) c))
theorem zh_ws_at (base b : Nat) (cA : Nat → ClassId) {L : List zh_LC} (M : zh_M) {i : Nat} {c : zh_LC} (h : L[i]? = some c) : (zh_ws base b cA L M)[i]? = some (base + i, zh_E base b cA (M (i + 1)) c) := by
  simp [zh_ws, List.getElem?_mapIdx, h]
theorem zh_ws_of {base b : Nat} {cA : Nat → ClassId} {L : List zh_LC} {M : zh_M} {i : Nat} {q : Nat × va_E} (h : (zh_ws base b cA L M)[i]? = some q) : ∃ c, L[i]? = some c ∧ q = (base + i, zh_E base b cA (M (i + 1)) c) := by
  rw [zh_ws, List.getElem?_mapIdx] at h
  cases hc : L[i]? with
  | none => rw [hc] at h; cases h
  | some c => rw [hc] at h; exact ⟨c, rfl, (Option.some.inj h).symm⟩
theorem zh_D (base b : Nat) (cA : Nat → ClassId) (L : List zh_LC) (M : zh_M) : va_D (fun q => base ≤ q) (zh_ws base b cA L M) := by
  refine ⟨fun i j p q hp hq e => ?_, fun k q hq => ?_⟩
  · obtain ⟨c1, -, rfl⟩ := zh_ws_of hp
    obtain ⟨c2, -, rfl⟩ := zh_ws_of hq
    have e2 : base + i = base + j := e
    omega
  · obtain ⟨c1, -, rfl⟩ := zh_ws_of hq
    exact Nat.le_add_right _ _
theorem zh_ws_set (base b : Nat) (cA : Nat → ClassId) {L L' : List zh_LC} {M M' : zh_M} {i : Nat} {c : zh_LC} {x : va_E} (hL : L'[i]? = some c) (hl : L'.length = L.length) (ho : ∀ j, j ≠ i → L'[j]? = L[j]?) (hM : ∀ j, j ≠ i → M' (j + 1) = M (j + 1)) (hx : x = zh_E base b cA (M' (i + 1)) c) : (zh_ws base b cA L M).set i (base + i, x) = zh_ws base b cA L' M' := by
  have hi : i < L.length := by rw [← hl]; exact (List.getElem?_eq_some_iff.mp hL).1
  apply List.ext_getElem?
  intro j
  by_cases hj : j = i
  · subst hj
    rw [zh_ws_at base b cA M' hL, List.getElem?_set_self (by simpa [zh_ws] using hi), hx]
  · rw [List.getElem?_set_ne (fun e => hj e.symm)]
    simp only [zh_ws, List.getElem?_mapIdx, ho j hj]
    cases L[j]? with
    | none => rfl
    | some c2 => simp [hM j hj]
def zh_H (base b : Nat) (D : va_G) (cA : Nat → ClassId) (L : List zh_LC) (M : zh_M) (H : Heap) : Prop := va_P D vwCl (zh_ws base b cA L M) H
def zh_L (base b : Nat) (ls : Array Slot) (nL : Nat) (lo : List (Option Value)) : Prop := ls.size = nL ∧ lv_wf ls ∧ lo.length = nL ∧ ∀ (i : Nat) (v : Value), lo[i]? = some (some v) → ls[i]? = some (.val (zh_tr base b v)) ∧ (zh_tr base b v).category = 1
def zh_pr (base b : Nat) (lo : List (Option Value)) : List (Nat × Value) := (List.range lo.length).filterMap (fun i => match lo[i]? with
  | some (some v) => some (i, zh_tr base b v)
  | _ => none)
theorem zh_pr_mem {base b : Nat} {lo : List (Option Value)} {i : Nat} {v : Value} (h : lo[i]? = some (some v)) : (i, zh_tr base b v) ∈ zh_pr base b lo := by
  refine List.mem_filterMap.mpr ⟨i, List.mem_range.mpr (List.getElem?_eq_some_iff.mp h).1, ?_⟩
  simp only [h]
theorem zh_pr_of {base b : Nat} {lo : List (Option Value)} {q : Nat × Value} (h : q ∈ zh_pr base b lo) : ∃ v, lo[q.1]? = some (some v) ∧ q.2 = zh_tr base b v := by
  obtain ⟨i, -, hi⟩ := List.mem_filterMap.mp h
  split at hi
  · rename_i v hv
    cases hi
    exact ⟨v, hv, rfl⟩
  · cases hi
theorem zh_L.has {base b : Nat} {ls : Array Slot} {nL : Nat} {lo : List (Option Value)} (h : zh_L base b ls nL lo) : lv_has ls nL (zh_pr base b lo) := by
  refine ⟨h.1, h.2.1, fun q hq => ?_⟩
  obtain ⟨v, h1, h2⟩ := zh_pr_of hq
  rw [h2]
  exact (h.2.2.2 _ v h1).1
theorem zh_L.st {base b : Nat} {ls ls' : Array Slot} {nL : Nat} {lo : List (Option Value)} (h : zh_L base b ls nL lo) {i : Nat} {v : Value} (hi : i < nL) (hc : (zh_tr base b v).category = 1) (h' : lv_has ls' nL ((i, zh_tr base b v) :: (zh_pr base b lo).filter (fun q => !(q.1 == i) && !(q.1 + 1 == i && q.2.category == 2)))) : zh_L base b ls' nL (lo.set i (some v)) := by
  refine ⟨h'.1, h'.2.1, by simpa using h.2.2.1, fun j w hj => ?_⟩
  by_cases hji : j = i
  · subst hji
    rw [List.getElem?_set_self (by rw [h.2.2.1]; exact hi)] at hj
    cases hj
    exact ⟨h'.2.2 _ List.mem_cons_self, hc⟩
  · rw [List.getElem?_set_ne (fun e => hji e.symm)] at hj
    obtain ⟨h1, h2⟩ := h.2.2.2 j w hj
    refine ⟨h'.2.2 (j, zh_tr base b w) (List.mem_cons_of_mem _ (List.mem_filter.mpr ⟨zh_pr_mem hj, ?_⟩)), h2⟩
    simp [hji, h2]
def zh_K (D : va_G) (cA : Nat → ClassId) (U : State) : Prop := va_K D vwCl (zh_tys cA) U ∧ va_AO "FiberHeap$Fiber" U ∧ va_AO "FiberHeap$Channel" U
theorem zh_K.moved {D : va_G} {cA : Nat → ClassId} {u U : State} (hvm : u.vm.Alike U.vm) (h : zh_K D cA u) : zh_K D cA U := ⟨va_K.moved hvm h.1, va_AO.moved hvm h.2.1, va_AO.moved hvm h.2.2⟩
def zh_C (X : Nat × (Nat → Int32)) (d : Nat) (y : MethodName) (cc : ByteArray) (nL : Nat) (rt : Option FieldType) (p : Program) (R : Room) (s : State) (m : MethodId) (args : Array Value) (meth : Method) (c : Code) (base b : Nat) (D : va_G) (cA : Nat → ClassId) : Prop :=
  p.tables.exec = Jvm.exec ∧ c.code = cc ∧ c.maxLocals = nL ∧ s.vm.findClass y.cls = some m.cls ∧ (∀ w ∈ zh_WS, w.before args s = true) ∧ zh_K D cA s ∧ va_X b X.1 X.2 s s.heap ∧ b < base ∧ base ≤ s.heap.size ∧ meth.sig.returnType = rt ∧ meth.locks = false ∧ (y.name = "<init>" → meth.name = "<init>") ∧ d ≤ R.frames ∧ 40 * d ≤ R.locals
def zh_Q (base b : Nat) (D : va_G) (cA : Nat → ClassId) (P : Option Value → List zh_LC → zh_M → Prop) : Array Value → State → Outcome → State → Prop := fun _ st oc t => ∃ (r : Option Value) (L : List zh_LC) (M : zh_M), P r L M ∧ oc = .returned (r.map (zh_tr base b)) ∧ zh_H base b D cA L M t.heap ∧ va_F (fun q => base ≤ q) st t
def zh_W (X : Nat × (Nat → Int32)) (d : Nat) (y : MethodName) (cc : ByteArray) (nL : Nat) (rt : Option FieldType) (pc : Nat) (lo : List (Option Value)) (st : List Value) (L : List zh_LC) (M : zh_M) (bc bs : Nat) (P : Option Value → List zh_LC → zh_M → Prop) : Prop :=
  ∀ ⦃p : Program⦄ ⦃l : Launch⦄ ⦃e : Env⦄ ⦃R : Room⦄ ⦃s : State⦄ ⦃m : MethodId⦄ ⦃args : Array Value⦄ ⦃below : List Frame⦄ ⦃meth : Method⦄ ⦃c : Code⦄ ⦃H : Heap⦄ ⦃locs : List Loc⦄ ⦃cells slots : Nat⦄ ⦃ls : Array Slot⦄ ⦃base b : Nat⦄ ⦃D : va_G⦄ ⦃cA : Nat → ClassId⦄ ⦃mc ms : Nat⦄,
    zh_C X d y cc nL rt p R s m args meth c base b D cA → zh_L base b ls nL lo → zh_H base b D cA L M H → va_S (fun q => base ≤ q) s.heap H locs → s.heap.size + cells = base + L.length → cells + bc ≤ R.cells ∧ cells + bc ≤ mc → slots + bs ≤ R.slots ∧ slots + bs ≤ ms →
    W p l e R s m args below meth c H locs cells slots (MQ below (zh_Q base b D cA P) args s mc ms (fun q => base ≤ q)) (F0 m pc ls (st.map (zh_tr base b)))
section ZH
variable {X : Nat × (Nat → Int32)} {d : Nat} {y : MethodName} {cc : ByteArray} {nL : Nat} {rt : Option FieldType} {pc : Nat} {lo : List (Option Value)} {st : List Value} {L : List zh_LC} {M : zh_M} {bc bs : Nat} {P : Option Value → List zh_LC → zh_M → Prop}
theorem zh_iconst {pn : Nat} {n : Int} {v : Int32} (hp : pc + 1 = pn) (hd : decode cc pc = .ok (.iconst n, 1)) (hv : Int32.ofInt n = v) (k : zh_W X d y cc nL rt pn lo (.int v :: st) L M bc bs P) : zh_W X d y cc nL rt pc lo st L M bc bs P := by
  intro p l e R s m args below meth c H locs cells slots ls base b D cA mc ms hC hl hH hS hz h1 h2
  subst hp
  exact lv_iconst hC.1 hC.2.1 hd hv (k hC hl hH hS hz h1 h2)
theorem zh_bipush {pn : Nat} {n : Int} {v : Int32} (hp : pc + 2 = pn) (hd : decode cc pc = .ok (.bipush n, 2)) (hv : (Int8.ofInt n).toInt32 = v) (k : zh_W X d y cc nL rt pn lo (.int v :: st) L M bc bs P) : zh_W X d y cc nL rt pc lo st L M bc bs P := by
  intro p l e R s m args below meth c H locs cells slots ls base b D cA mc ms hC hl hH hS hz h1 h2
  subst hp
  exact lv_bipush hC.1 hC.2.1 hd hv (k hC hl hH hS hz h1 h2)
theorem zh_sipush {pn : Nat} {n : Int} {v : Int32} (hp : pc + 3 = pn) (hd : decode cc pc = .ok (.sipush n, 3)) (hv : (Int16.ofInt n).toInt32 = v) (k : zh_W X d y cc nL rt pn lo (.int v :: st) L M bc bs P) : zh_W X d y cc nL rt pc lo st L M bc bs P := by
  intro p l e R s m args below meth c H locs cells slots ls base b D cA mc ms hC hl hH hS hz h1 h2
  subst hp
  exact lv_sipush hC.1 hC.2.1 hd hv (k hC hl hH hS hz h1 h2)
theorem zh_ldc {pn : Nat} {i : Nat} {v : Int32} (hp : pc + 2 = pn) (hd : decode cc pc = .ok (.ldc i, 2)) (hw : Cond.constant y.cls i v ∈ zh_WS) (k : zh_W X d y cc nL rt pn lo (.int v :: st) L M bc bs P) : zh_W X d y cc nL rt pc lo st L M bc bs P := by
  intro p l e R s m args below meth c H locs cells slots ls base b D cA mc ms hC hl hH hS hz h1 h2
  subst hp
  exact lv_ldc hC.1 hC.2.1 hC.2.2.2.1 (hC.2.2.2.2.1 _ hw) hd (k hC hl hH hS hz h1 h2)
theorem zh_null {pn : Nat} (hp : pc + 1 = pn) (hd : decode cc pc = .ok (.aconst_null, 1)) (k : zh_W X d y cc nL rt pn lo (.null :: st) L M bc bs P) : zh_W X d y cc nL rt pc lo st L M bc bs P := by
  intro p l e R s m args below meth c H locs cells slots ls base b D cA mc ms hC hl hH hS hz h1 h2
  subst hp
  exact lv_null hC.1 hC.2.1 hd (k hC hl hH hS hz h1 h2)
theorem zh_iload {pn : Nat} {i : Nat} {x : Int32} (hp : pc + 2 = pn) (hd : decode cc pc = .ok (.iload i, 2)) (h : lo[i]? = some (some (.int x))) (k : zh_W X d y cc nL rt pn lo (.int x :: st) L M bc bs P) : zh_W X d y cc nL rt pc lo st L M bc bs P := by
  intro p l e R s m args below meth c H locs cells slots ls base b D cA mc ms hC hl hH hS hz h1 h2
  subst hp
  exact lv_iload hC.1 hC.2.1 hd (hl.2.2.2 i _ h).1 (k hC hl hH hS hz h1 h2)
theorem zh_iload_n {pn : Nat} {q : Fin 4} {i : Nat} {x : Int32} (hp : pc + 1 = pn) (hd : decode cc pc = .ok (.iload_n q, 1)) (hi : (q : Nat) = i) (h : lo[i]? = some (some (.int x))) (k : zh_W X d y cc nL rt pn lo (.int x :: st) L M bc bs P) : zh_W X d y cc nL rt pc lo st L M bc bs P := by
  intro p l e R s m args below meth c H locs cells slots ls base b D cA mc ms hC hl hH hS hz h1 h2
  subst hp
  exact lv_iload_n hC.1 hC.2.1 hd hi (hl.2.2.2 i _ h).1 (k hC hl hH hS hz h1 h2)
theorem zh_rfor (r : Option Nat) : va_rf r = .null ∨ ∃ a, va_rf r = .ref a := by
  cases r with
  | none => exact Or.inl rfl
  | some a => exact Or.inr ⟨a, rfl⟩
theorem zh_aload {pn : Nat} {i : Nat} {v : Value} (hp : pc + 2 = pn) (hd : decode cc pc = .ok (.aload i, 2)) (h : lo[i]? = some (some v)) (hv : v = .null ∨ ∃ a, v = .ref a) (k : zh_W X d y cc nL rt pn lo (v :: st) L M bc bs P) : zh_W X d y cc nL rt pc lo st L M bc bs P := by
  intro p l e R s m args below meth c H locs cells slots ls base b D cA mc ms hC hl hH hS hz h1 h2
  subst hp
  rcases hv with rfl | ⟨a, rfl⟩
  · exact lv_aloadN hC.1 hC.2.1 hd (hl.2.2.2 i _ h).1 (k hC hl hH hS hz h1 h2)
  · exact lv_aload hC.1 hC.2.1 hd (hl.2.2.2 i _ h).1 (k hC hl hH hS hz h1 h2)
theorem zh_aload_n {pn : Nat} {q : Fin 4} {i : Nat} {v : Value} (hp : pc + 1 = pn) (hd : decode cc pc = .ok (.aload_n q, 1)) (hi : (q : Nat) = i) (h : lo[i]? = some (some v)) (hv : v = .null ∨ ∃ a, v = .ref a) (k : zh_W X d y cc nL rt pn lo (v :: st) L M bc bs P) : zh_W X d y cc nL rt pc lo st L M bc bs P := by
  intro p l e R s m args below meth c H locs cells slots ls base b D cA mc ms hC hl hH hS hz h1 h2
  subst hp
  rcases hv with rfl | ⟨a, rfl⟩
  · exact lv_aload_nN hC.1 hC.2.1 hd hi (hl.2.2.2 i _ h).1 (k hC hl hH hS hz h1 h2)
  · exact lv_aload_n hC.1 hC.2.1 hd hi (hl.2.2.2 i _ h).1 (k hC hl hH hS hz h1 h2)
theorem zh_istore {pn : Nat} {i : Nat} {x : Int32} {lo' : List (Option Value)} (hp : pc + 2 = pn) (hd : decode cc pc = .ok (.istore i, 2)) (hi : i < nL) (hlo : lo.set i (some (.int x)) = lo') (k : zh_W X d y cc nL rt pn lo' st L M bc bs P) : zh_W X d y cc nL rt pc lo (.int x :: st) L M bc bs P := by
  intro p l e R s m args below meth c H locs cells slots ls base b D cA mc ms hC hl hH hS hz h1 h2
  subst hp
  subst hlo
  exact lv_istore hC.1 hC.2.1 hd hl.has hi rfl (fun ls' h' => k hC (hl.st (v := .int x) hi rfl h') hH hS hz h1 h2)
theorem zh_istore_n {pn : Nat} {q : Fin 4} {i : Nat} {x : Int32} {lo' : List (Option Value)} (hp : pc + 1 = pn) (hd : decode cc pc = .ok (.istore_n q, 1)) (hq : (q : Nat) = i) (hi : i < nL) (hlo : lo.set i (some (.int x)) = lo') (k : zh_W X d y cc nL rt pn lo' st L M bc bs P) : zh_W X d y cc nL rt pc lo (.int x :: st) L M bc bs P := by
  intro p l e R s m args below meth c H locs cells slots ls base b D cA mc ms hC hl hH hS hz h1 h2
  subst hp
  subst hlo
  exact lv_istore_n hC.1 hC.2.1 hd hq hl.has hi rfl (fun ls' h' => k hC (hl.st (v := .int x) hi rfl h') hH hS hz h1 h2)
theorem zh_astore {pn : Nat} {i : Nat} {v : Value} {lo' : List (Option Value)} (hp : pc + 2 = pn) (hd : decode cc pc = .ok (.astore i, 2)) (hi : i < nL) (hv : v = .null ∨ ∃ a, v = .ref a) (hlo : lo.set i (some v) = lo') (k : zh_W X d y cc nL rt pn lo' st L M bc bs P) : zh_W X d y cc nL rt pc lo (v :: st) L M bc bs P := by
  intro p l e R s m args below meth c H locs cells slots ls base b D cA mc ms hC hl hH hS hz h1 h2
  subst hp
  subst hlo
  rcases hv with rfl | ⟨a, rfl⟩
  · exact lv_astoreN hC.1 hC.2.1 hd hl.has hi rfl (fun ls' h' => k hC (hl.st (v := .null) hi rfl h') hH hS hz h1 h2)
  · exact lv_astore hC.1 hC.2.1 hd hl.has hi rfl (fun ls' h' => k hC (hl.st (v := .ref a) hi rfl h') hH hS hz h1 h2)
theorem zh_astore_n {pn : Nat} {q : Fin 4} {i : Nat} {v : Value} {lo' : List (Option Value)} (hp : pc + 1 = pn) (hd : decode cc pc = .ok (.astore_n q, 1)) (hq : (q : Nat) = i) (hi : i < nL) (hv : v = .null ∨ ∃ a, v = .ref a) (hlo : lo.set i (some v) = lo') (k : zh_W X d y cc nL rt pn lo' st L M bc bs P) : zh_W X d y cc nL rt pc lo (v :: st) L M bc bs P := by
  intro p l e R s m args below meth c H locs cells slots ls base b D cA mc ms hC hl hH hS hz h1 h2
  subst hp
  subst hlo
  rcases hv with rfl | ⟨a, rfl⟩
  · exact lv_astore_nN hC.1 hC.2.1 hd hq hl.has hi rfl (fun ls' h' => k hC (hl.st (v := .null) hi rfl h') hH hS hz h1 h2)
  · exact lv_astore_n hC.1 hC.2.1 hd hq hl.has hi rfl (fun ls' h' => k hC (hl.st (v := .ref a) hi rfl h') hH hS hz h1 h2)
theorem zh_iinc {pn : Nat} {i : Nat} {n : Int} {x v : Int32} {lo' : List (Option Value)} (hp : pc + 3 = pn) (hd : decode cc pc = .ok (.iinc i n, 3)) (h : lo[i]? = some (some (.int x))) (hv : x + Int32.ofInt n = v) (hi : i < nL) (hlo : lo.set i (some (.int v)) = lo') (k : zh_W X d y cc nL rt pn lo' st L M bc bs P) : zh_W X d y cc nL rt pc lo st L M bc bs P := by
  intro p l e R s m args below meth c H locs cells slots ls base b D cA mc ms hC hl hH hS hz h1 h2
  subst hp
  subst hlo
  obtain ⟨j, hj⟩ := List.getElem?_of_mem (zh_pr_mem (base := base) (b := b) h)
  exact lv_iinc hC.1 hC.2.1 hd hl.has hj hv hi rfl (fun ls' h' => k hC (hl.st (v := .int v) hi rfl h') hH hS hz h1 h2)
theorem zh_dup {pn : Nat} {v : Value} (hp : pc + 1 = pn) (hd : decode cc pc = .ok (.dup, 1)) (hc : ∀ base b, (zh_tr base b v).category = 1) (k : zh_W X d y cc nL rt pn lo (v :: v :: st) L M bc bs P) : zh_W X d y cc nL rt pc lo (v :: st) L M bc bs P := by
  intro p l e R s m args below meth c H locs cells slots ls base b D cA mc ms hC hl hH hS hz h1 h2
  subst hp
  exact lv_dup hC.1 hC.2.1 hd (hc base b) (k hC hl hH hS hz h1 h2)
theorem zh_dup2 {pn : Nat} {v w : Value} (hp : pc + 1 = pn) (hd : decode cc pc = .ok (.dup2, 1)) (hc : ∀ base b, (zh_tr base b v).category = 1) (hc2 : ∀ base b, (zh_tr base b w).category = 1) (k : zh_W X d y cc nL rt pn lo (v :: w :: v :: w :: st) L M bc bs P) : zh_W X d y cc nL rt pc lo (v :: w :: st) L M bc bs P := by
  intro p l e R s m args below meth c H locs cells slots ls base b D cA mc ms hC hl hH hS hz h1 h2
  subst hp
  exact lv_dup2_11 hC.1 hC.2.1 hd (hc base b) (hc2 base b) (k hC hl hH hS hz h1 h2)
theorem zh_dup_x1 {pn : Nat} {v w : Value} (hp : pc + 1 = pn) (hd : decode cc pc = .ok (.dup_x1, 1)) (hc : ∀ base b, (zh_tr base b v).category = 1) (hc2 : ∀ base b, (zh_tr base b w).category = 1) (k : zh_W X d y cc nL rt pn lo (v :: w :: v :: st) L M bc bs P) : zh_W X d y cc nL rt pc lo (v :: w :: st) L M bc bs P := by
  intro p l e R s m args below meth c H locs cells slots ls base b D cA mc ms hC hl hH hS hz h1 h2
  subst hp
  exact lv_dup_x1 hC.1 hC.2.1 hd (hc base b) (hc2 base b) (k hC hl hH hS hz h1 h2)
theorem zh_pop {pn : Nat} {v : Value} (hp : pc + 1 = pn) (hd : decode cc pc = .ok (.pop, 1)) (hc : ∀ base b, (zh_tr base b v).category = 1) (k : zh_W X d y cc nL rt pn lo st L M bc bs P) : zh_W X d y cc nL rt pc lo (v :: st) L M bc bs P := by
  intro p l e R s m args below meth c H locs cells slots ls base b D cA mc ms hC hl hH hS hz h1 h2
  subst hp
  exact lv_pop hC.1 hC.2.1 hd (hc base b) (k hC hl hH hS hz h1 h2)
theorem zh_iadd {pn : Nat} {x z : Int32} (hp : pc + 1 = pn) (hd : decode cc pc = .ok (.iadd, 1)) (k : zh_W X d y cc nL rt pn lo (.int (x + z) :: st) L M bc bs P) : zh_W X d y cc nL rt pc lo (.int z :: .int x :: st) L M bc bs P := by
  intro p l e R s m args below meth c H locs cells slots ls base b D cA mc ms hC hl hH hS hz h1 h2
  subst hp
  exact lv_iadd hC.1 hC.2.1 hd (k hC hl hH hS hz h1 h2)
theorem zh_isub {pn : Nat} {x z : Int32} (hp : pc + 1 = pn) (hd : decode cc pc = .ok (.isub, 1)) (k : zh_W X d y cc nL rt pn lo (.int (x - z) :: st) L M bc bs P) : zh_W X d y cc nL rt pc lo (.int z :: .int x :: st) L M bc bs P := by
  intro p l e R s m args below meth c H locs cells slots ls base b D cA mc ms hC hl hH hS hz h1 h2
  subst hp
  exact lv_isub hC.1 hC.2.1 hd (k hC hl hH hS hz h1 h2)
theorem zh_imul {pn : Nat} {x z : Int32} (hp : pc + 1 = pn) (hd : decode cc pc = .ok (.imul, 1)) (k : zh_W X d y cc nL rt pn lo (.int (x * z) :: st) L M bc bs P) : zh_W X d y cc nL rt pc lo (.int z :: .int x :: st) L M bc bs P := by
  intro p l e R s m args below meth c H locs cells slots ls base b D cA mc ms hC hl hH hS hz h1 h2
  subst hp
  exact lv_imul hC.1 hC.2.1 hd (k hC hl hH hS hz h1 h2)
theorem zh_iand {pn : Nat} {x z : Int32} (hp : pc + 1 = pn) (hd : decode cc pc = .ok (.iand, 1)) (k : zh_W X d y cc nL rt pn lo (.int (x &&& z) :: st) L M bc bs P) : zh_W X d y cc nL rt pc lo (.int z :: .int x :: st) L M bc bs P := by
  intro p l e R s m args below meth c H locs cells slots ls base b D cA mc ms hC hl hH hS hz h1 h2
  subst hp
  exact lv_iand hC.1 hC.2.1 hd (k hC hl hH hS hz h1 h2)
theorem zh_idiv {pn : Nat} {x z : Int32} (hp : pc + 1 = pn) (hd : decode cc pc = .ok (.idiv, 1)) (hne : ¬ z = 0) (k : zh_W X d y cc nL rt pn lo (.int (x / z) :: st) L M bc bs P) : zh_W X d y cc nL rt pc lo (.int z :: .int x :: st) L M bc bs P := by
  intro p l e R s m args below meth c H locs cells slots ls base b D cA mc ms hC hl hH hS hz h1 h2
  subst hp
  exact lv_idiv hC.1 hC.2.1 hd hne (k hC hl hH hS hz h1 h2)
theorem zh_irem {pn : Nat} {x z : Int32} (hp : pc + 1 = pn) (hd : decode cc pc = .ok (.irem, 1)) (hne : ¬ z = 0) (k : zh_W X d y cc nL rt pn lo (.int (x - x / z * z) :: st) L M bc bs P) : zh_W X d y cc nL rt pc lo (.int z :: .int x :: st) L M bc bs P := by
  intro p l e R s m args below meth c H locs cells slots ls base b D cA mc ms hC hl hH hS hz h1 h2
  subst hp
  exact lv_irem hC.1 hC.2.1 hd hne (k hC hl hH hS hz h1 h2)
theorem zh_goto {off : Int} {tgt : Nat} (hd : decode cc pc = .ok (.goto off, 3)) (ht : (pc : Int) + off = (tgt : Int)) (k : zh_W X d y cc nL rt tgt lo st L M bc bs P) : zh_W X d y cc nL rt pc lo st L M bc bs P := by
  intro p l e R s m args below meth c H locs cells slots ls base b D cA mc ms hC hl hH hS hz h1 h2
  exact lv_goto hC.1 hC.2.1 hd ht (k hC hl hH hS hz h1 h2)
theorem zh_if_eq {pn : Nat} {x : Int32} {off : Int} {tgt : Nat} (hp : pc + 3 = pn) (hd : decode cc pc = .ok (.ifCond .eq off, 3)) (ht : (pc : Int) + off = (tgt : Int)) (kt : x = zI 0 → zh_W X d y cc nL rt tgt lo st L M bc bs P) (kf : ¬ x = zI 0 → zh_W X d y cc nL rt pn lo st L M bc bs P) : zh_W X d y cc nL rt pc lo (.int x :: st) L M bc bs P := by
  intro p l e R s m args below meth c H locs cells slots ls base b D cA mc ms hC hl hH hS hz h1 h2
  subst hp
  exact lv_if_eq hC.1 hC.2.1 hd ht (fun h => kt (zI_0.symm ▸ h) hC hl hH hS hz h1 h2) (fun h => kf (zI_0.symm ▸ h) hC hl hH hS hz h1 h2)
theorem zh_if_ne {pn : Nat} {x : Int32} {off : Int} {tgt : Nat} (hp : pc + 3 = pn) (hd : decode cc pc = .ok (.ifCond .ne off, 3)) (ht : (pc : Int) + off = (tgt : Int)) (kt : ¬ x = zI 0 → zh_W X d y cc nL rt tgt lo st L M bc bs P) (kf : x = zI 0 → zh_W X d y cc nL rt pn lo st L M bc bs P) : zh_W X d y cc nL rt pc lo (.int x :: st) L M bc bs P := by
  intro p l e R s m args below meth c H locs cells slots ls base b D cA mc ms hC hl hH hS hz h1 h2
  subst hp
  exact lv_if_ne hC.1 hC.2.1 hd ht (fun h => kt (zI_0.symm ▸ h) hC hl hH hS hz h1 h2) (fun h => kf (zI_0.symm ▸ h) hC hl hH hS hz h1 h2)
theorem zh_if_lt {pn : Nat} {x : Int32} {off : Int} {tgt : Nat} (hp : pc + 3 = pn) (hd : decode cc pc = .ok (.ifCond .lt off, 3)) (ht : (pc : Int) + off = (tgt : Int)) (kt : x < zI 0 → zh_W X d y cc nL rt tgt lo st L M bc bs P) (kf : ¬ x < zI 0 → zh_W X d y cc nL rt pn lo st L M bc bs P) : zh_W X d y cc nL rt pc lo (.int x :: st) L M bc bs P := by
  intro p l e R s m args below meth c H locs cells slots ls base b D cA mc ms hC hl hH hS hz h1 h2
  subst hp
  exact lv_if_lt hC.1 hC.2.1 hd ht (fun h => kt (zI_0.symm ▸ h) hC hl hH hS hz h1 h2) (fun h => kf (zI_0.symm ▸ h) hC hl hH hS hz h1 h2)
theorem zh_if_ge {pn : Nat} {x : Int32} {off : Int} {tgt : Nat} (hp : pc + 3 = pn) (hd : decode cc pc = .ok (.ifCond .ge off, 3)) (ht : (pc : Int) + off = (tgt : Int)) (kt : zI 0 ≤ x → zh_W X d y cc nL rt tgt lo st L M bc bs P) (kf : ¬ zI 0 ≤ x → zh_W X d y cc nL rt pn lo st L M bc bs P) : zh_W X d y cc nL rt pc lo (.int x :: st) L M bc bs P := by
  intro p l e R s m args below meth c H locs cells slots ls base b D cA mc ms hC hl hH hS hz h1 h2
  subst hp
  exact lv_if_ge hC.1 hC.2.1 hd ht (fun h => kt (zI_0.symm ▸ h) hC hl hH hS hz h1 h2) (fun h => kf (zI_0.symm ▸ h) hC hl hH hS hz h1 h2)
theorem zh_if_gt {pn : Nat} {x : Int32} {off : Int} {tgt : Nat} (hp : pc + 3 = pn) (hd : decode cc pc = .ok (.ifCond .gt off, 3)) (ht : (pc : Int) + off = (tgt : Int)) (kt : zI 0 < x → zh_W X d y cc nL rt tgt lo st L M bc bs P) (kf : ¬ zI 0 < x → zh_W X d y cc nL rt pn lo st L M bc bs P) : zh_W X d y cc nL rt pc lo (.int x :: st) L M bc bs P := by
  intro p l e R s m args below meth c H locs cells slots ls base b D cA mc ms hC hl hH hS hz h1 h2
  subst hp
  exact lv_if_gt hC.1 hC.2.1 hd ht (fun h => kt (zI_0.symm ▸ h) hC hl hH hS hz h1 h2) (fun h => kf (zI_0.symm ▸ h) hC hl hH hS hz h1 h2)
theorem zh_if_le {pn : Nat} {x : Int32} {off : Int} {tgt : Nat} (hp : pc + 3 = pn) (hd : decode cc pc = .ok (.ifCond .le off, 3)) (ht : (pc : Int) + off = (tgt : Int)) (kt : x ≤ zI 0 → zh_W X d y cc nL rt tgt lo st L M bc bs P) (kf : ¬ x ≤ zI 0 → zh_W X d y cc nL rt pn lo st L M bc bs P) : zh_W X d y cc nL rt pc lo (.int x :: st) L M bc bs P := by
  intro p l e R s m args below meth c H locs cells slots ls base b D cA mc ms hC hl hH hS hz h1 h2
  subst hp
  exact lv_if_le hC.1 hC.2.1 hd ht (fun h => kt (zI_0.symm ▸ h) hC hl hH hS hz h1 h2) (fun h => kf (zI_0.symm ▸ h) hC hl hH hS hz h1 h2)
theorem zh_icmp_eq {pn : Nat} {x z : Int32} {off : Int} {tgt : Nat} (hp : pc + 3 = pn) (hd : decode cc pc = .ok (.if_icmp .eq off, 3)) (ht : (pc : Int) + off = (tgt : Int)) (kt : x = z → zh_W X d y cc nL rt tgt lo st L M bc bs P) (kf : ¬ x = z → zh_W X d y cc nL rt pn lo st L M bc bs P) : zh_W X d y cc nL rt pc lo (.int z :: .int x :: st) L M bc bs P := by
  intro p l e R s m args below meth c H locs cells slots ls base b D cA mc ms hC hl hH hS hz h1 h2
  subst hp
  exact lv_icmp_eq hC.1 hC.2.1 hd ht (fun h => kt h hC hl hH hS hz h1 h2) (fun h => kf h hC hl hH hS hz h1 h2)
theorem zh_icmp_ne {pn : Nat} {x z : Int32} {off : Int} {tgt : Nat} (hp : pc + 3 = pn) (hd : decode cc pc = .ok (.if_icmp .ne off, 3)) (ht : (pc : Int) + off = (tgt : Int)) (kt : ¬ x = z → zh_W X d y cc nL rt tgt lo st L M bc bs P) (kf : x = z → zh_W X d y cc nL rt pn lo st L M bc bs P) : zh_W X d y cc nL rt pc lo (.int z :: .int x :: st) L M bc bs P := by
  intro p l e R s m args below meth c H locs cells slots ls base b D cA mc ms hC hl hH hS hz h1 h2
  subst hp
  exact lv_icmp_ne hC.1 hC.2.1 hd ht (fun h => kt h hC hl hH hS hz h1 h2) (fun h => kf h hC hl hH hS hz h1 h2)
theorem zh_icmp_lt {pn : Nat} {x z : Int32} {off : Int} {tgt : Nat} (hp : pc + 3 = pn) (hd : decode cc pc = .ok (.if_icmp .lt off, 3)) (ht : (pc : Int) + off = (tgt : Int)) (kt : x < z → zh_W X d y cc nL rt tgt lo st L M bc bs P) (kf : ¬ x < z → zh_W X d y cc nL rt pn lo st L M bc bs P) : zh_W X d y cc nL rt pc lo (.int z :: .int x :: st) L M bc bs P := by
  intro p l e R s m args below meth c H locs cells slots ls base b D cA mc ms hC hl hH hS hz h1 h2
  subst hp
  exact lv_icmp_lt hC.1 hC.2.1 hd ht (fun h => kt h hC hl hH hS hz h1 h2) (fun h => kf h hC hl hH hS hz h1 h2)
theorem zh_icmp_ge {pn : Nat} {x z : Int32} {off : Int} {tgt : Nat} (hp : pc + 3 = pn) (hd : decode cc pc = .ok (.if_icmp .ge off, 3)) (ht : (pc : Int) + off = (tgt : Int)) (kt : z ≤ x → zh_W X d y cc nL rt tgt lo st L M bc bs P) (kf : ¬ z ≤ x → zh_W X d y cc nL rt pn lo st L M bc bs P) : zh_W X d y cc nL rt pc lo (.int z :: .int x :: st) L M bc bs P := by
  intro p l e R s m args below meth c H locs cells slots ls base b D cA mc ms hC hl hH hS hz h1 h2
  subst hp
  exact lv_icmp_ge hC.1 hC.2.1 hd ht (fun h => kt h hC hl hH hS hz h1 h2) (fun h => kf h hC hl hH hS hz h1 h2)
theorem zh_icmp_gt {pn : Nat} {x z : Int32} {off : Int} {tgt : Nat} (hp : pc + 3 = pn) (hd : decode cc pc = .ok (.if_icmp .gt off, 3)) (ht : (pc : Int) + off = (tgt : Int)) (kt : z < x → zh_W X d y cc nL rt tgt lo st L M bc bs P) (kf : ¬ z < x → zh_W X d y cc nL rt pn lo st L M bc bs P) : zh_W X d y cc nL rt pc lo (.int z :: .int x :: st) L M bc bs P := by
  intro p l e R s m args below meth c H locs cells slots ls base b D cA mc ms hC hl hH hS hz h1 h2
  subst hp
  exact lv_icmp_gt hC.1 hC.2.1 hd ht (fun h => kt h hC hl hH hS hz h1 h2) (fun h => kf h hC hl hH hS hz h1 h2)
theorem zh_icmp_le {pn : Nat} {x z : Int32} {off : Int} {tgt : Nat} (hp : pc + 3 = pn) (hd : decode cc pc = .ok (.if_icmp .le off, 3)) (ht : (pc : Int) + off = (tgt : Int)) (kt : x ≤ z → zh_W X d y cc nL rt tgt lo st L M bc bs P) (kf : ¬ x ≤ z → zh_W X d y cc nL rt pn lo st L M bc bs P) : zh_W X d y cc nL rt pc lo (.int z :: .int x :: st) L M bc bs P := by
  intro p l e R s m args below meth c H locs cells slots ls base b D cA mc ms hC hl hH hS hz h1 h2
  subst hp
  exact lv_icmp_le hC.1 hC.2.1 hd ht (fun h => kt h hC hl hH hS hz h1 h2) (fun h => kf h hC hl hH hS hz h1 h2)
theorem zh_ifnull {pn : Nat} {r : Option Nat} {off : Int} {tgt : Nat} (hp : pc + 3 = pn) (hd : decode cc pc = .ok (.ifnull off, 3)) (ht : (pc : Int) + off = (tgt : Int)) (kt : r = none → zh_W X d y cc nL rt tgt lo st L M bc bs P) (kf : ∀ a, r = some a → zh_W X d y cc nL rt pn lo st L M bc bs P) : zh_W X d y cc nL rt pc lo (va_rf r :: st) L M bc bs P := by
  intro p l e R s m args below meth c H locs cells slots ls base b D cA mc ms hC hl hH hS hz h1 h2
  subst hp
  cases r with
  | none => exact lv_ifnullN hC.1 hC.2.1 hd ht (kt rfl hC hl hH hS hz h1 h2)
  | some a => exact lv_ifnull hC.1 hC.2.1 hd (kf a rfl hC hl hH hS hz h1 h2)
theorem zh_ifnonnull {pn : Nat} {r : Option Nat} {off : Int} {tgt : Nat} (hp : pc + 3 = pn) (hd : decode cc pc = .ok (.ifnonnull off, 3)) (ht : (pc : Int) + off = (tgt : Int)) (kt : ∀ a, r = some a → zh_W X d y cc nL rt tgt lo st L M bc bs P) (kf : r = none → zh_W X d y cc nL rt pn lo st L M bc bs P) : zh_W X d y cc nL rt pc lo (va_rf r :: st) L M bc bs P := by
  intro p l e R s m args below meth c H locs cells slots ls base b D cA mc ms hC hl hH hS hz h1 h2
  subst hp
  cases r with
  | none => exact lv_ifnonnullN hC.1 hC.2.1 hd (kf rfl hC hl hH hS hz h1 h2)
  | some a => exact lv_ifnonnull hC.1 hC.2.1 hd ht (kt a rfl hC hl hH hS hz h1 h2)
end ZH
