def zh_wm (y : MethodName) (cc : ByteArray) (nL : Nat) (rt : Option FieldType) : List Cond := Cond.code y cc nL rt :: zh_WS
def zh_Pc (X : Nat × (Nat → Int32)) (base b : Nat) (D : va_G) (cA : Nat → ClassId) (as : List Value) (L : List zh_LC) (M : zh_M) : Array Value → State → Prop := va_Pc (as.map (zh_tr base b)) (fun U => U.heap.size = base + L.length ∧ b < base ∧ zh_H base b D cA L M U.heap ∧ zh_K D cA U ∧ va_X b X.1 X.2 U U.heap)
abbrev zh_rm (d bc bs : Nat) : Room := { frames := d, cells := bc, slots := bs, locals := 40 * d }
abbrev zh_en (as : List Value) (nL : Nat) : List (Option Value) := as.map some ++ List.replicate (nL - as.length) none
theorem zh_args {vs : List Value} (hc : ∀ w ∈ vs, w.category = 1) : ∀ {k i : Nat} {v : Value}, vs[i]? = some v → (k + i, v) ∈ lv_args k vs := by
  induction vs with
  | nil => intro k i v h; simp at h
  | cons w vs ih =>
    intro k i v h
    have hw : ¬ w.category = 2 := by rw [hc w List.mem_cons_self]; decide
    cases i with
    | zero =>
      have e : w = v := by simpa using h
      subst e
      exact List.mem_cons_self
    | succ i =>
      have h' : vs[i]? = some v := by simpa using h
      have := ih (fun w hw => hc w (List.mem_cons_of_mem _ hw)) (k := k + 1) h'
      show (k + (i + 1), v) ∈ (k, w) :: lv_args (if w.category = 2 then k + 2 else k + 1) vs
      rw [if_neg hw, show k + (i + 1) = k + 1 + i by omega]
      exact List.mem_cons_of_mem _ this
theorem zh_sl {vs : List Value} (hc : ∀ w ∈ vs, w.category = 1) : (lg_sl vs).length = vs.length := by
  induction vs with
  | nil => rfl
  | cons w vs ih =>
    have hw : ¬ w.category = 2 := by rw [hc w List.mem_cons_self]; decide
    have := ih (fun w hw => hc w (List.mem_cons_of_mem _ hw))
    simp only [lg_sl, List.flatMap_cons, if_neg hw, List.length_append, List.length_cons, List.length_nil] at this ⊢
    omega
section ZHM
variable {X : Nat × (Nat → Int32)} {d : Nat} {y : MethodName} {cc : ByteArray} {nL : Nat} {rt : Option FieldType} {pc : Nat} {lo : List (Option Value)} {st : List Value} {L : List zh_LC} {M : zh_M} {bc bs : Nat} {P : Option Value → List zh_LC → zh_M → Prop}
theorem zh_met {as : List Value} (hw : zh_W X d y cc nL rt 0 (zh_en as nL) [] L M bc bs P) (hpl : plainName y.cls = true) (hcat : ∀ v ∈ as, ∀ base b, (zh_tr base b v).category = 1) (hnl : as.length ≤ nL) (l : Launch) (base b : Nat) (D : va_G) (cA : Nat → ClassId) :
    Met l y (zh_wm y cc nL rt) (zh_rm d bc bs) (zh_Pc X base b D cA as L M) (zh_Q base b D cA P) bc bs (fun q => base ≤ q) := by
  refine Met.ofW (cc := cc) (maxL := nL) (ret := rt) hpl rfl ?_
  intro p e s m args below meth c s₁ B hml hv
  obtain ⟨rfl, hsz, hbb, hH, hK, hX⟩ := hv
  have hts := atoms_spec (ws := zh_wm y cc nL rt) B.pre
  have hcat' : ∀ w ∈ as.map (zh_tr base b), w.category = 1 := by
    intro w hw
    obtain ⟨v, hv, rfl⟩ := List.mem_map.mp hw
    exact hcat v hv base b
  have hl := lv_entry (as.map (zh_tr base b)) (n := nL) (by rw [zh_sl hcat']; simpa using hnl)
  rw [lg_entry_eq]
  generalize (lg_sl (as.map (zh_tr base b)) ++ List.replicate (nL - (lg_sl (as.map (zh_tr base b))).length) Slot.unset).toArray = ls at hl ⊢
  have hl2 : zh_L base b ls nL (zh_en as nL) := by
    refine ⟨hl.1, hl.2.1, by simp [zh_en]; omega, fun i v hi => ?_⟩
    have hi2 : as[i]? = some v := by
      by_cases hlt : i < as.length
      · rw [List.getElem?_append_left (by simpa using hlt), List.getElem?_map] at hi
        cases ha : as[i]? with
        | none => rw [ha] at hi; cases hi
        | some v2 => rw [ha] at hi; cases hi; rfl
      · rw [List.getElem?_append_right (by simpa using hlt)] at hi
        have := List.mem_of_getElem? hi
        have := List.eq_of_mem_replicate this
        cases this
    have hm : (0 + i, zh_tr base b v) ∈ lv_args 0 (as.map (zh_tr base b)) := zh_args hcat' (by rw [List.getElem?_map, hi2]; rfl)
    rw [Nat.zero_add] at hm
    exact ⟨hl.2.2 _ hm, hcat v (List.mem_of_getElem? hi2) base b⟩
  exact hw (cells := 0) (slots := 0) (locs := []) (mc := bc) (ms := bs) ⟨B.exec, B.bytes, hml, findClass_of_methodNamed B.named, fun w h => hts w (List.mem_cons_of_mem _ h), hK, hX, hbb, by omega, B.returns, B.notSynchronized, (fun hyi => (name_of_methodNamed B.named B.method).1.trans hyi), Nat.le_refl _, Nat.le_refl _⟩ hl2 hH va_S.rf (by omega) ⟨by show 0 + bc ≤ bc; omega, by omega⟩ ⟨by show 0 + bs ≤ bs; omega, by omega⟩
theorem zh_after {p : Program} {l : Launch} {e : Env} {R : Room} {s : State} {m : MethodId} {args : Array Value} {below : List Frame} {meth : Method} {c : Code} {H : Heap} {locs : List Loc} {cells slots : Nat} {ls : Array Slot} {base b : Nat} {D : va_G} {cA : Nat → ClassId} {mc ms bc' bs' : Nat} {st0 : List Value} {a : Array Value} {P' : Option Value → List zh_LC → zh_M → Prop}
    (hrun : va_Run p l e R s m args below meth c H locs cells slots bc' bs' (F0 m pc ls st0) (st.map (zh_tr base b)) (zh_Q base b D cA P' a) (fun q => base ≤ q))
    (hC : zh_C X d y cc nL rt p R s m args meth c base b D cA) (hl : zh_L base b ls nL lo) (hS : va_S (fun q => base ≤ q) s.heap H locs) (hz : s.heap.size + cells = base + L.length) (hlen : ∀ r L' M', P' r L' M' → L'.length = L.length + bc') (h1 : cells + (bc + bc') ≤ R.cells ∧ cells + (bc + bc') ≤ mc) (h2 : slots + (bs + bs') ≤ R.slots ∧ slots + (bs + bs') ≤ ms)
    (kk : ∀ r L' M', P' r L' M' → zh_W X d y cc nL rt (pc + 3) lo (r.toList ++ st) L' M' bc bs P) : W p l e R s m args below meth c H locs cells slots (MQ below (zh_Q base b D cA P) args s mc ms (fun q => base ≤ q)) (F0 m pc ls st0) := by
  intro T hT Y
  obtain ⟨v, st₀, t, T', Lc, e0, Y', hLc, e1, e2, ⟨r, L', M', hP', hv, hH', hF⟩, hgo⟩ := hrun T hT Y
  have hv' : v = r.map (zh_tr base b) := by injection hv
  subst hv'
  rw [va_F, e0] at hF
  have hS' : va_S (fun q => base ≤ q) s.heap t.heap (locs ++ Lc) := by
    refine ⟨Nat.le_trans hS.1 hF.1, fun q g1 g2 => ?_, fun q hq => ?_⟩
    · rw [hF.2 q (Nat.lt_of_lt_of_le g1 hS.1) g2]
      exact hS.2.1 q g1 g2
    · rcases List.mem_append.mp hq with h | h
      · exact hS.2.2 q h
      · exact hLc q h
  have hz' : s.heap.size + (cells + bc') = base + L'.length := by rw [hlen r L' M' hP']; omega
  obtain ⟨t2, a1, b1⟩ := kk r L' M' hP' (mc := mc) (ms := ms) (slots := slots + bs') hC hl hH' hS' hz' (by omega) (by omega) T' e1 Y'
  refine ⟨t2, hgo t2 ?_, b1⟩
  have es : (r.toList ++ st).map (zh_tr base b) = (r.map (zh_tr base b)).toList ++ st.map (zh_tr base b) := by cases r <;> simp
  rw [es] at a1
  exact a1
theorem zh_pre {p : Program} {R : Room} {s : State} {m : MethodId} {args : Array Value} {meth : Method} {c : Code} {H : Heap} {locs : List Loc} {base b : Nat} {D : va_G} {cA : Nat → ClassId} {as : List Value}
    (hC : zh_C X d y cc nL rt p R s m args meth c base b D cA) (hH : zh_H base b D cA L M H) (hS : va_S (fun q => base ≤ q) s.heap H locs) (hHs : H.size = base + L.length) : PreS s H (zh_Pc X base b D cA as L M) (as.map (zh_tr base b)) := by
  obtain ⟨hx, hb, hml, hown, hts, hK, hX, hbb, hbs, hrest⟩ := hC
  refine ⟨fun a U g mk q => ?_, fun U hU hW => ?_⟩
  · obtain ⟨q0, q1, q2, q3, q4, q5⟩ := q
    exact ⟨q0, q1, q2, q3, zh_K.moved (u := U) (U := U.calling g mk a) (Vm.Alike.refl U.vm) q4, va_X.moved (u := U) (U := U.calling g mk a) (Vm.Alike.refl U.vm) q5⟩
  · refine ⟨rfl, by rw [hU]; exact hHs, hbb, by rw [hU]; exact hH, zh_K.moved hW.alike hK, ?_⟩
    rw [hU]
    exact va_X.moved hW.alike (va_X.kept hX (hS.2.1 b (Nat.lt_of_lt_of_le hbb hbs) (Nat.not_le.mpr hbb)))
theorem zh_callV {pn : Nat} {y' : MethodName} {cc' : ByteArray} {nL' : Nat} {rt' : Option FieldType} {idx id ci N bc' bs' : Nat} {rf : Nat → Option Nat} {r0 : vw_C} {as : List Value} {P' : Option Value → List zh_LC → zh_M → Prop}
    (hp : pc + 3 = pn) (hd : decode cc pc = .ok (.invokevirtual idx, 3)) (hL : zh_at L id = some (ci, N, rf)) (h100 : ci < 100) (hc : vwCl[ci]? = some r0) (hr0 : r0.1 = y'.cls)
    (m1 : Cond.methodLink y.cls idx y' ∈ zh_WS) (m2 : Cond.instanceMethod y' ∈ zh_WS) (m3 : Cond.selects y'.cls y' y' ∈ zh_WS) (m4 : Cond.initialized y'.cls ∈ zh_WS) (m5 : Cond.code y' cc' nL' rt' ∈ zh_WS)
    (hy : plainName y'.cls = true ∧ y'.cls ≠ "java/lang/invoke/MethodHandle" ∧ y'.cls ≠ "java/lang/invoke/VarHandle") (hn : (parseMethodDescriptor y'.desc).map (fun q => q.parameters.length) = some as.length)
    (hcat : ∀ v ∈ as, ∀ base b, (zh_tr base b v).category = 1) (hsc : ∀ base b, ((st.map (zh_tr base b)).map fun v => v.category).sum ≤ 8) (hnl : as.length + 1 ≤ nL') (hnl2 : nL' ≤ 21)
    (hw : zh_W X d y' cc' nL' rt' 0 (zh_en (.ref id :: as) nL') [] L M bc' bs' P') (hlen : ∀ r L' M', P' r L' M' → L'.length = L.length + bc')
    (kk : ∀ r L' M', P' r L' M' → zh_W X (d + 1) y cc nL rt pn lo (r.toList ++ st) L' M' bc bs P) : zh_W X (d + 1) y cc nL rt pc lo (as.reverse ++ .ref id :: st) L M (bc + bc') (bs + bs') P := by
  intro p l e R s m args below meth c H locs cells slots ls base b D cA mc ms hC hl hH hS hz h1 h2
  subst hp
  have hC0 := hC
  obtain ⟨hx, hb, hml, hown, hts, ⟨hK, hAO⟩, hX, hbb, hbs, hret, hlk, hnm, hfr, hlc⟩ := hC
  obtain ⟨i, rfl, hi⟩ := zh_at_some hL
  refine zh_sized fun hsz => ?_
  have hlow := zh_low hH (Nat.le_trans hbs hS.1)
  have hHs : H.size = base + L.length := by omega
  have hG : GoodIn zh_WS (wsV y.cls idx y'.cls y' (zh_wm y' cc' nL' rt')) := by
    intro w hw
    have hm : w ∈ zh_WS := by
      simp only [wsV, zh_wm, List.mem_append, List.mem_cons, List.not_mem_nil, or_false] at hw
      rcases hw with (rfl | rfl | rfl | rfl) | rfl | h
      · exact m1
      · exact m2
      · exact m3
      · exact m4
      · exact m5
      · exact h
    exact ⟨hm, zh_good w hm⟩
  have hMt := zh_met (as := .ref (i + 1) :: as) hw hy.1 (fun v hv base b => by
    rcases List.mem_cons.mp hv with rfl | h
    · rfl
    · exact hcat v h base b) (by simpa using hnl) l base b D cA
  have he := zh_ws_at base b cA M hi
  rw [zh_E_obj base b cA _ h100] at he
  obtain ⟨cell, k1, k2, k3⟩ := va_recv hK hH hc he
  have hp := zh_pre (as := .ref (i + 1) :: as) hC0 hH hS hHs
  have hrun := va_runV (As := as.map (zh_tr base b)) (rest := st.map (zh_tr base b)) (g := F0 m pc ls ((as.reverse ++ .ref (i + 1) :: st).map (zh_tr base b))) (locs := locs) (e := e) (below := below) (meth := meth) (cells := cells) (slots := slots) (b := base + i) (C := y'.cls) (n := as.length) ⟨hx, hb, hml, hown, hts⟩ hMt (cwV as.length hts hG rfl rfl rfl ⟨rfl, hy.2.1, hy.2.2, hn⟩ ⟨by show d + 1 ≤ _; omega, by show 8 + (nL' + 11) + 40 * d ≤ _; omega⟩) ⟨hp.1, ⟨cell, k1, k2, by rw [← hr0]; exact k3⟩, hp.2⟩ rfl (by simp) hl.1 (by simp [zh_tr, zh_ad]) (by have := hsc base b; show 2 * 0 + _ ≤ 8; omega) hd ⟨by omega, by omega⟩
  exact zh_after hrun hC0 hl hS hz hlen h1 h2 kk
theorem zh_callS {pn : Nat} {y' : MethodName} {cc' : ByteArray} {nL' : Nat} {rt' : Option FieldType} {idx bc' bs' : Nat} {as : List Value} {P' : Option Value → List zh_LC → zh_M → Prop}
    (hp : pc + 3 = pn) (hd : decode cc pc = .ok (.invokestatic idx, 3))
    (m1 : Cond.methodLink y.cls idx y' ∈ zh_WS) (m2 : Cond.static y' ∈ zh_WS) (m4 : Cond.initialized y'.cls ∈ zh_WS) (m5 : Cond.code y' cc' nL' rt' ∈ zh_WS)
    (hy : plainName y'.cls = true ∧ y'.cls ≠ "java/lang/invoke/MethodHandle" ∧ y'.cls ≠ "java/lang/invoke/VarHandle") (hn : (parseMethodDescriptor y'.desc).map (fun q => q.parameters.length) = some as.length)
    (hcat : ∀ v ∈ as, ∀ base b, (zh_tr base b v).category = 1) (hsc : ∀ base b, ((st.map (zh_tr base b)).map fun v => v.category).sum ≤ 8) (hnl : as.length ≤ nL') (hnl2 : nL' ≤ 21)
    (hw : zh_W X d y' cc' nL' rt' 0 (zh_en as nL') [] L M bc' bs' P') (hlen : ∀ r L' M', P' r L' M' → L'.length = L.length + bc')
    (kk : ∀ r L' M', P' r L' M' → zh_W X (d + 1) y cc nL rt pn lo (r.toList ++ st) L' M' bc bs P) : zh_W X (d + 1) y cc nL rt pc lo (as.reverse ++ st) L M (bc + bc') (bs + bs') P := by
  intro p l e R s m args below meth c H locs cells slots ls base b D cA mc ms hC hl hH hS hz h1 h2
  subst hp
  have hC0 := hC
  obtain ⟨hx, hb, hml, hown, hts, ⟨hK, hAO⟩, hX, hbb, hbs, hret, hlk, hnm, hfr, hlc⟩ := hC
  refine zh_sized fun hsz => ?_
  have hlow := zh_low hH (Nat.le_trans hbs hS.1)
  have hHs : H.size = base + L.length := by omega
  have hG : GoodIn zh_WS (zh_wm y' cc' nL' rt') := by
    intro w hw
    rcases List.mem_cons.mp hw with rfl | h
    · exact ⟨m5, zh_good _ m5⟩
    · exact ⟨h, zh_good w h⟩
  have hMt := zh_met (as := as) hw hy.1 hcat hnl l base b D cA
  have hp := zh_pre (as := as) hC0 hH hS hHs
  have hrun := va_runS (As := as.map (zh_tr base b)) (rest := st.map (zh_tr base b)) (g := F0 m pc ls ((as.reverse ++ st).map (zh_tr base b))) (locs := locs) (e := e) (below := below) (meth := meth) (cells := cells) (slots := slots) (n := as.length) ⟨hx, hb, hml, hown, hts⟩ hMt ⟨callB_of as.length hts hG rfl rfl rfl (hts _ m4) (hts _ m1) ⟨hy.2.1, hy.2.2, hn⟩ ⟨by show d + 1 ≤ _; omega, by show 8 + (nL' + 11) + 40 * d ≤ _; omega⟩, hts _ m2⟩ hp rfl (by simp) hl.1 (by simp) (by have := hsc base b; show 2 * 0 + _ ≤ 8; omega) hd ⟨by omega, by omega⟩
  exact zh_after hrun hC0 hl hS hz hlen h1 h2 kk
theorem zh_callI {pn : Nat} {y' : MethodName} {cc' : ByteArray} {nL' : Nat} {idx id bc' bs' : Nat} {as : List Value} {P' : Option Value → List zh_LC → zh_M → Prop}
    (hp : pc + 3 = pn) (hd : decode cc pc = .ok (.invokespecial idx, 3)) (hyi : y'.name = "<init>")
    (m1 : Cond.methodLink y.cls idx y' ∈ zh_WS) (m2 : Cond.instanceMethod y' ∈ zh_WS) (m4 : Cond.initialized y'.cls ∈ zh_WS) (m5 : Cond.code y' cc' nL' none ∈ zh_WS)
    (hy : plainName y'.cls = true ∧ y'.cls ≠ "java/lang/invoke/MethodHandle" ∧ y'.cls ≠ "java/lang/invoke/VarHandle") (hn : (parseMethodDescriptor y'.desc).map (fun q => q.parameters.length) = some as.length)
    (hcat : ∀ v ∈ as, ∀ base b, (zh_tr base b v).category = 1) (hsc : ∀ base b, ((st.map (zh_tr base b)).map fun v => v.category).sum ≤ 8) (hnl : as.length + 1 ≤ nL') (hnl2 : nL' ≤ 21)
    (hw : zh_W X d y' cc' nL' none 0 (zh_en (.ref id :: as) nL') [] L M bc' bs' P') (hlen : ∀ r L' M', P' r L' M' → L'.length = L.length + bc')
    (kk : ∀ r L' M', P' r L' M' → zh_W X (d + 1) y cc nL rt pn lo (r.toList ++ st) L' M' bc bs P) : zh_W X (d + 1) y cc nL rt pc lo (as.reverse ++ .ref id :: st) L M (bc + bc') (bs + bs') P := by
  intro p l e R s m args below meth c H locs cells slots ls base b D cA mc ms hC hl hH hS hz h1 h2
  subst hp
  have hC0 := hC
  obtain ⟨hx, hb, hml, hown, hts, ⟨hK, hAO⟩, hX, hbb, hbs, hret, hlk, hnm, hfr, hlc⟩ := hC
  refine zh_sized fun hsz => ?_
  have hlow := zh_low hH (Nat.le_trans hbs hS.1)
  have hHs : H.size = base + L.length := by omega
  have hG : GoodIn zh_WS (zh_wm y' cc' nL' none) := by
    intro w hw
    rcases List.mem_cons.mp hw with rfl | h
    · exact ⟨m5, zh_good _ m5⟩
    · exact ⟨h, zh_good w h⟩
  have hMt := zh_met (as := .ref id :: as) hw hy.1 (fun v hv base b => by
    rcases List.mem_cons.mp hv with rfl | h
    · rfl
    · exact hcat v h base b) (by simpa using hnl) l base b D cA
  have hp := zh_pre (as := .ref id :: as) hC0 hH hS hHs
  have hrun := va_runI (As := as.map (zh_tr base b)) (rest := st.map (zh_tr base b)) (g := F0 m pc ls ((as.reverse ++ .ref id :: st).map (zh_tr base b))) (locs := locs) (e := e) (below := below) (meth := meth) (cells := cells) (slots := slots) (b := zh_ad base b id) (n := as.length) ⟨hx, hb, hml, hown, hts⟩ hMt (cwI as.length hts hG rfl rfl rfl (hts _ m4) (hts _ m1) (hts _ m2) hyi ⟨hy.2.1, hy.2.2, hn⟩ ⟨by show d + 1 ≤ _; omega, by show 8 + (nL' + 11) + 40 * d ≤ _; omega⟩) hp rfl (by simp) hl.1 (by simp [zh_tr]) (by have := hsc base b; show 2 * 0 + _ ≤ 8; omega) hd ⟨by omega, by omega⟩
  exact zh_after hrun hC0 hl hS hz hlen h1 h2 kk
theorem zh_obj {pn : Nat} {idx id : Nat} (hp : pc + 3 = pn) (hd : decode cc pc = .ok (.invokespecial idx, 3)) (m1 : Cond.methodLink y.cls idx Lib.objectInit ∈ zh_WS) (m2 : Cond.instanceMethod Lib.objectInit ∈ zh_WS) (m3 : Cond.code Lib.objectInit ⟨#[0xb1]⟩ 1 none ∈ zh_WS) (hsc : ∀ base b, ((st.map (zh_tr base b)).map fun v => v.category).sum ≤ 8)
    (kk : zh_W X (d + 1) y cc nL rt pn lo st L M bc bs P) : zh_W X (d + 1) y cc nL rt pc lo (.ref id :: st) L M bc bs P := by
  intro p l e R s m args below meth c H locs cells slots ls base b D cA mc ms hC hl hH hS hz h1 h2
  subst hp
  have hC0 := hC
  obtain ⟨hx, hb, hml, hown, hts, ⟨hK, hAO⟩, hX, hbb, hbs, hret, hlk, hnm, hfr, hlc⟩ := hC
  exact W.objInit (a := zh_ad base b id) (rest := st.map (zh_tr base b)) hx hb hown (hts _ m1) (hts _ m2) (hts _ m3) rfl (by rw [hml]; exact hl.1) rfl hd (by omega) (by have := hsc base b; show 2 * 0 + _ + 12 ≤ _; omega) (kk hC0 hl hH hS hz h1 h2)
theorem zh_max {pn : Nat} {idx : Nat} {x z : Int32} (hp : pc + 3 = pn) (hd : decode cc pc = .ok (.invokestatic idx, 3)) (m1 : Cond.methodLink y.cls idx Lib.Math.max.name ∈ zh_WS) (m2 : Cond.static Lib.Math.max.name ∈ zh_WS) (m3 : Cond.initialized "java/lang/Math" ∈ zh_WS) (m4 : Cond.code Lib.Math.max.name Lib.Math.max.code 2 (some .int) ∈ zh_WS) (hsc : ∀ base b, ((st.map (zh_tr base b)).map fun v => v.category).sum ≤ 8)
    (kk : zh_W X (d + 1) y cc nL rt pn lo (.int (if x < z then z else x) :: st) L M bc bs P) : zh_W X (d + 1) y cc nL rt pc lo (.int z :: .int x :: st) L M bc bs P := by
  intro p l e R s m args below meth c H locs cells slots ls base b D cA mc ms hC hl hH hS hz h1 h2
  subst hp
  have hC0 := hC
  obtain ⟨hx, hb, hml, hown, hts, ⟨hK, hAO⟩, hX, hbb, hbs, hret, hlk, hnm, hfr, hlc⟩ := hC
  exact va_mmax hx hb (hml.trans hl.1.symm) hown (hts _ m1) (hts _ m2) (hts _ m3) (hts _ m4) (by omega) (by have := hsc base b; omega) (by omega) (by omega) hd (kk hC0 hl hH hS hz h1 h2)
theorem zh_min {pn : Nat} {idx : Nat} {x z : Int32} (hp : pc + 3 = pn) (hd : decode cc pc = .ok (.invokestatic idx, 3)) (m1 : Cond.methodLink y.cls idx Lib.Math.min.name ∈ zh_WS) (m2 : Cond.static Lib.Math.min.name ∈ zh_WS) (m3 : Cond.initialized "java/lang/Math" ∈ zh_WS) (m4 : Cond.code Lib.Math.min.name Lib.Math.min.code 2 (some .int) ∈ zh_WS) (hsc : ∀ base b, ((st.map (zh_tr base b)).map fun v => v.category).sum ≤ 8)
    (kk : zh_W X (d + 1) y cc nL rt pn lo (.int (if z < x then z else x) :: st) L M bc bs P) : zh_W X (d + 1) y cc nL rt pc lo (.int z :: .int x :: st) L M bc bs P := by
  intro p l e R s m args below meth c H locs cells slots ls base b D cA mc ms hC hl hH hS hz h1 h2
  subst hp
  have hC0 := hC
  obtain ⟨hx, hb, hml, hown, hts, ⟨hK, hAO⟩, hX, hbb, hbs, hret, hlk, hnm, hfr, hlc⟩ := hC
  exact va_mmin hx hb (hml.trans hl.1.symm) hown (hts _ m1) (hts _ m2) (hts _ m3) (hts _ m4) (by omega) (by have := hsc base b; omega) (by omega) (by omega) hd (kk hC0 hl hH hS hz h1 h2)
theorem zh_copy {pn : Nat} {idx id0 id1 n0 n1 : Nat} {rf0 rf1 : Nat → Option Nat} {sp dp n : Int32} (hp : pc + 3 = pn) (hd : decode cc pc = .ok (.invokestatic idx, 3)) (m1 : Cond.methodLink y.cls idx arraycopyName ∈ zh_WS) (m2 : Cond.native arraycopyName ∈ zh_WS) (m3 : Cond.static arraycopyName ∈ zh_WS) (m4 : Cond.initialized "java/lang/System" ∈ zh_WS) (hL0 : zh_at L id0 = some (100, n0, rf0)) (hL1 : zh_at L id1 = some (100, n1, rf1)) (g1 : ¬ sp < zI 0) (g2 : ¬ dp < zI 0) (g3 : ¬ n < zI 0) (g4 : sp.toNatClampNeg + n.toNatClampNeg ≤ n0) (g5 : dp.toNatClampNeg + n.toNatClampNeg ≤ n1) (hsc : ∀ base b, ((st.map (zh_tr base b)).map fun v => v.category).sum ≤ 8) (hnat : nativeFrameWords "java/lang/System" "arraycopy" 5 + 11 ≤ 32)
    (kk : zh_W X (d + 1) y cc nL rt pn lo st L (zh_row M id1 (va_cpy (M id0) (M id1) sp.toNatClampNeg dp.toNatClampNeg n.toNatClampNeg)) bc bs P) : zh_W X (d + 1) y cc nL rt pc lo (.int n :: .int dp :: .ref id1 :: .int sp :: .ref id0 :: st) L M bc bs P := by
  intro p l e R s m args below meth c H locs cells slots ls base b D cA mc ms hC hl hH hS hz h1 h2
  subst hp
  have hC0 := hC
  obtain ⟨hx, hb, hml, hown, hts, ⟨hK, hAO⟩, hX, hbb, hbs, hret, hlk, hnm, hfr, hlc⟩ := hC
  obtain ⟨i0, rfl, hi0⟩ := zh_at_some hL0
  obtain ⟨i1, rfl, hi1⟩ := zh_at_some hL1
  have he0 := zh_ws_at base b cA M hi0
  have he1 := zh_ws_at base b cA M hi1
  rw [zh_E_int base b cA _ (t := 0) rfl] at he0 he1
  refine va_copyi (ty := .int) hx hb (hml.trans hl.1.symm) hown (hts _ m1) (hts _ m2) (hts _ m3) (hts _ m4) hK hH (zh_D base b cA L M) hS i0 i1 0 0 he0 he1 rfl rfl rfl (by rw [zI_0] at g1; exact g1) (by rw [zI_0] at g2; exact g2) (by rw [zI_0] at g3; exact g3) g4 g5 (fun _ _ => rfl) (by omega) (by have := hsc base b; omega) hd fun H1 locs1 q1 _ q3 => ?_
  rw [zh_ws_set base b cA (M' := zh_row M (i1 + 1) (va_cpy (M (i0 + 1)) (M (i1 + 1)) sp.toNatClampNeg dp.toNatClampNeg n.toNatClampNeg)) hi1 rfl (fun _ _ => rfl) (fun q hq => zh_row_ne (by omega)) (by rw [zh_E_int base b cA _ (t := 0) rfl, zh_row_self])] at q1
  exact kk hC0 hl q1 q3 hz h1 h2
end ZHM
