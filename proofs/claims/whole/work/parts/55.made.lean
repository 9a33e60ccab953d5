section ZHS
variable {p : Program} {l : Launch} {e : Env} {R : Room} {s : State} {m : MethodId} {args : Array Value} {below : List Frame} {meth : Method} {c : Code} {H : Heap} {locs : List Loc} {cells slots : Nat} {Q : State → Prop} {g : JFrame}
theorem zh_sized (h : H.size ≤ s.heap.size + cells → W p l e R s m args below meth c H locs cells slots Q g) : W p l e R s m args below meth c H locs cells slots Q g := fun T hT X => h (by rw [← hT]; exact X.heapSize) T hT X
end ZHS
theorem zh_low {base b : Nat} {D : va_G} {cA : Nat → ClassId} {L : List zh_LC} {M : zh_M} {H : Heap} (h : zh_H base b D cA L M H) (hb : base ≤ H.size) : base + L.length ≤ H.size := by
  by_cases h0 : L.length = 0
  · omega
  · have hi : L.length - 1 < L.length := by omega
    have h1 := (h (L.length - 1) _ (zh_ws_at base b cA M (List.getElem?_eq_getElem hi))).lt
    have h2 : base + (L.length - 1) < H.size := h1
    omega
theorem zh_ws_push (base b : Nat) (cA : Nat → ClassId) (L : List zh_LC) (M M' : zh_M) (c : zh_LC) (hM : ∀ j, j < L.length → M' (j + 1) = M (j + 1)) : zh_ws base b cA (L ++ [c]) M' = zh_ws base b cA L M ++ [(base + L.length, zh_E base b cA (M' (L.length + 1)) c)] := by
  apply List.ext_getElem?
  intro j
  by_cases hj : j < L.length
  · have hc2 : L[j]? = some L[j] := List.getElem?_eq_getElem hj
    rw [zh_ws_at base b cA M' (show (L ++ [c])[j]? = some L[j] by rw [List.getElem?_append_left hj]; exact hc2), List.getElem?_append_left (by simpa [zh_ws] using hj), zh_ws_at base b cA M hc2, hM j hj]
  · by_cases he : j = L.length
    · subst he
      rw [zh_ws_at base b cA M' (show (L ++ [c])[L.length]? = some c by simp), List.getElem?_append_right (by simp [zh_ws])]
      simp [zh_ws]
    · rw [List.getElem?_eq_none (by simp [zh_ws]; omega), List.getElem?_eq_none (by simp [zh_ws]; omega)]
theorem zh_H_push {base b : Nat} {D : va_G} {cA : Nat → ClassId} {L : List zh_LC} {M : zh_M} {H H1 : Heap} {c : zh_LC} {f : Nat → Int32} (h : zh_H base b D cA L M H) (o : ∀ q, q < base + L.length → H1[q]? = H[q]?) (hn : va_at D vwCl (base + L.length, zh_E base b cA f c) H1) : zh_H base b D cA (L ++ [c]) (zh_row M (L.length + 1) f) H1 := by
  unfold zh_H
  rw [zh_ws_push base b cA L M (zh_row M (L.length + 1) f) c (fun j hj => zh_row_ne (by omega)), zh_row_self]
  refine va_P.app (va_P.kept h (fun k q hq => ?_)) (fun k q hq => ?_)
  · obtain ⟨c2, hc2, rfl⟩ := zh_ws_of hq
    have hk : k < L.length := (List.getElem?_eq_some_iff.mp hc2).1
    exact o _ (by show base + k < _; omega)
  · have hz : k < 1 := (List.getElem?_eq_some_iff.mp hq).1
    rw [show k = 0 by omega] at hq
    cases hq
    exact hn
section ZHN
variable {X : Nat × (Nat → Int32)} {d : Nat} {y : MethodName} {cc : ByteArray} {nL : Nat} {rt : Option FieldType} {pc : Nat} {lo : List (Option Value)} {st : List Value} {L : List zh_LC} {M : zh_M} {bc bs : Nat} {P : Option Value → List zh_LC → zh_M → Prop}
theorem zh_new {pn : Nat} {idx ci N : Nat} {C : String} {T : u_T} {ty0 : Nat → FieldType} (hp : pc + 3 = pn) (hd : decode cc pc = .ok (.new idx, 3)) (hc : vwCl[ci]? = some (C, T, N)) (h100 : ci < 100) (hin : ∀ w ∈ u_ws C T N, w ∈ zh_WS) (hty : ∀ k, k < N → parseFieldDescriptor (T k).2.2.1 = some (ty0 k)) (hcl : Cond.classLink y.cls idx C ∈ zh_WS) (hinst : Cond.instantiable C N ∈ zh_WS) (hini : Cond.initialized C ∈ zh_WS) (hdf : ∀ j, j < N → defaultValue (ty0 j) = if zh_isR ci j = true then .null else .int 0)
    (kk : zh_W X d y cc nL rt pn lo (.ref (L.length + 1) :: st) (L ++ [(ci, N, fun _ => none)]) (zh_row M (L.length + 1) (fun _ => 0)) bc bs P) : zh_W X d y cc nL rt pc lo st L M (bc + 1) (bs + N) P := by
  intro p l e R s m args below meth c H locs cells slots ls base b D cA mc ms hC hl hH hS hz h1 h2
  subst hp
  have hC0 := hC
  obtain ⟨hx, hb, hml, hown, hts, ⟨hK, hAO⟩, hX, hbb, hbs, hrest⟩ := hC
  refine zh_sized fun hsz => ?_
  have hlow := zh_low hH (Nat.le_trans hbs hS.1)
  have hHs : H.size = base + L.length := by omega
  have hKn := hK.1 ci _ hc
  refine W.newcK hx hb hown (hts _ hcl) (hts _ hinst) (hts _ hini) rfl hd (by omega) (by omega) hKn.2.1 hHs fun H1 kC hkC e1 z1 o1 => ?_
  have hH1 : zh_H base b D cA (L ++ [(ci, N, fun _ => none)]) (zh_row M (L.length + 1) (fun _ => 0)) H1 := by
    refine zh_H_push hH o1 ?_
    rw [zh_E_obj base b cA _ h100]
    refine ⟨_, hc, (u_born ty0 hts hin hKn hkC e1 hty).to (fun j hj => ?_)⟩
    rw [hdf j hj]
    simp only [vp_V, List.getD_eq_getElem?_getD]
    rw [zh_fs_at base b ci N _ _ hj]
    simp only [Option.getD_some, zh_fv]
    split <;> rfl
  have hS1 : va_S (fun q => base ≤ q) s.heap H1 locs := ⟨by have := hS.1; omega, fun q g1 g2 => (o1 q (by have := hS.1; omega)).trans (hS.2.1 q g1 g2), hS.2.2⟩
  exact kk hC0 hl hH1 hS1 (by simp; omega) (by omega) (by omega)
theorem zh_newa {pn : Nat} {atype : ArrayType} {t N : Nat} {n : Int32} {ty : FieldType} (hp : pc + 2 = pn) (hd : decode cc pc = .ok (.newarray atype, 2)) (hty : newarray.typeOf atype = ty) (harr : Cond.arrayClass ty ∈ zh_WS) (ht : ∀ cA, (zh_tys cA)[t]? = some (cA t, ty)) (hRA : zh_RA (100 + t) = false) (hprim : ∀ (U : State) (q : ClassId), va_RA U q ty → U.vm.findClass ("[" ++ ty.toString) = some q) (hdf : defaultValue ty = .int 0) (hn : ¬ n < 0) (hN : n.toNatClampNeg = N) (hbytes : N * componentBytes ty ≤ 536870912)
    (kk : zh_W X d y cc nL rt pn lo (.ref (L.length + 1) :: st) (L ++ [(100 + t, N, fun _ => none)]) (zh_row M (L.length + 1) (fun _ => 0)) bc bs P) : zh_W X d y cc nL rt pc lo (.int n :: st) L M (bc + 1) (bs + N) P := by
  intro p l e R s m args below meth c H locs cells slots ls base b D cA mc ms hC hl hH hS hz h1 h2
  subst hp
  have hC0 := hC
  obtain ⟨hx, hb, hml, hown, hts, ⟨hK, hAO⟩, hX, hbb, hbs, hrest⟩ := hC
  subst hty
  refine zh_sized fun hsz => ?_
  have hlow := zh_low hH (Nat.le_trans hbs hS.1)
  have hHs : H.size = base + L.length := by omega
  refine va_newaK hx hb (hts _ harr) rfl hd rfl hn hN hbytes (by omega) (by omega) hHs fun H1 q e1 z1 o1 hAr hNm => ?_
  have hq : q = cA t := Option.some.inj (hNm.symm.trans (hprim s _ (hK.2 t _ (ht cA)).2))
  subst hq
  have hH1 : zh_H base b D cA (L ++ [(100 + t, N, fun _ => none)]) (zh_row M (L.length + 1) (fun _ => 0)) H1 := by
    refine zh_H_push hH o1 ?_
    rw [zh_E_int base b cA _ hRA]
    show H1[base + L.length]? = some (vp_cell _ _)
    rw [vp_cell_i, e1, hdf]
  have hS1 : va_S (fun q => base ≤ q) s.heap H1 locs := ⟨by have := hS.1; omega, fun q g1 g2 => (o1 q (by have := hS.1; omega)).trans (hS.2.1 q g1 g2), hS.2.2⟩
  exact kk hC0 hl hH1 hS1 (by simp; omega) (by omega) (by omega)
theorem zh_newq {pn : Nat} {idx t N : Nat} {n : Int32} {C : String} (hp : pc + 3 = pn) (hd : decode cc pc = .ok (.anewarray idx, 3)) (hcl : Cond.classLink y.cls idx C ∈ zh_WS) (hover : C = "FiberHeap$Fiber" ∨ C = "FiberHeap$Channel") (ht : ∀ cA, (zh_tys cA)[t]? = some (cA t, .object C)) (hRA : zh_RA (100 + t) = true) (hn : ¬ n < 0) (hN : n.toNatClampNeg = N) (hbytes : N * 4 ≤ 536870912)
    (kk : zh_W X d y cc nL rt pn lo (.ref (L.length + 1) :: st) (L ++ [(100 + t, N, fun _ => none)]) (zh_row M (L.length + 1) (fun _ => 0)) bc bs P) : zh_W X d y cc nL rt pc lo (.int n :: st) L M (bc + 1) (bs + N) P := by
  intro p l e R s m args below meth c H locs cells slots ls base b D cA mc ms hC hl hH hS hz h1 h2
  subst hp
  have hC0 := hC
  obtain ⟨hx, hb, hml, hown, hts, ⟨hK, hAO⟩, hX, hbb, hbs, hrest⟩ := hC
  subst hN
  refine zh_sized fun hsz => ?_
  have hlow := zh_low hH (Nat.le_trans hbs hS.1)
  have hHs : H.size = base + L.length := by omega
  refine W.anew hx hb hown (hts _ hcl) (show (Cond.arrayOver (.object C)).before args s = true from hover.elim (fun e => by rw [e]; exact hAO.1.use) (fun e => by rw [e]; exact hAO.2.use)) rfl hd rfl hn hbytes (by omega) (by omega) fun q kA comp g1 g2 g3 g4 => ?_
  obtain ⟨kA', comp', -, -, -, f4⟩ := (hK.2 t _ (ht cA)).2
  have hq : q = cA t := Option.some.inj (g1.symm.trans f4)
  subst hq
  rw [hHs]
  have o1 : ∀ x, x < base + L.length → (H.push { cls := cA t, slots := Array.replicate n.toNatClampNeg .null, vm := .none })[x]? = H[x]? := fun x hx => by rw [Array.getElem?_push, if_neg (by omega)]
  have hH1 : zh_H base b D cA (L ++ [(100 + t, n.toNatClampNeg, fun _ => none)]) (zh_row M (L.length + 1) (fun _ => 0)) (H.push { cls := cA t, slots := Array.replicate n.toNatClampNeg .null, vm := .none }) := by
    refine zh_H_push hH o1 ?_
    rw [zh_E_ref base b cA _ hRA]
    show (H.push _)[base + L.length]? = some (vp_cell _ _)
    rw [vp_cell_q, ← hHs, Array.getElem?_push, if_pos rfl, arrV_new]
    rfl
  have hS1 : va_S (fun q => base ≤ q) s.heap (H.push { cls := cA t, slots := Array.replicate n.toNatClampNeg .null, vm := .none }) locs := ⟨by have := hS.1; simp; omega, fun q g1 g2 => (o1 q (by have := hS.1; omega)).trans (hS.2.1 q g1 g2), hS.2.2⟩
  exact kk hC0 hl hH1 hS1 (by simp; omega) (by omega) (by omega)
end ZHN
