section ZHH
variable {X : Nat × (Nat → Int32)} {d : Nat} {y : MethodName} {cc : ByteArray} {nL : Nat} {rt : Option FieldType} {pc : Nat} {lo : List (Option Value)} {st : List Value} {L : List zh_LC} {M : zh_M} {bc bs : Nat} {P : Option Value → List zh_LC → zh_M → Prop}
theorem zh_tableIn {dflt lw hg : Int} {offs : Array Int} {len : Nat} {x : Int32} {off : Int} {tgt : Nat} (hd : decode cc pc = .ok (.tableswitch dflt lw hg offs, len)) (g1 : ¬ x.toInt < lw) (g2 : ¬ hg < x.toInt) (ho : offs[(x.toInt - lw).toNat]? = some off) (ht : (pc : Int) + off = (tgt : Int)) (k : zh_W X d y cc nL rt tgt lo st L M bc bs P) : zh_W X d y cc nL rt pc lo (.int x :: st) L M bc bs P := by
  intro p l e R s m args below meth c H locs cells slots ls base b D cA mc ms hC hl hH hS hz h1 h2
  exact lv_tableIn hC.1 hC.2.1 hd g1 g2 ho ht (k hC hl hH hS hz h1 h2)
theorem zh_tableOut {dflt lw hg : Int} {offs : Array Int} {len : Nat} {x : Int32} {tgt : Nat} (hd : decode cc pc = .ok (.tableswitch dflt lw hg offs, len)) (g : x.toInt < lw ∨ hg < x.toInt) (ht : (pc : Int) + dflt = (tgt : Int)) (k : zh_W X d y cc nL rt tgt lo st L M bc bs P) : zh_W X d y cc nL rt pc lo (.int x :: st) L M bc bs P := by
  intro p l e R s m args below meth c H locs cells slots ls base b D cA mc ms hC hl hH hS hz h1 h2
  exact lv_tableOut hC.1 hC.2.1 hd g ht (k hC hl hH hS hz h1 h2)
theorem zh_sld {pn : Nat} {i : Int32} (hp : pc + 1 = pn) (hd : decode cc pc = .ok (.iaload, 1)) (hin : vp_in i X.1) (k : zh_W X d y cc nL rt pn lo (.int (X.2 i.toNatClampNeg) :: st) L M bc bs P) : zh_W X d y cc nL rt pc lo (.int i :: .ref 0 :: st) L M bc bs P := by
  intro p l e R s m args below meth c H locs cells slots ls base b D cA mc ms hC hl hH hS hz h1 h2
  subst hp
  have hC0 := hC
  obtain ⟨hx, hb, hml, hown, hts, hK, hX, hbb, hbs, hrest⟩ := hC
  exact va_sld hx hb hX (Nat.lt_of_lt_of_le hbb hbs) (Nat.not_le.mpr hbb) hS hin hd (k hC0 hl hH hS hz h1 h2)
theorem zh_slen {pn : Nat} (hp : pc + 1 = pn) (hd : decode cc pc = .ok (.arraylength, 1)) (k : zh_W X d y cc nL rt pn lo (.int (Int32.ofNat X.1) :: st) L M bc bs P) : zh_W X d y cc nL rt pc lo (.ref 0 :: st) L M bc bs P := by
  intro p l e R s m args below meth c H locs cells slots ls base b D cA mc ms hC hl hH hS hz h1 h2
  subst hp
  have hC0 := hC
  obtain ⟨hx, hb, hml, hown, hts, hK, hX, hbb, hbs, hrest⟩ := hC
  exact va_slen hx hb hX (Nat.lt_of_lt_of_le hbb hbs) (Nat.not_le.mpr hbb) hS hd (k hC0 hl hH hS hz h1 h2)
theorem zh_E_obj (base b : Nat) (cA : Nat → ClassId) (f : Nat → Int32) {ci N : Nat} {rf : Nat → Option Nat} (h : ci < 100) : zh_E base b cA f (ci, N, rf) = .inr (ci, (List.range N).map (fun k => zh_fv base b ci rf f k)) := by
  simp [zh_E, h]
theorem zh_E_int (base b : Nat) (cA : Nat → ClassId) (f : Nat → Int32) {t N : Nat} {rf : Nat → Option Nat} (h : zh_RA (100 + t) = false) : zh_E base b cA f (100 + t, N, rf) = .inl (cA t, N, .inl f) := by
  simp [zh_E, h]
theorem zh_E_ref (base b : Nat) (cA : Nat → ClassId) (f : Nat → Int32) {t N : Nat} {rf : Nat → Option Nat} (h : zh_RA (100 + t) = true) : zh_E base b cA f (100 + t, N, rf) = .inl (cA t, N, .inr (.inr (.inr (.inr (fun k => (rf k).map (zh_ad base b)))))) := by
  simp [zh_E, h]
theorem zh_fs_at (base b ci N : Nat) (rf : Nat → Option Nat) (f : Nat → Int32) {k : Nat} (h : k < N) : ((List.range N).map (fun k => zh_fv base b ci rf f k))[k]? = some (zh_fv base b ci rf f k) := by
  simp [List.getElem?_map, List.getElem?_range, h]
theorem zh_tr_rf (base b : Nat) (r : Option Nat) : zh_tr base b (va_rf r) = va_rf (r.map (zh_ad base b)) := by
  cases r <;> rfl
theorem zh_get {pn : Nat} {id ci N k idx : Nat} {rf : Nat → Option Nat} {C : String} {T : u_T} {v : Value} (hp : pc + 3 = pn) (hd : decode cc pc = .ok (.getfield idx, 3)) (hL : zh_at L id = some (ci, N, rf)) (hc : vwCl[ci]? = some (C, T, N)) (h100 : ci < 100) (hk : k < N) (hin : ∀ w ∈ u_ws C T N, w ∈ zh_WS) (hw : Cond.fieldLink y.cls idx (T k).1 (T k).2.1 (T k).2.2.1 ∈ zh_WS) (hv : v = if zh_isR ci k = true then va_rf (rf k) else .int (M id k))
    (kk : zh_W X d y cc nL rt pn lo (v :: st) L M bc bs P) : zh_W X d y cc nL rt pc lo (.ref id :: st) L M bc bs P := by
  intro p l e R s m args below meth c H locs cells slots ls base b D cA mc ms hC hl hH hS hz h1 h2
  subst hp
  obtain ⟨i, rfl, hi⟩ := zh_at_some hL
  have he := zh_ws_at base b cA M hi
  rw [zh_E_obj base b cA _ h100] at he
  refine va_get hC.1 hC.2.1 hC.2.2.2.2.1 hin hC.2.2.2.1 hC.2.2.2.2.2.1.1 hH i he hc k hk (hC.2.2.2.2.1 _ hw) (fun _ h => h) (v := zh_tr base b v) ?_ hd (kk hC hl hH hS hz h1 h2)
  rw [zh_fs_at base b ci N rf _ hk, hv]
  unfold zh_fv
  split
  · rw [zh_tr_rf]
  · rfl
theorem zh_fs_set (base b ci N : Nat) (rf : Nat → Option Nat) (f : Nat → Int32) {k : Nat} (h : k < N) (x : Int32) (hR : zh_isR ci k = false) : ((List.range N).map (fun k => zh_fv base b ci rf f k)).set k (.int x) = (List.range N).map (fun k2 => zh_fv base b ci rf (upd f k x) k2) := by
  apply List.ext_getElem?
  intro j
  by_cases hj : j = k
  · subst hj
    rw [List.getElem?_set_self (by simpa using h), zh_fs_at base b ci N rf _ h]
    simp [zh_fv, hR, upd]
  · rw [List.getElem?_set_ne (fun e => hj e.symm)]
    by_cases hN : j < N
    · rw [zh_fs_at base b ci N rf _ hN, zh_fs_at base b ci N rf _ hN]
      simp [zh_fv, upd, hj]
    · rw [List.getElem?_eq_none (by simpa using hN), List.getElem?_eq_none (by simpa using hN)]
def zh_rf (L : List zh_LC) (id k : Nat) (r : Option Nat) : List zh_LC := match zh_at L id with
  | some c => L.set (id - 1) (c.1, c.2.1, va_up c.2.2 k r)
  | none => L
theorem zh_fs_setR (base b ci N : Nat) (rf : Nat → Option Nat) (f : Nat → Int32) {k : Nat} (h : k < N) (r : Option Nat) (hR : zh_isR ci k = true) : ((List.range N).map (fun k => zh_fv base b ci rf f k)).set k (zh_tr base b (va_rf r)) = (List.range N).map (fun k2 => zh_fv base b ci (va_up rf k r) f k2) := by
  apply List.ext_getElem?
  intro j
  by_cases hj : j = k
  · subst hj
    rw [List.getElem?_set_self (by simpa using h), zh_fs_at base b ci N _ _ h]
    simp [zh_fv, hR, va_up, zh_tr_rf]
  · rw [List.getElem?_set_ne (fun e => hj e.symm)]
    by_cases hN : j < N
    · rw [zh_fs_at base b ci N rf _ hN, zh_fs_at base b ci N _ _ hN]
      simp [zh_fv, va_up, hj]
    · rw [List.getElem?_eq_none (by simpa using hN), List.getElem?_eq_none (by simpa using hN)]
theorem zh_put {pn : Nat} {id ci N k idx : Nat} {rf : Nat → Option Nat} {C : String} {T : u_T} {ty0 : Nat → FieldType} {v : Int32} (hp : pc + 3 = pn) (hd : decode cc pc = .ok (.putfield idx, 3)) (hL : zh_at L id = some (ci, N, rf)) (hc : vwCl[ci]? = some (C, T, N)) (h100 : ci < 100) (hk : k < N) (hin : ∀ w ∈ u_ws C T N, w ∈ zh_WS) (hty : ∀ k, k < N → parseFieldDescriptor (T k).2.2.1 = some (ty0 k)) (hnm : ∀ a, a < N → ∀ b, b < N → a ≠ b → (T a).2.1 ≠ (T b).2.1) (hw : Cond.fieldLink y.cls idx (T k).1 (T k).2.1 (T k).2.2.1 ∈ zh_WS) (hfin : (T k).2.2.2 = false) (hR : zh_isR ci k = false) (hn : narrow (ty0 k) (.int v) = .int v) (hfit : fits (ty0 k) (.int v) = true)
    (kk : zh_W X d y cc nL rt pn lo st L (zh_set M id k v) bc bs P) : zh_W X d y cc nL rt pc lo (.int v :: .ref id :: st) L M bc bs P := by
  intro p l e R s m args below meth c H locs cells slots ls base b D cA mc ms hC hl hH hS hz h1 h2
  subst hp
  obtain ⟨i, rfl, hi⟩ := zh_at_some hL
  have he := zh_ws_at base b cA M hi
  rw [zh_E_obj base b cA _ h100] at he
  refine va_put hC.1 hC.2.1 hC.2.2.2.2.1 hin ty0 hty hnm hC.2.2.2.1 hC.2.2.2.2.2.1.1 hH (zh_D base b cA L M) hS i he hc k hk (hC.2.2.2.2.1 _ hw) (fun _ h => h) hfin (v := .int v) (hty k hk) hn hfit (by simpa using hk) hd fun H1 locs1 q1 _ q3 => ?_
  rw [zh_ws_set base b cA (M' := zh_set M (i + 1) k v) hi rfl (fun _ _ => rfl) (fun j hj => zh_set_ne (by omega)) (by rw [zh_E_obj base b cA _ h100, zh_set_self, zh_fs_set base b ci N rf _ hk v hR])] at q1
  exact kk hC hl q1 q3 hz h1 h2
theorem zh_putF {pn : Nat} {i ci N k idx : Nat} {rf : Nat → Option Nat} {C : String} {T : u_T} {ty0 : Nat → FieldType} {r : Option Nat} (hp : pc + 3 = pn) (hd : decode cc pc = .ok (.putfield idx, 3)) (hi : L[i]? = some (ci, N, rf)) (hc : vwCl[ci]? = some (C, T, N)) (h100 : ci < 100) (hk : k < N) (hin : ∀ w ∈ u_ws C T N, w ∈ zh_WS) (hty : ∀ k, k < N → parseFieldDescriptor (T k).2.2.1 = some (ty0 k)) (hnm : ∀ a, a < N → ∀ b, b < N → a ≠ b → (T a).2.1 ≠ (T b).2.1) (hw : Cond.fieldLink y.cls idx (T k).1 (T k).2.1 (T k).2.2.1 ∈ zh_WS) (hfin : (T k).2.2.2 = true) (hyi : y.name = "<init>") (hdecl : (T k).1 = y.cls) (hR : zh_isR ci k = true) (hn : ∀ base b, narrow (ty0 k) (zh_tr base b (va_rf r)) = zh_tr base b (va_rf r)) (hfit : ∀ base b, fits (ty0 k) (zh_tr base b (va_rf r)) = true)
    (kk : zh_W X d y cc nL rt pn lo st (L.set i (ci, N, va_up rf k r)) M bc bs P) : zh_W X d y cc nL rt pc lo (va_rf r :: .ref (i + 1) :: st) L M bc bs P := by
  intro p l e R s m args below meth c H locs cells slots ls base b D cA mc ms hC hl hH hS hz h1 h2
  subst hp
  have he := zh_ws_at base b cA M hi
  rw [zh_E_obj base b cA _ h100] at he
  have hil : i < L.length := (List.getElem?_eq_some_iff.mp hi).1
  refine va_putF hC.1 hC.2.1 hC.2.2.2.2.1 hin ty0 hty hnm hC.2.2.2.1 hC.2.2.2.2.2.1.1 hH (zh_D base b cA L M) hS i he hc k hk (hC.2.2.2.2.1 _ hw) (fun _ h => h) hfin (hC.2.2.2.2.2.2.2.2.2.2.2.1 hyi) hdecl (v := zh_tr base b (va_rf r)) (hty k hk) (hn base b) (hfit base b) (by simpa using hk) hd fun H1 locs1 q1 _ q3 => ?_
  rw [zh_ws_set base b cA (L' := L.set i (ci, N, va_up rf k r)) (M' := M) (List.getElem?_set_self hil) (by simp) (fun j hj => List.getElem?_set_ne (fun e => hj e.symm)) (fun _ _ => rfl) (by rw [zh_E_obj base b cA _ h100, zh_fs_setR base b ci N rf _ hk r hR])] at q1
  exact kk hC hl q1 q3 (by simpa using hz) h1 h2
theorem zh_iald {pn : Nat} {id N : Nat} {rf : Nat → Option Nat} {i : Int32} (hp : pc + 1 = pn) (hd : decode cc pc = .ok (.iaload, 1)) (hL : zh_at L id = some (100, N, rf)) (hin : vp_in i N) (kk : zh_W X d y cc nL rt pn lo (.int (M id i.toNatClampNeg) :: st) L M bc bs P) : zh_W X d y cc nL rt pc lo (.int i :: .ref id :: st) L M bc bs P := by
  intro p l e R s m args below meth c H locs cells slots ls base b D cA mc ms hC hl hH hS hz h1 h2
  subst hp
  obtain ⟨j, rfl, hj⟩ := zh_at_some hL
  have he := zh_ws_at base b cA M hj
  rw [zh_E_int base b cA _ (t := 0) rfl] at he
  exact va_iald hC.1 hC.2.1 hC.2.2.2.2.2.1.1 hH j 0 he rfl hin hd (kk hC hl hH hS hz h1 h2)
theorem zh_zald {pn : Nat} {id N : Nat} {rf : Nat → Option Nat} {i : Int32} (hp : pc + 1 = pn) (hd : decode cc pc = .ok (.baload, 1)) (hL : zh_at L id = some (101, N, rf)) (hin : vp_in i N) (kk : zh_W X d y cc nL rt pn lo (.int (M id i.toNatClampNeg) :: st) L M bc bs P) : zh_W X d y cc nL rt pc lo (.int i :: .ref id :: st) L M bc bs P := by
  intro p l e R s m args below meth c H locs cells slots ls base b D cA mc ms hC hl hH hS hz h1 h2
  subst hp
  obtain ⟨j, rfl, hj⟩ := zh_at_some hL
  have he := zh_ws_at base b cA M hj
  rw [zh_E_int base b cA _ (t := 1) rfl] at he
  exact va_zald hC.1 hC.2.1 hC.2.2.2.2.2.1.1 hH j 1 he rfl hin hd (kk hC hl hH hS hz h1 h2)
theorem zh_iast {pn : Nat} {id N : Nat} {rf : Nat → Option Nat} {i x : Int32} (hp : pc + 1 = pn) (hd : decode cc pc = .ok (.iastore, 1)) (hL : zh_at L id = some (100, N, rf)) (hin : vp_in i N) (kk : zh_W X d y cc nL rt pn lo st L (zh_set M id i.toNatClampNeg x) bc bs P) : zh_W X d y cc nL rt pc lo (.int x :: .int i :: .ref id :: st) L M bc bs P := by
  intro p l e R s m args below meth c H locs cells slots ls base b D cA mc ms hC hl hH hS hz h1 h2
  subst hp
  obtain ⟨j, rfl, hj⟩ := zh_at_some hL
  have he := zh_ws_at base b cA M hj
  rw [zh_E_int base b cA _ (t := 0) rfl] at he
  refine va_iast hC.1 hC.2.1 hC.2.2.2.2.2.1.1 hH (zh_D base b cA L M) hS j 0 he rfl hin hd fun H1 locs1 q1 _ q3 => ?_
  rw [zh_ws_set base b cA (M' := zh_set M (j + 1) i.toNatClampNeg x) hj rfl (fun _ _ => rfl) (fun q hq => zh_set_ne (by omega)) (by rw [zh_E_int base b cA _ (t := 0) rfl, zh_set_self])] at q1
  exact kk hC hl q1 q3 hz h1 h2
theorem zh_zast {pn : Nat} {id N : Nat} {rf : Nat → Option Nat} {i x x' : Int32} (hp : pc + 1 = pn) (hd : decode cc pc = .ok (.bastore, 1)) (hL : zh_at L id = some (101, N, rf)) (hin : vp_in i N) (hx : vp_nar .boolean x = x') (kk : zh_W X d y cc nL rt pn lo st L (zh_set M id i.toNatClampNeg x') bc bs P) : zh_W X d y cc nL rt pc lo (.int x :: .int i :: .ref id :: st) L M bc bs P := by
  intro p l e R s m args below meth c H locs cells slots ls base b D cA mc ms hC hl hH hS hz h1 h2
  subst hp
  subst hx
  obtain ⟨j, rfl, hj⟩ := zh_at_some hL
  have he := zh_ws_at base b cA M hj
  rw [zh_E_int base b cA _ (t := 1) rfl] at he
  refine va_zast hC.1 hC.2.1 hC.2.2.2.2.2.1.1 hH (zh_D base b cA L M) hS j 1 he rfl hin hd fun H1 locs1 q1 _ q3 => ?_
  rw [zh_ws_set base b cA (M' := zh_set M (j + 1) i.toNatClampNeg (vp_nar .boolean x)) hj rfl (fun _ _ => rfl) (fun q hq => zh_set_ne (by omega)) (by rw [zh_E_int base b cA _ (t := 1) rfl, zh_set_self])] at q1
  exact kk hC hl q1 q3 hz h1 h2
theorem zh_aald {pn : Nat} {id t N : Nat} {rf : Nat → Option Nat} {i : Int32} {C : String} (hp : pc + 1 = pn) (hd : decode cc pc = .ok (.aaload, 1)) (hL : zh_at L id = some (100 + t, N, rf)) (hRA : zh_RA (100 + t) = true) (ht : ∀ cA, (zh_tys cA)[t]? = some (cA t, .object C)) (hin : vp_in i N) (kk : zh_W X d y cc nL rt pn lo (va_rf (rf i.toNatClampNeg) :: st) L M bc bs P) : zh_W X d y cc nL rt pc lo (.int i :: .ref id :: st) L M bc bs P := by
  intro p l e R s m args below meth c H locs cells slots ls base b D cA mc ms hC hl hH hS hz h1 h2
  subst hp
  obtain ⟨j, rfl, hj⟩ := zh_at_some hL
  have he := zh_ws_at base b cA M hj
  rw [zh_E_ref base b cA _ hRA] at he
  have h9 := kk (l := l) (e := e) (below := below) hC hl hH hS hz h1 h2
  rw [List.map_cons, zh_tr_rf] at h9
  exact va_aldq hC.1 hC.2.1 hC.2.2.2.2.2.1.1 hH j t he (ht cA) hin hd h9
theorem zh_aast {pn : Nat} {j q t N ci Nq : Nat} {rf rq : Nat → Option Nat} {i : Int32} {r : vw_C} (hp : pc + 1 = pn) (hd : decode cc pc = .ok (.aastore, 1)) (hj : L[j]? = some (100 + t, N, rf)) (hRA : zh_RA (100 + t) = true) (ht : ∀ cA, (zh_tys cA)[t]? = some (cA t, .object r.1)) (hq : L[q]? = some (ci, Nq, rq)) (h100 : ci < 100) (hc : vwCl[ci]? = some r) (hin : vp_in i N) (kk : zh_W X d y cc nL rt pn lo st (L.set j (100 + t, N, va_up rf i.toNatClampNeg (some (q + 1)))) M bc bs P) : zh_W X d y cc nL rt pc lo (.ref (q + 1) :: .int i :: .ref (j + 1) :: st) L M bc bs P := by
  intro p l e R s m args below meth c H locs cells slots ls base b D cA mc ms hC hl hH hS hz h1 h2
  subst hp
  have he := zh_ws_at base b cA M hj
  rw [zh_E_ref base b cA _ hRA] at he
  have hv := zh_ws_at base b cA M hq
  rw [zh_E_obj base b cA _ h100] at hv
  have hil : j < L.length := (List.getElem?_eq_some_iff.mp hj).1
  refine va_astq hC.1 hC.2.1 hC.2.2.2.2.2.1.1 hH (zh_D base b cA L M) hS j t q ci he (ht cA) hv hc hin hd fun H1 locs1 q1 _ q3 => ?_
  rw [zh_ws_set base b cA (L' := L.set j (100 + t, N, va_up rf i.toNatClampNeg (some (q + 1)))) (M' := M) (List.getElem?_set_self hil) (by simp) (fun x hx => List.getElem?_set_ne (fun e => hx e.symm)) (fun _ _ => rfl) ?_] at q1
  · exact kk hC hl q1 q3 (by simpa using hz) h1 h2
  · rw [zh_E_ref base b cA _ hRA]
    congr 7
    funext x
    simp only [va_up]
    split <;> rfl
theorem zh_alen {pn : Nat} {id t N : Nat} {rf : Nat → Option Nat} {ty : FieldType} (hp : pc + 1 = pn) (hd : decode cc pc = .ok (.arraylength, 1)) (hL : zh_at L id = some (100 + t, N, rf)) (ht : ∀ cA, (zh_tys cA)[t]? = some (cA t, ty)) (kk : zh_W X d y cc nL rt pn lo (.int (Int32.ofNat N) :: st) L M bc bs P) : zh_W X d y cc nL rt pc lo (.ref id :: st) L M bc bs P := by
  intro p l e R s m args below meth c H locs cells slots ls base b D cA mc ms hC hl hH hS hz h1 h2
  subst hp
  obtain ⟨j, rfl, hj⟩ := zh_at_some hL
  have he := zh_ws_at base b cA M hj
  cases hRA : zh_RA (100 + t) with
  | true =>
    rw [zh_E_ref base b cA _ hRA] at he
    exact va_alen hC.1 hC.2.1 hC.2.2.2.2.2.1.1 hH j t he (ht cA) rfl hd (kk hC hl hH hS hz h1 h2)
  | false =>
    rw [zh_E_int base b cA _ hRA] at he
    exact va_alen hC.1 hC.2.1 hC.2.2.2.2.2.1.1 hH j t he (ht cA) rfl hd (kk hC hl hH hS hz h1 h2)
theorem zh_iret {v : Int32} {ty : FieldType} (hd : decode cc pc = .ok (.ireturn, 1)) (hr : rt = some ty) (hn : narrow ty (.int v) = .int v) (h : P (some (.int v)) L M) : zh_W X d y cc nL rt pc lo [.int v] L M bc bs P := by
  intro p l e R s m args below meth c H locs cells slots ls base b D cA mc ms hC hl hH hS hz h1 h2
  obtain ⟨hx, hb, hml, hown, hts, hK, hX, hbb, hbs, hret, hlk, hnm, hfr, hlc⟩ := hC
  refine W.widen (k := mc) (n := ms) (by omega) (by omega) ?_
  exact W.zret hx hb (hret.trans hr) hn (fun t ht _ => ⟨some (.int v), L, M, h, rfl, by rw [ht]; exact hH, hS.F ht⟩) hS.2.2 hd hlk
theorem zh_aret {r : Option Nat} {ty : FieldType} (hd : decode cc pc = .ok (.areturn, 1)) (hr : rt = some ty) (hrt : (∃ n, ty = .object n) ∨ ∃ t, ty = .array t) (h : P (some (va_rf r)) L M) : zh_W X d y cc nL rt pc lo [va_rf r] L M bc bs P := by
  intro p l e R s m args below meth c H locs cells slots ls base b D cA mc ms hC hl hH hS hz h1 h2
  obtain ⟨hx, hb, hml, hown, hts, hK, hX, hbb, hbs, hret, hlk, hnm, hfr, hlc⟩ := hC
  refine W.widen (k := mc) (n := ms) (by omega) (by omega) ?_
  exact W.aret hx hb (hret.trans hr) hrt (by cases r <;> simp [zh_tr, va_rf]) (fun t ht _ => ⟨some (va_rf r), L, M, h, rfl, by rw [ht]; exact hH, hS.F ht⟩) hS.2.2 hd hlk
theorem zh_vret (hd : decode cc pc = .ok (.return_, 1)) (hr : rt = none) (h : P none L M) : zh_W X d y cc nL rt pc lo [] L M bc bs P := by
  intro p l e R s m args below meth c H locs cells slots ls base b D cA mc ms hC hl hH hS hz h1 h2
  obtain ⟨hx, hb, hml, hown, hts, hK, hX, hbb, hbs, hret, hlk, hnm, hfr, hlc⟩ := hC
  refine W.widen (k := mc) (n := ms) (by omega) (by omega) ?_
  exact W.vret hx hb (hret.trans hr) (fun t ht _ => ⟨none, L, M, h, rfl, by rw [ht]; exact hH, hS.F ht⟩) hS.2.2 hd hlk
end ZHH
