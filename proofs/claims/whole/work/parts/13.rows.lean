theorem RC.st {M M0 : zh_M} {A : zA} (h : RC M A M0) {i : Nat} (hi : i < 6) : M (10 + 3 * i) 2 = zI (A 2 i) := h.1 2 i (by unfold zc_in; omega)
theorem RC.st_ {M M0 : zh_M} {A : zA} (h : RC M A M0) {i : Nat} {v : Int} (hi : i < 6) : RC (zh_set M (10 + 3 * i) 2 (zI v)) (aset A 2 i v) M0 := h.put (a := 2) (k := i) (by unfold zc_in; omega)
theorem RC.fr {M M0 : zh_M} {A : zA} (h : RC M A M0) {i : Nat} (hi : i < 6) : M (10 + 3 * i) 3 = zI (A 3 i) := h.1 3 i (by unfold zc_in; omega)
theorem RC.fr_ {M M0 : zh_M} {A : zA} (h : RC M A M0) {i : Nat} {v : Int} (hi : i < 6) : RC (zh_set M (10 + 3 * i) 3 (zI v)) (aset A 3 i v) M0 := h.put (a := 3) (k := i) (by unfold zc_in; omega)
theorem RC.rm {M M0 : zh_M} {A : zA} (h : RC M A M0) {i : Nat} (hi : i < 6) : M (10 + 3 * i) 4 = zI (A 4 i) := h.1 4 i (by unfold zc_in; omega)
theorem RC.rm_ {M M0 : zh_M} {A : zA} (h : RC M A M0) {i : Nat} {v : Int} (hi : i < 6) : RC (zh_set M (10 + 3 * i) 4 (zI v)) (aset A 4 i v) M0 := h.put (a := 4) (k := i) (by unfold zc_in; omega)
theorem RC.cpd {M M0 : zh_M} {A : zA} (h : RC M A M0) {i : Nat} (hi : i < 6) : M (10 + 3 * i) 5 = zI (A 5 i) := h.1 5 i (by unfold zc_in; omega)
theorem RC.cpd_ {M M0 : zh_M} {A : zA} (h : RC M A M0) {i : Nat} {v : Int} (hi : i < 6) : RC (zh_set M (10 + 3 * i) 5 (zI v)) (aset A 5 i v) M0 := h.put (a := 5) (k := i) (by unfold zc_in; omega)
theorem RC.sc {M M0 : zh_M} {A : zA} (h : RC M A M0) {i : Nat} (hi : i < 6) : M (10 + 3 * i) 6 = zI (A 6 i) := h.1 6 i (by unfold zc_in; omega)
theorem RC.sc_ {M M0 : zh_M} {A : zA} (h : RC M A M0) {i : Nat} {v : Int} (hi : i < 6) : RC (zh_set M (10 + 3 * i) 6 (zI v)) (aset A 6 i v) M0 := h.put (a := 6) (k := i) (by unfold zc_in; omega)
theorem RC.tk {M M0 : zh_M} {A : zA} (h : RC M A M0) {i : Nat} (hi : i < 6) : M (10 + 3 * i) 7 = zI (A 7 i) := h.1 7 i (by unfold zc_in; omega)
theorem RC.tk_ {M M0 : zh_M} {A : zA} (h : RC M A M0) {i : Nat} {v : Int} (hi : i < 6) : RC (zh_set M (10 + 3 * i) 7 (zI v)) (aset A 7 i v) M0 := h.put (a := 7) (k := i) (by unfold zc_in; omega)
theorem RC.wc {M M0 : zh_M} {A : zA} (h : RC M A M0) {i : Nat} (hi : i < 6) : M (10 + 3 * i) 8 = zI (A 8 i) := h.1 8 i (by unfold zc_in; omega)
theorem RC.wc_ {M M0 : zh_M} {A : zA} (h : RC M A M0) {i : Nat} {v : Int} (hi : i < 6) : RC (zh_set M (10 + 3 * i) 8 (zI v)) (aset A 8 i v) M0 := h.put (a := 8) (k := i) (by unfold zc_in; omega)
theorem RC.aw {M M0 : zh_M} {A : zA} (h : RC M A M0) {i : Nat} (hi : i < 6) : M (10 + 3 * i) 9 = zI (A 9 i) := h.1 9 i (by unfold zc_in; omega)
theorem RC.aw_ {M M0 : zh_M} {A : zA} (h : RC M A M0) {i : Nat} {v : Int} (hi : i < 6) : RC (zh_set M (10 + 3 * i) 9 (zI v)) (aset A 9 i v) M0 := h.put (a := 9) (k := i) (by unfold zc_in; omega)
theorem RC.oa {M M0 : zh_M} {A : zA} (h : RC M A M0) {i : Nat} (hi : i < 6) : M (10 + 3 * i) 10 = zI (A 10 i) := h.1 10 i (by unfold zc_in; omega)
theorem RC.oa_ {M M0 : zh_M} {A : zA} (h : RC M A M0) {i : Nat} {v : Int} (hi : i < 6) : RC (zh_set M (10 + 3 * i) 10 (zI v)) (aset A 10 i v) M0 := h.put (a := 10) (k := i) (by unfold zc_in; omega)
theorem RC.ti {M M0 : zh_M} {A : zA} (h : RC M A M0) {i : Nat} (hi : i < 6) : M (10 + 3 * i) 11 = zI (A 11 i) := h.1 11 i (by unfold zc_in; omega)
theorem RC.ti_ {M M0 : zh_M} {A : zA} (h : RC M A M0) {i : Nat} {v : Int} (hi : i < 6) : RC (zh_set M (10 + 3 * i) 11 (zI v)) (aset A 11 i v) M0 := h.put (a := 11) (k := i) (by unfold zc_in; omega)
theorem RC.ce {M M0 : zh_M} {A : zA} (h : RC M A M0) {i j : Nat} (hi : i < 6) (hj : j < 64) : M (10 + 3 * i + 1) j = zI (A 12 (64 * i + j)) := by
  have h1 := h.1 12 (64 * i + j) (by unfold zc_in; omega)
  have e1 : zc_a 12 (64 * i + j) = 10 + 3 * i + 1 := by show 11 + 3 * ((64 * i + j) / 64) = _; omega
  have e2 : zc_k 12 (64 * i + j) = j := by show (64 * i + j) % 64 = _; omega
  rw [e1, e2] at h1
  exact h1
theorem RC.ce_ {M M0 : zh_M} {A : zA} (h : RC M A M0) {i j : Nat} {v : Int} (hi : i < 6) (hj : j < 64) : RC (zh_set M (10 + 3 * i + 1) j (zI v)) (aset A 12 (64 * i + j) v) M0 := by
  have h1 := h.put (a := 12) (k := 64 * i + j) (v := v) (by unfold zc_in; omega)
  have e1 : zc_a 12 (64 * i + j) = 10 + 3 * i + 1 := by show 11 + 3 * ((64 * i + j) / 64) = _; omega
  have e2 : zc_k 12 (64 * i + j) = j := by show (64 * i + j) % 64 = _; omega
  rw [e1, e2] at h1
  exact h1
theorem RC.re {M M0 : zh_M} {A : zA} (h : RC M A M0) {i j : Nat} (hi : i < 6) (hj : j < 16) : M (10 + 3 * i + 2) j = zI (A 13 (16 * i + j)) := by
  have h1 := h.1 13 (16 * i + j) (by unfold zc_in; omega)
  have e1 : zc_a 13 (16 * i + j) = 10 + 3 * i + 2 := by show 12 + 3 * ((16 * i + j) / 16) = _; omega
  have e2 : zc_k 13 (16 * i + j) = j := by show (16 * i + j) % 16 = _; omega
  rw [e1, e2] at h1
  exact h1
theorem RC.re_ {M M0 : zh_M} {A : zA} (h : RC M A M0) {i j : Nat} {v : Int} (hi : i < 6) (hj : j < 16) : RC (zh_set M (10 + 3 * i + 2) j (zI v)) (aset A 13 (16 * i + j) v) M0 := by
  have h1 := h.put (a := 13) (k := 16 * i + j) (v := v) (by unfold zc_in; omega)
  have e1 : zc_a 13 (16 * i + j) = 10 + 3 * i + 2 := by show 12 + 3 * ((16 * i + j) / 16) = _; omega
  have e2 : zc_k 13 (16 * i + j) = j := by show (16 * i + j) % 16 = _; omega
  rw [e1, e2] at h1
  exact h1
theorem RC.clock {M M0 : zh_M} {A : zA} (h : RC M A M0) : M 1 4 = zI (A 14 0) := h.1 14 0 (by unfold zc_in; omega)
theorem RC.clock_ {M M0 : zh_M} {A : zA} (h : RC M A M0) {v : Int} : RC (zh_set M 1 4 (zI v)) (aset A 14 0 v) M0 := h.put (a := 14) (k := 0) (by unfold zc_in; omega)
theorem RC.freed {M M0 : zh_M} {A : zA} (h : RC M A M0) : M 2 6 = zI (A 14 1) := h.1 14 1 (by unfold zc_in; omega)
theorem RC.freed_ {M M0 : zh_M} {A : zA} (h : RC M A M0) {v : Int} : RC (zh_set M 2 6 (zI v)) (aset A 14 1 v) M0 := h.put (a := 14) (k := 1) (by unfold zc_in; omega)
theorem RC.pn {M M0 : zh_M} {A : zA} (h : RC M A M0) : M 37 4 = zI (A 14 4) := h.1 14 4 (by unfold zc_in; omega)
theorem RC.pn_ {M M0 : zh_M} {A : zA} (h : RC M A M0) {v : Int} : RC (zh_set M 37 4 (zI v)) (aset A 14 4 v) M0 := h.put (a := 14) (k := 4) (by unfold zc_in; omega)
theorem RC.mk {M M0 : zh_M} {A : zA} (h : RC M A M0) : M 37 5 = zI (A 14 5) := h.1 14 5 (by unfold zc_in; omega)
theorem RC.mk_ {M M0 : zh_M} {A : zA} (h : RC M A M0) {v : Int} : RC (zh_set M 37 5 (zI v)) (aset A 14 5 v) M0 := h.put (a := 14) (k := 5) (by unfold zc_in; omega)
theorem RC.cy {M M0 : zh_M} {A : zA} (h : RC M A M0) : M 37 6 = zI (A 14 6) := h.1 14 6 (by unfold zc_in; omega)
theorem RC.cy_ {M M0 : zh_M} {A : zA} (h : RC M A M0) {v : Int} : RC (zh_set M 37 6 (zI v)) (aset A 14 6 v) M0 := h.put (a := 14) (k := 6) (by unfold zc_in; omega)
theorem RC.pi {M M0 : zh_M} {A : zA} (h : RC M A M0) : M 37 7 = zI (A 14 7) := h.1 14 7 (by unfold zc_in; omega)
theorem RC.pi_ {M M0 : zh_M} {A : zA} (h : RC M A M0) {v : Int} : RC (zh_set M 37 7 (zI v)) (aset A 14 7 v) M0 := h.put (a := 14) (k := 7) (by unfold zc_in; omega)
theorem RC.fh {M M0 : zh_M} {A : zA} (h : RC M A M0) : M 37 8 = zI (A 14 8) := h.1 14 8 (by unfold zc_in; omega)
theorem RC.fh_ {M M0 : zh_M} {A : zA} (h : RC M A M0) {v : Int} : RC (zh_set M 37 8 (zI v)) (aset A 14 8 v) M0 := h.put (a := 14) (k := 8) (by unfold zc_in; omega)
theorem RC.tg {M M0 : zh_M} {A : zA} (h : RC M A M0) : M 37 9 = zI (A 14 9) := h.1 14 9 (by unfold zc_in; omega)
theorem RC.tg_ {M M0 : zh_M} {A : zA} (h : RC M A M0) {v : Int} : RC (zh_set M 37 9 (zI v)) (aset A 14 9 v) M0 := h.put (a := 14) (k := 9) (by unfold zc_in; omega)
theorem RC.mem {M M0 : zh_M} {A : zA} (h : RC M A M0) {i : Nat} (hi : i < 256) : M 3 i = zI (A 15 i) := h.1 15 i (by unfold zc_in; omega)
theorem RC.mem_ {M M0 : zh_M} {A : zA} (h : RC M A M0) {i : Nat} {v : Int} (hi : i < 256) : RC (zh_set M 3 i (zI v)) (aset A 15 i v) M0 := h.put (a := 15) (k := i) (by unfold zc_in; omega)
theorem RC.kd {M M0 : zh_M} {A : zA} (h : RC M A M0) {i : Nat} (hi : i < 16) : M 4 i = zI (A 16 i) := h.1 16 i (by unfold zc_in; omega)
theorem RC.kd_ {M M0 : zh_M} {A : zA} (h : RC M A M0) {i : Nat} {v : Int} (hi : i < 16) : RC (zh_set M 4 i (zI v)) (aset A 16 i v) M0 := h.put (a := 16) (k := i) (by unfold zc_in; omega)
theorem RC.un {M M0 : zh_M} {A : zA} (h : RC M A M0) {i : Nat} (hi : i < 16) : M 5 i = zI (A 17 i) := h.1 17 i (by unfold zc_in; omega)
theorem RC.un_ {M M0 : zh_M} {A : zA} (h : RC M A M0) {i : Nat} {v : Int} (hi : i < 16) : RC (zh_set M 5 i (zI v)) (aset A 17 i v) M0 := h.put (a := 17) (k := i) (by unfold zc_in; omega)
theorem RC.sz {M M0 : zh_M} {A : zA} (h : RC M A M0) {i : Nat} (hi : i < 128) : M 6 i = zI (A 18 i) := h.1 18 i (by unfold zc_in; omega)
theorem RC.sz_ {M M0 : zh_M} {A : zA} (h : RC M A M0) {i : Nat} {v : Int} (hi : i < 128) : RC (zh_set M 6 i (zI v)) (aset A 18 i v) M0 := h.put (a := 18) (k := i) (by unfold zc_in; omega)
theorem RC.pc {M M0 : zh_M} {A : zA} (h : RC M A M0) {i : Nat} (hi : i < 128) : M 7 i = zI (A 19 i) := h.1 19 i (by unfold zc_in; omega)
theorem RC.pc_ {M M0 : zh_M} {A : zA} (h : RC M A M0) {i : Nat} {v : Int} (hi : i < 128) : RC (zh_set M 7 i (zI v)) (aset A 19 i v) M0 := h.put (a := 19) (k := i) (by unfold zc_in; omega)
theorem RC.ma {M M0 : zh_M} {A : zA} (h : RC M A M0) {i : Nat} (hi : i < 128) : M 8 i = zI (A 20 i) := h.1 20 i (by unfold zc_in; omega)
theorem RC.ma_ {M M0 : zh_M} {A : zA} (h : RC M A M0) {i : Nat} {v : Int} (hi : i < 128) : RC (zh_set M 8 i (zI v)) (aset A 20 i v) M0 := h.put (a := 20) (k := i) (by unfold zc_in; omega)
theorem RC.pe {M M0 : zh_M} {A : zA} (h : RC M A M0) {i : Nat} (hi : i < 128) : M 38 i = zI (A 23 i) := h.1 23 i (by unfold zc_in; omega)
theorem RC.pe_ {M M0 : zh_M} {A : zA} (h : RC M A M0) {i : Nat} {v : Int} (hi : i < 128) : RC (zh_set M 38 i (zI v)) (aset A 23 i v) M0 := h.put (a := 23) (k := i) (by unfold zc_in; omega)
theorem RC.le {M M0 : zh_M} {A : zA} (h : RC M A M0) {i : Nat} (hi : i < 4) : M (29 + 2 * i) 1 = zI (A 22 i) := h.1 22 i (by unfold zc_in; omega)
theorem RC.le_ {M M0 : zh_M} {A : zA} (h : RC M A M0) {i : Nat} {v : Int} (hi : i < 4) : RC (zh_set M (29 + 2 * i) 1 (zI v)) (aset A 22 i v) M0 := h.put (a := 22) (k := i) (by unfold zc_in; omega)
theorem RC.qu {M M0 : zh_M} {A : zA} (h : RC M A M0) {i j : Nat} (hi : i < 4) (hj : j < i) : M (29 + 2 * i + 1) j = zI (A 21 (4 * i + j)) := by
  have h1 := h.1 21 (4 * i + j) (by unfold zc_in; omega)
  have e1 : zc_a 21 (4 * i + j) = 29 + 2 * i + 1 := by show 30 + 2 * ((4 * i + j) / 4) = _; omega
  have e2 : zc_k 21 (4 * i + j) = j := by show (4 * i + j) % 4 = _; omega
  rw [e1, e2] at h1
  exact h1
theorem RC.qu_ {M M0 : zh_M} {A : zA} (h : RC M A M0) {i j : Nat} {v : Int} (hi : i < 4) (hj : j < i) : RC (zh_set M (29 + 2 * i + 1) j (zI v)) (aset A 21 (4 * i + j) v) M0 := by
  have h1 := h.put (a := 21) (k := 4 * i + j) (v := v) (by unfold zc_in; omega)
  have e1 : zc_a 21 (4 * i + j) = 29 + 2 * i + 1 := by show 30 + 2 * ((4 * i + j) / 4) = _; omega
  have e2 : zc_k 21 (4 * i + j) = j := by show (4 * i + j) % 4 = _; omega
  rw [e1, e2] at h1
  exact h1
