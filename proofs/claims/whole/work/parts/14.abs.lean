abbrev zb (x : Int) : Prop := -2147483648 ≤ x ∧ x < 2147483648
def zsum (f : Nat → Int) : Nat → Nat → Int
  | 0, _ => 0
  | k + 1, i => f i + zsum f k (i + 1)
def arow (A : zA) (a : Nat) (f : Nat → Int) : zA := fun b j => if b = a then f j else A b j
abbrev a_rdy (A : zA) (f : Int) : Prop := 0 ≤ f ∧ f < 6 ∧ A 2 f.toNat = 1
abbrev a_liv (A : zA) (f : Int) : Prop := 0 ≤ f ∧ f < 6 ∧ A 2 f.toNat ≠ 0
def a_ci (A : zA) (i : Nat) (k : Int) : Int := if 0 ≤ k ∧ k < 4 then (A 3 i - 1) * 4 + k else if k = 4 then A 13 (16 * i + (A 3 i - 1).toNat) else -1
def a_pf (A : zA) (i : Nat) (k : Int) : Int := if a_ci A i k = -1 then -1 else A 12 (64 * i + (a_ci A i k).toNat)
def a_fc (A : zA) (i : Nat) (k p : Int) : zA := if a_ci A i k = -1 then A else aset A 12 (64 * i + (a_ci A i k).toNat) p
abbrev a_src (A : zA) (i : Nat) (k : Int) : Prop := k = -1 ∨ a_ci A i k ≠ -1
def a_lowF (A : zA) : Nat → Nat → Int
  | 0, _ => -1
  | k + 1, i => if A 2 i = 0 then (i : Int) else a_lowF A k (i + 1)
def a_low (A : zA) : Int := a_lowF A 6 0
def a_living (A : zA) : Int := zsum (fun i => if A 2 i = 0 then 0 else 1) 6 0
abbrev gset (A : zA) (a b k : Nat) (v : Int) : zA := aset (aset A b k v) a k v
def a_begin (A : zA) (i : Nat) (p : Int) : zA := aset (aset (aset (aset (aset (gset (aset (gset (gset (aset A 2 i 1) 3 25 i 1) 4 26 i 2) 6 i 0) 7 27 i (-1)) 12 (64 * i + 0) p) 12 (64 * i + 1) (-1)) 12 (64 * i + 2) (-1)) 12 (64 * i + 3) (-1)) 13 (16 * i + 0) (-1)
def a_spawn (A : zA) (f k : Int) : Int × zA := if a_rdy A f ∧ a_src A f.toNat k ∧ a_low A ≠ -1 then (a_low A, a_begin A (a_low A).toNat (a_pf A f.toNat k)) else (-1, A)
def a_end (A : zA) (f : Int) : Int × zA := if a_liv A f ∧ a_living A ≠ 1 then (1, aset A 2 f.toNat 0) else (0, A)
def a_wake (A : zA) (f : Int) : Int × zA := if a_liv A f ∧ A 2 f.toNat ≠ 1 then (1, aset A 2 f.toNat 1) else (0, A)
def a_move (A : zA) (i : Nat) (r : Int) : zA := aset (aset (gset A 4 26 i r) 32 0 (A 32 0 + A 3 i)) 5 i (A 5 i + A 3 i)
def a_cp4 (A : zA) (d s : Nat) : zA := fun a k => if a = 12 ∧ d ≤ k ∧ k < d + 4 then A 12 (s + (k - d)) else A a k
def a_addF (A : zA) (i : Nat) : zA :=
  let B := if A 3 i = A 4 i then a_move A i (A 4 i * 2) else A
  let C := a_cp4 B (64 * i + (A 3 i * 4).toNat) (64 * i + ((A 3 i - 1) * 4).toNat)
  gset (aset C 13 (16 * i + (A 3 i).toNat) (A 13 (16 * i + (A 3 i - 1).toNat))) 3 25 i (A 3 i + 1)
def a_call (A : zA) (f : Int) : Int × zA := if a_rdy A f ∧ A 3 f.toNat < 16 then (1, a_addF A f.toNat) else (0, A)
def a_drop (A : zA) (i : Nat) : zA := aset (gset A 3 25 i (A 3 i - 1)) 12 (64 * i + ((A 3 i - 1 - 1) * 4).toNat) (A 12 (64 * i + ((A 3 i - 1) * 4).toNat))
def a_leave (A : zA) (f : Int) : Int × zA := if a_rdy A f ∧ 1 < A 3 f.toNat then (1, a_drop A f.toNat) else (0, A)
def a_aim (A : zA) (f k : Int) : Int × zA := if a_rdy A f ∧ 0 ≤ k ∧ k < 4 then (1, aset A 13 (16 * f.toNat + (A 3 f.toNat - 1).toNat) (a_ci A f.toNat k)) else (0, A)
def a_copy (A : zA) (f t s : Int) : Int × zA := if a_rdy A f ∧ a_ci A f.toNat t ≠ -1 ∧ a_src A f.toNat s then (1, a_fc A f.toNat t (a_pf A f.toNat s)) else (0, A)
def a_slot (n : Int) : Int := if n ≤ 2 then 2 else if n ≤ 4 then 4 else if n ≤ 8 then 8 else (n + 15) / 16 * 16
def a_wide (k : Int) : Int := if k < 16 then 1 else k / 16
def a_swU (A : zA) (u : Nat) : zA := if A 18 u ≠ 0 ∧ A 20 u = 0 then aset (aset (aset A 18 u 0) 19 u 0) 14 1 (A 14 1 + 1) else A
def a_swF : Nat → Nat → zA → zA
  | 0, _, A => A
  | k + 1, u, A => a_swF k (u + 1) (a_swU A u)
def a_fillP (v : Int) : Nat → Nat → zA → zA
  | 0, _, A => A
  | k + 1, p, A => if p < 16 then a_fillP v k (p + 1) (aset A 16 p v) else A
def a_kept (A : zA) (p : Nat) : Int := zsum (fun u => if A 18 u ≠ 0 ∧ A 20 u ≠ 0 then 1 else 0) 8 (8 * p)
def a_sweep (A : zA) (p : Nat) : zA :=
  let B := a_swF 8 (8 * p) (aset A 17 p 0)
  if a_kept A p = 0 then a_fillP 0 (a_wide (A 16 p)).toNat p B else B
def a_sws (most : Int) : Nat → Nat → Int → zA → Int × zA
  | 0, _, n, A => (n, A)
  | k + 1, p, n, A => if n < most then (if A 17 p = 0 then a_sws most k (p + 1) n A else a_sws most k (p + 1) (n + 1) (a_sweep A p)) else (n, A)
def a_sweeps (A : zA) (most : Int) : Int × zA := a_sws most 16 0 0 A
def a_openF (A : zA) (p : Nat) (slot : Int) : Nat → Int → Int
  | 0, _ => -1
  | k + 1, off => if off < 16 then (if A 18 ((16 * (p : Int) + off) / 2).toNat = 0 then 16 * (p : Int) + off else a_openF A p slot k (off + slot)) else -1
def a_open (A : zA) (p : Nat) (slot : Int) : Int := if A 16 p = slot then a_openF A p slot 8 0 else -1
def a_spans (slot : Int) : Nat → Nat → zA → Int × zA
  | 0, _, A => (-1, A)
  | k + 1, p, A => if A 16 p = slot then
      let B := if A 17 p = 0 then A else a_sweep A p
      if a_open B p slot = -1 then a_spans slot k (p + 1) B else (a_open B p slot, B)
    else a_spans slot k (p + 1) A
abbrev a_ends (A : zA) (p : Nat) : Prop := A 16 p = 0 ∧ (p = 15 ∨ A 16 (p + 1) ≠ 0)
def a_runF (A : zA) (need : Int) : Nat → Nat → Int → Int → Int → Int
  | 0, _, best, _, _ => best
  | k + 1, p, best, bl, len =>
    let l := if A 16 p = 0 then len + 1 else 0
    if a_ends A p ∧ need ≤ l ∧ l < bl then a_runF A need k (p + 1) ((p : Int) - l + 1) l l else a_runF A need k (p + 1) best bl l
def a_run (A : zA) (need : Int) : Int := a_runF A need 16 0 (-1) 17 0
def a_newS (A : zA) (slot : Int) : Int × zA := if a_run A (a_wide slot) = -1 then (-1, A) else (16 * a_run A (a_wide slot), aset (a_fillP 1 (a_wide slot).toNat (a_run A (a_wide slot)).toNat A) 16 (a_run A (a_wide slot)).toNat slot)
def a_wds (a : Nat) (ptrs : Int) : Nat → Nat → zA → zA
  | 0, _, A => A
  | k + 1, w, A => a_wds a ptrs k (w + 1) (aset A 15 (a + w) (if (w : Int) < ptrs then -1 else 0))
def a_fillS (A : zA) (a : Nat) (size ptrs mark : Int) : zA := a_wds a ptrs size.toNat 0 (aset (aset (aset (aset (aset A 28 (a / 2) ptrs) 33 a (A 14 5)) 18 (a / 2) size) 19 (a / 2) ptrs) 20 (a / 2) mark)
def a_seat (A : zA) (slot : Int) : Int × zA :=
  let q := if slot < 16 then a_spans slot 16 0 A else (-1, A)
  if q.1 = -1 then a_newS q.2 slot else q
def a_place (A : zA) (size ptrs mark : Int) : Int × zA :=
  let q := a_seat A (a_slot size)
  if q.1 = -1 then q else (q.1, a_fillS q.2 q.1.toNat size ptrs mark)
def a_mk (A : zA) (p : Int) : zA := if A 14 5 = 0 ∨ p < 0 ∨ 256 ≤ p ∨ A 20 (p / 2).toNat ≠ 0 ∨ 128 ≤ A 14 4 then A else aset (aset (aset A 20 (p / 2).toNat 2) 23 (A 14 4).toNat p) 14 4 (A 14 4 + 1)
def a_note (A : zA) (p : Int) : zA := if A 14 5 = 0 ∨ p < 0 ∨ 256 ≤ p then A else aset (a_mk A p) 24 p.toNat 1
def a_noteF (i : Nat) : Nat → Nat → zA → zA
  | 0, _, A => A
  | k + 1, q, A => a_noteF i k (q + 1) (a_note A (A 12 (64 * i + q)))
def a_shr (A : zA) (i : Nat) : zA := if 2 < A 4 i ∧ A 3 i * 4 ≤ A 4 i then a_move A i (A 4 i / 2) else A
def a_scan (A : zA) (i : Nat) : zA := a_shr (aset (a_noteF i (A 3 i * 4).toNat 0 A) 6 i 1) i
def a_mkF (a : Nat) : Nat → Nat → zA → zA
  | 0, _, A => A
  | k + 1, w, A => a_mkF a k (w + 1) (a_mk A (A 15 (a + w)))
def a_look (A : zA) (a : Nat) : zA := a_mkF a (A 19 (a / 2)).toNat 0 A
def a_nextF (A : zA) : Nat → Nat → Int
  | 0, _ => -1
  | k + 1, i => if A 2 i ≠ 0 ∧ A 6 i = 0 then (i : Int) else a_nextF A k (i + 1)
def a_next (A : zA) : Int := a_nextF A 6 0
abbrev a_left (A : zA) : Prop := 0 < A 14 4 ∨ a_next A ≠ -1
def a_piece (A : zA) : zA := if a_next A ≠ -1 then a_scan A (a_next A).toNat else if 0 < A 14 4 then a_look (aset (aset A 31 0 (A 31 0 + 1)) 14 4 (A 14 4 - 1)) (A 23 (A 14 4 - 1).toNat).toNat else A
def a_loop (bound : Int) : Nat → Int → zA → Int × zA
  | 0, n, A => (n, A)
  | k + 1, n, A => if n < bound ∧ a_left A then a_loop bound k (n + 1) (a_piece A) else (n, A)
def a_unsw : Nat → Nat → zA → zA
  | 0, _, A => A
  | k + 1, p, A => a_unsw k (p + 1) (aset A 17 p (if 2 ≤ A 16 p then 1 else 0))
def a_keptW (A : zA) : Int := zsum (fun u => if A 18 u ≠ 0 ∧ A 20 u ≠ 0 then a_slot (A 18 u) else 0) 128 0
def a_endM (A : zA) : zA :=
  let B := aset (a_unsw 16 0 (aset A 14 5 0)) 14 8 0
  arow (aset B 14 9 (if a_keptW B / 2 < 64 then 64 else a_keptW B / 2)) 34 (fun j => if j % 2 = 0 ∧ A 18 (j / 2) ≠ 0 ∧ A 20 (j / 2) ≠ 0 then 1 else 0)
def a_work (A : zA) (most : Int) : Int × zA :=
  let b := if most < 134 then most else 134
  let q := a_loop b b.toNat 0 A
  let B := aset q.2 14 7 (q.2 14 7 + q.1)
  if a_left B then (q.1, B) else (q.1, a_endM B)
def a_uns : Nat → Nat → zA → zA
  | 0, _, A => A
  | k + 1, i, A => a_uns k (i + 1) (aset A 6 i 0)
def a_chF (c : Nat) : Nat → Nat → zA → zA
  | 0, _, A => A
  | k + 1, r, A => a_chF c k (r + 1) (a_note A (A 21 (4 * c + r)))
def a_chs : Nat → Nat → zA → zA
  | 0, _, A => A
  | k + 1, c, A => a_chs k (c + 1) (a_chF c (A 22 c).toNat 0 A)
def a_cycle (A : zA) : zA :=
  let B := (a_sweeps A 16).2
  let C := aset (aset (aset B 14 6 (B 14 6 + 1)) 14 5 1) 14 4 0
  let D := aset (arow (arow (arow C 20 (fun j => if j < 128 then 0 else C 20 j)) 24 (fun _ => 0)) 33 (fun _ => 0)) 31 0 0
  a_chs 4 0 (a_uns 6 0 D)
def a_pre (A : zA) (slot : Int) : zA :=
  let B := if A 14 5 = 0 ∧ A 14 9 ≤ A 14 8 then a_cycle A else A
  if B 14 5 = 0 then B else (a_work B slot).2
def a_fin (A : zA) : zA := if A 14 5 = 0 then A else (a_work A 134).2
def a_any (A : zA) (size ptrs : Int) : Int × zA :=
  let q := a_place A size ptrs (if A 14 5 = 0 then 0 else 1)
  if q.1 = -1 then
    let r := a_place (a_sweeps (a_fin q.2) 16).2 size ptrs 0
    if r.1 = -1 then a_place (a_sweeps (a_fin (a_cycle r.2)) 16).2 size ptrs 0 else r
  else q
def a_make (A : zA) (f k size ptrs : Int) : Int × zA :=
  if a_rdy A f ∧ a_ci A f.toNat k ≠ -1 ∧ 1 ≤ size ∧ size ≤ 64 ∧ 0 ≤ ptrs ∧ ptrs ≤ size then
    let q := a_any (a_pre A (a_slot size)) size ptrs
    if q.1 = -1 then (-2, q.2) else (q.1, a_fc (aset q.2 14 8 (q.2 14 8 + a_slot size)) f.toNat k q.1)
  else (-1, A)
abbrev a_pw (A : zA) (a w : Int) : Prop := 0 ≤ a ∧ a < 256 ∧ 0 ≤ w ∧ w < A 19 (a / 2).toNat
abbrev a_iw (A : zA) (a w : Int) : Prop := 0 ≤ a ∧ a < 256 ∧ A 19 (a / 2).toNat ≤ w ∧ w < A 18 (a / 2).toNat
def a_setw (A : zA) (f k w s : Int) : Int × zA :=
  if a_rdy A f ∧ a_ci A f.toNat k ≠ -1 ∧ a_src A f.toNat s ∧ a_pw A (a_pf A f.toNat k) w then
    (1, aset (a_note (a_note A (A 15 (a_pf A f.toNat k + w).toNat)) (a_pf A f.toNat s)) 15 (a_pf A f.toNat k + w).toNat (a_pf A f.toNat s))
  else (0, A)
def a_get (A : zA) (f t k w : Int) : Int × zA := if a_rdy A f ∧ a_ci A f.toNat t ≠ -1 ∧ a_ci A f.toNat k ≠ -1 ∧ a_pw A (a_pf A f.toNat k) w then (1, a_fc A f.toNat t (A 15 (a_pf A f.toNat k + w).toNat)) else (0, A)
abbrev a_int (A : zA) (f k w : Int) : Prop := a_rdy A f ∧ a_ci A f.toNat k ≠ -1 ∧ a_iw A (a_pf A f.toNat k) w
def a_store (A : zA) (f k w v : Int) : Int × zA := if a_int A f k w then (1, aset A 15 (a_pf A f.toNat k + w).toNat v) else (0, A)
def a_load (A : zA) (f k w : Int) : Int × zA := if a_int A f k w then (A 15 (a_pf A f.toNat k + w).toNat, A) else (0, A)
def a_firstF (A : zA) (s c : Int) : Nat → Nat → Int → Int
  | 0, _, b => b
  | k + 1, i, b => if A 2 i = s ∧ (A 9 i = c ∨ A 10 i = c) ∧ (b = -1 ∨ A 11 i < A 11 b.toNat) then a_firstF A s c k (i + 1) i else a_firstF A s c k (i + 1) b
def a_first (A : zA) (s c : Int) : Int := a_firstF A s c 6 0 (-1)
def a_wait (A : zA) (i : Nat) (s k c d : Int) : zA := aset (aset (aset (aset (aset (aset (aset (aset A 14 0 (A 14 0 + 1)) 29 i (A 14 0 + 1)) 30 i k) 2 i s) 8 i (a_ci A i k)) 9 i c) 10 i d) 11 i (A 14 0)
def a_addL (A : zA) (c : Nat) (p : Int) : zA := if A 22 c < c then aset (aset A 21 (4 * c + (A 22 c).toNat) p) 22 c (A 22 c + 1) else A
def a_send (A : zA) (f k c : Int) : Int × zA :=
  if a_rdy A f ∧ a_ci A f.toNat k ≠ -1 ∧ 0 ≤ c ∧ c < 4 then
    let p := a_pf A f.toNat k
    let g := a_first A 3 c
    if g = -1 then (if A 22 c.toNat < c then (c, a_addL (a_note A p) c.toNat p) else (4, a_wait A f.toNat 2 k c c))
    else (c, gset (aset (aset (a_note A p) 2 g.toNat 1) 12 (64 * g.toNat + (A 8 g.toNat).toNat) p) 7 27 g.toNat c)
  else (-1, A)
abbrev a_gives (A : zA) (c : Int) : Prop := 0 < A 22 c.toNat ∨ a_first A 2 c ≠ -1
def a_shift (c : Nat) : Nat → Nat → zA → zA
  | 0, _, A => A
  | k + 1, r, A => a_shift c k (r + 1) (aset A 21 (4 * c + r) (A 21 (4 * c + r + 1)))
def a_rem (A : zA) (c : Nat) : zA := a_shift c (A 22 c - 1).toNat 0 (aset A 22 c (A 22 c - 1))
def a_out (A : zA) (c : Nat) : Int × zA :=
  let g := a_first A 2 c
  let p := if g = -1 then -1 else A 12 (64 * g.toNat + (A 8 g.toNat).toNat)
  let B := if g = -1 then A else a_note (aset A 2 g.toNat 1) p
  if B 22 c = 0 then (p, B) else (B 21 (4 * c), if g = -1 then a_rem B c else a_addL (a_rem B c) c p)
def a_take (A : zA) (f k c d : Int) : Int × zA :=
  if a_rdy A f ∧ a_ci A f.toNat k ≠ -1 ∧ 0 ≤ c ∧ c < 4 ∧ 0 ≤ d ∧ d < 4 then
    let g := if a_gives A c then c else d
    if a_gives A g then
      let q := a_out A g.toNat
      (g, gset (a_fc q.2 f.toNat k q.1) 7 27 f.toNat g)
    else (4, a_wait A f.toNat 3 k c d)
  else (-1, A)
def a_mark (A : zA) (n : Int) : Int × zA := if 1 ≤ n ∧ A 14 5 ≠ 0 then a_work A n else (0, A)
def a_collect (A : zA) : Int × zA := if A 14 5 = 0 then (1, a_cycle A) else (0, A)
def a_fiber (A : zA) (f w : Int) : Int :=
  if f < 0 ∨ 6 ≤ f then -1 else if w = 0 then A 2 f.toNat else if A 2 f.toNat = 0 then -1
  else if w = 1 then A 3 f.toNat else if w = 2 then A 4 f.toNat else if w = 3 then (if A 14 5 ≠ 0 ∧ A 6 f.toNat ≠ 0 then 1 else 0)
  else if 4 ≤ w ∧ w ≤ 7 then a_pf A f.toNat (w - 4) else if w = 8 then A 13 (16 * f.toNat + (A 3 f.toNat - 1).toNat) else if w = 9 then A 7 f.toNat else -1
def a_longF (A : zA) : Nat → Nat → Int → Int → Int
  | 0, _, m, _ => m
  | k + 1, p, m, len =>
    let l := if A 16 p = 0 then len + 1 else 0
    a_longF A k (p + 1) (if m < l then l else m) l
def a_count (A : zA) (w : Int) : Int :=
  if w = 0 then zsum (fun u => if A 18 u = 0 then 0 else 1) 128 0
  else if w = 1 then zsum (fun u => if A 18 u = 0 then 0 else a_slot (A 18 u)) 128 0
  else if w = 2 then zsum (fun p => if A 16 p = 0 then 1 else 0) 16 0
  else if w = 3 then a_longF A 16 0 0 0
  else if w = 4 then (if A 14 5 = 0 then 0 else 1)
  else if w = 5 then zsum (fun p => if A 17 p = 0 then 0 else 1) 16 0
  else if w = 6 then A 14 6 else if w = 7 then A 14 7 else if w = 8 then zsum (fun i => A 5 i) 6 0
  else if w = 9 then A 14 8 else if w = 10 then A 14 9 else if w = 11 then A 14 1 else -1
def a_page (A : zA) (p : Int) : Int := if 0 ≤ p ∧ p < 16 then A 16 p.toNat else -1
