theorem zh_pure {L : Nat} {xs : Nat → Int32} (hL : L ≤ 2560) : ∃ n, wl_L_law_18 (L, xs) (fun v _ => v = zI 1) n (zI 0) zM_118 := zs_law hL
