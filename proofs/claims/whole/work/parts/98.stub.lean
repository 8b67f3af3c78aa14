theorem am_law (L : Nat) (xs : Nat → Int32) (hL9 : L ≤ 384) : ∃ h1, Ev 300 0 0 (am_ent 4 [vr (some 0)]) [] (am_h0 L xs) = some (some (vi 1), h1) ∧ hk h1 ≤ 600000 ∧ hs h1 ≤ 7302250 := sorry
