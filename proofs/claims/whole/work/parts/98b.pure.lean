/-! THE LAW, as a run of the interpreter. -/
section NZ2
theorem str_0 (L : Nat) (xs : Nat → Int32) : STR0 (xm0 L xs) := fun k hk => by
  have hx : xS = 1000000 := rfl
  constructor
  · show xsp0 L xs (xS + 2 * k) = _
    unfold xsp0
    rw [if_neg (by omega), if_neg (by omega), if_pos (by omega), if_pos (by omega), show xS + 2 * k - xS = 2 * k by omega]
  · show xsp0 L xs (xS + (2 * k + 1)) = _
    unfold xsp0
    rw [if_neg (by omega), if_neg (by omega), if_pos (by omega), if_neg (by omega), show (xS + (2 * k + 1) - xS) / 2 = k by omega]
theorem law_pure (L : Nat) (xs : Nat → Int32) (hL : L ≤ 3584) : ∃ n m', ix xG xfty xacl xna xmx xrc xrk n 60 j_L_law 0 [.ref (xS + 60), xb, xb, xb] [] (xm0 L xs) = some (some (.int 1), m') ∧ m'.1 ≤ 1000 ∧ m'.2.1 ≤ 20000 := by
  have hx : xS = 1000000 := rfl
  have hs : xsp0 L xs (xS + 60) = some (.inl (0, L, xints xs)) := by
    unfold xsp0
    rw [if_neg (by omega), if_pos (by omega)]
  obtain ⟨n, r, m', h1, rfl, h2, h3⟩ := law_0 (g := xsp0 L xs) hL (str_0 L xs) hs
  exact ⟨n, m', h1, h2, h3⟩
end NZ2
