/-- what is left: the pure machine's run of the law, on every script -/
theorem hkSpec {L : Nat} (hL : L ≤ 3584) (xs : Nat → Int32) : ∃ (n d t' : Nat) (g' : hkG), d ≤ 1000 ∧ hkRun n d 184 (0, hkEnt 4 [(4, 0)], [], 0, hkG0 L xs) = some (some (0, 1), t', g') := by
  sorry
