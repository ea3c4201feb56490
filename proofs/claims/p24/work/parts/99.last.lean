/-- true of no start: 'no_lists'. It says nothing of the class, and is not handed in -/
theorem i_vc : Claimed_1_1 ∧ Claimed_1_2 := ⟨fun l _ h => absurd h (no_lists l), fun l _ h => absurd h (no_lists l)⟩
