/-! 25: what the reference keeps beside -/
noncomputable def bmS (G : GS) (i : Nat) : Int := if fnS G i = -1 then 0 else spM G (-1) (fnS G i)
noncomputable def bnS (G : GS) (i : Nat) : Int := if nsS G i = -1 then 0 else spM G (nsS G i) (-1)
theorem bmS_or (G : GS) (i : Nat) : (fnS G i = -1 ∧ bmS G i = 0) ∨ (fnS G i ≠ -1 ∧ bmS G i = spM G (-1) (fnS G i)) := by
  unfold bmS
  by_cases h : fnS G i = -1
  · exact Or.inl ⟨h, if_pos h⟩
  · exact Or.inr ⟨h, if_neg h⟩
theorem bnS_or (G : GS) (i : Nat) : (nsS G i = -1 ∧ bnS G i = 0) ∨ (nsS G i ≠ -1 ∧ bnS G i = spM G (nsS G i) (-1)) := by
  unfold bnS
  by_cases h : nsS G i = -1
  · exact Or.inl ⟨h, if_pos h⟩
  · exact Or.inr ⟨h, if_neg h⟩
theorem bmS_rng {G : GS} (hI : Inv G) {i : Nat} (hi : i ≤ 2 * G.rr) : -1 ≤ bmS G i ∧ bmS G i ≤ 768 := by
  rcases bmS_or G i with h | ⟨h, h2⟩
  · omega
  · rw [h2]
    rcases fnS_is G i with q | q
    · exact absurd q h
    · exact spM_rng hI (Or.inr ⟨rfl, by omega, by omega⟩)
theorem bnS_rng {G : GS} (hI : Inv G) (i : Nat) : -1 ≤ bnS G i ∧ bnS G i ≤ 768 := by
  rcases bnS_or G i with h | ⟨h, h2⟩
  · omega
  · rw [h2]
    rcases nsS_is G i with q | q
    · exact absurd q h
    · exact spM_rng hI (Or.inl ⟨rfl, by omega⟩)
theorem fnS_rng (G : GS) (i : Nat) : -1 ≤ fnS G i ∧ fnS G i < (i : Int) ∨ fnS G i = -1 := by
  rcases fnS_is G i with q | q
  · exact Or.inr q
  · exact Or.inl ⟨by omega, q.1.2⟩
theorem nsS_rng (G : GS) (i : Nat) : -1 ≤ nsS G i ∧ nsS G i < (i : Int) ∨ nsS G i = -1 := by
  rcases nsS_is G i with q | q
  · exact Or.inr q
  · exact Or.inl ⟨by omega, q.1.2⟩
