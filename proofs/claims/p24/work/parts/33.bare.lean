/-! 33.bare: from whole, what is needed here -/
def bareV (c r : Nat) : UInt64 := if r = 0 then FP.dconst1 else FP.ddiv (FP.i2d (iI ((c : Nat) : Int))) (FP.i2d (iI ((2 * r : Nat) : Int)))
theorem bare_n : ∀ r : Fin 12, ∀ c : Fin 25, vf_n64 (FP.ddiv (FP.i2d (iI ((c.val : Nat) : Int))) (FP.i2d (iI ((2 * (r.val + 1) : Nat) : Int)))) := by unfold vf_n64; decide +kernel
theorem bareV_n {c r : Nat} (h0 : r ≠ 0) (hr : r ≤ 12) (hc : c ≤ 24) : vf_n64 (FP.ddiv (FP.i2d (iI ((c : Nat) : Int))) (FP.i2d (iI ((2 * r : Nat) : Int)))) := by
  have h := bare_n ⟨r - 1, by omega⟩ ⟨c, by omega⟩
  rw [show r - 1 + 1 = r by omega] at h
  exact h
