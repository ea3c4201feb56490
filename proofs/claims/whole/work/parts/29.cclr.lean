/-! 29: facts for the class's clearing -/
def xKJ (K : Nat) (v : Int) (G' : GS) : Int → GS → YS → Prop := fun z g y => K = 0 ∧ z = v ∧ g = G' ∧ YI y
noncomputable def wDs (G : GS) : List Nat := if nxt G = -1 then [] else spW G (-1) (nxt G)
theorem cD9_w (q : Int × GS) : cD9 q = (q.1 + flM q.2 (wDs q.2), flG q.2 (wDs q.2)) := by
  unfold cD9 wDs
  by_cases h : nxt q.2 = -1
  · rw [if_pos h, if_pos h]
    show q = (q.1 + 0, q.2)
    rw [Int.add_zero]
  · rw [if_neg h, if_neg h]
theorem wDs_ok {G : GS} (hI : Inv G) : isW G G.vn G.vc (wDs G) ∧ (wDs G).length ≤ 24 := by
  unfold wDs
  by_cases h : nxt G = -1
  · rw [if_pos h]; exact ⟨trivial, Nat.zero_le _⟩
  · rw [if_neg h]
    obtain ⟨-, b, c⟩ := nxt_ok hI h
    exact ⟨b.1, c⟩
theorem wDs_row {G : GS} {Y : YS} (hI : Inv G) (hY : YI Y) : rowW (lka G Y) (nxt G) (wDs G) := by
  unfold wDs
  by_cases h : nxt G = -1
  · rw [if_pos h, h]
    exact ⟨rfl, fun t ht => absurd ht (Nat.not_lt_zero _)⟩
  · rw [if_neg h]
    rcases fnS_is G (2 * G.rr) with q | ⟨q1, q2⟩
    · exact absurd q h
    · have h1 : nxt G = fnS G (2 * G.rr) := rfl
      have h9 := (cl_side hI hY (k := (nxt G).toNat) (by omega)).2.2
      rw [show (((nxt G).toNat : Nat) : Int) = nxt G by omega] at h9
      exact (h9 q2).2
theorem sto_row {G : GS} {Y : YS} (hI : Inv G) (hY : YI Y) (h : sto G ≠ -1) : rowW (lka G Y) (lstZ G (lka G Y) (sto G).toNat) (spW G (sto G) (-1)) := by
  rcases nsS_is G G.nn with q | ⟨q1, q2⟩
  · exact absurd q h
  · have h1 : sto G = nsS G G.nn := rfl
    have h9 := (cl_node hI hY (sto G).toNat).2.2
    rw [show (((sto G).toNat : Nat) : Int) = sto G by omega] at h9
    exact (h9 q2).2
