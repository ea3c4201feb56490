/-! 27: facts for clearing -/
theorem take_s {w : List Nat} {t : Nat} (h : t < w.length) : w.take (t + 1) = w.take t ++ [w[t]] := List.take_succ_eq_append_getElem h
theorem hd1_at {w : List Nat} {t : Nat} (h : t < w.length) : hd1 (w.drop t) = ((w[t] / 2 : Nat) : Int) := by rw [List.drop_eq_getElem_cons h]; rfl
theorem hd1_end {w : List Nat} {t : Nat} (h : w.length ≤ t) : hd1 (w.drop t) = -1 := by rw [List.drop_eq_nil_of_le h]; rfl
/-- on a best way, behind its first t sides -/
theorem on_way {G : GS} (hI : Inv G) {n k : Int} (hk : -1 ≤ k) {w : List Nat} (hB : BW G n k G.vn G.vc w) {t : Nat} (h : t < w.length ∨ k = -1) : BW G n k (flG G (w.take t)).vn (flG G (w.take t)).vc (w.drop t) := by
  obtain ⟨a, b⟩ := flG_at (w.take t) G
  rw [a, b]
  refine BW.drop hI hk (w.take t) G.vn G.vc (w.drop t) (by rw [List.take_append_drop]; exact hB) ?_
  rcases h with h | h
  · left; rw [List.drop_eq_getElem_cons h]; exact List.cons_ne_nil _ _
  · exact Or.inr h
/-- what the next step of a best way is -/
theorem way_step {G : GS} (hI : Inv G) {n k : Int} (hk : -1 ≤ k) (hnk : k = -1 ∨ n = -1) {w : List Nat} (hB : BW G n k G.vn G.vc w) {t : Nat} (h : t < w.length) : Inv (flG G (w.take t)) ∧ sameTown G (flG G (w.take t)) ∧ w[t] < 2 * G.rr ∧ w[t] / 2 < (flG G (w.take t)).rr ∧ w[t] < 2 * (flG G (w.take t)).rr ∧ sO (flG G (w.take t)) (w[t] / 2) (flG G (w.take t)).vn (flG G (w.take t)).vc = (w[t] : Int) ∧ flG G (w.take (t + 1)) = drv (flG G (w.take t)) (w[t] / 2) w[t] ∧ flM G (w.take (t + 1)) = flM G (w.take t) + dMin (flG G (w.take t)) (w[t] / 2) w[t] ∧ ((w[t] : Int) = k → t + 1 = w.length) ∧ ((w[t] : Int) ≠ k → t + 1 < w.length ∨ k = -1) := by
  have hsp : w.take t ++ w[t] :: w.drop (t + 1) = w := by rw [← List.drop_eq_getElem_cons h, List.take_append_drop]
  obtain ⟨f1, f2, f3, f4, f5⟩ := fl_step (w.take t) G w[t] (w.drop (t + 1)) hI (by rw [hsp]; exact hB.1)
  have hrr : (flG G (w.take t)).rr = G.rr := f2.2.2.2.2.2.2.1
  have hb := on_way hI hk hB (Or.inl h)
  rw [List.drop_eq_getElem_cons h] at hb
  refine ⟨f1, f2, by omega, by omega, by omega, sO_side f1 f5.1, by rw [take_s h, flG_app], by rw [take_s h, flM_app], fun e => ?_, fun e => ?_⟩
  · rcases BW.tail hI hk hb with ⟨-, q⟩ | ⟨q, -⟩
    · have := congrArg List.length q
      rw [List.length_drop] at this
      have : ([] : List Nat).length = 0 := rfl
      omega
    · exact absurd e q
  · by_cases q : t + 1 < w.length
    · exact Or.inl q
    · right
      have hn : w.drop (t + 1) = [] := List.drop_eq_nil_of_le (by omega)
      rw [hn] at hb
      rcases hb.2.1 with z | z
      · rcases hnk with q2 | q2
        · exact q2
        · exact absurd z (by omega)
      · exact absurd z e
theorem hd1_rng {w : List Nat} {b : Nat} (h : ∀ x ∈ w, x < 2 * b) (t : Nat) : -1 ≤ hd1 (w.drop t) ∧ hd1 (w.drop t) < (b : Int) := by
  by_cases q : t < w.length
  · rw [hd1_at q]
    have := h _ (List.getElem_mem q)
    omega
  · rw [hd1_end (by omega)]; omega
