/-! 18: the reference's weights -/
def wEnd (G : GS) : Nat → List Nat → Nat
  | v, [] => v
  | _, j :: w => wEnd G (G.sm (op j)) w
def wLs : List Nat → Int
  | [] => -2
  | [j] => (j : Int)
  | _ :: i :: w => wLs (i :: w)
/-- the way w from v ends at the node n, or with the side k -/
def wGl (G : GS) (n k : Int) (v : Nat) (w : List Nat) : Prop := ((wEnd G v w : Nat) : Int) = n ∨ wLs w = k
def cst (G : GS) : Int → List Nat → Nat
  | _, [] => 0
  | c, j :: w => 1000 * (G.mi (j / 2) + (if ((j / 2 : Nat) : Int) = c then 2 else 0)) + 1 + cst G ((j / 2 : Nat) : Int) w
def wIni (n : Int) (f : Nat → Nat) (i : Nat) : Nat → Nat := fun j => if j < i then (if ((j / 13 : Nat) : Int) = n then 0 else 1000000000) else f j
theorem wIni_0 (n : Int) (f : Nat → Nat) : wIni n f 0 = f := funext fun j => if_neg (Nat.not_lt_zero j)
theorem wIni_s (n : Int) (f : Nat → Nat) (i : Nat) : up (wIni n f i) i (if ((i / 13 : Nat) : Int) = n then 0 else 1000000000) = wIni n f (i + 1) := by
  funext j; unfold up wIni
  by_cases h : j = i
  · subst h; rw [if_pos rfl, if_pos (Nat.lt_succ_self j)]
  · rw [if_neg h]
    by_cases h2 : j < i
    · rw [if_pos h2, if_pos (Nat.lt_succ_of_lt h2)]
    · rw [if_neg h2, if_neg (by omega)]
def wSum (f : Nat → Nat) : Nat → Nat
  | 0 => 0
  | n + 1 => wSum f n + f n
theorem wSum_up {f : Nat → Nat} {k x : Nat} (hx : x < f k) : ∀ n, (k < n → wSum (up f k x) n < wSum f n) ∧ (n ≤ k → wSum (up f k x) n = wSum f n)
  | 0 => ⟨fun h => absurd h (Nat.not_lt_zero _), fun _ => rfl⟩
  | n + 1 => by
    obtain ⟨h1, h2⟩ := wSum_up hx n
    refine ⟨fun h => ?_, fun h => ?_⟩
    · show wSum (up f k x) n + up f k x n < wSum f n + f n
      by_cases e : n = k
      · subst e; rw [up_s, h2 (Nat.le_refl _)]; omega
      · rw [up_n _ _ e]; have := h1 (by omega); omega
    · show wSum (up f k x) n + up f k x n = wSum f n + f n
      rw [up_n _ _ (by omega : n ≠ k), h2 (by omega)]
/-- every weight is that of a way to the goal -/
def wS (G : GS) (n k : Int) (f : Nat → Nat) : Prop := (∀ j, j < 104 → f j ≤ 1000000000) ∧ (∀ v c, v < G.nn → -1 ≤ c → c < (G.rr : Int) → f (wI v c) = 1000000000 ∨ ∃ w, isW G v c w ∧ wGl G n k v w ∧ f (wI v c) = cst G c w) ∧ (∀ j, j < 104 → ((j / 13 : Nat) : Int) = n → f j = 0)
/-- no road makes the weight at v, come by c, less -/
def wFx (G : GS) (k : Int) (f : Nat → Nat) (v : Nat) (c : Int) : Prop := ∀ r, r < G.rr → f (wI v c) ≤ wBy G f k r v c
def WOK (G : GS) (n k : Int) (f : Nat → Nat) : Prop := wS G n k f ∧ ∀ v c, v < G.nn → -1 ≤ c → c < (G.rr : Int) → wFx G k f v c
theorem wI_lt {G : GS} (hI : Inv G) {v : Nat} {c : Int} (hv : v < G.nn) (h1 : -1 ≤ c) (h2 : c < (G.rr : Int)) : wI v c < 104 ∧ (wI v c) / 13 = v := by
  have := hI.nn; have := hI.rr
  unfold wI
  constructor <;> omega
theorem wI_inj {G : GS} (hI : Inv G) {v v' : Nat} {c c' : Int} (h1 : -1 ≤ c) (h2 : c < (G.rr : Int)) (h1' : -1 ≤ c') (h2' : c' < (G.rr : Int)) (h : wI v c = wI v' c') : v = v' ∧ c = c' := by
  have := hI.rr
  unfold wI at h
  constructor <;> omega
theorem wIni_S {G : GS} (hI : Inv G) {n k : Int} (f : Nat → Nat) : wS G n k (wIni n f 104) := by
  refine ⟨fun j hj => ?_, fun v c hv h1 h2 => ?_, fun j hj h => ?_⟩
  · unfold wIni; rw [if_pos hj]; split <;> omega
  · obtain ⟨a1, a2⟩ := wI_lt hI hv h1 h2
    unfold wIni; rw [if_pos a1, a2]
    by_cases e : (v : Int) = n
    · rw [if_pos e]; exact Or.inr ⟨[], trivial, Or.inl e, rfl⟩
    · rw [if_neg e]; exact Or.inl rfl
  · unfold wIni; rw [if_pos hj, if_pos h]
theorem wBy_way {G : GS} {n k : Int} {f : Nat → Nat} (hI : Inv G) (hk : -1 ≤ k) (hS : wS G n k f) {v r : Nat} {c : Int} (hr : r < G.rr) (hlt : wBy G f k r v c < 1000000000) : ∃ j w, j / 2 = r ∧ isW G v c (j :: w) ∧ wGl G n k v (j :: w) ∧ wBy G f k r v c = cst G c (j :: w) := by
  have h1 : sO G r v c ≠ -1 := fun e => by unfold wBy at hlt; rw [if_pos e] at hlt; omega
  obtain ⟨h2, h3, h4⟩ := sO_ok hr h1
  generalize hj : (sO G r v c).toNat = j
  have hjz : sO G r v c = (j : Int) := by have := h2.1; omega
  have hj2 : j / 2 = r := by rw [hjz] at h3; omega
  rw [hjz] at h2 h3
  have hq : (j < 2 * G.rr ∧ G.sm j = v ∧ (((j / 2 : Nat) : Int) ≠ c ∨ G.tu v ≠ 0)) := ⟨by omega, h2.2.1, by rw [hj2, ← h3]; exact h2.2.2⟩
  unfold wBy at hlt ⊢
  rw [if_neg h1] at hlt ⊢
  by_cases e : wTo G f k r (sO G r v c) = 1000000000
  · rw [if_pos e] at hlt; omega
  · rw [if_neg e]
    unfold wTo at e ⊢
    rw [hjz] at e ⊢
    by_cases e2 : (j : Int) = k
    · rw [if_pos e2]
      refine ⟨j, [], hj2, ⟨hq, trivial⟩, Or.inr e2, ?_⟩
      show 0 + 1000 * (G.mi r + (if (r : Int) = c then 2 else 0)) + 1 = 1000 * (G.mi (j / 2) + (if ((j / 2 : Nat) : Int) = c then 2 else 0)) + 1 + 0
      rw [hj2]; omega
    · rw [if_neg e2] at e ⊢
      rw [Int.toNat_natCast] at e ⊢
      rcases hS.2.1 (G.sm (op j)) (r : Int) (hI.sm _) (by omega) (by omega) with h5 | ⟨w, w1, w2, w3⟩
      · exact absurd h5 e
      · refine ⟨j, w, hj2, ⟨hq, by rw [hj2]; exact w1⟩, ?_, ?_⟩
        · cases w with
          | nil => exact Or.inl (w2.elim id (fun h => absurd h (show (-2 : Int) ≠ k by omega)))
          | cons i w => exact w2
        · show f (wI (G.sm (op j)) (r : Int)) + 1000 * (G.mi r + (if (r : Int) = c then 2 else 0)) + 1 = 1000 * (G.mi (j / 2) + (if ((j / 2 : Nat) : Int) = c then 2 else 0)) + 1 + cst G ((j / 2 : Nat) : Int) w
          rw [hj2, ← w3]; omega
theorem wS_up {G : GS} {n k : Int} {f : Nat → Nat} (hI : Inv G) (hk : -1 ≤ k) (hS : wS G n k f) {v r : Nat} {c : Int} (hr : r < G.rr) (hv : v < G.nn) (h1 : -1 ≤ c) (h2 : c < (G.rr : Int)) (hlt : wBy G f k r v c < f (wI v c)) : wS G n k (up f (wI v c) (wBy G f k r v c)) := by
  have hb := hS.1 _ (wI_lt hI hv h1 h2).1
  refine ⟨fun j hj => ?_, fun v' c' hv' h1' h2' => ?_, fun j hj h => ?_⟩
  · by_cases e : j = wI v c
    · subst e; rw [up_s]; omega
    · rw [up_n _ _ e]; exact hS.1 j hj
  · by_cases e : wI v' c' = wI v c
    · obtain ⟨rfl, rfl⟩ := wI_inj hI h1' h2' h1 h2 e
      rw [up_s]
      obtain ⟨j, w, -, q2, q3, q4⟩ := wBy_way hI hk hS hr (by omega : wBy G f k r v' c' < 1000000000)
      exact Or.inr ⟨j :: w, q2, q3, q4⟩
    · rw [up_n _ _ e]; exact hS.2.1 v' c' hv' h1' h2'
  · have h0 := hS.2.2 j hj h
    by_cases e : j = wI v c
    · subst e; omega
    · rw [up_n _ _ e]; exact h0
theorem sO_side {G : GS} (hI : Inv G) {j v : Nat} {c : Int} (h : j < 2 * G.rr ∧ G.sm j = v ∧ (((j / 2 : Nat) : Int) ≠ c ∨ G.tu v ≠ 0)) : sO G (j / 2) v c = (j : Int) := by
  have hjr : j / 2 < G.rr := by have := h.1; omega
  have e := sF_side hI h.1 h.2.1
  rw [← e]
  refine sO_cG hjr ?_
  rw [e]
  refine ⟨⟨by omega, by have := h.1; omega⟩, h.2.1, ?_⟩
  rw [show (j : Int) / 2 = ((j / 2 : Nat) : Int) by omega]
  exact h.2.2
theorem wBy_to {G : GS} (hI : Inv G) {k : Int} {f : Nat → Nat} {j v : Nat} {c : Int} (h : j < 2 * G.rr ∧ G.sm j = v ∧ (((j / 2 : Nat) : Int) ≠ c ∨ G.tu v ≠ 0)) {x : Nat} (hx : (j : Int) ≠ k → f (wI (G.sm (op j)) ((j / 2 : Nat) : Int)) ≤ x) : wBy G f k (j / 2) v c ≤ 1000 * (G.mi (j / 2) + (if ((j / 2 : Nat) : Int) = c then 2 else 0)) + 1 + x := by
  unfold wBy
  rw [sO_side hI h, if_neg (by omega)]
  have hto : wTo G f k (j / 2) (j : Int) ≤ x := by
    unfold wTo
    by_cases e2 : (j : Int) = k
    · rw [if_pos e2]; exact Nat.zero_le _
    · rw [if_neg e2, Int.toNat_natCast]; exact hx e2
  split <;> omega
/-- no way to the goal is lighter than the weight -/
theorem WOK_le {G : GS} {n k : Int} {f : Nat → Nat} (hI : Inv G) (hk : -1 ≤ k) (h : WOK G n k f) : ∀ (w : List Nat) (v : Nat) (c : Int), v < G.nn → -1 ≤ c → c < (G.rr : Int) → isW G v c w → wGl G n k v w → f (wI v c) ≤ cst G c w
  | [], v, c, hv, h1, h2, _, hg => by
    obtain ⟨a1, a2⟩ := wI_lt hI hv h1 h2
    have : f (wI v c) = 0 := h.1.2.2 _ a1 (by rw [a2]; exact hg.elim id (fun h => absurd h (show (-2 : Int) ≠ k by omega)))
    rw [this]; exact Nat.zero_le _
  | j :: w, v, c, hv, h1, h2, hw, hg => by
    have hjr : j / 2 < G.rr := by have := hw.1.1; omega
    refine Nat.le_trans (h.2 v c hv h1 h2 (j / 2) hjr) (wBy_to hI hw.1 (fun e2 => ?_))
    refine WOK_le hI hk h w _ _ (hI.sm _) (by omega) (by omega) hw.2 ?_
    cases w with
    | nil => exact Or.inl (hg.elim id (fun h => absurd h e2))
    | cons i w => exact hg
theorem wBy_le9 {G : GS} {f : Nat → Nat} {gs : Int} {r v : Nat} {c : Int} (hI : Inv G) (h : ∀ k, k < 104 → f k ≤ 1000000000) : r < G.rr → wBy G f gs r v c ≤ 1000032001 := by
  intro hr
  have hh := hI.sm (op (sO G r v c).toNat)
  have hwl := h _ (wI_lt hI (c := (r : Int)) hh (by omega) (by omega)).1
  have := hI.mi r
  have h2 : wTo G f gs r (sO G r v c) ≤ 1000000000 := by unfold wTo; split <;> first | omega | exact hwl
  unfold wBy; split
  · omega
  · split
    · omega
    · split <;> omega
