/-! 24.follow: from whole, what is needed here -/
theorem key_cons {G : GS} {c : Int} {j : Nat} {u w : List Nat} : key G c (j :: u) < key G c (j :: w) ↔ key G ((j / 2 : Nat) : Int) u < key G ((j / 2 : Nat) : Int) w := by
  rw [key_lt, key_lt]
  show (_ + mns G _ u < _ + mns G _ w ∨ (_ + mns G _ u = _ + mns G _ w ∧ (u.length + 1 < w.length + 1 ∨ (u.length + 1 = w.length + 1 ∧ j / 2 :: rds u < j / 2 :: rds w)))) ↔ _
  rw [List.cons_lt_cons_iff]
  constructor
  · rintro (q | ⟨q1, q2 | ⟨q2, q3 | q3⟩⟩)
    · exact Or.inl (by omega)
    · exact Or.inr ⟨by omega, Or.inl (by omega)⟩
    · omega
    · exact Or.inr ⟨by omega, Or.inr ⟨by omega, q3.2⟩⟩
  · rintro (q | ⟨q1, q2 | ⟨q2, q3⟩⟩)
    · exact Or.inl (by omega)
    · exact Or.inr ⟨by omega, Or.inl (by omega)⟩
    · exact Or.inr ⟨by omega, Or.inr ⟨by omega, Or.inr ⟨rfl, q3⟩⟩⟩
theorem wGl_cons {G : GS} {n k : Int} (hk : -1 ≤ k) {v j : Nat} {u : List Nat} (h : wGl G n k (G.sm (op j)) u) : wGl G n k v (j :: u) := by
  cases u with
  | nil => exact Or.inl (h.elim id (fun q => absurd q (show (-2 : Int) ≠ k by omega)))
  | cons i u => exact h
theorem wGl_tail {G : GS} {n k : Int} {v j : Nat} {u : List Nat} (hj : (j : Int) ≠ k) (h : wGl G n k v (j :: u)) : wGl G n k (G.sm (op j)) u := by
  cases u with
  | nil => exact Or.inl (h.elim id (fun q => absurd q hj))
  | cons i u => exact h
theorem BW.tail {G : GS} (hI : Inv G) {n k : Int} (hk : -1 ≤ k) {v : Nat} {c : Int} {j : Nat} {w : List Nat} (h : BW G n k v c (j :: w)) : ((j : Int) = k ∧ w = []) ∨ ((j : Int) ≠ k ∧ BW G n k (G.sm (op j)) ((j / 2 : Nat) : Int) w) := by
  by_cases e : (j : Int) = k
  · left
    refine ⟨e, ?_⟩
    cases w with
    | nil => rfl
    | cons i w =>
      have hp := mns_pos hI h.1.2 (by simp)
      refine absurd (key_lt.mpr (Or.inl ?_)) (h.2.2 [j] ⟨h.1.1, trivial⟩ (Or.inr e))
      show _ + 0 < _ + mns G ((j / 2 : Nat) : Int) (i :: w)
      omega
  · right
    refine ⟨e, h.1.2, wGl_tail e h.2.1, fun u hu hg q => ?_⟩
    exact h.2.2 (j :: u) ⟨h.1.1, hu⟩ (wGl_cons hk hg) (key_cons.mpr q)
theorem wEnd_same {G G' : GS} (h : sameTown G G') : ∀ (w : List Nat) (v : Nat), wEnd G' v w = wEnd G v w
  | [], _ => rfl
  | j :: w, v => by
    show wEnd G' (G'.sm (op j)) w = wEnd G (G.sm (op j)) w
    rw [h.2.2.1]; exact wEnd_same h w _
theorem sp_some {G : GS} (hI : Inv G) {n k : Int} (hg : gOk G n k) (h : spM G n k ≠ -1) : BW G n k G.vn G.vc (spW G n k) ∧ (spW G n k).length ≤ 24 := by
  rcases sp_or hI hg with q | ⟨w, q, hl⟩
  · exact absurd (sp_no q).1 h
  · rw [spW_eq hI q]; exact ⟨q, hl⟩
noncomputable def fnS (G : GS) : Nat → Int
  | 0 => -1
  | n + 1 => if 50 ≤ G.de n ∧ ¬ spM G (-1) (n : Int) = -1 ∧ (fnS G n = -1 ∨ (G.pr (n / 2) < G.pr ((fnS G n).toNat / 2) ∨ (G.pr (n / 2) = G.pr ((fnS G n).toNat / 2) ∧ spM G (-1) (n : Int) < spM G (-1) (fnS G n)))) then (n : Int) else fnS G n
theorem fnS_s (G : GS) (n : Nat) : fnS G (n + 1) = if 50 ≤ G.de n ∧ ¬ spM G (-1) (n : Int) = -1 ∧ (fnS G n = -1 ∨ (G.pr (n / 2) < G.pr ((fnS G n).toNat / 2) ∨ (G.pr (n / 2) = G.pr ((fnS G n).toNat / 2) ∧ spM G (-1) (n : Int) < spM G (-1) (fnS G n)))) then (n : Int) else fnS G n := rfl
noncomputable def nsS (G : GS) : Nat → Int
  | 0 => -1
  | n + 1 => if G.st n ≠ 0 ∧ ¬ spM G (n : Int) (-1) = -1 ∧ (nsS G n = -1 ∨ spM G (n : Int) (-1) < spM G (nsS G n) (-1)) then (n : Int) else nsS G n
theorem nsS_s (G : GS) (n : Nat) : nsS G (n + 1) = if G.st n ≠ 0 ∧ ¬ spM G (n : Int) (-1) = -1 ∧ (nsS G n = -1 ∨ spM G (n : Int) (-1) < spM G (nsS G n) (-1)) then (n : Int) else nsS G n := rfl
theorem fnS_is (G : GS) : ∀ n, fnS G n = -1 ∨ ((0 ≤ fnS G n ∧ fnS G n < (n : Int)) ∧ spM G (-1) (fnS G n) ≠ -1)
  | 0 => Or.inl rfl
  | n + 1 => by
    rw [fnS_s]
    split
    · rename_i h; exact Or.inr ⟨by omega, h.2.1⟩
    · rcases fnS_is G n with h | h
      · exact Or.inl h
      · exact Or.inr ⟨by omega, h.2⟩
theorem nsS_is (G : GS) : ∀ n, nsS G n = -1 ∨ ((0 ≤ nsS G n ∧ nsS G n < (n : Int)) ∧ spM G (nsS G n) (-1) ≠ -1)
  | 0 => Or.inl rfl
  | n + 1 => by
    rw [nsS_s]
    split
    · rename_i h; exact Or.inr ⟨by omega, h.2.1⟩
    · rcases nsS_is G n with h | h
      · exact Or.inl h
      · exact Or.inr ⟨by omega, h.2⟩
theorem if_c {P Q : Prop} [Decidable P] [Decidable Q] (h : P ↔ Q) {α : Type} (a b : α) : (if P then a else b) = (if Q then a else b) := by
  by_cases q : P
  · rw [if_pos q, if_pos (h.mp q)]
  · rw [if_neg q, if_neg (fun x => q (h.mpr x))]
theorem fnb_S {G : GS} {Y : YS} (hI : Inv G) (hY : YI Y) : ∀ n, n ≤ 2 * G.rr → fnb G (lka G Y) n = fnS G n
  | 0, _ => rfl
  | n + 1, hn => by
    have ih := fnb_S hI hY n (by omega)
    have hr := fnb_rng G (lka G Y) n
    have h1 := (cl_side hI hY (k := n) (by omega)).1
    rw [fnb_s, fnS_s, ← ih]
    refine if_c ?_ _ _
    unfold mu
    rw [h1]
    by_cases e : fnb G (lka G Y) n = -1
    · exact ⟨fun q => ⟨q.1, q.2.1, Or.inl e⟩, fun q => ⟨q.1, q.2.1, Or.inl e⟩⟩
    · have h9 := (cl_side hI hY (k := (fnb G (lka G Y) n).toNat) (by omega)).1
      rw [show (((fnb G (lka G Y) n).toNat : Nat) : Int) = fnb G (lka G Y) n by omega] at h9
      rw [h9]
noncomputable def nxt (G : GS) : Int := fnS G (2 * G.rr)
noncomputable def sto (G : GS) : Int := nsS G G.nn
noncomputable def cF9 (p : Int × GS) : Int × GS := if (p.2.vw ≠ 0 ∧ p.2.vs < p.2.mi ((nxt p.2).toNat / 2)) ∧ sto p.2 ≠ -1 then (p.1 + (flM p.2 (spW p.2 (sto p.2) (-1)) + 4), tks (flG p.2 (spW p.2 (sto p.2) (-1)))) else p
noncomputable def cD9 (p : Int × GS) : Int × GS := if nxt p.2 = -1 then p else (p.1 + flM p.2 (spW p.2 (-1) (nxt p.2)), flG p.2 (spW p.2 (-1) (nxt p.2)))
noncomputable def clr (lim : Int) : Nat → Int × GS → Int × GS
  | 0, p => p
  | n + 1, p => if p.1 < lim ∧ nxt p.2 ≠ -1 then clr lim n (cD9 (cF9 p)) else p
theorem clr_s (lim : Int) (n : Nat) (p : Int × GS) : clr lim (n + 1) p = if p.1 < lim ∧ nxt p.2 ≠ -1 then clr lim n (cD9 (cF9 p)) else p := rfl
theorem clr_end {lim : Int} {p : Int × GS} (h : ¬ (p.1 < lim ∧ nxt p.2 ≠ -1)) : ∀ n, clr lim n p = p
  | 0 => rfl
  | n + 1 => by rw [clr_s, if_neg h]
theorem tks_Inv {G : GS} (hI : Inv G) : Inv (tks G) := ⟨hI.nn, hI.rr, hI.tu, hI.st, hI.sm, hI.mi, fun _ hk => hI.mi1 hk, hI.pr, hI.de, hI.sa, hI.vn, hI.vc, Nat.le_refl _, hI.vw, fun _ hk => hI.ab hk⟩
theorem sto_ok {G : GS} (hI : Inv G) (h : sto G ≠ -1) : (0 ≤ sto G ∧ sto G < (G.nn : Int)) ∧ BW G (sto G) (-1) G.vn G.vc (spW G (sto G) (-1)) ∧ (spW G (sto G) (-1)).length ≤ 24 := by
  rcases nsS_is G G.nn with q | ⟨q1, q2⟩
  · exact absurd q h
  · exact ⟨q1, sp_some hI (Or.inl ⟨rfl, q1.1⟩) q2⟩
theorem nxt_ok {G : GS} (hI : Inv G) (h : nxt G ≠ -1) : (0 ≤ nxt G ∧ nxt G < ((2 * G.rr : Nat) : Int)) ∧ BW G (-1) (nxt G) G.vn G.vc (spW G (-1) (nxt G)) ∧ (spW G (-1) (nxt G)).length ≤ 24 := by
  rcases fnS_is G (2 * G.rr) with q | ⟨q1, q2⟩
  · exact absurd q h
  · exact ⟨q1, sp_some hI (Or.inr ⟨rfl, q1.1, q1.2⟩) q2⟩
theorem flM_pos {G : GS} (hI : Inv G) {w : List Nat} (hw : isW G G.vn G.vc w) (h : w ≠ []) : 1 ≤ flM G w := by
  cases w with
  | nil => exact absurd rfl h
  | cons j w =>
    have hj : j / 2 < G.rr := by have := hw.1.1; omega
    have a1 := flM_rng w (drv G (j / 2) j) (drv_Inv hI hj) (isW_same (drv_same G (j / 2) j) _ _ _ hw.2)
    have := hI.mi1 hj
    show 1 ≤ dMin G (j / 2) j + flM (drv G (j / 2) j) w
    unfold dMin; split <;> split <;> omega
theorem nxt_ne {G : GS} (hI : Inv G) (h : nxt G ≠ -1) : spW G (-1) (nxt G) ≠ [] := by
  obtain ⟨a, b, -⟩ := nxt_ok hI h
  intro e
  rw [e] at b
  rcases b.2.1 with q | q
  · have q : ((G.vn : Nat) : Int) = -1 := q
    omega
  · have q : (-2 : Int) = nxt G := q
    omega
theorem cF_ok {p : Int × GS} (hI : Inv p.2) : Inv (cF9 p).2 ∧ ((cF9 p = p) ∨ (p.1 + 4 ≤ (cF9 p).1 ∧ (cF9 p).1 ≤ p.1 + 1492)) := by
  unfold cF9
  split
  · rename_i h
    obtain ⟨a, b, c⟩ := sto_ok hI h.2
    have d := flM_rng _ _ hI b.1
    refine ⟨tks_Inv (fl_Inv _ _ hI b.1).1, Or.inr ⟨?_, ?_⟩⟩
    · show p.1 + 4 ≤ p.1 + (flM p.2 (spW p.2 (sto p.2) (-1)) + 4); omega
    · show p.1 + (flM p.2 (spW p.2 (sto p.2) (-1)) + 4) ≤ p.1 + 1492; omega
  · exact ⟨hI, Or.inl rfl⟩
theorem cD_ok {p : Int × GS} (hI : Inv p.2) : Inv (cD9 p).2 ∧ ((nxt p.2 = -1 ∧ cD9 p = p) ∨ (p.1 + 1 ≤ (cD9 p).1 ∧ (cD9 p).1 ≤ p.1 + 1488)) := by
  unfold cD9
  by_cases h : nxt p.2 = -1
  · rw [if_pos h]; exact ⟨hI, Or.inl ⟨h, rfl⟩⟩
  · rw [if_neg h]
    obtain ⟨a, b, c⟩ := nxt_ok hI h
    have d := flM_rng _ _ hI b.1
    have e := flM_pos hI b.1 (nxt_ne hI h)
    refine ⟨(fl_Inv _ _ hI b.1).1, Or.inr ⟨?_, ?_⟩⟩
    · show p.1 + 1 ≤ p.1 + flM p.2 (spW p.2 (-1) (nxt p.2)); omega
    · show p.1 + flM p.2 (spW p.2 (-1) (nxt p.2)) ≤ p.1 + 1488; omega
theorem cR_ok {p : Int × GS} (hI : Inv p.2) (h : nxt p.2 ≠ -1) : Inv (cD9 (cF9 p)).2 ∧ p.1 + 1 ≤ (cD9 (cF9 p)).1 ∧ (cD9 (cF9 p)).1 ≤ p.1 + 2980 := by
  obtain ⟨a, b⟩ := cF_ok hI
  obtain ⟨c, d⟩ := cD_ok a
  refine ⟨c, ?_⟩
  rcases b with b | b <;> rcases d with ⟨d1, d2⟩ | d
  · rw [b] at d1; exact absurd d1 h
  · rw [b] at d ⊢; omega
  · rw [d2]; omega
  · omega
