/-! 15: words for what the reference answers -/
def yKI (K : Nat) (v : Int) (G0 G' : GS) (Z0 Z' : ZS) : Int → GS → ZS → Prop := fun z g t => (K = 0 ∧ z = v ∧ g = G' ∧ t = Z'.th' 0) ∨ (K ≠ 0 ∧ z = 0 ∧ g = G0 ∧ t = Z0.th' K)
def yKL (K : Nat) (v : Int64) (G0 G' : GS) (Z0 Z' : ZS) : Int64 → GS → ZS → Prop := fun z g t => (K = 0 ∧ z = v ∧ g = G' ∧ t = Z'.th' 0) ∨ (K ≠ 0 ∧ z = 0 ∧ g = G0 ∧ t = Z0.th' K)
/-- as yKI, but the scratch of the ways may be any -/
def yKJ (K : Nat) (v : Int) (G0 G' : GS) : Int → GS → ZS → Prop := fun z g t => (K = 0 ∧ z = v ∧ g = G' ∧ t.th = 0) ∨ (K ≠ 0 ∧ z = 0 ∧ g = G0 ∧ t.th = K)
def yT (v : Int) (G' : GS) (th : Nat) : Int → GS → ZS → Prop := fun z g t => z = v ∧ g = G' ∧ t.th = th
def dpA (pr de : Nat → Nat) (q : Int) : Nat → Int
  | 0 => -1
  | n + 1 => if q = -1 ∨ (pr (n / 2) : Int) = q then max (dpA pr de q n) (de n : Int) else dpA pr de q n
theorem dpA_s (pr de : Nat → Nat) (q : Int) (n : Nat) : dpA pr de q (n + 1) = if q = -1 ∨ (pr (n / 2) : Int) = q then max (dpA pr de q n) (de n : Int) else dpA pr de q n := rfl
theorem dpA_rng {pr de : Nat → Nat} {q : Int} (h : ∀ k, de k ≤ 999) : ∀ n, -1 ≤ dpA pr de q n ∧ dpA pr de q n ≤ 999
  | 0 => by unfold dpA; omega
  | n + 1 => by
    have h1 := dpA_rng (pr := pr) (q := q) h n
    have := h n
    rw [dpA_s]
    split <;> omega
theorem dpA_max (pr de : Nat → Nat) : ∀ n, max 0 (dpA pr de (-1) n) = ((dmax de n : Nat) : Int)
  | 0 => rfl
  | n + 1 => by
    have := dpA_max pr de n
    rw [dpA_s, if_pos (Or.inl rfl)]
    show _ = ((max (dmax de n) (de n) : Nat) : Int)
    omega
theorem dpA_P (pr de : Nat → Nat) {q : Int} (h : q ≠ -1) : ∀ n, dpA pr de q n = dmaxP pr de q n
  | 0 => rfl
  | n + 1 => by
    rw [dpA_s, dmaxP_s, dpA_P pr de h n]
    by_cases e : (pr (n / 2) : Int) = q
    · rw [if_pos (Or.inr e), if_pos e]
    · rw [if_neg (fun x => x.elim h e), if_neg e]
/-- the side by which one who came by c goes from v on the road r; -1: one cannot -/
def sO (G : GS) (r v : Nat) (c : Int) : Int := if (r : Int) = c ∧ G.tu v = 0 then -1 else sF G v r
theorem sO_rng {G : GS} {v r : Nat} {c : Int} (h : r < G.rr) : -1 ≤ sO G r v c ∧ sO G r v c < ((2 * G.rr : Nat) : Int) := by
  have := sF_rng (v := v) h
  unfold sO; split <;> omega
abbrev wI (v : Nat) (c : Int) : Nat := ((((13 * v : Nat) : Int) + c) + 1).toNat
def wTo (G : GS) (f : Nat → Nat) (gs : Int) (r : Nat) (k : Int) : Nat := if k = gs then 0 else f (wI (G.sm (op k.toNat)) (r : Int))
def wBy (G : GS) (f : Nat → Nat) (gs : Int) (r v : Nat) (c : Int) : Nat := if sO G r v c = -1 then 1000000000 else if wTo G f gs r (sO G r v c) = 1000000000 then 1000000000 else wTo G f gs r (sO G r v c) + 1000 * (G.mi r + (if (r : Int) = c then 2 else 0)) + 1
theorem wBy_le {G : GS} {f : Nat → Nat} {gs : Int} {r v : Nat} {c : Int} (hI : Inv G) (h : ∀ k, f k ≤ 1000000000) : wBy G f gs r v c ≤ 1000032001 := by
  have := hI.mi r
  have h2 : wTo G f gs r (sO G r v c) ≤ 1000000000 := by unfold wTo; split <;> first | omega | exact h _
  unfold wBy; split
  · omega
  · split
    · omega
    · split <;> omega
def mlf (G : GS) (f : Nat → Nat) : Int := if f (wI G.vn G.vc) = 1000000000 then -1 else ((f (wI G.vn G.vc) / 1000 : Nat) : Int)
/-- the totals after going by a road, in the reference's order -/
theorem dTt_D (tt : Nat → Int64) (a b : Prop) [Decidable a] [Decidable b] (x : Nat) (M : Int) (bb : Int64) (hb : bb = if b then 1 else 0) : up (up (up (if a then up tt 1 (tt 1 + (iI (x : Int)).toInt64) else tt) 0 ((if a then up tt 1 (tt 1 + (iI (x : Int)).toInt64) else tt) 0 + (iI M).toInt64)) 2 ((up (if a then up tt 1 (tt 1 + (iI (x : Int)).toInt64) else tt) 0 ((if a then up tt 1 (tt 1 + (iI (x : Int)).toInt64) else tt) 0 + (iI M).toInt64)) 2 + bb)) 3 ((up (up (if a then up tt 1 (tt 1 + (iI (x : Int)).toInt64) else tt) 0 ((if a then up tt 1 (tt 1 + (iI (x : Int)).toInt64) else tt) 0 + (iI M).toInt64)) 2 ((up (if a then up tt 1 (tt 1 + (iI (x : Int)).toInt64) else tt) 0 ((if a then up tt 1 (tt 1 + (iI (x : Int)).toInt64) else tt) 0 + (iI M).toInt64)) 2 + bb)) 3 + 1) = dTt tt a b x M := by
  subst hb
  funext j
  unfold dTt
  by_cases h0 : j = 0
  · subst h0; by_cases h : a <;> simp [up, h]
  · by_cases h3 : j = 3
    · subst h3; by_cases h : a <;> simp [up, h]
    · by_cases h1 : j = 1
      · subst h1; by_cases h : a <;> simp [up, h]
      · by_cases h2 : j = 2
        · subst h2; by_cases h : a <;> by_cases h' : b <;> simp [up, h, h']
        · by_cases h : a <;> simp [up, h, h0, h1, h2, h3]
theorem ttf_n (G : GS) {n : Nat} (h : n < 4) : ttf G (n : Int) = G.tt n := by
  unfold ttf
  by_cases h0 : n = 0
  · subst h0; rfl
  · by_cases h1 : n = 1
    · subst h1; rfl
    · by_cases h2 : n = 2
      · subst h2; rfl
      · have h3 : n = 3 := by omega
        subst h3; rfl
theorem sF_at {G : GS} {v r : Nat} (h : r < G.rr) (h2 : sF G v r ≠ -1) : (0 ≤ sF G v r ∧ sF G v r < ((2 * G.rr : Nat) : Int)) ∧ G.sm (sF G v r).toNat = v ∧ sF G v r / 2 = (r : Int) := by
  unfold sF at h2 ⊢
  by_cases a : G.sm (2 * r) = v
  · rw [if_pos a]; exact ⟨by omega, a, by omega⟩
  · rw [if_neg a] at h2 ⊢
    by_cases b : G.sm (2 * r + 1) = v
    · rw [if_pos b]; exact ⟨by omega, b, by omega⟩
    · rw [if_neg b] at h2; exact absurd rfl h2
theorem sO_cG {G : GS} {v r : Nat} {c : Int} (h : r < G.rr) (hc : cG G v c (sF G v r)) : sO G r v c = sF G v r := by
  unfold sO
  rw [if_neg]
  intro q
  have h3 := sF_at h (show sF G v r ≠ -1 by have := hc.1; omega)
  rcases hc.2.2 with h4 | h4
  · exact h4 (h3.2.2.trans q.1)
  · exact h4 q.2
theorem sO_nG {G : GS} {v r : Nat} {c : Int} (h : r < G.rr) (hc : ¬ cG G v c (sF G v r)) : sO G r v c = -1 := by
  unfold sO
  by_cases q : (r : Int) = c ∧ G.tu v = 0
  · rw [if_pos q]
  · rw [if_neg q]
    by_cases e : sF G v r = -1
    · exact e
    · have h3 := sF_at h e
      refine absurd ⟨h3.1, h3.2.1, ?_⟩ hc
      by_cases t : G.tu v = 0
      · exact Or.inl (fun x => q ⟨h3.2.2.symm.trans x, t⟩)
      · exact Or.inr t
theorem sO_ok {G : GS} {v r : Nat} {c : Int} (h : r < G.rr) (hs : sO G r v c ≠ -1) : cG G v c (sO G r v c) ∧ sO G r v c / 2 = (r : Int) ∧ sO G r v c = sF G v r := by
  have hc : cG G v c (sF G v r) := Classical.byContradiction (fun q => hs (sO_nG h q))
  have e := sO_cG h hc
  rw [e]
  exact ⟨hc, (sF_at h (show sF G v r ≠ -1 by have := hc.1; omega)).2.2, rfl⟩
