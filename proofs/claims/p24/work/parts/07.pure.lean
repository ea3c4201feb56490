/-! 07.pure: from whole, what is needed here -/
def Inv (G : GS) : Prop := (1 ≤ G.nn ∧ G.nn ≤ 8) ∧ G.rr ≤ 12 ∧ (∀ k, G.tu k ≤ 1) ∧ (∀ k, G.st k ≤ 1) ∧ (∀ k, G.sm k < G.nn) ∧ (∀ k, G.mi k ≤ 30) ∧ (∀ k, k < G.rr → 1 ≤ G.mi k) ∧ (∀ k, G.pr k ≤ 2) ∧ (∀ k, G.de k ≤ 999) ∧ (∀ k, G.sa k ≤ 1) ∧ G.vn < G.nn ∧ (-1 ≤ G.vc ∧ G.vc < G.rr) ∧ G.vs ≤ 120 ∧ G.vw ≤ 1 ∧ (∀ k, k < G.rr → G.sm (2 * k) ≠ G.sm (2 * k + 1))
theorem Inv.nn {G : GS} (h : Inv G) : 1 ≤ G.nn ∧ G.nn ≤ 8 := h.1
theorem Inv.rr {G : GS} (h : Inv G) : G.rr ≤ 12 := h.2.1
theorem Inv.tu {G : GS} (h : Inv G) (k : Nat) : G.tu k ≤ 1 := h.2.2.1 k
theorem Inv.st {G : GS} (h : Inv G) (k : Nat) : G.st k ≤ 1 := h.2.2.2.1 k
theorem Inv.sm {G : GS} (h : Inv G) (k : Nat) : G.sm k < G.nn := h.2.2.2.2.1 k
theorem Inv.mi {G : GS} (h : Inv G) (k : Nat) : G.mi k ≤ 30 := h.2.2.2.2.2.1 k
theorem Inv.mi1 {G : GS} (h : Inv G) {k : Nat} (hk : k < G.rr) : 1 ≤ G.mi k := h.2.2.2.2.2.2.1 k hk
theorem Inv.pr {G : GS} (h : Inv G) (k : Nat) : G.pr k ≤ 2 := h.2.2.2.2.2.2.2.1 k
theorem Inv.de {G : GS} (h : Inv G) (k : Nat) : G.de k ≤ 999 := h.2.2.2.2.2.2.2.2.1 k
theorem Inv.sa {G : GS} (h : Inv G) (k : Nat) : G.sa k ≤ 1 := h.2.2.2.2.2.2.2.2.2.1 k
theorem Inv.vn {G : GS} (h : Inv G) : G.vn < G.nn := h.2.2.2.2.2.2.2.2.2.2.1
theorem Inv.vc {G : GS} (h : Inv G) : -1 ≤ G.vc ∧ G.vc < G.rr := h.2.2.2.2.2.2.2.2.2.2.2.1
theorem Inv.vs {G : GS} (h : Inv G) : G.vs ≤ 120 := h.2.2.2.2.2.2.2.2.2.2.2.2.1
theorem Inv.vw {G : GS} (h : Inv G) : G.vw ≤ 1 := h.2.2.2.2.2.2.2.2.2.2.2.2.2.1
theorem Inv.ab {G : GS} (h : Inv G) {k : Nat} (hk : k < G.rr) : G.sm (2 * k) ≠ G.sm (2 * k + 1) := h.2.2.2.2.2.2.2.2.2.2.2.2.2.2 k hk
/-- the side of a road on which one goes from a node; -1 if the node is not an end of it -/
def sF (G : GS) (v r : Nat) : Int := if G.sm (2 * r) = v then ((2 * r : Nat) : Int) else if G.sm (2 * r + 1) = v then ((2 * r + 1 : Nat) : Int) else -1
/-- one who came to v by the road c (or by -1) can go on by the side z -/
abbrev cG (G : GS) (v : Nat) (c z : Int) : Prop := (0 ≤ z ∧ z < ((2 * G.rr : Nat) : Int)) ∧ G.sm z.toNat = v ∧ (z / 2 ≠ c ∨ G.tu v ≠ 0)
/-- the first sides snowed upon -/
def snD (G : GS) (mm i : Nat) : Nat → Nat := fun k => if k < i then min 999 (G.de k + (if G.sa k ≠ 0 then mm / 2 else mm)) else G.de k
def snS (G : GS) (i : Nat) : Nat → Nat := fun k => if k < i then 0 else G.sa k
def cnt0 (f : Nat → Nat) : Nat → Nat
  | 0 => 0
  | n + 1 => cnt0 f n + (if f n = 0 then 1 else 0)
theorem op_lt {k r : Nat} (h : k < 2 * r) : op k < 2 * r := by unfold op; split <;> omega
theorem op_ne (k : Nat) : op k ≠ k := by unfold op; split <;> omega
theorem cnt0_le (f : Nat → Nat) : ∀ n, cnt0 f n ≤ n
  | 0 => Nat.le_refl _
  | n + 1 => by have := cnt0_le f n; unfold cnt0; split <;> omega
theorem sF_rng {G : GS} {v r : Nat} (h : r < G.rr) : -1 ≤ sF G v r ∧ sF G v r < ((2 * G.rr : Nat) : Int) := by unfold sF; split <;> (try split) <;> omega
/-- going by a road r on its side k -/
abbrev dSt (G : GS) (r k : Nat) : Prop := 0 < G.de k ∧ G.vw ≠ 0 ∧ G.mi r ≤ G.vs
def dMin (G : GS) (r k : Nat) : Int := (if 50 ≤ G.de k then ((G.mi r * 2 : Nat) : Int) else (G.mi r : Int)) + (if (r : Int) = G.vc then 2 else 0)
def dTt (tt : Nat → Int64) (a b : Prop) [Decidable a] [Decidable b] (x : Nat) (m : Int) : Nat → Int64 := fun j => if j = 0 then tt 0 + (iI m).toInt64 else if j = 1 then (if a then tt 1 + (iI (x : Int)).toInt64 else tt 1) else if j = 2 then (if b then tt 2 + 1 else tt 2) else if j = 3 then tt 3 + 1 else tt j
def dDe (G : GS) (k : Nat) : Nat → Nat := up (up G.de (op k) (min 999 (G.de (op k) + G.de k / 2))) k 0
def drv (G : GS) (r k : Nat) : GS := mkG G.tu G.st G.sm G.mi G.pr (dDe G k) (if dSt G r k then up G.sa k 1 else G.sa) G.nn G.rr (G.sm (op k)) (r : Int) (if dSt G r k then G.vs - G.mi r else G.vs) G.vw (dTt G.tt (dSt G r k) ((r : Int) = G.vc) (G.mi r) (dMin G r k))
