/-! 07: the invariant, and the words for what the methods answer -/
def Inv (G : GS) : Prop := (1 ≤ G.nn ∧ G.nn ≤ 8) ∧ G.rr ≤ 12 ∧ (∀ k, G.tu k ≤ 1) ∧ (∀ k, G.st k ≤ 1) ∧ (∀ k, G.sm k < G.nn) ∧ (∀ k, G.mi k ≤ 30) ∧ (∀ k, k < G.rr → 1 ≤ G.mi k) ∧ (∀ k, G.pr k ≤ 2) ∧ (∀ k, G.de k ≤ 999) ∧ (∀ k, G.sa k ≤ 1) ∧ G.vn < G.nn ∧ (-1 ≤ G.vc ∧ G.vc < G.rr) ∧ G.vs ≤ 120 ∧ G.vw ≤ 1 ∧ (∀ k, k < G.rr → G.sm (2 * k) ≠ G.sm (2 * k + 1))
theorem Inv.nn {G : GS} (h : Inv G) : 1 ≤ G.nn ∧ G.nn ≤ 8 := h.1
theorem Inv.rr {G : GS} (h : Inv G) : G.rr ≤ 12 := h.2.1
theorem Inv.tu {G : GS} (h : Inv G) (k : Nat) : G.tu k ≤ 1 := h.2.2.1 k
theorem Inv.st {G : GS} (h : Inv G) (k : Nat) : G.st k ≤ 1 := h.2.2.2.1 k
theorem Inv.sm {G : GS} (h : Inv G) (k : Nat) : G.sm k < G.nn := h.2.2.2.2.1 k
theorem Inv.mi {G : GS} (h : Inv G) (k : Nat) : G.mi k ≤ 30 := h.2.2.2.2.2.1 k
theorem Inv.mi1 {G : GS} (h : Inv G) {k : Nat} (hk : k < G.rr) : 1 ≤ G.mi k := h.2.2.2.2.2.2.1 k hk
theorem Inv.pr {G : GS} (h : Inv G) (k : Nat) : G.pr k ≤ 2 := h.2.2.2.2.2.2.2.1 k
theorem Inv.de {G : GS} (h : Inv G) (k : Nat) : G.de k ≤ 999 := h.2.2.2.2.2.2.2.2.1 k
theorem Inv.sa {G : GS} (h : Inv G) (k : Nat) : G.sa k ≤ 1 := h.2.2.2.2.2.2.2.2.2.1 k
theorem Inv.vn {G : GS} (h : Inv G) : G.vn < G.nn := h.2.2.2.2.2.2.2.2.2.2.1
theorem Inv.vc {G : GS} (h : Inv G) : -1 ≤ G.vc ∧ G.vc < G.rr := h.2.2.2.2.2.2.2.2.2.2.2.1
theorem Inv.vs {G : GS} (h : Inv G) : G.vs ≤ 120 := h.2.2.2.2.2.2.2.2.2.2.2.2.1
theorem Inv.vw {G : GS} (h : Inv G) : G.vw ≤ 1 := h.2.2.2.2.2.2.2.2.2.2.2.2.2.1
theorem Inv.ab {G : GS} (h : Inv G) {k : Nat} (hk : k < G.rr) : G.sm (2 * k) ≠ G.sm (2 * k + 1) := h.2.2.2.2.2.2.2.2.2.2.2.2.2.2 k hk
/-- the side of a road on which one goes from a node; -1 if the node is not an end of it -/
def sF (G : GS) (v r : Nat) : Int := if G.sm (2 * r) = v then ((2 * r : Nat) : Int) else if G.sm (2 * r + 1) = v then ((2 * r + 1 : Nat) : Int) else -1
/-- one who came to v by the road c (or by -1) can go on by the side z -/
abbrev cG (G : GS) (v : Nat) (c z : Int) : Prop := (0 ≤ z ∧ z < ((2 * G.rr : Nat) : Int)) ∧ G.sm z.toNat = v ∧ (z / 2 ≠ c ∨ G.tu v ≠ 0)
/-- the first sides snowed upon -/
def snD (G : GS) (mm i : Nat) : Nat → Nat := fun k => if k < i then min 999 (G.de k + (if G.sa k ≠ 0 then mm / 2 else mm)) else G.de k
def snS (G : GS) (i : Nat) : Nat → Nat := fun k => if k < i then 0 else G.sa k
def dmax (f : Nat → Nat) : Nat → Nat
  | 0 => 0
  | n + 1 => max (dmax f n) (f n)
def dmaxP (pr de : Nat → Nat) (q : Int) : Nat → Int
  | 0 => -1
  | n + 1 => if (pr (n / 2) : Int) = q then max (dmaxP pr de q n) (de n : Int) else dmaxP pr de q n
def cnt0 (f : Nat → Nat) : Nat → Nat
  | 0 => 0
  | n + 1 => cnt0 f n + (if f n = 0 then 1 else 0)
/-- the nodes behind one more side, side by side -/
def wnb (G : GS) (z : Nat) : Nat → Nat
  | 0 => z
  | n + 1 => if G.de n < 300 ∧ (wnb G z n / 2 ^ G.sm n) &&& 1 = 1 then wnb G z n ||| 2 ^ G.sm (op n) else wnb G z n
def itw (G : GS) (z : Nat) : Nat → Nat
  | 0 => z
  | n + 1 => wnb G (itw G z n) (2 * G.rr)
theorem snD_0 (G : GS) (mm : Nat) : snD G mm 0 = G.de := funext fun k => if_neg (Nat.not_lt_zero k)
theorem snS_0 (G : GS) : snS G 0 = G.sa := funext fun k => if_neg (Nat.not_lt_zero k)
theorem snD_s (G : GS) (mm i : Nat) : up (snD G mm i) i (min 999 (snD G mm i i + (if snS G i i ≠ 0 then mm / 2 else mm))) = snD G mm (i + 1) := by
  funext k
  have h1 : snD G mm i i = G.de i := if_neg (Nat.lt_irrefl i)
  have h2 : snS G i i = G.sa i := if_neg (Nat.lt_irrefl i)
  rw [h1, h2]
  unfold up
  by_cases h : k = i
  · subst h; rw [if_pos rfl]; unfold snD; rw [if_pos (Nat.lt_succ_self k)]
  · rw [if_neg h]
    unfold snD
    by_cases h3 : k < i
    · rw [if_pos h3, if_pos (Nat.lt_succ_of_lt h3)]
    · rw [if_neg h3, if_neg (by omega)]
theorem snS_s (G : GS) (i : Nat) : up (snS G i) i 0 = snS G (i + 1) := by
  funext k
  unfold up
  by_cases h : k = i
  · subst h; rw [if_pos rfl]; unfold snS; rw [if_pos (Nat.lt_succ_self k)]
  · rw [if_neg h]
    unfold snS
    by_cases h3 : k < i
    · rw [if_pos h3, if_pos (Nat.lt_succ_of_lt h3)]
    · rw [if_neg h3, if_neg (by omega)]
theorem op_lt {k r : Nat} (h : k < 2 * r) : op k < 2 * r := by unfold op; split <;> omega
theorem op_div (k : Nat) : op k / 2 = k / 2 := by unfold op; split <;> omega
theorem op_op (k : Nat) : op (op k) = k := by unfold op; split <;> split <;> omega
theorem op_ne (k : Nat) : op k ≠ k := by unfold op; split <;> omega
theorem dmax_le {f : Nat → Nat} {b : Nat} (h : ∀ k, f k ≤ b) : ∀ n, dmax f n ≤ b
  | 0 => Nat.zero_le _
  | n + 1 => by have := dmax_le h n; have := h n; show max _ _ ≤ b; omega
theorem dmaxP_rng {pr de : Nat → Nat} {q : Int} (h : ∀ k, de k ≤ 999) : ∀ n, -1 ≤ dmaxP pr de q n ∧ dmaxP pr de q n ≤ 999
  | 0 => by unfold dmaxP; omega
  | n + 1 => by
    have h1 := dmaxP_rng (pr := pr) (q := q) h n
    have := h n
    unfold dmaxP
    split <;> omega
theorem cnt0_le (f : Nat → Nat) : ∀ n, cnt0 f n ≤ n
  | 0 => Nat.le_refl _
  | n + 1 => by have := cnt0_le f n; unfold cnt0; split <;> omega
theorem wnb_lt {G : GS} (h : Inv G) {z : Nat} (hz : z < 256) : ∀ n, wnb G z n < 256
  | 0 => hz
  | n + 1 => by
    have h1 := wnb_lt h hz n
    have h2 := h.sm (op n)
    have h3 := h.nn
    unfold wnb
    split
    · exact Nat.or_lt_two_pow (n := 8) h1 (Nat.pow_lt_pow_right (by decide) (by omega))
    · exact h1
theorem itw_lt {G : GS} (h : Inv G) {z : Nat} (hz : z < 256) : ∀ n, itw G z n < 256
  | 0 => hz
  | n + 1 => wnb_lt h (itw_lt h hz n) _
theorem sF_rng {G : GS} {v r : Nat} (h : r < G.rr) : -1 ≤ sF G v r ∧ sF G v r < ((2 * G.rr : Nat) : Int) := by unfold sF; split <;> (try split) <;> omega
/-- going by a road r on its side k -/
abbrev dSt (G : GS) (r k : Nat) : Prop := 0 < G.de k ∧ G.vw ≠ 0 ∧ G.mi r ≤ G.vs
def dMin (G : GS) (r k : Nat) : Int := (if 50 ≤ G.de k then ((G.mi r * 2 : Nat) : Int) else (G.mi r : Int)) + (if (r : Int) = G.vc then 2 else 0)
def dTt (tt : Nat → Int64) (a b : Prop) [Decidable a] [Decidable b] (x : Nat) (m : Int) : Nat → Int64 := fun j => if j = 0 then tt 0 + (iI m).toInt64 else if j = 1 then (if a then tt 1 + (iI (x : Int)).toInt64 else tt 1) else if j = 2 then (if b then tt 2 + 1 else tt 2) else if j = 3 then tt 3 + 1 else tt j
def dDe (G : GS) (k : Nat) : Nat → Nat := up (up G.de (op k) (min 999 (G.de (op k) + G.de k / 2))) k 0
def drv (G : GS) (r k : Nat) : GS := mkG G.tu G.st G.sm G.mi G.pr (dDe G k) (if dSt G r k then up G.sa k 1 else G.sa) G.nn G.rr (G.sm (op k)) (r : Int) (if dSt G r k then G.vs - G.mi r else G.vs) G.vw (dTt G.tt (dSt G r k) ((r : Int) = G.vc) (G.mi r) (dMin G r k))
/-- what plough() and total() tell -/
def stf (G : GS) (z : Int) : Int := if z = 0 then (G.vn : Int) else if z = 1 then G.vc else if z = 2 then (G.vs : Int) else (G.vw : Int)
def ttf (G : GS) (z : Int) : Int64 := if z = 0 then G.tt 0 else if z = 1 then G.tt 1 else if z = 2 then G.tt 2 else G.tt 3
theorem dTt_1 (tt : Nat → Int64) (a : Prop) [Decidable a] (x : Nat) (m : Int) (u : Nat → Int64) (hu : u = if a then up tt 1 (tt 1 + (iI (x : Int)).toInt64) else tt) : up (up u 3 (u 3 + 1)) 0 (u 0 + (iI m).toInt64) = dTt tt a False x m := by
  subst hu; funext j
  unfold dTt
  by_cases h0 : j = 0
  · subst h0; by_cases h : a <;> simp [up, h]
  · by_cases h3 : j = 3
    · subst h3; by_cases h : a <;> simp [up, h]
    · by_cases h1 : j = 1
      · subst h1; by_cases h : a <;> simp [up, h]
      · by_cases h2 : j = 2
        · subst h2; by_cases h : a <;> simp [up, h]
        · by_cases h : a <;> simp [up, h, h0, h1, h2, h3]
theorem dTt_2 (tt : Nat → Int64) (a : Prop) [Decidable a] (x : Nat) (m : Int) (u : Nat → Int64) (hu : u = if a then up (up tt 2 (tt 2 + 1)) 1 (tt 1 + (iI (x : Int)).toInt64) else up tt 2 (tt 2 + 1)) : up (up u 3 (u 3 + 1)) 0 (u 0 + (iI m).toInt64) = dTt tt a True x m := by
  subst hu; funext j
  unfold dTt
  by_cases h0 : j = 0
  · subst h0; by_cases h : a <;> simp [up, h]
  · by_cases h3 : j = 3
    · subst h3; by_cases h : a <;> simp [up, h]
    · by_cases h1 : j = 1
      · subst h1; by_cases h : a <;> simp [up, h]
      · by_cases h2 : j = 2
        · subst h2; by_cases h : a <;> simp [up, h]
        · by_cases h : a <;> simp [up, h, h0, h1, h2, h3]
theorem dTt_c (tt : Nat → Int64) {a b c : Prop} [Decidable a] [Decidable b] [Decidable c] (x : Nat) (m : Int) (h : b ↔ c) : dTt tt a b x m = dTt tt a c x m := by
  funext j; unfold dTt; simp only [h]
theorem dmax_s (f : Nat → Nat) (n : Nat) : dmax f (n + 1) = max (dmax f n) (f n) := rfl
theorem dmaxP_s (pr de : Nat → Nat) (q : Int) (n : Nat) : dmaxP pr de q (n + 1) = if (pr (n / 2) : Int) = q then max (dmaxP pr de q n) (de n : Int) else dmaxP pr de q n := rfl
theorem cnt0_s (f : Nat → Nat) (n : Nat) : cnt0 f (n + 1) = cnt0 f n + (if f n = 0 then 1 else 0) := rfl
theorem wnb_s (G : GS) (z n : Nat) : wnb G z (n + 1) = if G.de n < 300 ∧ (wnb G z n / 2 ^ G.sm n) &&& 1 = 1 then wnb G z n ||| 2 ^ G.sm (op n) else wnb G z n := rfl
/-- the checksum, over the nodes, then over the roads -/
def dgN (G : GS) (d : Int64) : Nat → Int64
  | 0 => d * 31 + (iI (G.nn : Int)).toInt64
  | n + 1 => dgN G d n * 31 + (iI (if G.tu n = 0 then 0 else 1)).toInt64 + (iI (if G.st n = 0 then 0 else 2)).toInt64
def dgR (G : GS) (d : Int64) : Nat → Int64
  | 0 => dgN G d G.nn * 31 + (iI (G.rr : Int)).toInt64
  | n + 1 => ((dgR G d n * 31 + (iI (G.de (2 * n) : Int)).toInt64) * 31 + (iI (G.de (2 * n + 1) : Int)).toInt64) * 31 + (iI (if G.sa (2 * n) = 0 then 0 else 1)).toInt64 + (iI (if G.sa (2 * n + 1) = 0 then 0 else 2)).toInt64
theorem dgN_s (G : GS) (d : Int64) (n : Nat) : dgN G d (n + 1) = dgN G d n * 31 + (iI (if G.tu n = 0 then 0 else 1)).toInt64 + (iI (if G.st n = 0 then 0 else 2)).toInt64 := rfl
theorem dgR_s (G : GS) (d : Int64) (n : Nat) : dgR G d (n + 1) = ((dgR G d n * 31 + (iI (G.de (2 * n) : Int)).toInt64) * 31 + (iI (G.de (2 * n + 1) : Int)).toInt64) * 31 + (iI (if G.sa (2 * n) = 0 then 0 else 1)).toInt64 + (iI (if G.sa (2 * n + 1) = 0 then 0 else 2)).toInt64 := rfl
