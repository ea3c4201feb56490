section
/-! 01: what the printed statement says of the law's own method, and what the class file that it names says -/
/-- the law's own method has an exception table in the class file (378 to 385, handler 388): so the file doesn't have this code without a table -/
theorem law_hasNot : classFile.hasCode x code maxLocals ret = false := by decide +kernel
/-- .. it has it with this one -/
theorem law_has : ∃ hs : List (Nat × Nat × Nat × Nat), hs.length = 1 ∧ (hs.map fun h => (h.1, h.2.1, h.2.2.1)) = [(378, 385, 388)] ∧ classFile.hasCodeWith x code maxLocals ret hs = true := ⟨[(378, 385, 388, 108)], rfl, rfl, by decide +kernel⟩
/-- so no launch at all meets the statement's premise on its class files -/
theorem no_lists (l : Launch) : ¬ Jvm.D.Lists l classFile x code maxLocals ret tables_1 room_1 := by
  rintro ⟨-, hf, hL, -⟩
  have hm : (x, code, maxLocals, ret) ∈ (Jvm.D.headSpec (Jvm.Cond.code x code maxLocals ret :: tables_1) room_1).pre.codes ++ (Jvm.D.headSpec (Jvm.Cond.code x code maxLocals ret :: tables_1) room_1).post.codes :=
    List.mem_append_left _ (List.mem_append_left _ List.mem_cons_self)
  have h := hL.1 _ hm
  rw [show l.file? x.cls = some classFile from hf] at h
  rw [Option.any_some, law_hasNot] at h
  exact Bool.false_ne_true h
/-- the witness's claim is false -/
theorem no_witness : ¬ WitnessClaimed_1 := fun ⟨_, _, _, _, _, _, h⟩ => no_lists launch0 h.1
end
section
/-! 04.ints: from whole, what is needed here -/
def iI (z : Int) : Int32 := Int32.ofInt z
theorem iI_t {z : Int} (h : -2147483648 ≤ z ∧ z < 2147483648) : (iI z).toInt = z := Int32.toInt_ofInt_of_le (by omega) (by omega)
theorem iI_add (a b : Int) : iI a + iI b = iI (a + b) := (Int32.ofInt_add a b).symm
/-- the other side of the same road -/
def op (k : Nat) : Nat := if k % 2 = 0 then k + 1 else k - 1
/-- one place of a row -/
def up {α : Type} (f : Nat → α) (k : Nat) (x : α) : Nat → α := fun j => if j = k then x else f j
theorem up_s {α : Type} (f : Nat → α) (k : Nat) (x : α) : up f k x k = x := if_pos rfl
theorem up_n {α : Type} (f : Nat → α) {k j : Nat} (x : α) (h : j ≠ k) : up f k x j = f j := if_neg h
end
section
/-! 05.world: from whole, what is needed here -/
abbrev GS : Type := (Nat → Nat) × (Nat → Nat) × (Nat → Nat) × (Nat → Nat) × (Nat → Nat) × (Nat → Nat) × (Nat → Nat) × (Nat) × (Nat) × (Nat) × (Int) × (Nat) × (Nat) × (Nat → Int64)
def GS.tu (g : GS) : Nat → Nat := g.1
def GS.st (g : GS) : Nat → Nat := g.2.1
def GS.sm (g : GS) : Nat → Nat := g.2.2.1
def GS.mi (g : GS) : Nat → Nat := g.2.2.2.1
def GS.pr (g : GS) : Nat → Nat := g.2.2.2.2.1
def GS.de (g : GS) : Nat → Nat := g.2.2.2.2.2.1
def GS.sa (g : GS) : Nat → Nat := g.2.2.2.2.2.2.1
def GS.nn (g : GS) : Nat := g.2.2.2.2.2.2.2.1
def GS.rr (g : GS) : Nat := g.2.2.2.2.2.2.2.2.1
def GS.vn (g : GS) : Nat := g.2.2.2.2.2.2.2.2.2.1
def GS.vc (g : GS) : Int := g.2.2.2.2.2.2.2.2.2.2.1
def GS.vs (g : GS) : Nat := g.2.2.2.2.2.2.2.2.2.2.2.1
def GS.vw (g : GS) : Nat := g.2.2.2.2.2.2.2.2.2.2.2.2.1
def GS.tt (g : GS) : Nat → Int64 := g.2.2.2.2.2.2.2.2.2.2.2.2.2
def GS.de' (g : GS) (x : Nat → Nat) : GS := (g.tu, g.st, g.sm, g.mi, g.pr, x, g.sa, g.nn, g.rr, g.vn, g.vc, g.vs, g.vw, g.tt)
def GS.sa' (g : GS) (x : Nat → Nat) : GS := (g.tu, g.st, g.sm, g.mi, g.pr, g.de, x, g.nn, g.rr, g.vn, g.vc, g.vs, g.vw, g.tt)
def GS.vs' (g : GS) (x : Nat) : GS := (g.tu, g.st, g.sm, g.mi, g.pr, g.de, g.sa, g.nn, g.rr, g.vn, g.vc, x, g.vw, g.tt)
def GS.tt' (g : GS) (x : Nat → Int64) : GS := (g.tu, g.st, g.sm, g.mi, g.pr, g.de, g.sa, g.nn, g.rr, g.vn, g.vc, g.vs, g.vw, x)
abbrev YS : Type := (Nat → Int) × (Nat → Nat) × (Nat → Nat → Nat) × (Nat → Nat) × (Nat)
def YS.wm (g : YS) : Nat → Int := g.1
def YS.wl (g : YS) : Nat → Nat := g.2.1
def YS.wr (g : YS) : Nat → Nat → Nat := g.2.2.1
def YS.we (g : YS) : Nat → Nat := g.2.2.2.1
def YS.ws (g : YS) : Nat := g.2.2.2.2
def YS.wm' (g : YS) (x : Nat → Int) : YS := (x, g.wl, g.wr, g.we, g.ws)
def YS.wl' (g : YS) (x : Nat → Nat) : YS := (g.wm, x, g.wr, g.we, g.ws)
def YS.wr' (g : YS) (x : Nat → Nat → Nat) : YS := (g.wm, g.wl, x, g.we, g.ws)
def YS.we' (g : YS) (x : Nat → Nat) : YS := (g.wm, g.wl, g.wr, x, g.ws)
def YS.ws' (g : YS) (x : Nat) : YS := (g.wm, g.wl, g.wr, g.we, x)
def mkG (x0 : Nat → Nat) (x1 : Nat → Nat) (x2 : Nat → Nat) (x3 : Nat → Nat) (x4 : Nat → Nat) (x5 : Nat → Nat) (x6 : Nat → Nat) (x7 : Nat) (x8 : Nat) (x9 : Nat) (x10 : Int) (x11 : Nat) (x12 : Nat) (x13 : Nat → Int64) : GS := (x0, x1, x2, x3, x4, x5, x6, x7, x8, x9, x10, x11, x12, x13)
end
section
/-! 07.pure: from whole, what is needed here -/
def Inv (G : GS) : Prop := (1 ≤ G.nn ∧ G.nn ≤ 8) ∧ G.rr ≤ 12 ∧ (∀ k, G.tu k ≤ 1) ∧ (∀ k, G.st k ≤ 1) ∧ (∀ k, G.sm k < G.nn) ∧ (∀ k, G.mi k ≤ 30) ∧ (∀ k, k < G.rr → 1 ≤ G.mi k) ∧ (∀ k, G.pr k ≤ 2) ∧ (∀ k, G.de k ≤ 999) ∧ (∀ k, G.sa k ≤ 1) ∧ G.vn < G.nn ∧ (-1 ≤ G.vc ∧ G.vc < G.rr) ∧ G.vs ≤ 120 ∧ G.vw ≤ 1 ∧ (∀ k, k < G.rr → G.sm (2 * k) ≠ G.sm (2 * k + 1))
theorem Inv.nn {G : GS} (h : Inv G) : 1 ≤ G.nn ∧ G.nn ≤ 8 := h.1
theorem Inv.rr {G : GS} (h : Inv G) : G.rr ≤ 12 := h.2.1
theorem Inv.tu {G : GS} (h : Inv G) (k : Nat) : G.tu k ≤ 1 := h.2.2.1 k
theorem Inv.st {G : GS} (h : Inv G) (k : Nat) : G.st k ≤ 1 := h.2.2.2.1 k
theorem Inv.sm {G : GS} (h : Inv G) (k : Nat) : G.sm k < G.nn := h.2.2.2.2.1 k
theorem Inv.mi {G : GS} (h : Inv G) (k : Nat) : G.mi k ≤ 30 := h.2.2.2.2.2.1 k
theorem Inv.mi1 {G : GS} (h : Inv G) {k : Nat} (hk : k < G.rr) : 1 ≤ G.mi k := h.2.2.2.2.2.2.1 k hk
theorem Inv.pr {G : GS} (h : Inv G) (k : Nat) : G.pr k ≤ 2 := h.2.2.2.2.2.2.2.1 k
theorem Inv.de {G : GS} (h : Inv G) (k : Nat) : G.de k ≤ 999 := h.2.2.2.2.2.2.2.2.1 k
theorem Inv.sa {G : GS} (h : Inv G) (k : Nat) : G.sa k ≤ 1 := h.2.2.2.2.2.2.2.2.2.1 k
theorem Inv.vn {G : GS} (h : Inv G) : G.vn < G.nn := h.2.2.2.2.2.2.2.2.2.2.1
theorem Inv.vc {G : GS} (h : Inv G) : -1 ≤ G.vc ∧ G.vc < G.rr := h.2.2.2.2.2.2.2.2.2.2.2.1
theorem Inv.vs {G : GS} (h : Inv G) : G.vs ≤ 120 := h.2.2.2.2.2.2.2.2.2.2.2.2.1
theorem Inv.vw {G : GS} (h : Inv G) : G.vw ≤ 1 := h.2.2.2.2.2.2.2.2.2.2.2.2.2.1
theorem Inv.ab {G : GS} (h : Inv G) {k : Nat} (hk : k < G.rr) : G.sm (2 * k) ≠ G.sm (2 * k + 1) := h.2.2.2.2.2.2.2.2.2.2.2.2.2.2 k hk
/-- the side of a road on which one goes from a node; -1 if the node is not an end of it -/
def sF (G : GS) (v r : Nat) : Int := if G.sm (2 * r) = v then ((2 * r : Nat) : Int) else if G.sm (2 * r + 1) = v then ((2 * r + 1 : Nat) : Int) else -1
/-- one who came to v by the road c (or by -1) can go on by the side z -/
abbrev cG (G : GS) (v : Nat) (c z : Int) : Prop := (0 ≤ z ∧ z < ((2 * G.rr : Nat) : Int)) ∧ G.sm z.toNat = v ∧ (z / 2 ≠ c ∨ G.tu v ≠ 0)
/-- the first sides snowed upon -/
def snD (G : GS) (mm i : Nat) : Nat → Nat := fun k => if k < i then min 999 (G.de k + (if G.sa k ≠ 0 then mm / 2 else mm)) else G.de k
def snS (G : GS) (i : Nat) : Nat → Nat := fun k => if k < i then 0 else G.sa k
def cnt0 (f : Nat → Nat) : Nat → Nat
  | 0 => 0
  | n + 1 => cnt0 f n + (if f n = 0 then 1 else 0)
theorem op_lt {k r : Nat} (h : k < 2 * r) : op k < 2 * r := by unfold op; split <;> omega
theorem op_ne (k : Nat) : op k ≠ k := by unfold op; split <;> omega
theorem cnt0_le (f : Nat → Nat) : ∀ n, cnt0 f n ≤ n
  | 0 => Nat.le_refl _
  | n + 1 => by have := cnt0_le f n; unfold cnt0; split <;> omega
theorem sF_rng {G : GS} {v r : Nat} (h : r < G.rr) : -1 ≤ sF G v r ∧ sF G v r < ((2 * G.rr : Nat) : Int) := by unfold sF; split <;> (try split) <;> omega
/-- going by a road r on its side k -/
abbrev dSt (G : GS) (r k : Nat) : Prop := 0 < G.de k ∧ G.vw ≠ 0 ∧ G.mi r ≤ G.vs
def dMin (G : GS) (r k : Nat) : Int := (if 50 ≤ G.de k then ((G.mi r * 2 : Nat) : Int) else (G.mi r : Int)) + (if (r : Int) = G.vc then 2 else 0)
def dTt (tt : Nat → Int64) (a b : Prop) [Decidable a] [Decidable b] (x : Nat) (m : Int) : Nat → Int64 := fun j => if j = 0 then tt 0 + (iI m).toInt64 else if j = 1 then (if a then tt 1 + (iI (x : Int)).toInt64 else tt 1) else if j = 2 then (if b then tt 2 + 1 else tt 2) else if j = 3 then tt 3 + 1 else tt j
def dDe (G : GS) (k : Nat) : Nat → Nat := up (up G.de (op k) (min 999 (G.de (op k) + G.de k / 2))) k 0
def drv (G : GS) (r k : Nat) : GS := mkG G.tu G.st G.sm G.mi G.pr (dDe G k) (if dSt G r k then up G.sa k 1 else G.sa) G.nn G.rr (G.sm (op k)) (r : Int) (if dSt G r k then G.vs - G.mi r else G.vs) G.vw (dTt G.tt (dSt G r k) ((r : Int) = G.vc) (G.mi r) (dMin G r k))
end
section
/-! 08.ways: from whole, what is needed here -/
def cpr (wr : Nat → Nat → Nat) (a b len : Nat) : Nat → Nat := fun j => if j < len then wr a j else wr b j
/-- the first difference decides: n places from t on -/
def lexB (f g : Nat → Nat) : Nat → Nat → Bool
  | 0, _ => false
  | n + 1, t => if f t = g t then lexB f g n (t + 1) else decide (f t < g t)
abbrev shr (Y : YS) (i j : Nat) : Prop := Y.wm i < Y.wm j ∨ (Y.wm i = Y.wm j ∧ (Y.wl i < Y.wl j ∨ (Y.wl i = Y.wl j ∧ lexB (Y.wr i) (Y.wr j) (Y.wl i) 0 = true)))
def layL (Y : YS) (z : Int) : Nat := if z = -1 then 0 else Y.wl z.toNat
def layM (Y : YS) (z : Int) : Int := if z = -1 then 0 else Y.wm z.toNat
def mtZ (Y : YS) (z : Int) : Int := if z = -1 then -1 else Y.wm z.toNat
def rdZ (Y : YS) (z : Int) (t : Nat) : Int := if t < layL Y z then (Y.wr z.toNat t : Int) else -1
def lay (G : GS) (Y : YS) (z : Int) (k x : Nat) : YS := ((Y.wr' (up Y.wr 24 (up (cpr Y.wr z.toNat 24 (layL Y z)) (layL Y z) (k / 2)))).wl' (up Y.wl 24 (layL Y z + 1))).wm' (up Y.wm 24 (layM Y z + (G.mi (k / 2) : Int) + (x : Int)))
def tk (Y : YS) (i : Nat) : YS := ((Y.wr' (up Y.wr i (cpr Y.wr 24 i (Y.wl 24)))).wm' (up Y.wm i (Y.wm 24))).wl' (up Y.wl i (Y.wl 24))
def gsX (i : Nat) (c : Int) : Nat := if ((i / 2 : Nat) : Int) = c then 2 else 0
def gsL (G : GS) (Y : YS) (z : Int) (i x : Nat) : YS := if (lay G Y z i x).wm i = -1 ∨ shr (lay G Y z i x) 24 i then tk (lay G Y z i x) i else lay G Y z i x
def gst (G : GS) (Y : YS) (z : Int) (v : Nat) (c : Int) (i : Nat) : YS := if Y.we i = 0 ∧ cG G v c (i : Int) then gsL G Y z i (gsX i c) else Y
theorem gsX_le (i : Nat) (c : Int) : gsX i c ≤ 2 := by unfold gsX; split <;> omega
def gof (G : GS) (Y : YS) (z : Int) (v : Nat) (c : Int) : Nat → YS
  | 0 => Y
  | n + 1 => gst G (gof G Y z v c n) z v c n
def nos (Y : YS) : Nat → Int
  | 0 => -1
  | n + 1 => if Y.we n = 0 ∧ ¬ Y.wm n = -1 ∧ (nos Y n = -1 ∨ Y.wm n < Y.wm (nos Y n).toNat) then (n : Int) else nos Y n
def fgM (Y : YS) (i : Nat) : Nat → Int := fun k => if k < i then -1 else Y.wm k
def fgL (Y : YS) (i : Nat) : Nat → Nat := fun k => if k < i then 0 else Y.wl k
def fgE (Y : YS) (i : Nat) : Nat → Nat := fun k => if k < i then 0 else Y.we k
def fgt (Y : YS) : YS := ((Y.wm' (fgM Y 24)).wl' (fgL Y 24)).we' (fgE Y 24)
def lk0 (G : GS) (Y : YS) : YS := gof G (fgt (Y.ws' G.vn)) (-1) G.vn G.vc (2 * G.rr)
def lkE (G : GS) (Y : YS) (k : Nat) : YS := gof G (Y.we' (up Y.we k 1)) (k : Int) (G.sm (op k)) ((k / 2 : Nat) : Int) (2 * G.rr)
def lkS (G : GS) (Y : YS) : YS := if nos Y (2 * G.rr) = -1 then Y else lkE G Y (nos Y (2 * G.rr)).toNat
def lk (G : GS) (Y : YS) : Nat → YS
  | 0 => lk0 G Y
  | n + 1 => lkS G (lk G Y n)
def lka (G : GS) (Y : YS) : YS := lk G Y (2 * G.rr)
def lst (G : GS) (Y : YS) (v : Nat) : Nat → Int
  | 0 => -1
  | n + 1 => if G.sm (op n) = v ∧ ¬ Y.wm n = -1 ∧ (lst G Y v n = -1 ∨ shr Y n (lst G Y v n).toNat) then (n : Int) else lst G Y v n
def lstZ (G : GS) (Y : YS) (v : Nat) : Int := if v = Y.ws then -1 else lst G Y v (2 * G.rr)
def mnZ (G : GS) (Y : YS) (v : Nat) : Int := if v = Y.ws then 0 else mtZ Y (lstZ G Y v)
/-- what holds of the rows of the ways at any time -/
def YI (Y : YS) : Prop := (∀ k, -1 ≤ Y.wm k ∧ Y.wm k ≤ 32 * (Y.wl k : Int)) ∧ (∀ k, Y.wl k ≤ 24) ∧ (∀ k, Y.we k ≤ 1) ∧ (∀ a j, Y.wr a j ≤ 12) ∧ Y.ws ≤ 8
theorem YI.wm {Y : YS} (h : YI Y) (k : Nat) : -1 ≤ Y.wm k ∧ Y.wm k ≤ 32 * (Y.wl k : Int) := h.1 k
theorem YI.wl {Y : YS} (h : YI Y) (k : Nat) : Y.wl k ≤ 24 := h.2.1 k
theorem YI.we {Y : YS} (h : YI Y) (k : Nat) : Y.we k ≤ 1 := h.2.2.1 k
theorem YI.wr {Y : YS} (h : YI Y) (a j : Nat) : Y.wr a j ≤ 12 := h.2.2.2.1 a j
theorem YI.ws {Y : YS} (h : YI Y) : Y.ws ≤ 8 := h.2.2.2.2
theorem nos_rng (Y : YS) : ∀ n, -1 ≤ nos Y n ∧ nos Y n < (n : Int)
  | 0 => by unfold nos; omega
  | n + 1 => by have := nos_rng Y n; unfold nos; split <;> omega
theorem layL_le {Y : YS} (h : YI Y) (z : Int) : layL Y z ≤ 24 := by
  unfold layL; split
  · omega
  · exact h.wl _
theorem layM_le {Y : YS} (h : YI Y) (z : Int) : -1 ≤ layM Y z ∧ layM Y z ≤ 32 * (layL Y z : Int) := by
  unfold layM layL; split
  · omega
  · exact h.wm _
theorem lay_YI {G : GS} {Y : YS} {z : Int} {k x : Nat} (hI : Inv G) (h : YI Y) (hL : layL Y z < 24) (hx : x ≤ 2) (hk : k < 2 * G.rr) : YI (lay G Y z k x) := by
  have hm := layM_le h z
  have hmi := hI.mi (k / 2)
  have hrr := hI.rr
  refine ⟨fun j => ?_, fun j => ?_, h.we, fun a j => ?_, h.ws⟩
  · show -1 ≤ up Y.wm 24 (layM Y z + (G.mi (k / 2) : Int) + (x : Int)) j ∧ up Y.wm 24 (layM Y z + (G.mi (k / 2) : Int) + (x : Int)) j ≤ 32 * ((up Y.wl 24 (layL Y z + 1) j : Nat) : Int)
    by_cases hj : j = 24
    · subst hj; rw [up_s, up_s]; omega
    · rw [up_n _ _ hj, up_n _ _ hj]; exact h.wm j
  · show up Y.wl 24 (layL Y z + 1) j ≤ 24
    by_cases hj : j = 24
    · subst hj; rw [up_s]; omega
    · rw [up_n _ _ hj]; exact h.wl j
  · show up Y.wr 24 (up (cpr Y.wr z.toNat 24 (layL Y z)) (layL Y z) (k / 2)) a j ≤ 12
    by_cases ha : a = 24
    · subst ha; rw [up_s]
      by_cases hj : j = layL Y z
      · subst hj; rw [up_s]; omega
      · rw [up_n _ _ hj]; unfold cpr; split
        · exact h.wr _ _
        · exact h.wr _ _
    · rw [up_n _ _ ha]; exact h.wr _ _
theorem tk_YI {Y : YS} {i : Nat} (h : YI Y) : YI (tk Y i) := by
  refine ⟨fun j => ?_, fun j => ?_, h.we, fun a j => ?_, h.ws⟩
  · show -1 ≤ up Y.wm i (Y.wm 24) j ∧ up Y.wm i (Y.wm 24) j ≤ 32 * ((up Y.wl i (Y.wl 24) j : Nat) : Int)
    by_cases hj : j = i
    · subst hj; rw [up_s, up_s]; exact h.wm 24
    · rw [up_n _ _ hj, up_n _ _ hj]; exact h.wm j
  · show up Y.wl i (Y.wl 24) j ≤ 24
    by_cases hj : j = i
    · subst hj; rw [up_s]; exact h.wl 24
    · rw [up_n _ _ hj]; exact h.wl j
  · show up Y.wr i (cpr Y.wr 24 i (Y.wl 24)) a j ≤ 12
    by_cases ha : a = i
    · subst ha; rw [up_s]; unfold cpr; split
      · exact h.wr _ _
      · exact h.wr _ _
    · rw [up_n _ _ ha]; exact h.wr _ _
theorem gst_we (G : GS) (Y : YS) (z : Int) (v : Nat) (c : Int) (i : Nat) : (gst G Y z v c i).we = Y.we ∧ (gst G Y z v c i).ws = Y.ws := by
  unfold gst
  split
  · unfold gsL; split <;> exact ⟨rfl, rfl⟩
  · exact ⟨rfl, rfl⟩
theorem lay_keep (G : GS) (Y : YS) (z : Int) (k x : Nat) {j : Nat} (hj : j ≠ 24) : (lay G Y z k x).wm j = Y.wm j ∧ (lay G Y z k x).wl j = Y.wl j ∧ (lay G Y z k x).wr j = Y.wr j := by
  refine ⟨?_, ?_, ?_⟩
  · show up Y.wm 24 _ j = _; rw [up_n _ _ hj]
  · show up Y.wl 24 _ j = _; rw [up_n _ _ hj]
  · show up Y.wr 24 _ j = _; rw [up_n _ _ hj]
theorem tk_keep (Y : YS) (i : Nat) {j : Nat} (hj : j ≠ i) : (tk Y i).wm j = Y.wm j ∧ (tk Y i).wl j = Y.wl j ∧ (tk Y i).wr j = Y.wr j := by
  refine ⟨?_, ?_, ?_⟩
  · show up Y.wm i _ j = _; rw [up_n _ _ hj]
  · show up Y.wl i _ j = _; rw [up_n _ _ hj]
  · show up Y.wr i _ j = _; rw [up_n _ _ hj]
theorem gst_keep (G : GS) (Y : YS) (z : Int) (v : Nat) (c : Int) (i : Nat) {j : Nat} (hj : j ≠ 24) (h : j ≠ i ∨ Y.we j ≠ 0) : (gst G Y z v c i).wm j = Y.wm j ∧ (gst G Y z v c i).wl j = Y.wl j ∧ (gst G Y z v c i).wr j = Y.wr j := by
  unfold gst
  split
  · rename_i hc
    have hi : j ≠ i := by
      intro e; subst e
      rcases h with h | h
      · exact h rfl
      · exact h hc.1
    unfold gsL
    split
    · obtain ⟨a1, a2, a3⟩ := tk_keep (lay G Y z i (gsX i c)) i hi
      obtain ⟨b1, b2, b3⟩ := lay_keep G Y z i (gsX i c) hj
      exact ⟨a1.trans b1, a2.trans b2, a3.trans b3⟩
    · exact lay_keep G Y z i _ hj
  · exact ⟨rfl, rfl, rfl⟩
/-- what goes on from a settled side, or from the start -/
def zOk (Y : YS) (z : Int) : Prop := z = -1 ∨ (0 ≤ z ∧ z < 24 ∧ Y.we z.toNat ≠ 0)
theorem gst_lay {G : GS} {Y : YS} {z : Int} {v : Nat} {c : Int} {i : Nat} (hz : zOk Y z) : layL (gst G Y z v c i) z = layL Y z ∧ layM (gst G Y z v c i) z = layM Y z := by
  unfold layL layM
  rcases hz with rfl | ⟨h0, h1, h2⟩
  · exact ⟨rfl, rfl⟩
  · obtain ⟨a1, a2, a3⟩ := gst_keep G Y z v c i (j := z.toNat) (by omega) (Or.inr h2)
    rw [a1, a2]; exact ⟨rfl, rfl⟩
theorem gst_YI {G : GS} {Y : YS} {z : Int} {v : Nat} {c : Int} {i : Nat} (hI : Inv G) (h : YI Y) (hL : Y.we i = 0 → layL Y z < 24) (hi : i < 2 * G.rr) : YI (gst G Y z v c i) := by
  unfold gst
  split
  · rename_i hc
    have h1 : YI (lay G Y z i (gsX i c)) := lay_YI hI h (hL hc.1) (gsX_le i c) hi
    unfold gsL
    split
    · exact tk_YI h1
    · exact h1
  · exact h
/-- going on from a side: what stays as it was -/
theorem gof_inv {G : GS} {Y : YS} {z : Int} {v : Nat} {c : Int} (hI : Inv G) (h : YI Y) (hz : zOk Y z) (hL : ∀ k, k < 2 * G.rr → Y.we k = 0 → layL Y z < 24) : ∀ n, n ≤ 2 * G.rr → YI (gof G Y z v c n) ∧ (gof G Y z v c n).we = Y.we ∧ (gof G Y z v c n).ws = Y.ws ∧ layL (gof G Y z v c n) z = layL Y z ∧ layM (gof G Y z v c n) z = layM Y z
  | 0, _ => ⟨h, rfl, rfl, rfl, rfl⟩
  | n + 1, hn => by
    obtain ⟨a1, a2, a3, a4, a5⟩ := gof_inv (v := v) (c := c) hI h hz hL n (by omega)
    have hz2 : zOk (gof G Y z v c n) z := by unfold zOk at hz ⊢; rw [a2]; exact hz
    obtain ⟨b1, b2⟩ := gst_we G (gof G Y z v c n) z v c n
    obtain ⟨c1, c2⟩ := gst_lay (G := G) (v := v) (c := c) (i := n) hz2
    refine ⟨gst_YI hI a1 (fun q => ?_) (by omega), b1.trans a2, b2.trans a3, c1.trans a4, c2.trans a5⟩
    rw [a4]; rw [a2] at q
    exact hL n (by omega) q
theorem gof_keep {G : GS} {Y : YS} {z : Int} {v : Nat} {c : Int} {j : Nat} (hj : j ≠ 24) : ∀ n, (n ≤ j ∨ Y.we j ≠ 0) → (gof G Y z v c n).wm j = Y.wm j ∧ (gof G Y z v c n).wl j = Y.wl j ∧ (gof G Y z v c n).wr j = Y.wr j
  | 0, _ => ⟨rfl, rfl, rfl⟩
  | n + 1, h => by
    obtain ⟨a1, a2, a3⟩ := gof_keep (G := G) (Y := Y) (z := z) (v := v) (c := c) hj n (by rcases h with h | h; exact Or.inl (by omega); exact Or.inr h)
    have hwe : ∀ m, (gof G Y z v c m).we = Y.we := fun m => by
      induction m with
      | zero => rfl
      | succ m ih => exact (gst_we G (gof G Y z v c m) z v c m).1.trans ih
    obtain ⟨b1, b2, b3⟩ := gst_keep G (gof G Y z v c n) z v c n (j := j) hj (by
      rcases h with h | h
      · exact Or.inl (by omega)
      · exact Or.inr (by rw [hwe n]; exact h))
    exact ⟨b1.trans a1, b2.trans a2, b3.trans a3⟩
theorem gof_we {G : GS} {Y : YS} {z : Int} {v : Nat} {c : Int} : ∀ n, (gof G Y z v c n).we = Y.we
  | 0 => rfl
  | n + 1 => (gst_we G (gof G Y z v c n) z v c n).1.trans (gof_we n)
/-- the lengths grow by one side at most -/
theorem gst_wl {G : GS} {Y : YS} {z : Int} {v : Nat} {c : Int} {i b : Nat} (h : ∀ j, j < 24 → Y.wl j ≤ b) (hb : layL Y z + 1 ≤ b) {j : Nat} (hj : j < 24) : (gst G Y z v c i).wl j ≤ b := by
  unfold gst
  split
  · unfold gsL
    split
    · show up (lay G Y z i _).wl i ((lay G Y z i _).wl 24) j ≤ b
      by_cases e : j = i
      · subst e; rw [up_s]
        show up Y.wl 24 (layL Y z + 1) 24 ≤ b
        rw [up_s]; exact hb
      · rw [up_n _ _ e, (lay_keep G Y z i _ (show j ≠ 24 by omega)).2.1]; exact h j hj
    · rw [(lay_keep G Y z i _ (show j ≠ 24 by omega)).2.1]; exact h j hj
  · exact h j hj
theorem gof_wl {G : GS} {Y : YS} {z : Int} {v : Nat} {c : Int} {b : Nat} (hz : zOk Y z) (h : ∀ j, j < 24 → Y.wl j ≤ b) (hb : layL Y z + 1 ≤ b) : ∀ n j, j < 24 → (gof G Y z v c n).wl j ≤ b
  | 0, j, hj => h j hj
  | n + 1, j, hj => by
    have hl : ∀ m, layL (gof G Y z v c m) z = layL Y z := fun m => by
      induction m with
      | zero => rfl
      | succ m ih => exact (gst_lay (G := G) (v := v) (c := c) (i := m) (by unfold zOk at hz ⊢; rw [gof_we]; exact hz)).1.trans ih
    exact gst_wl (fun j hj => gof_wl hz h hb n j hj) (by rw [hl n]; exact hb) hj
/-- how many of the first n are settled -/
def cS (f : Nat → Nat) : Nat → Nat
  | 0 => 0
  | n + 1 => cS f n + (if f n = 0 then 0 else 1)
theorem cS_le (f : Nat → Nat) : ∀ n, cS f n ≤ n
  | 0 => Nat.le_refl _
  | n + 1 => by have := cS_le f n; unfold cS; split <;> omega
theorem cS_lt {f : Nat → Nat} {k : Nat} (h : f k = 0) : ∀ n, k < n → cS f n < n
  | 0, hk => absurd hk (Nat.not_lt_zero k)
  | n + 1, hk => by
    unfold cS
    by_cases e : k = n
    · subst e; have := cS_le f k; rw [if_pos h]; omega
    · have := cS_lt h n (by omega); split <;> omega
theorem cS_ne {f : Nat → Nat} {k x : Nat} : ∀ n, n ≤ k → cS (up f k x) n = cS f n
  | 0, _ => rfl
  | n + 1, hk => by unfold cS; rw [cS_ne n (by omega), up_n _ _ (by omega)]
theorem cS_up {f : Nat → Nat} {k : Nat} (h : f k = 0) : ∀ n, k < n → cS (up f k 1) n = cS f n + 1
  | 0, hk => absurd hk (Nat.not_lt_zero k)
  | n + 1, hk => by
    unfold cS
    by_cases e : k = n
    · subst e; rw [cS_ne k (Nat.le_refl _), up_s, if_neg (by decide), if_pos h]
    · rw [cS_up h n (by omega), up_n _ _ (by omega)]; omega
theorem cS_all {f : Nat → Nat} : ∀ n, (∀ k, k < n → f k = 0) → cS f n = 0
  | 0, _ => rfl
  | n + 1, h => by unfold cS; rw [cS_all n (fun k hk => h k (by omega)), if_pos (h n (by omega))]
theorem nos_open (Y : YS) : ∀ n, nos Y n ≠ -1 → Y.we (nos Y n).toNat = 0 ∧ Y.wm (nos Y n).toNat ≠ -1
  | 0, h => absurd rfl h
  | n + 1, h => by
    unfold nos at h ⊢
    split
    · rename_i hc; exact ⟨hc.1, hc.2.1⟩
    · rename_i hc; rw [if_neg hc] at h; exact nos_open Y n h
/-- the search after n settled sides -/
def lkI (G : GS) (Y : YS) (n : Nat) : Prop := YI Y ∧ (∀ j, j < 24 → Y.wl j ≤ n + 1) ∧ cS Y.we (2 * G.rr) = n ∧ Y.ws = G.vn
theorem fgt_YI {Y : YS} (h : YI Y) : YI (fgt Y) := by
  refine ⟨fun k => ?_, fun k => ?_, fun k => ?_, h.wr, h.ws⟩
  · show -1 ≤ fgM Y 24 k ∧ fgM Y 24 k ≤ 32 * ((fgL Y 24 k : Nat) : Int)
    unfold fgM fgL
    by_cases hk : k < 24
    · rw [if_pos hk, if_pos hk]; omega
    · rw [if_neg hk, if_neg hk]; exact h.wm k
  · show fgL Y 24 k ≤ 24
    unfold fgL; split
    · omega
    · exact h.wl k
  · show fgE Y 24 k ≤ 1
    unfold fgE; split
    · omega
    · exact h.we k
theorem ws_YI {Y : YS} (h : YI Y) {v : Nat} (hv : v ≤ 8) : YI (Y.ws' v) := ⟨h.1, h.2.1, h.2.2.1, h.2.2.2.1, hv⟩
theorem lk0_I {G : GS} {Y : YS} (hI : Inv G) (h : YI Y) : lkI G (lk0 G Y) 0 := by
  have hnn := hI.nn
  have hvn := hI.vn
  have hrr := hI.rr
  have h1 : YI (fgt (Y.ws' G.vn)) := fgt_YI (ws_YI h (by omega))
  obtain ⟨a1, a2, a3, -, -⟩ := gof_inv (z := -1) (v := G.vn) (c := G.vc) hI h1 (Or.inl rfl) (fun _ _ _ => by show 0 < 24; omega) (2 * G.rr) (Nat.le_refl _)
  refine ⟨a1, fun j hj => gof_wl (Or.inl rfl) (fun j hj => ?_) (by show 0 + 1 ≤ 0 + 1; omega) _ j hj, ?_, ?_⟩
  · show fgL (Y.ws' G.vn) 24 j ≤ 0 + 1
    unfold fgL; rw [if_pos hj]; omega
  · show cS (gof G (fgt (Y.ws' G.vn)) (-1) G.vn G.vc (2 * G.rr)).we (2 * G.rr) = 0
    rw [a2]
    refine cS_all _ (fun k hk => ?_)
    show fgE (Y.ws' G.vn) 24 k = 0
    unfold fgE; rw [if_pos (by omega)]
  · exact a3
theorem lkE_pre {G : GS} {Y : YS} {n k : Nat} (hI : Inv G) (h : lkI G Y n) (hk : k < 2 * G.rr) (h0 : Y.we k = 0) : YI (Y.we' (up Y.we k 1)) ∧ zOk (Y.we' (up Y.we k 1)) (k : Int) ∧ (∀ j, j < 2 * G.rr → (Y.we' (up Y.we k 1)).we j = 0 → layL (Y.we' (up Y.we k 1)) (k : Int) < 24) ∧ layL (Y.we' (up Y.we k 1)) (k : Int) ≤ n + 1 ∧ cS (Y.we' (up Y.we k 1)).we (2 * G.rr) = n + 1 := by
  obtain ⟨a1, a2, a3, a4⟩ := h
  have hrr := hI.rr
  have hc : cS (Y.we' (up Y.we k 1)).we (2 * G.rr) = n + 1 := by
    show cS (up Y.we k 1) (2 * G.rr) = n + 1
    rw [cS_up h0 _ hk, a3]
  have hl : layL (Y.we' (up Y.we k 1)) (k : Int) ≤ n + 1 := by
    unfold layL; rw [if_neg (by omega)]
    exact a2 k (by omega)
  refine ⟨⟨a1.1, a1.2.1, fun j => ?_, a1.2.2.2.1, a1.2.2.2.2⟩, Or.inr ⟨by omega, by omega, ?_⟩, fun j hj q => ?_, hl, hc⟩
  · show up Y.we k 1 j ≤ 1
    by_cases e : j = k
    · subst e; rw [up_s]; omega
    · rw [up_n _ _ e]; exact a1.we j
  · show up Y.we k 1 k ≠ 0
    rw [up_s]; decide
  · have := cS_lt q (2 * G.rr) hj
    omega
theorem lkE_I {G : GS} {Y : YS} {n k : Nat} (hI : Inv G) (h : lkI G Y n) (hk : k < 2 * G.rr) (h0 : Y.we k = 0) : lkI G (lkE G Y k) (n + 1) := by
  obtain ⟨b1, b2, b3, b4, b5⟩ := lkE_pre hI h hk h0
  obtain ⟨a1, a2, a3, -, -⟩ := gof_inv (v := G.sm (op k)) (c := ((k / 2 : Nat) : Int)) hI b1 b2 b3 (2 * G.rr) (Nat.le_refl _)
  have hrr := hI.rr
  refine ⟨a1, fun j hj => gof_wl b2 (fun j hj => ?_) (by omega) _ j hj, ?_, ?_⟩
  · have := h.2.1 j hj
    show Y.wl j ≤ n + 1 + 1
    omega
  · show cS (gof G _ _ _ _ _).we _ = _
    rw [a2]; exact b5
  · exact a3.trans h.2.2.2
theorem lk_stop {G : GS} {Y : YS} {n : Nat} (h : nos (lk G Y n) (2 * G.rr) = -1) : ∀ m, lk G Y (n + m) = lk G Y n
  | 0 => rfl
  | m + 1 => by
    show lkS G (lk G Y (n + m)) = _
    rw [lk_stop h m]
    unfold lkS; rw [if_pos h]
theorem lk_go {G : GS} {Y : YS} {n : Nat} (h : nos (lk G Y n) (2 * G.rr) ≠ -1) : lk G Y (n + 1) = lkE G (lk G Y n) (nos (lk G Y n) (2 * G.rr)).toNat := by
  show lkS G (lk G Y n) = _
  unfold lkS; rw [if_neg h]
theorem lexB_s (f g : Nat → Nat) (n t : Nat) : lexB f g (n + 1) t = if f t = g t then lexB f g n (t + 1) else decide (f t < g t) := rfl
theorem nos_s (Y : YS) (n : Nat) : nos Y (n + 1) = if Y.we n = 0 ∧ ¬ Y.wm n = -1 ∧ (nos Y n = -1 ∨ Y.wm n < Y.wm (nos Y n).toNat) then (n : Int) else nos Y n := rfl
theorem lst_s (G : GS) (Y : YS) (v n : Nat) : lst G Y v (n + 1) = if G.sm (op n) = v ∧ ¬ Y.wm n = -1 ∧ (lst G Y v n = -1 ∨ shr Y n (lst G Y v n).toNat) then (n : Int) else lst G Y v n := rfl
theorem gof_s (G : GS) (Y : YS) (z : Int) (v : Nat) (c : Int) (n : Nat) : gof G Y z v c (n + 1) = gst G (gof G Y z v c n) z v c n := rfl
theorem layL_1 {Y : YS} {z : Int} (h : z ≠ -1) : layL Y z = Y.wl z.toNat := if_neg h
theorem mtZ_1 {Y : YS} {z : Int} (h : z ≠ -1) : mtZ Y z = Y.wm z.toNat := if_neg h
end
section
/-! 08b.more: from whole, what is needed here -/
theorem lk_I {G : GS} {Y : YS} (hI : Inv G) (hY : YI Y) : ∀ n, n ≤ 2 * G.rr → (lkI G (lk G Y n) n ∧ True) ∨ (∃ k, k < n ∧ lkI G (lk G Y k) k ∧ nos (lk G Y k) (2 * G.rr) = -1 ∧ lk G Y n = lk G Y k)
  | 0, _ => Or.inl ⟨lk0_I hI hY, trivial⟩
  | n + 1, hn => by
    rcases lk_I hI hY n (by omega) with ⟨h, -⟩ | ⟨k, h1, h2, h3, h4⟩
    · by_cases e : nos (lk G Y n) (2 * G.rr) = -1
      · exact Or.inr ⟨n, by omega, h, e, lk_stop e 1⟩
      · have hr := nos_rng (lk G Y n) (2 * G.rr)
        have ho := nos_open (lk G Y n) (2 * G.rr) e
        refine Or.inl ⟨?_, trivial⟩
        rw [lk_go e]
        exact lkE_I hI h (by omega) ho.1
    · refine Or.inr ⟨k, by omega, h2, h3, ?_⟩
      have h5 := lk_stop h3 (n + 1 - k)
      rw [show k + (n + 1 - k) = n + 1 by omega] at h5
      exact h5
theorem lka_YI {G : GS} {Y : YS} (hI : Inv G) (hY : YI Y) : YI (lka G Y) := by
  rcases lk_I hI hY (2 * G.rr) (Nat.le_refl _) with ⟨h, -⟩ | ⟨k, -, h2, -, h4⟩
  · exact h.1
  · show YI (lk G Y (2 * G.rr))
    rw [h4]; exact h2.1
theorem lka_ws {G : GS} {Y : YS} (hI : Inv G) (hY : YI Y) : (lka G Y).ws = G.vn := by
  rcases lk_I hI hY (2 * G.rr) (Nat.le_refl _) with ⟨h, -⟩ | ⟨k, -, h2, -, h4⟩
  · exact h.2.2.2
  · show (lk G Y (2 * G.rr)).ws = G.vn
    rw [h4]; exact h2.2.2.2
/-- side a is more urgent than b -/
abbrev mu (G : GS) (Y : YS) (a : Nat) (b : Int) : Prop := b = -1 ∨ (G.pr (a / 2) < G.pr (b.toNat / 2) ∨ (G.pr (a / 2) = G.pr (b.toNat / 2) ∧ mtZ Y (a : Int) < mtZ Y b))
def fnb (G : GS) (Y : YS) : Nat → Int
  | 0 => -1
  | n + 1 => if 50 ≤ G.de n ∧ ¬ mtZ Y (n : Int) = -1 ∧ mu G Y n (fnb G Y n) then (n : Int) else fnb G Y n
theorem fnb_s (G : GS) (Y : YS) (n : Nat) : fnb G Y (n + 1) = if 50 ≤ G.de n ∧ ¬ mtZ Y (n : Int) = -1 ∧ mu G Y n (fnb G Y n) then (n : Int) else fnb G Y n := rfl
theorem fnb_rng (G : GS) (Y : YS) : ∀ n, -1 ≤ fnb G Y n ∧ fnb G Y n < (n : Int)
  | 0 => by unfold fnb; omega
  | n + 1 => by have := fnb_rng G Y n; rw [fnb_s]; split <;> omega
/-- a way, from the node v, come by the road c: its sides -/
def isW (G : GS) : Nat → Int → List Nat → Prop
  | _, _, [] => True
  | v, c, k :: w => (k < 2 * G.rr ∧ G.sm k = v ∧ (((k / 2 : Nat) : Int) ≠ c ∨ G.tu v ≠ 0)) ∧ isW G (G.sm (op k)) ((k / 2 : Nat) : Int) w
/-- going it: the state behind, and the minutes -/
def flG : GS → List Nat → GS
  | g, [] => g
  | g, k :: w => flG (drv g (k / 2) k) w
def flM : GS → List Nat → Int
  | _, [] => 0
  | g, k :: w => dMin g (k / 2) k + flM (drv g (k / 2) k) w
theorem sF_side {G : GS} {v k : Nat} (hI : Inv G) (hk : k < 2 * G.rr) (h : G.sm k = v) : sF G v (k / 2) = (k : Int) := by
  have hab := hI.ab (k := k / 2) (by omega)
  unfold sF
  rcases Nat.mod_two_eq_zero_or_one k with e | e
  · rw [show 2 * (k / 2) = k by omega] at hab ⊢
    rw [if_pos h]
  · rw [show 2 * (k / 2) + 1 = k by omega] at hab ⊢
    rw [if_neg (fun q => hab (q.trans h.symm)), if_pos h]
theorem drv_Inv {G : GS} {r k : Nat} (hI : Inv G) (hr : r < G.rr) : Inv (drv G r k) := by
  have hd : ∀ j, dDe G k j ≤ 999 := fun j => by
    unfold dDe
    by_cases h : j = k
    · subst h; rw [up_s]; omega
    · rw [up_n _ _ h]
      by_cases h2 : j = op k
      · subst h2; rw [up_s]; exact Nat.min_le_left _ _
      · rw [up_n _ _ h2]; exact hI.de j
  have hsa : ∀ j, (if dSt G r k then up G.sa k 1 else G.sa) j ≤ 1 := fun j => by
    split
    · by_cases h : j = k
      · subst h; rw [up_s]; omega
      · rw [up_n _ _ h]; exact hI.sa j
    · exact hI.sa j
  have hvs : (if dSt G r k then G.vs - G.mi r else G.vs) ≤ 120 := by
    have := hI.vs
    split <;> omega
  refine ⟨hI.nn, hI.rr, hI.tu, hI.st, hI.sm, hI.mi, fun k hk => hI.mi1 hk, hI.pr, hd, hsa, hI.sm _, ⟨?_, ?_⟩, hvs, hI.vw, fun k hk => hI.ab hk⟩
  · show -1 ≤ (r : Int); omega
  · show (r : Int) < (G.rr : Int); omega
/-- what a way sees of the town stays as it was -/
def sameTown (G G' : GS) : Prop := G'.tu = G.tu ∧ G'.st = G.st ∧ G'.sm = G.sm ∧ G'.mi = G.mi ∧ G'.pr = G.pr ∧ G'.nn = G.nn ∧ G'.rr = G.rr ∧ G'.vw = G.vw
theorem sameTown.refl (G : GS) : sameTown G G := ⟨rfl, rfl, rfl, rfl, rfl, rfl, rfl, rfl⟩
theorem sameTown.trans {G1 G2 G3 : GS} (a : sameTown G1 G2) (b : sameTown G2 G3) : sameTown G1 G3 := ⟨b.1.trans a.1, b.2.1.trans a.2.1, b.2.2.1.trans a.2.2.1, b.2.2.2.1.trans a.2.2.2.1, b.2.2.2.2.1.trans a.2.2.2.2.1, b.2.2.2.2.2.1.trans a.2.2.2.2.2.1, b.2.2.2.2.2.2.1.trans a.2.2.2.2.2.2.1, b.2.2.2.2.2.2.2.trans a.2.2.2.2.2.2.2⟩
theorem drv_same (G : GS) (r k : Nat) : sameTown G (drv G r k) := ⟨rfl, rfl, rfl, rfl, rfl, rfl, rfl, rfl⟩
theorem isW_same {G G' : GS} (h : sameTown G G') : ∀ (w : List Nat) (v : Nat) (c : Int), isW G v c w → isW G' v c w
  | [], _, _, _ => trivial
  | k :: w, v, c, hw => by
    obtain ⟨h1, h2⟩ := hw
    refine ⟨?_, ?_⟩
    · rw [h.2.2.2.2.2.2.1, h.2.2.1, h.1]; exact h1
    · have := isW_same h w _ _ h2
      rw [h.2.2.1]; exact this
theorem fl_Inv : ∀ (w : List Nat) (G : GS), Inv G → isW G G.vn G.vc w → Inv (flG G w) ∧ sameTown G (flG G w)
  | [], G, hI, _ => ⟨hI, sameTown.refl G⟩
  | j :: w, G, hI, h => by
    have hj : j / 2 < G.rr := by have := h.1.1; omega
    obtain ⟨a1, a2⟩ := fl_Inv w (drv G (j / 2) j) (drv_Inv hI hj) (isW_same (drv_same G (j / 2) j) _ _ _ h.2)
    exact ⟨a1, (drv_same G (j / 2) j).trans a2⟩
theorem dMin_rng {G : GS} {r k : Nat} (hI : Inv G) : 0 ≤ dMin G r k ∧ dMin G r k ≤ 62 := by
  have := hI.mi r
  unfold dMin; split <;> split <;> omega
theorem flM_rng : ∀ (w : List Nat) (G : GS), Inv G → isW G G.vn G.vc w → 0 ≤ flM G w ∧ flM G w ≤ 62 * (w.length : Int)
  | [], _, _, _ => ⟨Int.le_refl 0, Int.le_refl _⟩
  | j :: w, G, hI, h => by
    have hj : j / 2 < G.rr := by have := h.1.1; omega
    have a1 := flM_rng w (drv G (j / 2) j) (drv_Inv hI hj) (isW_same (drv_same G (j / 2) j) _ _ _ h.2)
    have a2 := dMin_rng (r := j / 2) (k := j) hI
    show 0 ≤ dMin G (j / 2) j + flM (drv G (j / 2) j) w ∧ dMin G (j / 2) j + flM (drv G (j / 2) j) w ≤ 62 * ((w.length + 1 : Nat) : Int)
    omega
/-- the row of roads at z is the way w -/
def rowW (Y : YS) (z : Int) (w : List Nat) : Prop := w.length = layL Y z ∧ ∀ t (h : t < w.length), Y.wr z.toNat t = w[t] / 2
/-- filled up -/
def tks (G : GS) : GS := (G.vs' 120).tt' (up G.tt 0 (G.tt 0 + 4))
theorem sn_Inv {G : GS} (hI : Inv G) (mm : Nat) : Inv ((G.de' (snD G mm (2 * G.rr))).sa' (snS G (2 * G.rr))) := by
  refine ⟨hI.nn, hI.rr, hI.tu, hI.st, hI.sm, hI.mi, fun k hk => hI.mi1 hk, hI.pr, fun j => ?_, fun j => ?_, hI.vn, hI.vc, hI.vs, hI.vw, fun k hk => hI.ab hk⟩
  · show snD G mm (2 * G.rr) j ≤ 999
    unfold snD; split
    · exact Nat.min_le_left _ _
    · exact hI.de j
  · show snS G (2 * G.rr) j ≤ 1
    unfold snS; split
    · omega
    · exact hI.sa j
end
section
/-! 09b.kinds: from whole, what is needed here -/
def kGo (G : GS) (z : Int) : Nat := if 0 ≤ z ∧ z < (G.rr : Int) then (if cG G G.vn G.vc (sF G G.vn z.toNat) then 0 else 2) else 1
end
section
/-! 18.weigh: from whole, what is needed here -/
def wEnd (G : GS) : Nat → List Nat → Nat
  | v, [] => v
  | _, j :: w => wEnd G (G.sm (op j)) w
def wLs : List Nat → Int
  | [] => -2
  | [j] => (j : Int)
  | _ :: i :: w => wLs (i :: w)
/-- the way w from v ends at the node n, or with the side k -/
def wGl (G : GS) (n k : Int) (v : Nat) (w : List Nat) : Prop := ((wEnd G v w : Nat) : Int) = n ∨ wLs w = k
end
section
/-! 20.order: from whole, what is needed here -/
def mns (G : GS) : Int → List Nat → Nat
  | _, [] => 0
  | c, j :: w => G.mi (j / 2) + (if ((j / 2 : Nat) : Int) = c then 2 else 0) + mns G ((j / 2 : Nat) : Int) w
def rds (w : List Nat) : List Nat := w.map (fun j => j / 2)
def key (G : GS) (c : Int) (w : List Nat) : List Nat := mns G c w :: w.length :: rds w
def wRd : Int → List Nat → Int
  | c, [] => c
  | _, j :: w => wRd ((j / 2 : Nat) : Int) w
def stp (G : GS) (v : Nat) (c : Int) (k : Nat) : Prop := k < 2 * G.rr ∧ G.sm k = v ∧ (((k / 2 : Nat) : Int) ≠ c ∨ G.tu v ≠ 0)
theorem isW_apd (G : GS) : ∀ (a : List Nat) (v : Nat) (c : Int) (b : List Nat), isW G v c (a ++ b) ↔ isW G v c a ∧ isW G (wEnd G v a) (wRd c a) b
  | [], _, _, _ => ⟨fun h => ⟨trivial, h⟩, fun h => h.2⟩
  | j :: a, v, c, b => by
    have h := isW_apd G a (G.sm (op j)) ((j / 2 : Nat) : Int) b
    exact ⟨fun q => ⟨⟨q.1, (h.mp q.2).1⟩, (h.mp q.2).2⟩, fun q => ⟨q.1.1, h.mpr ⟨q.1.2, q.2⟩⟩⟩
theorem isW_one (G : GS) (v : Nat) (c : Int) (k : Nat) : isW G v c [k] ↔ stp G v c k := ⟨fun h => h.1, fun h => ⟨h, trivial⟩⟩
theorem isW_snoc (G : GS) (w : List Nat) (v : Nat) (c : Int) (k : Nat) : isW G v c (w ++ [k]) ↔ isW G v c w ∧ stp G (wEnd G v w) (wRd c w) k := by
  rw [isW_apd, isW_one]
theorem mns_app (G : GS) : ∀ (a : List Nat) (c : Int) (b : List Nat), mns G c (a ++ b) = mns G c a + mns G (wRd c a) b
  | [], c, b => by show _ = 0 + _; rw [Nat.zero_add]; rfl
  | j :: a, c, b => by
    show _ + mns G ((j / 2 : Nat) : Int) (a ++ b) = _ + mns G ((j / 2 : Nat) : Int) a + mns G (wRd ((j / 2 : Nat) : Int) a) b
    rw [mns_app G a]; omega
theorem wLs_snoc : ∀ (w : List Nat) (k : Nat), wLs (w ++ [k]) = (k : Int)
  | [], _ => rfl
  | [_], _ => rfl
  | _ :: i :: w, k => wLs_snoc (i :: w) k
theorem wLs_at (G : GS) {s : Nat} : ∀ (w : List Nat) (v : Nat) (c : Int), wLs w = (s : Int) → wEnd G v w = G.sm (op s) ∧ wRd c w = ((s / 2 : Nat) : Int)
  | [], _, _, h => absurd h (show (-2 : Int) ≠ (s : Int) by omega)
  | [j], _, _, h => by
    have : j = s := by have h : (j : Int) = (s : Int) := h; omega
    subst this; exact ⟨rfl, rfl⟩
  | j :: i :: w, _, _, h => wLs_at G (i :: w) (G.sm (op j)) ((j / 2 : Nat) : Int) h
theorem wLs_split {s : Nat} : ∀ (w : List Nat), wLs w = (s : Int) → ∃ u, w = u ++ [s]
  | [], h => absurd h (show (-2 : Int) ≠ (s : Int) by omega)
  | [j], h => by
    have : j = s := by have h : (j : Int) = (s : Int) := h; omega
    subst this; exact ⟨[], rfl⟩
  | j :: i :: w, h => by
    obtain ⟨u, hu⟩ := wLs_split (i :: w) h
    exact ⟨j :: u, by rw [hu]; rfl⟩
theorem key_lt {G : GS} {c c' : Int} {u w : List Nat} : key G c u < key G c' w ↔ mns G c u < mns G c' w ∨ (mns G c u = mns G c' w ∧ (u.length < w.length ∨ (u.length = w.length ∧ rds u < rds w))) := by
  unfold key
  rw [List.cons_lt_cons_iff, List.cons_lt_cons_iff]
theorem key_tr {a b c : List Nat} (h1 : a < b) (h2 : b < c) : a < c := List.lt_trans h1 h2
theorem key_ir {a : List Nat} : ¬ a < a := List.lt_irrefl a
theorem lt_snoc (x : Nat) : ∀ a b : List Nat, a.length = b.length → (a ++ [x] < b ++ [x] ↔ a < b)
  | [], [], _ => ⟨fun h => absurd h (List.lt_irrefl _), fun h => absurd h (List.lt_irrefl _)⟩
  | a :: as, b :: bs, h => by
    show a :: (as ++ [x]) < b :: (bs ++ [x]) ↔ _
    rw [List.cons_lt_cons_iff, List.cons_lt_cons_iff, lt_snoc x as bs (by simpa using h)]
  | [], _ :: _, h => by simp at h
  | _ :: _, [], h => by simp at h
theorem rds_len (w : List Nat) : (rds w).length = w.length := List.length_map ..
theorem rds_app (a b : List Nat) : rds (a ++ b) = rds a ++ rds b := List.map_append ..
theorem key_snoc {G : GS} {c : Int} {u w : List Nat} {k : Nat} (h : wRd c u = wRd c w) : key G c (u ++ [k]) < key G c (w ++ [k]) ↔ key G c u < key G c w := by
  rw [key_lt, key_lt, mns_app, mns_app, h, List.length_append, List.length_append, rds_app, rds_app]
  show _ + _ < _ + _ ∨ (_ ∧ (_ + 1 < _ + 1 ∨ (_ + 1 = _ + 1 ∧ rds u ++ [k / 2] < rds w ++ [k / 2]))) ↔ _
  by_cases e : u.length = w.length
  · rw [lt_snoc _ _ _ (by rw [rds_len, rds_len]; exact e)]
    constructor
    · rintro (q | ⟨q1, q2 | ⟨q2, q3⟩⟩)
      · exact Or.inl (by omega)
      · exact Or.inr ⟨by omega, Or.inl (by omega)⟩
      · exact Or.inr ⟨by omega, Or.inr ⟨e, q3⟩⟩
    · rintro (q | ⟨q1, q2 | ⟨q2, q3⟩⟩)
      · exact Or.inl (by omega)
      · exact Or.inr ⟨by omega, Or.inl (by omega)⟩
      · exact Or.inr ⟨by omega, Or.inr ⟨by omega, q3⟩⟩
  · constructor
    · rintro (q | ⟨q1, q2 | ⟨q2, q3⟩⟩)
      · exact Or.inl (by omega)
      · exact Or.inr ⟨by omega, Or.inl (by omega)⟩
      · omega
    · rintro (q | ⟨q1, q2 | ⟨q2, q3⟩⟩)
      · exact Or.inl (by omega)
      · exact Or.inr ⟨by omega, Or.inl (by omega)⟩
      · omega
theorem lexB_lt : ∀ (a b : List Nat) (f g : Nat → Nat) (t : Nat), a.length = b.length → (∀ p (h : p < a.length), f (t + p) = a[p]) → (∀ p (h : p < b.length), g (t + p) = b[p]) → (lexB f g a.length t = true ↔ a < b)
  | [], [], _, _, _, _, _, _ => ⟨fun h => (by cases h), fun h => absurd h (List.lt_irrefl _)⟩
  | x :: as, y :: bs, f, g, t, h, hf, hg => by
    have e1 : f t = x := hf 0 (Nat.zero_lt_succ _)
    have e2 : g t = y := hg 0 (Nat.zero_lt_succ _)
    have ih := lexB_lt as bs f g (t + 1) (by simpa using h) (fun p hp => by have := hf (p + 1) (Nat.succ_lt_succ hp); rw [show t + 1 + p = t + (p + 1) by omega]; exact this) (fun p hp => by have := hg (p + 1) (Nat.succ_lt_succ hp); rw [show t + 1 + p = t + (p + 1) by omega]; exact this)
    rw [List.cons_lt_cons_iff]
    show lexB f g (as.length + 1) t = true ↔ _
    rw [lexB_s, e1, e2]
    by_cases q : x = y
    · rw [if_pos q]
      exact ⟨fun z => Or.inr ⟨q, ih.mp z⟩, fun z => z.elim (fun z => absurd z (by omega)) (fun z => ih.mpr z.2)⟩
    · rw [if_neg q]
      exact ⟨fun z => Or.inl (of_decide_eq_true z), fun z => z.elim (fun z => decide_eq_true z) (fun z => absurd z.1 q)⟩
  | [], _ :: _, _, _, _, h, _, _ => by simp at h
  | _ :: _, [], _, _, _, h, _, _ => by simp at h
/-- roads tell the sides -/
theorem isW_inj {G : GS} (hI : Inv G) : ∀ (a b : List Nat) (v : Nat) (c : Int), isW G v c a → isW G v c b → rds a = rds b → a = b
  | [], [], _, _, _, _, _ => rfl
  | [], _ :: _, _, _, _, _, h => by simp [rds] at h
  | _ :: _, [], _, _, _, _, h => by simp [rds] at h
  | i :: a, j :: b, v, c, ha, hb, h => by
    have h1 : i / 2 = j / 2 := by have := congrArg List.head? h; simpa [rds] using this
    have h2 : rds a = rds b := by have := congrArg List.tail h; simpa [rds] using this
    have hij : i = j := by
      have e1 := sF_side hI ha.1.1 ha.1.2.1
      have e2 := sF_side hI hb.1.1 hb.1.2.1
      rw [h1, e2] at e1; omega
    subst hij
    rw [isW_inj hI a b _ _ ha.2 hb.2 h2]
theorem key_eq {G : GS} {c : Int} {u w : List Nat} (h1 : ¬ key G c u < key G c w) (h2 : ¬ key G c w < key G c u) : key G c u = key G c w := by
  rcases (List.le_iff_lt_or_eq (l₁ := key G c w) (l₂ := key G c u)).mp h1 with h | h
  · exact absurd h h2
  · exact h.symm
theorem key_rds {G : GS} {c : Int} {u w : List Nat} (h : key G c u = key G c w) : mns G c u = mns G c w ∧ u.length = w.length ∧ rds u = rds w := by
  unfold key at h
  injection h with h1 h2
  injection h2 with h2 h3
  exact ⟨h1, h2, h3⟩
theorem key_lelt {a b c : List Nat} (h1 : ¬ b < a) (h2 : b < c) : a < c := List.lt_of_le_of_lt h1 h2
/-- a best way to a goal -/
def BW (G : GS) (n k : Int) (v : Nat) (c : Int) (w : List Nat) : Prop := isW G v c w ∧ wGl G n k v w ∧ ∀ u, isW G v c u → wGl G n k v u → ¬ key G c u < key G c w
theorem BW.uniq {G : GS} (hI : Inv G) {n k : Int} {v : Nat} {c : Int} {u w : List Nat} (h1 : BW G n k v c u) (h2 : BW G n k v c w) : u = w :=
  isW_inj hI u w v c h1.1 h2.1 (key_rds (key_eq (h2.2.2 u h1.1 h1.2.1) (h1.2.2 w h2.1 h2.2.1))).2.2
end
section
/-! 21.dijkstra: from whole, what is needed here -/
def rowD (G : GS) (Y : YS) (k : Nat) (w : List Nat) : Prop := Y.wm k = (mns G G.vc w : Int) ∧ Y.wl k = w.length ∧ ∀ t (h : t < w.length), Y.wr k t = w[t] / 2
theorem rowD.of {G : GS} {Y Y' : YS} {k k' : Nat} {w : List Nat} (h : rowD G Y k w) (h1 : Y'.wm k' = Y.wm k) (h2 : Y'.wl k' = Y.wl k) (h3 : ∀ t, t < Y.wl k → Y'.wr k' t = Y.wr k t) : rowD G Y' k' w :=
  ⟨h1.trans h.1, h2.trans h.2.1, fun t ht => (h3 t (by rw [h.2.1]; exact ht)).trans (h.2.2 t ht)⟩
theorem rds_get (w : List Nat) (t : Nat) (h : t < (rds w).length) : (rds w)[t] = w[t]'(by rw [rds_len] at h; exact h) / 2 := List.getElem_map (f := fun j => j / 2) (l := w) (i := t) (h := h)
theorem shr_key {G : GS} {Y : YS} {i j : Nat} {u w : List Nat} (hu : rowD G Y i u) (hw : rowD G Y j w) : shr Y i j ↔ key G G.vc u < key G G.vc w := by
  rw [key_lt]
  unfold shr
  rw [hu.1, hw.1, hu.2.1, hw.2.1]
  have hl : u.length = w.length → (lexB (Y.wr i) (Y.wr j) u.length 0 = true ↔ rds u < rds w) := fun e => by
    have := lexB_lt (rds u) (rds w) (Y.wr i) (Y.wr j) 0 (by rw [rds_len, rds_len]; exact e)
      (fun p hp => by rw [Nat.zero_add, rds_get]; exact hu.2.2 p (by rw [rds_len] at hp; exact hp))
      (fun p hp => by rw [Nat.zero_add, rds_get]; exact hw.2.2 p (by rw [rds_len] at hp; exact hp))
    rw [rds_len] at this
    exact this
  constructor
  · rintro (h | ⟨h1, h2 | ⟨h2, h3⟩⟩)
    · exact Or.inl (by omega)
    · exact Or.inr ⟨by omega, Or.inl h2⟩
    · exact Or.inr ⟨by omega, Or.inr ⟨h2, (hl h2).mp h3⟩⟩
  · rintro (h | ⟨h1, h2 | ⟨h2, h3⟩⟩)
    · exact Or.inl (by omega)
    · exact Or.inr ⟨by omega, Or.inl h2⟩
    · exact Or.inr ⟨by omega, Or.inr ⟨h2, (hl h2).mpr h3⟩⟩
/-- the way to a settled side, or to the start -/
def wzI (wz : Nat → List Nat) (z : Int) : List Nat := if z = -1 then [] else wz z.toNat
def cand (G : GS) (wz : Nat → List Nat) (z : Int) (k : Nat) : Prop := stp G (wEnd G G.vn (wzI wz z)) (wRd G.vc (wzI wz z)) k
def JO (G : GS) (Y : YS) (wz : Nat → List Nat) (S : Int → Prop) (k : Nat) : Prop :=
  ((Y.wm k = -1 ∧ Y.wl k = 0) ∧ ∀ z, S z → ¬ cand G wz z k) ∨ (∃ w, isW G G.vn G.vc w ∧ wLs w = (k : Int) ∧ rowD G Y k w ∧ ∀ z, S z → cand G wz z k → ¬ key G G.vc (wzI wz z ++ [k]) < key G G.vc w)
def JS (G : GS) (Y : YS) (wz : Nat → List Nat) : Prop := ∀ k, k < 2 * G.rr → Y.we k ≠ 0 → isW G G.vn G.vc (wz k) ∧ wLs (wz k) = (k : Int) ∧ rowD G Y k (wz k) ∧ ∀ u, isW G G.vn G.vc u → wLs u = (k : Int) → ¬ key G G.vc u < key G G.vc (wz k)
theorem JO.of {G : GS} {Y Y' : YS} {wz wz' : Nat → List Nat} {S S' : Int → Prop} {k : Nat} (h : JO G Y wz S k) (h1 : Y'.wm k = Y.wm k) (h2 : Y'.wl k = Y.wl k) (h3 : ∀ t, Y'.wr k t = Y.wr k t) (hS : ∀ z, S' z → S z ∧ wzI wz' z = wzI wz z) : JO G Y' wz' S' k := by
  rcases h with ⟨a, b⟩ | ⟨w, a, b, c, d⟩
  · refine Or.inl ⟨⟨h1.trans a.1, h2.trans a.2⟩, fun z hz => ?_⟩
    obtain ⟨s1, s2⟩ := hS z hz
    unfold cand; rw [s2]; exact b z s1
  · refine Or.inr ⟨w, a, b, c.of h1 h2 (fun t _ => h3 t), fun z hz => ?_⟩
    obtain ⟨s1, s2⟩ := hS z hz
    unfold cand; rw [s2]; exact d z s1
theorem JO.notm {G : GS} {Y : YS} {wz : Nat → List Nat} {S : Int → Prop} {k : Nat} (h : JO G Y wz S k) (hm : Y.wm k ≠ -1) : ∃ w, isW G G.vn G.vc w ∧ wLs w = (k : Int) ∧ rowD G Y k w ∧ ∀ z, S z → cand G wz z k → ¬ key G G.vc (wzI wz z ++ [k]) < key G G.vc w := by
  rcases h with ⟨a, _⟩ | h
  · exact absurd a.1 hm
  · exact h
theorem rowD.ne {G : GS} {Y : YS} {k : Nat} {w : List Nat} (h : rowD G Y k w) : Y.wm k ≠ -1 := by have := h.1; omega
/-- the source's row is its way -/
def rowZ (G : GS) (Y : YS) (z : Int) (u : List Nat) : Prop := layM Y z = (mns G G.vc u : Int) ∧ layL Y z = u.length ∧ ∀ t (h : t < u.length), Y.wr z.toNat t = u[t] / 2
theorem lay_row {G : GS} {Y : YS} {z : Int} {u : List Nat} {i : Nat} (h : rowZ G Y z u) : rowD G (lay G Y z i (gsX i (wRd G.vc u))) 24 (u ++ [i]) := by
  refine ⟨?_, ?_, ?_⟩
  · show up Y.wm 24 (layM Y z + (G.mi (i / 2) : Int) + ((gsX i (wRd G.vc u) : Nat) : Int)) 24 = _
    rw [up_s, h.1, mns_app]
    show _ = ((mns G G.vc u + (G.mi (i / 2) + (if ((i / 2 : Nat) : Int) = wRd G.vc u then 2 else 0) + 0) : Nat) : Int)
    unfold gsX; omega
  · show up Y.wl 24 (layL Y z + 1) 24 = _
    rw [up_s, h.2.1, List.length_append]; rfl
  · intro t ht
    show up Y.wr 24 (up (cpr Y.wr z.toNat 24 (layL Y z)) (layL Y z) (i / 2)) 24 t = _
    rw [up_s, h.2.1]
    rw [List.length_append] at ht
    by_cases e : t = u.length
    · subst e; rw [up_s, List.getElem_append_right (Nat.le_refl _)]; simp
    · have hlt : t < u.length := by have : ([i] : List Nat).length = 1 := rfl; omega
      rw [up_n _ _ e, List.getElem_append_left hlt]
      unfold cpr; rw [if_pos hlt]; exact h.2.2 t hlt
theorem cG_stp {G : GS} {v k : Nat} {c : Int} : cG G v c (k : Int) ↔ stp G v c k := by
  unfold stp
  constructor
  · rintro ⟨a, b, d⟩
    exact ⟨by omega, b, by rw [show ((k / 2 : Nat) : Int) = (k : Int) / 2 by omega]; exact d⟩
  · rintro ⟨a, b, d⟩
    exact ⟨⟨by omega, by omega⟩, b, by rw [show (k : Int) / 2 = ((k / 2 : Nat) : Int) by omega]; exact d⟩
theorem gst_JO {G : GS} {Y : YS} {wz : Nat → List Nat} {S : Int → Prop} {z : Int} {i : Nat} (hi : i < 24) (h0 : Y.we i = 0) (hz : isW G G.vn G.vc (wzI wz z)) (hr : rowZ G Y z (wzI wz z)) (h : JO G Y wz S i) : JO G (gst G Y z (wEnd G G.vn (wzI wz z)) (wRd G.vc (wzI wz z)) i) wz (fun x => S x ∨ x = z) i := by
  unfold gst
  by_cases hc : cG G (wEnd G G.vn (wzI wz z)) (wRd G.vc (wzI wz z)) (i : Int)
  · rw [if_pos ⟨h0, hc⟩]
    have hca : cand G wz z i := cG_stp.mp hc
    have hlr := lay_row (i := i) hr
    obtain ⟨k1, k2, k3⟩ := lay_keep G Y z i (gsX i (wRd G.vc (wzI wz z))) (show i ≠ 24 by omega)
    have hnw : isW G G.vn G.vc (wzI wz z ++ [i]) := (isW_snoc G _ _ _ _).mpr ⟨hz, hca⟩
    have htk : ∀ Y' : YS, rowD G Y' 24 (wzI wz z ++ [i]) → rowD G (tk Y' i) i (wzI wz z ++ [i]) := fun Y' hY' => by
      refine hY'.of ?_ ?_ (fun t ht => ?_)
      · show up Y'.wm i (Y'.wm 24) i = _; rw [up_s]
      · show up Y'.wl i (Y'.wl 24) i = _; rw [up_s]
      · show up Y'.wr i (cpr Y'.wr 24 i (Y'.wl 24)) i t = _
        rw [up_s]; unfold cpr; rw [if_pos ht]
    unfold gsL
    rcases h with ⟨a, b⟩ | ⟨w, a, b, c, d⟩
    · rw [if_pos (Or.inl (k1.trans a.1))]
      exact Or.inr ⟨_, hnw, wLs_snoc _ _, htk _ hlr, fun x hx hxc => hx.elim (fun hx => absurd hxc (b x hx)) (fun e => by rw [e]; exact key_ir)⟩
    · have hcw : rowD G (lay G Y z i (gsX i (wRd G.vc (wzI wz z)))) i w := c.of k1 k2 (fun t _ => by rw [k3])
      have hsk := shr_key hlr hcw
      by_cases hs : key G G.vc (wzI wz z ++ [i]) < key G G.vc w
      · rw [if_pos (Or.inr (hsk.mpr hs))]
        refine Or.inr ⟨_, hnw, wLs_snoc _ _, htk _ hlr, fun x hx hxc => hx.elim (fun hx q => d x hx hxc (key_tr q hs)) (fun e => by rw [e]; exact key_ir)⟩
      · rw [if_neg (fun q => q.elim (fun q => hcw.ne q) (fun q => hs (hsk.mp q)))]
        exact Or.inr ⟨w, a, b, hcw, fun x hx hxc => hx.elim (fun hx => d x hx hxc) (fun e => by rw [e]; exact hs)⟩
  · rw [if_neg (fun q => hc q.2)]
    have hnc : ¬ cand G wz z i := fun q => hc (cG_stp.mpr q)
    rcases h with ⟨a, b⟩ | ⟨w, a, b, c, d⟩
    · exact Or.inl ⟨a, fun x hx => hx.elim (b x) (fun e => by rw [e]; exact hnc)⟩
    · exact Or.inr ⟨w, a, b, c, fun x hx hxc => hx.elim (fun hx => d x hx hxc) (fun e => by rw [e] at hxc; exact absurd hxc hnc)⟩
theorem gof_JO {G : GS} {Y : YS} {wz : Nat → List Nat} {S : Int → Prop} {z : Int} (hI : Inv G) (hzo : zOk Y z) (hz : isW G G.vn G.vc (wzI wz z)) (hr : rowZ G Y z (wzI wz z)) (h : ∀ k, k < 2 * G.rr → Y.we k = 0 → JO G Y wz S k) : ∀ n, n ≤ 2 * G.rr → ∀ k, k < 2 * G.rr → Y.we k = 0 → JO G (gof G Y z (wEnd G G.vn (wzI wz z)) (wRd G.vc (wzI wz z)) n) wz (fun x => S x ∨ (x = z ∧ k < n)) k
  | 0, _, k, hk, h0 => (h k hk h0).of rfl rfl (fun _ => rfl) (fun x hx => ⟨hx.elim id (fun q => absurd q.2 (Nat.not_lt_zero _)), rfl⟩)
  | n + 1, hn, k, hk, h0 => by
    have ih := gof_JO hI hzo hz hr h n (by omega) k hk h0
    have hrr := hI.rr
    have hw9 := gof_we (G := G) (Y := Y) (z := z) (v := wEnd G G.vn (wzI wz z)) (c := wRd G.vc (wzI wz z)) n
    rw [gof_s]
    by_cases e : k = n
    · subst e
      have hzr : rowZ G (gof G Y z (wEnd G G.vn (wzI wz z)) (wRd G.vc (wzI wz z)) k) z (wzI wz z) := by
        rcases hzo with rfl | ⟨z0, z1, z2⟩
        · exact ⟨hr.1, hr.2.1, fun t ht => absurd ht (by show ¬ t < ([] : List Nat).length; exact Nat.not_lt_zero _)⟩
        · obtain ⟨a1, a2, a3⟩ := gof_keep (G := G) (Y := Y) (z := z) (v := wEnd G G.vn (wzI wz z)) (c := wRd G.vc (wzI wz z)) (j := z.toNat) (by omega) k (Or.inr z2)
          refine ⟨?_, ?_, fun t ht => ?_⟩
          · rw [← hr.1]; unfold layM; rw [a1]
          · rw [← hr.2.1]; unfold layL; rw [a2]
          · rw [a3]; exact hr.2.2 t ht
      have := gst_JO (by omega) (by rw [hw9]; exact h0) hz hzr ih
      exact this.of rfl rfl (fun _ => rfl) (fun x hx => ⟨hx.elim (fun q => Or.inl (Or.inl q)) (fun q => Or.inr q.1), rfl⟩)
    · obtain ⟨b1, b2, b3⟩ := gst_keep G (gof G Y z (wEnd G G.vn (wzI wz z)) (wRd G.vc (wzI wz z)) n) z (wEnd G G.vn (wzI wz z)) (wRd G.vc (wzI wz z)) n (j := k) (by omega) (Or.inl e)
      refine ih.of b1 b2 (fun t => by rw [b3]) (fun x hx => ⟨hx.elim Or.inl (fun q => Or.inr ⟨q.1, by omega⟩), rfl⟩)
/-- in a list with an unsettled side, the first such -/
theorem first_open (we : Nat → Nat) : ∀ (u : List Nat), (∃ i ∈ u, we i = 0) → ∃ u1 j u2, u = u1 ++ j :: u2 ∧ (∀ x ∈ u1, we x ≠ 0) ∧ we j = 0
  | [], h => by obtain ⟨i, hi, _⟩ := h; cases hi
  | x :: u, h => by
    by_cases e : we x = 0
    · exact ⟨[], x, u, rfl, fun y hy => (by cases hy), e⟩
    · obtain ⟨i, hi, h0⟩ := h
      have hiu : i ∈ u := by
        rcases List.mem_cons.mp hi with rfl | q
        · exact absurd h0 e
        · exact q
      obtain ⟨u1, j, u2, a, b, c⟩ := first_open we u ⟨i, hiu, h0⟩
      exact ⟨x :: u1, j, u2, by rw [a]; rfl, fun y hy => by
        rcases List.mem_cons.mp hy with rfl | q
        · exact e
        · exact b y q, c⟩
theorem isW_mem {G : GS} : ∀ (w : List Nat) (v : Nat) (c : Int), isW G v c w → ∀ x ∈ w, x < 2 * G.rr
  | [], _, _, _, _, h => by cases h
  | j :: w, _, _, hw, x, hx => by
    rcases List.mem_cons.mp hx with rfl | q
    · exact hw.1.1
    · exact isW_mem w _ _ hw.2 x q
def lkS9 (Y : YS) (z : Int) : Prop := z = -1 ∨ (0 ≤ z ∧ z < 24 ∧ Y.we z.toNat ≠ 0)
theorem snoc_of : ∀ (l : List Nat), l = [] ∨ ∃ a s, l = a ++ [s]
  | [] => Or.inl rfl
  | x :: l => by
    rcases snoc_of l with rfl | ⟨a, s, rfl⟩
    · exact Or.inr ⟨[], x, rfl⟩
    · exact Or.inr ⟨x :: a, s, rfl⟩
/-- the first unsettled side of a way has a row, no worse than the way so far -/
theorem first_row {G : GS} {Y : YS} {wz : Nat → List Nat} (hI : Inv G) (hJS : JS G Y wz) (hJO : ∀ k, k < 2 * G.rr → Y.we k = 0 → JO G Y wz (lkS9 Y) k) {u1 : List Nat} {j : Nat} (hw : isW G G.vn G.vc (u1 ++ [j])) (hs : ∀ x ∈ u1, Y.we x ≠ 0) (hj : Y.we j = 0) : ∃ w, isW G G.vn G.vc w ∧ wLs w = (j : Int) ∧ rowD G Y j w ∧ ¬ key G G.vc (u1 ++ [j]) < key G G.vc w := by
  obtain ⟨hw1, hst⟩ := (isW_snoc G _ _ _ _).mp hw
  have hrr := hI.rr
  rcases snoc_of u1 with rfl | ⟨a, s, rfl⟩
  · have hc : cand G wz (-1) j := hst
    rcases hJO j hst.1 hj with ⟨-, b⟩ | ⟨w, a, b, c, d⟩
    · exact absurd hc (b (-1) (Or.inl rfl))
    · exact ⟨w, a, b, c, d (-1) (Or.inl rfl) hc⟩
  · have hsl : wLs (a ++ [s]) = (s : Int) := wLs_snoc a s
    have hs0 : Y.we s ≠ 0 := hs s (List.mem_append.mpr (Or.inr (List.mem_singleton.mpr rfl)))
    have hsr : s < 2 * G.rr := isW_mem _ _ _ hw1 s (List.mem_append.mpr (Or.inr (List.mem_singleton.mpr rfl)))
    obtain ⟨j1, j2, j3, j4⟩ := hJS s hsr hs0
    obtain ⟨e1, e2⟩ := wLs_at G _ G.vn G.vc hsl
    obtain ⟨f1, f2⟩ := wLs_at G _ G.vn G.vc j2
    have hzi : wzI wz (s : Int) = wz s := by unfold wzI; rw [if_neg (by omega), Int.toNat_natCast]
    have hc : cand G wz (s : Int) j := by unfold cand; rw [hzi, f1, f2, ← e1, ← e2]; exact hst
    have hS : lkS9 Y (s : Int) := Or.inr ⟨by omega, by omega, by rw [Int.toNat_natCast]; exact hs0⟩
    rcases hJO j hst.1 hj with ⟨-, b⟩ | ⟨w, a', b, c, d⟩
    · exact absurd hc (b _ hS)
    · refine ⟨w, a', b, c, fun q => ?_⟩
      have h1 := d _ hS hc
      rw [hzi] at h1
      have h2 : ¬ key G G.vc (a ++ [s] ++ [j]) < key G G.vc (wz s ++ [j]) := fun q2 => j4 _ hw1 hsl ((key_snoc (e2.trans f2.symm)).mp q2)
      exact h1 (key_lelt h2 q)
theorem mns_pos {G : GS} (hI : Inv G) {v : Nat} {c : Int} {w : List Nat} (hw : isW G v c w) (h : w ≠ []) : 0 < mns G c w := by
  cases w with
  | nil => exact absurd rfl h
  | cons j w =>
    have := hI.mi1 (k := j / 2) (by have := hw.1.1; omega)
    show 0 < G.mi (j / 2) + _ + _
    omega
/-- the nearest unsettled side's row is a best way -/
theorem near_best {G : GS} {Y : YS} {wz : Nat → List Nat} (hI : Inv G) (hJS : JS G Y wz) (hJO : ∀ k, k < 2 * G.rr → Y.we k = 0 → JO G Y wz (lkS9 Y) k) {i : Nat} (hi : i < 2 * G.rr) (h0 : Y.we i = 0) (hmin : ∀ j, j < 2 * G.rr → Y.we j = 0 → Y.wm j ≠ -1 → Y.wm i ≤ Y.wm j) {w : List Nat} (hw : rowD G Y i w) {u : List Nat} (hu : isW G G.vn G.vc u) (hul : wLs u = (i : Int)) : ¬ key G G.vc u < key G G.vc w := by
  obtain ⟨ua, rfl⟩ := wLs_split u hul
  obtain ⟨u1, j, u2, e, hs, hj⟩ := first_open Y.we (ua ++ [i]) ⟨i, List.mem_append.mpr (Or.inr (List.mem_singleton.mpr rfl)), h0⟩
  have e' : ua ++ [i] = (u1 ++ [j]) ++ u2 := by rw [e]; simp
  have hu' := hu
  rw [e'] at hu'
  obtain ⟨hw1, hw2⟩ := (isW_apd G _ _ _ _).mp hu'
  obtain ⟨wj, a, b, c, d⟩ := first_row hI hJS hJO hw1 hs hj
  by_cases e2 : u2 = []
  · subst e2
    have e3 : ua ++ [i] = u1 ++ [j] := e
    have hji : i = j := by
      have h1 := wLs_snoc ua i
      rw [e3, wLs_snoc] at h1; omega
    subst hji
    rw [e3]
    intro q
    have hk : key G G.vc wj = key G G.vc w := by
      have hm : mns G G.vc wj = mns G G.vc w := by have := c.1; have := hw.1; omega
      have hl : wj.length = w.length := c.2.1.symm.trans hw.2.1
      have hr : rds wj = rds w := by
        refine List.ext_getElem (by rw [rds_len, rds_len, hl]) (fun t h1 h2 => ?_)
        rw [rds_get, rds_get, ← c.2.2 t (by rw [rds_len] at h1; exact h1), ← hw.2.2 t (by rw [rds_len] at h2; exact h2)]
      unfold key; rw [hm, hl, hr]
    rw [← hk] at q
    exact d q
  · have hm1 : Y.wm i ≤ Y.wm j := hmin j (isW_mem _ _ _ hw1 j (List.mem_append.mpr (Or.inr (List.mem_singleton.mpr rfl)))) hj c.ne
    have hp := mns_pos hI hw2 e2
    have hma := mns_app G (u1 ++ [j]) G.vc u2
    rw [← e'] at hma
    have hd : mns G G.vc wj ≤ mns G G.vc (u1 ++ [j]) := by
      refine Classical.byContradiction (fun q => d (key_lt.mpr (Or.inl (by omega))))
    have := hw.1
    have := c.1
    intro q
    rcases key_lt.mp q with q | ⟨q, -⟩ <;> omega
theorem nos_no (Y : YS) : ∀ n, nos Y n = -1 → ∀ j, j < n → Y.we j = 0 → Y.wm j = -1
  | 0, _, j, hj, _ => absurd hj (Nat.not_lt_zero _)
  | n + 1, h, j, hj, h0 => by
    rw [nos_s] at h
    by_cases q : Y.we n = 0 ∧ ¬ Y.wm n = -1 ∧ (nos Y n = -1 ∨ Y.wm n < Y.wm (nos Y n).toNat)
    · rw [if_pos q] at h; omega
    · rw [if_neg q] at h
      by_cases e : j = n
      · subst e
        exact Classical.byContradiction (fun z => q ⟨h0, z, Or.inl h⟩)
      · exact nos_no Y n h j (by omega) h0
theorem nos_min (Y : YS) : ∀ n, nos Y n ≠ -1 → ∀ j, j < n → Y.we j = 0 → Y.wm j ≠ -1 → Y.wm (nos Y n).toNat ≤ Y.wm j
  | 0, _, j, hj, _, _ => absurd hj (Nat.not_lt_zero _)
  | n + 1, h, j, hj, h0, h1 => by
    rw [nos_s] at h ⊢
    by_cases q : Y.we n = 0 ∧ ¬ Y.wm n = -1 ∧ (nos Y n = -1 ∨ Y.wm n < Y.wm (nos Y n).toNat)
    · rw [if_pos q, Int.toNat_natCast]
      by_cases e : j = n
      · subst e; exact Int.le_refl _
      · rcases q.2.2 with z | z
        · exact absurd (nos_no Y n z j (by omega) h0) h1
        · by_cases z2 : nos Y n = -1
          · exact absurd (nos_no Y n z2 j (by omega) h0) h1
          · have := nos_min Y n z2 j (by omega) h0 h1; omega
    · rw [if_neg q] at h ⊢
      by_cases e : j = n
      · subst e
        have z2 : ¬ nos Y j = -1 := h
        exact Classical.byContradiction (fun z => q ⟨h0, h1, Or.inr (by omega)⟩)
      · exact nos_min Y n h j (by omega) h0 h1
def lkJ (G : GS) (Y : YS) : Prop := ∃ wz, JS G Y wz ∧ ∀ k, k < 2 * G.rr → Y.we k = 0 → JO G Y wz (lkS9 Y) k
theorem lk0_J {G : GS} {Y : YS} (hI : Inv G) : lkJ G (lk0 G Y) := by
  have hrr := hI.rr
  have hwe : ∀ k, k < 24 → (fgt (Y.ws' G.vn)).we k = 0 := fun k hk => by
    show fgE (Y.ws' G.vn) 24 k = 0
    unfold fgE; rw [if_pos hk]
  have hwm : ∀ k, k < 24 → (fgt (Y.ws' G.vn)).wm k = -1 := fun k hk => by
    show fgM (Y.ws' G.vn) 24 k = -1
    unfold fgM; rw [if_pos hk]
  have h := gof_JO (Y := fgt (Y.ws' G.vn)) (wz := fun _ => []) (S := fun _ => False) (z := -1) hI (Or.inl rfl) trivial ⟨rfl, rfl, fun t ht => absurd ht (Nat.not_lt_zero _)⟩ (fun k hk _ => Or.inl ⟨⟨hwm k (by omega), by show fgL (Y.ws' G.vn) 24 k = 0; unfold fgL; rw [if_pos (by omega)]⟩, fun z hz => hz.elim⟩) (2 * G.rr) (Nat.le_refl _)
  have hw2 := gof_we (G := G) (Y := fgt (Y.ws' G.vn)) (z := -1) (v := G.vn) (c := G.vc) (2 * G.rr)
  refine ⟨fun _ => [], fun k hk h0 => ?_, fun k hk h0 => ?_⟩
  · refine absurd ?_ h0
    show (gof G (fgt (Y.ws' G.vn)) (-1) G.vn G.vc (2 * G.rr)).we k = 0
    rw [hw2]; exact hwe k (by omega)
  · refine (h k hk (hwe k (by omega))).of rfl rfl (fun _ => rfl) (fun z hz => ⟨?_, rfl⟩)
    rcases hz with e | ⟨e1, e2, e3⟩
    · exact Or.inr ⟨e, hk⟩
    · refine absurd ?_ e3
      show (gof G (fgt (Y.ws' G.vn)) (-1) G.vn G.vc (2 * G.rr)).we z.toNat = 0
      rw [hw2]; exact hwe _ (by omega)
theorem lkE_J {G : GS} {Y : YS} {i : Nat} (hI : Inv G) (h : lkJ G Y) (hi : i < 2 * G.rr) (h0 : Y.we i = 0) (h1 : Y.wm i ≠ -1) (hmin : ∀ j, j < 2 * G.rr → Y.we j = 0 → Y.wm j ≠ -1 → Y.wm i ≤ Y.wm j) : lkJ G (lkE G Y i) := by
  obtain ⟨wz, hJS, hJO⟩ := h
  have hrr := hI.rr
  obtain ⟨w, a, b, c, -⟩ := (hJO i hi h0).notm h1
  have hb : ∀ u, isW G G.vn G.vc u → wLs u = (i : Int) → ¬ key G G.vc u < key G G.vc w := fun u hu hul => near_best hI hJS hJO hi h0 hmin c hu hul
  have hzi : wzI (up wz i w) (i : Int) = w := by unfold wzI; rw [if_neg (by omega), Int.toNat_natCast, up_s]
  obtain ⟨e1, e2⟩ := wLs_at G w G.vn G.vc b
  have hzo : zOk (Y.we' (up Y.we i 1)) (i : Int) := Or.inr ⟨by omega, by omega, by
    show up Y.we i 1 (i : Int).toNat ≠ 0
    rw [Int.toNat_natCast, up_s]; decide⟩
  have hold : ∀ z, lkS9 Y z → wzI (up wz i w) z = wzI wz z := fun z hz => by
    unfold wzI
    rcases hz with e | ⟨z1, z2, z3⟩
    · rw [if_pos e, if_pos e]
    · rw [if_neg (by omega), if_neg (by omega), up_n]
      intro q; rw [q] at z3; exact z3 h0
  have hopen : ∀ k, (Y.we' (up Y.we i 1)).we k = 0 → k ≠ i ∧ Y.we k = 0 := fun k hk => by
    have hk : up Y.we i 1 k = 0 := hk
    by_cases e : k = i
    · rw [e, up_s] at hk; omega
    · rw [up_n _ _ e] at hk; exact ⟨e, hk⟩
  have hg := gof_JO (Y := Y.we' (up Y.we i 1)) (wz := up wz i w) (S := lkS9 Y) (z := (i : Int)) hI hzo (by rw [hzi]; exact a)
    (by
      rw [hzi]
      refine ⟨?_, ?_, fun t ht => ?_⟩
      · unfold layM; rw [if_neg (by omega), Int.toNat_natCast]; exact c.1
      · unfold layL; rw [if_neg (by omega), Int.toNat_natCast]; exact c.2.1
      · rw [Int.toNat_natCast]; exact c.2.2 t ht)
    (fun k hk hk0 => (hJO k hk (hopen k hk0).2).of rfl rfl (fun _ => rfl) (fun z hz => ⟨hz, hold z hz⟩)) (2 * G.rr) (Nat.le_refl _)
  rw [hzi, e1, e2] at hg
  have hw2 := gof_we (G := G) (Y := Y.we' (up Y.we i 1)) (z := (i : Int)) (v := G.sm (op i)) (c := ((i / 2 : Nat) : Int)) (2 * G.rr)
  refine ⟨up wz i w, fun k hk hk0 => ?_, fun k hk hk0 => ?_⟩
  · have hk1 : (Y.we' (up Y.we i 1)).we k ≠ 0 := by
      intro q; apply hk0
      show (gof G (Y.we' (up Y.we i 1)) (i : Int) (G.sm (op i)) ((i / 2 : Nat) : Int) (2 * G.rr)).we k = 0
      rw [hw2]; exact q
    obtain ⟨k1, k2, k3⟩ := gof_keep (G := G) (Y := Y.we' (up Y.we i 1)) (z := (i : Int)) (v := G.sm (op i)) (c := ((i / 2 : Nat) : Int)) (j := k) (by omega) (2 * G.rr) (Or.inr hk1)
    by_cases e : k = i
    · subst e
      rw [up_s]
      exact ⟨a, b, c.of k1 k2 (fun t _ => by show (gof G _ _ _ _ _).wr k t = _; rw [k3]; rfl), hb⟩
    · rw [up_n _ _ e]
      have hk2 : Y.we k ≠ 0 := by
        have hk1 : up Y.we i 1 k ≠ 0 := hk1
        rw [up_n _ _ e] at hk1; exact hk1
      obtain ⟨j1, j2, j3, j4⟩ := hJS k hk hk2
      exact ⟨j1, j2, j3.of k1 k2 (fun t _ => by show (gof G _ _ _ _ _).wr k t = _; rw [k3]; rfl), j4⟩
  · have hk1 : (Y.we' (up Y.we i 1)).we k = 0 := by
      rw [← hw2]; exact hk0
    refine (hg k hk hk1).of rfl rfl (fun _ => rfl) (fun z hz => ⟨?_, rfl⟩)
    rcases hz with q | ⟨z1, z2, z3⟩
    · exact Or.inl (Or.inl q)
    · by_cases e : z = (i : Int)
      · exact Or.inr ⟨e, hk⟩
      · refine Or.inl (Or.inr ⟨z1, z2, ?_⟩)
        intro q
        apply z3
        show (gof G (Y.we' (up Y.we i 1)) (i : Int) (G.sm (op i)) ((i / 2 : Nat) : Int) (2 * G.rr)).we z.toNat = 0
        rw [hw2]
        show up Y.we i 1 z.toNat = 0
        rw [up_n _ _ (by omega)]; exact q
theorem lk_J {G : GS} {Y : YS} (hI : Inv G) : ∀ n, lkJ G (lk G Y n)
  | 0 => lk0_J hI
  | n + 1 => by
    have ih := lk_J (Y := Y) hI n
    show lkJ G (lkS G (lk G Y n))
    unfold lkS
    by_cases e : nos (lk G Y n) (2 * G.rr) = -1
    · rw [if_pos e]; exact ih
    · rw [if_neg e]
      have hr := nos_rng (lk G Y n) (2 * G.rr)
      have ho := nos_open (lk G Y n) (2 * G.rr) e
      exact lkE_J hI ih (by omega) ho.1 ho.2 (fun j hj a b => nos_min _ _ e j hj a b)
theorem cS_full {f : Nat → Nat} {n : Nat} (h : cS f n = n) : ∀ k, k < n → f k ≠ 0 := fun k hk q => by have := cS_lt q n hk; omega
/-- what the search tells of a side -/
theorem lka_side {G : GS} {Y : YS} (hI : Inv G) (hY : YI Y) {k : Nat} (hk : k < 2 * G.rr) : (((lka G Y).wm k = -1 ∧ (lka G Y).wl k = 0) ∧ ∀ w, isW G G.vn G.vc w → wLs w ≠ (k : Int)) ∨ ∃ w, BW G (-1) (k : Int) G.vn G.vc w ∧ rowD G (lka G Y) k w := by
  obtain ⟨wz, hJS, hJO⟩ : lkJ G (lka G Y) := lk_J hI (2 * G.rr)
  by_cases h0 : (lka G Y).we k = 0
  · left
    have hno : ∀ j, j < 2 * G.rr → (lka G Y).we j = 0 → (lka G Y).wm j = -1 := by
      rcases lk_I hI hY (2 * G.rr) (Nat.le_refl _) with ⟨h, -⟩ | ⟨n, h1, h2, h3, h4⟩
      · exact absurd h0 (cS_full h.2.2.1 k hk)
      · have h5 : lka G Y = lk G Y n := h4
        rw [h5]; exact fun j hj q => nos_no _ _ h3 j hj q
    refine ⟨⟨hno k hk h0, (hJO k hk h0).elim (fun q => q.1.2) (fun ⟨w, _, _, q, _⟩ => absurd (hno k hk h0) q.ne)⟩, fun u hu hul => ?_⟩
    obtain ⟨ua, rfl⟩ := wLs_split u hul
    obtain ⟨u1, j, u2, e, hs, hj⟩ := first_open (lka G Y).we (ua ++ [k]) ⟨k, List.mem_append.mpr (Or.inr (List.mem_singleton.mpr rfl)), h0⟩
    have e' : ua ++ [k] = (u1 ++ [j]) ++ u2 := by rw [e]; simp
    rw [e'] at hu
    have hw1 := ((isW_apd G _ _ _ _).mp hu).1
    obtain ⟨wj, -, -, c, -⟩ := first_row hI hJS hJO hw1 hs hj
    exact c.ne (hno j (isW_mem _ _ _ hw1 j (List.mem_append.mpr (Or.inr (List.mem_singleton.mpr rfl)))) hj)
  · right
    obtain ⟨a, b, c, d⟩ := hJS k hk h0
    refine ⟨wz k, ⟨a, Or.inr b, fun u hu hg => ?_⟩, c⟩
    exact d u hu (hg.elim (fun q => absurd q (by omega)) id)
end
section
/-! 22.spec: from whole, what is needed here -/
theorem key_nil {G : GS} {c c' : Int} {u : List Nat} : ¬ key G c u < key G c' [] := by
  intro q
  rcases key_lt.mp q with q | ⟨-, q | ⟨-, q⟩⟩
  · exact absurd q (Nat.not_lt_zero _)
  · exact absurd q (Nat.not_lt_zero _)
  · exact List.not_lt_nil _ q
theorem lst_no (G : GS) (Y : YS) (v : Nat) : ∀ n, lst G Y v n = -1 → ∀ j, j < n → G.sm (op j) = v → Y.wm j = -1
  | 0, _, j, hj, _ => absurd hj (Nat.not_lt_zero _)
  | n + 1, h, j, hj, h0 => by
    rw [lst_s] at h
    by_cases q : G.sm (op n) = v ∧ ¬ Y.wm n = -1 ∧ (lst G Y v n = -1 ∨ shr Y n (lst G Y v n).toNat)
    · rw [if_pos q] at h; omega
    · rw [if_neg q] at h
      by_cases e : j = n
      · subst e
        exact Classical.byContradiction (fun z => q ⟨h0, z, Or.inl h⟩)
      · exact lst_no G Y v n h j (by omega) h0
theorem lst_is {G : GS} {Y : YS} {v : Nat} (R : ∀ j, j < 2 * G.rr → Y.wm j ≠ -1 → ∃ w, rowD G Y j w) : ∀ n, n ≤ 2 * G.rr → lst G Y v n ≠ -1 → (0 ≤ lst G Y v n ∧ lst G Y v n < (n : Int)) ∧ G.sm (op (lst G Y v n).toNat) = v ∧ Y.wm (lst G Y v n).toNat ≠ -1 ∧ ∀ j, j < n → G.sm (op j) = v → ∀ u w, rowD G Y j u → rowD G Y (lst G Y v n).toNat w → ¬ key G G.vc u < key G G.vc w
  | 0, _, h => absurd rfl h
  | n + 1, hn, h => by
    rw [lst_s] at h ⊢
    by_cases q : G.sm (op n) = v ∧ ¬ Y.wm n = -1 ∧ (lst G Y v n = -1 ∨ shr Y n (lst G Y v n).toNat)
    · rw [if_pos q, Int.toNat_natCast]
      refine ⟨⟨by omega, by omega⟩, q.1, q.2.1, fun j hj hjv u w hu hw => ?_⟩
      by_cases e : j = n
      · subst e
        intro z
        exact absurd ((shr_key hu hw).mpr z) (fun z => by
          rcases z with z | ⟨-, z | ⟨-, z⟩⟩
          · omega
          · omega
          · have e1 : rds u = rds w := by
              refine List.ext_getElem (by rw [rds_len, rds_len, ← hu.2.1, hw.2.1]) (fun t h1 h2 => ?_)
              rw [rds_get, rds_get, ← hu.2.2 t (by rw [rds_len] at h1; exact h1), ← hw.2.2 t (by rw [rds_len] at h2; exact h2)]
            have z2 := (shr_key hu hw).mp (Or.inr ⟨rfl, Or.inr ⟨rfl, z⟩⟩)
            have e2 : key G G.vc u = key G G.vc w := by
              unfold key
              rw [e1, show mns G G.vc u = mns G G.vc w by have := hu.1; have := hw.1; omega, show u.length = w.length from hu.2.1.symm.trans hw.2.1]
            rw [e2] at z2; exact key_ir z2)
      · rcases q.2.2 with z | z
        · exact absurd (lst_no G Y v n z j (by omega) hjv) hu.ne
        · by_cases z2 : lst G Y v n = -1
          · exact absurd (lst_no G Y v n z2 j (by omega) hjv) hu.ne
          · obtain ⟨a1, a2, a3, a4⟩ := lst_is R n (by omega) z2
            obtain ⟨w2, hw2⟩ := R (lst G Y v n).toNat (by omega) a3
            have h1 := a4 j (by omega) hjv u w2 hu hw2
            have h2 := (shr_key hw hw2).mp z
            exact fun z3 => h1 (key_tr z3 h2)
    · rw [if_neg q] at h ⊢
      have z2 : lst G Y v n ≠ -1 := h
      obtain ⟨a1, a2, a3, a4⟩ := lst_is R n (by omega) z2
      refine ⟨⟨a1.1, by omega⟩, a2, a3, fun j hj hjv u w hu hw => ?_⟩
      by_cases e : j = n
      · subst e
        intro z
        exact q ⟨hjv, hu.ne, Or.inr ((shr_key hu hw).mpr z)⟩
      · exact a4 j (by omega) hjv u w hu hw
/-- what the search tells of a node -/
theorem lka_node {G : GS} {Y : YS} (hI : Inv G) (hY : YI Y) {v : Nat} : (lstZ G (lka G Y) v = -1 ∧ mnZ G (lka G Y) v = -1 ∧ ∀ w, isW G G.vn G.vc w → wEnd G G.vn w ≠ v) ∨ ∃ w, BW G (v : Int) (-1) G.vn G.vc w ∧ mnZ G (lka G Y) v = (mns G G.vc w : Int) ∧ rowW (lka G Y) (lstZ G (lka G Y) v) w := by
  have hws := lka_ws hI hY
  have hrr := hI.rr
  by_cases e : v = (lka G Y).ws
  · right
    refine ⟨[], ⟨trivial, Or.inl (by rw [e, hws]; rfl), fun u _ _ => key_nil⟩, ?_, ?_⟩
    · unfold mnZ; rw [if_pos e]; rfl
    · have : lstZ G (lka G Y) v = -1 := by unfold lstZ; rw [if_pos e]
      rw [this]
      exact ⟨rfl, fun t h => absurd h (Nat.not_lt_zero _)⟩
  · have hlz : lstZ G (lka G Y) v = lst G (lka G Y) v (2 * G.rr) := by unfold lstZ; rw [if_neg e]
    have hmz : mnZ G (lka G Y) v = mtZ (lka G Y) (lstZ G (lka G Y) v) := by unfold mnZ; rw [if_neg e]
    have hR : ∀ j, j < 2 * G.rr → (lka G Y).wm j ≠ -1 → ∃ w, BW G (-1) (j : Int) G.vn G.vc w ∧ rowD G (lka G Y) j w := fun j hj hm => (lka_side hI hY hj).elim (fun q => absurd q.1.1 hm) id
    have hlast : ∀ u, isW G G.vn G.vc u → wEnd G G.vn u = v → ∃ a s, u = a ++ [s] ∧ s < 2 * G.rr ∧ G.sm (op s) = v := fun u hu hv => by
      rcases snoc_of u with rfl | ⟨a, s, rfl⟩
      · exact absurd (hv.symm.trans hws.symm) e
      · refine ⟨a, s, rfl, isW_mem _ _ _ hu s (List.mem_append.mpr (Or.inr (List.mem_singleton.mpr rfl))), ?_⟩
        rw [← (wLs_at G _ G.vn G.vc (wLs_snoc a s)).1]; exact hv
    by_cases hl : lst G (lka G Y) v (2 * G.rr) = -1
    · left
      refine ⟨hlz.trans hl, ?_, fun u hu hv => ?_⟩
      · rw [hmz, hlz, hl]; rfl
      · obtain ⟨a, s, rfl, h1, h2⟩ := hlast u hu hv
        have h3 := lst_no G _ v _ hl s h1 h2
        rcases lka_side hI hY h1 with q | ⟨w, -, q⟩
        · exact q.2 _ hu (wLs_snoc a s)
        · exact q.ne h3
    · right
      obtain ⟨a1, a2, a3, a4⟩ := lst_is (G := G) (Y := lka G Y) (v := v) (fun j hj hm => by obtain ⟨w, -, q⟩ := hR j hj hm; exact ⟨w, q⟩) (2 * G.rr) (Nat.le_refl _) hl
      obtain ⟨w, b1, b2⟩ := hR _ (by omega) a3
      have hlt : lst G (lka G Y) v (2 * G.rr) = (((lst G (lka G Y) v (2 * G.rr)).toNat : Nat) : Int) := by omega
      have hwl : wLs w = (((lst G (lka G Y) v (2 * G.rr)).toNat : Nat) : Int) := b1.2.1.elim (fun q => absurd q (by omega)) id
      refine ⟨w, ⟨b1.1, Or.inl (by rw [(wLs_at G w G.vn G.vc hwl).1, a2]), fun u hu hg => ?_⟩, ?_, ?_⟩
      · have hv : wEnd G G.vn u = v := by
          rcases hg with q | q
          · omega
          · have := hu
            rcases snoc_of u with rfl | ⟨a, s, rfl⟩
            · exact absurd q (by show (-2 : Int) ≠ -1; decide)
            · rw [wLs_snoc] at q; omega
        obtain ⟨a, s, rfl, h1, h2⟩ := hlast u hu hv
        rcases lka_side hI hY h1 with q | ⟨w2, q1, q2⟩
        · exact absurd (wLs_snoc a s) (q.2 _ hu)
        · have h3 := a4 s h1 h2 w2 w q2 b2
          have h4 := q1.2.2 _ hu (Or.inr (wLs_snoc a s))
          exact fun z => h3 (key_lelt h4 z)
      · rw [hmz, hlz]
        unfold mtZ; rw [if_neg hl]; exact b2.1
      · rw [hlz]
        refine ⟨?_, b2.2.2⟩
        unfold layL; rw [if_neg hl]; exact b2.2.1.symm
end
section
/-! 23.answers: from whole, what is needed here -/
def noW (G : GS) (n k : Int) : Prop := ∀ w, isW G G.vn G.vc w → ¬ wGl G n k G.vn w
/-- a goal that can be asked for -/
def gOk (G : GS) (n k : Int) : Prop := (k = -1 ∧ 0 ≤ n) ∨ (n = -1 ∧ 0 ≤ k ∧ k < ((2 * G.rr : Nat) : Int))
noncomputable def spW (G : GS) (n k : Int) : List Nat := @dite _ (∃ w, BW G n k G.vn G.vc w) (Classical.propDecidable _) (fun h => Classical.choose h) (fun _ => [])
noncomputable def spM (G : GS) (n k : Int) : Int := @ite _ (∃ w, BW G n k G.vn G.vc w) (Classical.propDecidable _) (mns G G.vc (spW G n k) : Int) (-1)
def hd1 (w : List Nat) : Int := match w with | [] => -1 | j :: _ => ((j / 2 : Nat) : Int)
theorem spW_eq {G : GS} (hI : Inv G) {n k : Int} {w : List Nat} (h : BW G n k G.vn G.vc w) : spW G n k = w := by
  have hh : ∃ w, BW G n k G.vn G.vc w := ⟨w, h⟩
  unfold spW; rw [dif_pos hh]
  exact (Classical.choose_spec hh).uniq hI h
theorem spM_eq {G : GS} (hI : Inv G) {n k : Int} {w : List Nat} (h : BW G n k G.vn G.vc w) : spM G n k = (mns G G.vc w : Int) := by
  unfold spM; rw [if_pos ⟨w, h⟩, spW_eq hI h]
theorem sp_no {G : GS} {n k : Int} (h : noW G n k) : spM G n k = -1 ∧ spW G n k = [] := by
  have hh : ¬ ∃ w, BW G n k G.vn G.vc w := fun ⟨w, q⟩ => h w q.1 q.2.1
  unfold spM spW
  rw [if_neg hh, dif_neg hh]; exact ⟨rfl, rfl⟩
def Y00 : YS := (fun _ => -1, fun _ => 0, fun _ _ => 0, fun _ => 0, 0)
theorem Y00_I : YI Y00 := ⟨fun _ => ⟨Int.le_refl _, by show (-1 : Int) ≤ 32 * ((0 : Nat) : Int); omega⟩, fun _ => Nat.zero_le _, fun _ => Nat.zero_le _, fun _ _ => Nat.zero_le _, Nat.zero_le _⟩
/-- there is none, or one is best: then it is short -/
theorem sp_or {G : GS} (hI : Inv G) {n k : Int} (hg : gOk G n k) : noW G n k ∨ ∃ w, BW G n k G.vn G.vc w ∧ w.length ≤ 24 := by
  have hYl := lka_YI hI Y00_I
  rcases hg with ⟨rfl, hn⟩ | ⟨rfl, hk0, hk⟩
  · obtain ⟨v, rfl⟩ := Int.eq_ofNat_of_zero_le hn
    rcases lka_node hI Y00_I (v := v) with ⟨-, -, h⟩ | ⟨w, h1, -, h3⟩
    · left; intro w hw hg
      rcases hg with q | q
      · exact h w hw (by omega)
      · rcases snoc_of w with rfl | ⟨a, s, rfl⟩
        · exact absurd q (by show (-2 : Int) ≠ -1; decide)
        · rw [wLs_snoc] at q; omega
    · exact Or.inr ⟨w, h1, by rw [h3.1]; exact layL_le hYl _⟩
  · obtain ⟨j, rfl⟩ := Int.eq_ofNat_of_zero_le hk0
    rcases lka_side hI Y00_I (k := j) (by omega) with ⟨-, h⟩ | ⟨w, h1, h2⟩
    · left; intro w hw hg
      exact h w hw (hg.elim (fun q => absurd q (by omega)) id)
    · exact Or.inr ⟨w, h1, by rw [← h2.2.1]; exact hYl.wl j⟩
/-- the class -/
theorem cl_side {G : GS} {Y : YS} (hI : Inv G) (hY : YI Y) {k : Nat} (hk : k < 2 * G.rr) : mtZ (lka G Y) (k : Int) = spM G (-1) (k : Int) ∧ rdZ (lka G Y) (k : Int) 0 = hd1 (spW G (-1) (k : Int)) ∧ (spM G (-1) (k : Int) ≠ -1 → BW G (-1) (k : Int) G.vn G.vc (spW G (-1) (k : Int)) ∧ rowW (lka G Y) (k : Int) (spW G (-1) (k : Int))) := by
  have hm : mtZ (lka G Y) (k : Int) = (lka G Y).wm k := by rw [mtZ_1 (by omega), Int.toNat_natCast]
  have hL : layL (lka G Y) (k : Int) = (lka G Y).wl k := by rw [layL_1 (by omega), Int.toNat_natCast]
  rcases lka_side hI hY hk with ⟨h1, h2⟩ | ⟨w, h1, h2⟩
  · obtain ⟨h1, h0⟩ := h1
    have hn : noW G (-1) (k : Int) := fun w hw hg => h2 w hw (hg.elim (fun q => absurd q (by omega)) id)
    obtain ⟨e1, e2⟩ := sp_no hn
    have hl := (lka_YI hI hY).wm k
    refine ⟨by rw [hm, h1, e1], ?_, fun q => absurd e1 q⟩
    rw [e2]
    unfold rdZ; rw [hL, h0, if_neg (by omega)]; rfl
  · rw [spW_eq hI h1, spM_eq hI h1]
    refine ⟨by rw [hm, h2.1], ?_, fun _ => ⟨h1, by rw [hL]; exact h2.2.1.symm, fun t ht => by rw [Int.toNat_natCast]; exact h2.2.2 t ht⟩⟩
    unfold rdZ; rw [hL, h2.2.1, Int.toNat_natCast]
    cases w with
    | nil => exact if_neg (Nat.lt_irrefl _)
    | cons j w => rw [if_pos (show 0 < (j :: w).length from Nat.zero_lt_succ _), h2.2.2 0 (Nat.zero_lt_succ _)]; rfl
end
section
/-! 24.follow: from whole, what is needed here -/
theorem key_cons {G : GS} {c : Int} {j : Nat} {u w : List Nat} : key G c (j :: u) < key G c (j :: w) ↔ key G ((j / 2 : Nat) : Int) u < key G ((j / 2 : Nat) : Int) w := by
  rw [key_lt, key_lt]
  show (_ + mns G _ u < _ + mns G _ w ∨ (_ + mns G _ u = _ + mns G _ w ∧ (u.length + 1 < w.length + 1 ∨ (u.length + 1 = w.length + 1 ∧ j / 2 :: rds u < j / 2 :: rds w)))) ↔ _
  rw [List.cons_lt_cons_iff]
  constructor
  · rintro (q | ⟨q1, q2 | ⟨q2, q3 | q3⟩⟩)
    · exact Or.inl (by omega)
    · exact Or.inr ⟨by omega, Or.inl (by omega)⟩
    · omega
    · exact Or.inr ⟨by omega, Or.inr ⟨by omega, q3.2⟩⟩
  · rintro (q | ⟨q1, q2 | ⟨q2, q3⟩⟩)
    · exact Or.inl (by omega)
    · exact Or.inr ⟨by omega, Or.inl (by omega)⟩
    · exact Or.inr ⟨by omega, Or.inr ⟨by omega, Or.inr ⟨rfl, q3⟩⟩⟩
theorem wGl_cons {G : GS} {n k : Int} (hk : -1 ≤ k) {v j : Nat} {u : List Nat} (h : wGl G n k (G.sm (op j)) u) : wGl G n k v (j :: u) := by
  cases u with
  | nil => exact Or.inl (h.elim id (fun q => absurd q (show (-2 : Int) ≠ k by omega)))
  | cons i u => exact h
theorem wGl_tail {G : GS} {n k : Int} {v j : Nat} {u : List Nat} (hj : (j : Int) ≠ k) (h : wGl G n k v (j :: u)) : wGl G n k (G.sm (op j)) u := by
  cases u with
  | nil => exact Or.inl (h.elim id (fun q => absurd q hj))
  | cons i u => exact h
theorem BW.tail {G : GS} (hI : Inv G) {n k : Int} (hk : -1 ≤ k) {v : Nat} {c : Int} {j : Nat} {w : List Nat} (h : BW G n k v c (j :: w)) : ((j : Int) = k ∧ w = []) ∨ ((j : Int) ≠ k ∧ BW G n k (G.sm (op j)) ((j / 2 : Nat) : Int) w) := by
  by_cases e : (j : Int) = k
  · left
    refine ⟨e, ?_⟩
    cases w with
    | nil => rfl
    | cons i w =>
      have hp := mns_pos hI h.1.2 (by simp)
      refine absurd (key_lt.mpr (Or.inl ?_)) (h.2.2 [j] ⟨h.1.1, trivial⟩ (Or.inr e))
      show _ + 0 < _ + mns G ((j / 2 : Nat) : Int) (i :: w)
      omega
  · right
    refine ⟨e, h.1.2, wGl_tail e h.2.1, fun u hu hg q => ?_⟩
    exact h.2.2 (j :: u) ⟨h.1.1, hu⟩ (wGl_cons hk hg) (key_cons.mpr q)
theorem wEnd_same {G G' : GS} (h : sameTown G G') : ∀ (w : List Nat) (v : Nat), wEnd G' v w = wEnd G v w
  | [], _ => rfl
  | j :: w, v => by
    show wEnd G' (G'.sm (op j)) w = wEnd G (G.sm (op j)) w
    rw [h.2.2.1]; exact wEnd_same h w _
theorem sp_some {G : GS} (hI : Inv G) {n k : Int} (hg : gOk G n k) (h : spM G n k ≠ -1) : BW G n k G.vn G.vc (spW G n k) ∧ (spW G n k).length ≤ 24 := by
  rcases sp_or hI hg with q | ⟨w, q, hl⟩
  · exact absurd (sp_no q).1 h
  · rw [spW_eq hI q]; exact ⟨q, hl⟩
noncomputable def fnS (G : GS) : Nat → Int
  | 0 => -1
  | n + 1 => if 50 ≤ G.de n ∧ ¬ spM G (-1) (n : Int) = -1 ∧ (fnS G n = -1 ∨ (G.pr (n / 2) < G.pr ((fnS G n).toNat / 2) ∨ (G.pr (n / 2) = G.pr ((fnS G n).toNat / 2) ∧ spM G (-1) (n : Int) < spM G (-1) (fnS G n)))) then (n : Int) else fnS G n
theorem fnS_s (G : GS) (n : Nat) : fnS G (n + 1) = if 50 ≤ G.de n ∧ ¬ spM G (-1) (n : Int) = -1 ∧ (fnS G n = -1 ∨ (G.pr (n / 2) < G.pr ((fnS G n).toNat / 2) ∨ (G.pr (n / 2) = G.pr ((fnS G n).toNat / 2) ∧ spM G (-1) (n : Int) < spM G (-1) (fnS G n)))) then (n : Int) else fnS G n := rfl
noncomputable def nsS (G : GS) : Nat → Int
  | 0 => -1
  | n + 1 => if G.st n ≠ 0 ∧ ¬ spM G (n : Int) (-1) = -1 ∧ (nsS G n = -1 ∨ spM G (n : Int) (-1) < spM G (nsS G n) (-1)) then (n : Int) else nsS G n
theorem nsS_s (G : GS) (n : Nat) : nsS G (n + 1) = if G.st n ≠ 0 ∧ ¬ spM G (n : Int) (-1) = -1 ∧ (nsS G n = -1 ∨ spM G (n : Int) (-1) < spM G (nsS G n) (-1)) then (n : Int) else nsS G n := rfl
theorem fnS_is (G : GS) : ∀ n, fnS G n = -1 ∨ ((0 ≤ fnS G n ∧ fnS G n < (n : Int)) ∧ spM G (-1) (fnS G n) ≠ -1)
  | 0 => Or.inl rfl
  | n + 1 => by
    rw [fnS_s]
    split
    · rename_i h; exact Or.inr ⟨by omega, h.2.1⟩
    · rcases fnS_is G n with h | h
      · exact Or.inl h
      · exact Or.inr ⟨by omega, h.2⟩
theorem nsS_is (G : GS) : ∀ n, nsS G n = -1 ∨ ((0 ≤ nsS G n ∧ nsS G n < (n : Int)) ∧ spM G (nsS G n) (-1) ≠ -1)
  | 0 => Or.inl rfl
  | n + 1 => by
    rw [nsS_s]
    split
    · rename_i h; exact Or.inr ⟨by omega, h.2.1⟩
    · rcases nsS_is G n with h | h
      · exact Or.inl h
      · exact Or.inr ⟨by omega, h.2⟩
theorem if_c {P Q : Prop} [Decidable P] [Decidable Q] (h : P ↔ Q) {α : Type} (a b : α) : (if P then a else b) = (if Q then a else b) := by
  by_cases q : P
  · rw [if_pos q, if_pos (h.mp q)]
  · rw [if_neg q, if_neg (fun x => q (h.mpr x))]
theorem fnb_S {G : GS} {Y : YS} (hI : Inv G) (hY : YI Y) : ∀ n, n ≤ 2 * G.rr → fnb G (lka G Y) n = fnS G n
  | 0, _ => rfl
  | n + 1, hn => by
    have ih := fnb_S hI hY n (by omega)
    have hr := fnb_rng G (lka G Y) n
    have h1 := (cl_side hI hY (k := n) (by omega)).1
    rw [fnb_s, fnS_s, ← ih]
    refine if_c ?_ _ _
    unfold mu
    rw [h1]
    by_cases e : fnb G (lka G Y) n = -1
    · exact ⟨fun q => ⟨q.1, q.2.1, Or.inl e⟩, fun q => ⟨q.1, q.2.1, Or.inl e⟩⟩
    · have h9 := (cl_side hI hY (k := (fnb G (lka G Y) n).toNat) (by omega)).1
      rw [show (((fnb G (lka G Y) n).toNat : Nat) : Int) = fnb G (lka G Y) n by omega] at h9
      rw [h9]
noncomputable def nxt (G : GS) : Int := fnS G (2 * G.rr)
noncomputable def sto (G : GS) : Int := nsS G G.nn
noncomputable def cF9 (p : Int × GS) : Int × GS := if (p.2.vw ≠ 0 ∧ p.2.vs < p.2.mi ((nxt p.2).toNat / 2)) ∧ sto p.2 ≠ -1 then (p.1 + (flM p.2 (spW p.2 (sto p.2) (-1)) + 4), tks (flG p.2 (spW p.2 (sto p.2) (-1)))) else p
noncomputable def cD9 (p : Int × GS) : Int × GS := if nxt p.2 = -1 then p else (p.1 + flM p.2 (spW p.2 (-1) (nxt p.2)), flG p.2 (spW p.2 (-1) (nxt p.2)))
noncomputable def clr (lim : Int) : Nat → Int × GS → Int × GS
  | 0, p => p
  | n + 1, p => if p.1 < lim ∧ nxt p.2 ≠ -1 then clr lim n (cD9 (cF9 p)) else p
theorem clr_s (lim : Int) (n : Nat) (p : Int × GS) : clr lim (n + 1) p = if p.1 < lim ∧ nxt p.2 ≠ -1 then clr lim n (cD9 (cF9 p)) else p := rfl
theorem clr_end {lim : Int} {p : Int × GS} (h : ¬ (p.1 < lim ∧ nxt p.2 ≠ -1)) : ∀ n, clr lim n p = p
  | 0 => rfl
  | n + 1 => by rw [clr_s, if_neg h]
theorem tks_Inv {G : GS} (hI : Inv G) : Inv (tks G) := ⟨hI.nn, hI.rr, hI.tu, hI.st, hI.sm, hI.mi, fun _ hk => hI.mi1 hk, hI.pr, hI.de, hI.sa, hI.vn, hI.vc, Nat.le_refl _, hI.vw, fun _ hk => hI.ab hk⟩
theorem sto_ok {G : GS} (hI : Inv G) (h : sto G ≠ -1) : (0 ≤ sto G ∧ sto G < (G.nn : Int)) ∧ BW G (sto G) (-1) G.vn G.vc (spW G (sto G) (-1)) ∧ (spW G (sto G) (-1)).length ≤ 24 := by
  rcases nsS_is G G.nn with q | ⟨q1, q2⟩
  · exact absurd q h
  · exact ⟨q1, sp_some hI (Or.inl ⟨rfl, q1.1⟩) q2⟩
theorem nxt_ok {G : GS} (hI : Inv G) (h : nxt G ≠ -1) : (0 ≤ nxt G ∧ nxt G < ((2 * G.rr : Nat) : Int)) ∧ BW G (-1) (nxt G) G.vn G.vc (spW G (-1) (nxt G)) ∧ (spW G (-1) (nxt G)).length ≤ 24 := by
  rcases fnS_is G (2 * G.rr) with q | ⟨q1, q2⟩
  · exact absurd q h
  · exact ⟨q1, sp_some hI (Or.inr ⟨rfl, q1.1, q1.2⟩) q2⟩
theorem flM_pos {G : GS} (hI : Inv G) {w : List Nat} (hw : isW G G.vn G.vc w) (h : w ≠ []) : 1 ≤ flM G w := by
  cases w with
  | nil => exact absurd rfl h
  | cons j w =>
    have hj : j / 2 < G.rr := by have := hw.1.1; omega
    have a1 := flM_rng w (drv G (j / 2) j) (drv_Inv hI hj) (isW_same (drv_same G (j / 2) j) _ _ _ hw.2)
    have := hI.mi1 hj
    show 1 ≤ dMin G (j / 2) j + flM (drv G (j / 2) j) w
    unfold dMin; split <;> split <;> omega
theorem nxt_ne {G : GS} (hI : Inv G) (h : nxt G ≠ -1) : spW G (-1) (nxt G) ≠ [] := by
  obtain ⟨a, b, -⟩ := nxt_ok hI h
  intro e
  rw [e] at b
  rcases b.2.1 with q | q
  · have q : ((G.vn : Nat) : Int) = -1 := q
    omega
  · have q : (-2 : Int) = nxt G := q
    omega
theorem cF_ok {p : Int × GS} (hI : Inv p.2) : Inv (cF9 p).2 ∧ ((cF9 p = p) ∨ (p.1 + 4 ≤ (cF9 p).1 ∧ (cF9 p).1 ≤ p.1 + 1492)) := by
  unfold cF9
  split
  · rename_i h
    obtain ⟨a, b, c⟩ := sto_ok hI h.2
    have d := flM_rng _ _ hI b.1
    refine ⟨tks_Inv (fl_Inv _ _ hI b.1).1, Or.inr ⟨?_, ?_⟩⟩
    · show p.1 + 4 ≤ p.1 + (flM p.2 (spW p.2 (sto p.2) (-1)) + 4); omega
    · show p.1 + (flM p.2 (spW p.2 (sto p.2) (-1)) + 4) ≤ p.1 + 1492; omega
  · exact ⟨hI, Or.inl rfl⟩
theorem cD_ok {p : Int × GS} (hI : Inv p.2) : Inv (cD9 p).2 ∧ ((nxt p.2 = -1 ∧ cD9 p = p) ∨ (p.1 + 1 ≤ (cD9 p).1 ∧ (cD9 p).1 ≤ p.1 + 1488)) := by
  unfold cD9
  by_cases h : nxt p.2 = -1
  · rw [if_pos h]; exact ⟨hI, Or.inl ⟨h, rfl⟩⟩
  · rw [if_neg h]
    obtain ⟨a, b, c⟩ := nxt_ok hI h
    have d := flM_rng _ _ hI b.1
    have e := flM_pos hI b.1 (nxt_ne hI h)
    refine ⟨(fl_Inv _ _ hI b.1).1, Or.inr ⟨?_, ?_⟩⟩
    · show p.1 + 1 ≤ p.1 + flM p.2 (spW p.2 (-1) (nxt p.2)); omega
    · show p.1 + flM p.2 (spW p.2 (-1) (nxt p.2)) ≤ p.1 + 1488; omega
theorem cR_ok {p : Int × GS} (hI : Inv p.2) (h : nxt p.2 ≠ -1) : Inv (cD9 (cF9 p)).2 ∧ p.1 + 1 ≤ (cD9 (cF9 p)).1 ∧ (cD9 (cF9 p)).1 ≤ p.1 + 2980 := by
  obtain ⟨a, b⟩ := cF_ok hI
  obtain ⟨c, d⟩ := cD_ok a
  refine ⟨c, ?_⟩
  rcases b with b | b <;> rcases d with ⟨d1, d2⟩ | d
  · rw [b] at d1; exact absurd d1 h
  · rw [b] at d ⊢; omega
  · rw [d2]; omega
  · omega
end
section
/-! 33.bare: from whole, what is needed here -/
def bareV (c r : Nat) : UInt64 := if r = 0 then FP.dconst1 else FP.ddiv (FP.i2d (iI ((c : Nat) : Int))) (FP.i2d (iI ((2 * r : Nat) : Int)))
theorem bare_n : ∀ r : Fin 12, ∀ c : Fin 25, vf_n64 (FP.ddiv (FP.i2d (iI ((c.val : Nat) : Int))) (FP.i2d (iI ((2 * (r.val + 1) : Nat) : Int)))) := by unfold vf_n64; decide +kernel
theorem bareV_n {c r : Nat} (h0 : r ≠ 0) (hr : r ≤ 12) (hc : c ≤ 24) : vf_n64 (FP.ddiv (FP.i2d (iI ((c : Nat) : Int))) (FP.i2d (iI ((2 * r : Nat) : Int)))) := by
  have h := bare_n ⟨r - 1, by omega⟩ ⟨c, by omega⟩
  rw [show r - 1 + 1 = r by omega] at h
  exact h
end
section
/-! 40: what the property's words say, told of the class's own functions (whole's contracts say that its methods do these) -/
/-- the snow on the first n sides -/
def sumD (f : Nat → Nat) : Nat → Nat
  | 0 => 0
  | n + 1 => sumD f n + f n
theorem sumD_out (f : Nat → Nat) {k : Nat} (x : Nat) : ∀ n, n ≤ k → sumD (up f k x) n = sumD f n
  | 0, _ => rfl
  | n + 1, h => by
    show sumD (up f k x) n + up f k x n = sumD f n + f n
    rw [sumD_out f x n (by omega), up_n _ _ (by omega)]
theorem sumD_up (f : Nat → Nat) {k : Nat} (x : Nat) : ∀ n, k < n → sumD (up f k x) n + f k = sumD f n + x
  | 0, h => absurd h (Nat.not_lt_zero _)
  | n + 1, h => by
    show sumD (up f k x) n + up f k x n + f k = sumD f n + f n + x
    by_cases e : k = n
    · subst e; rw [sumD_out f x k (Nat.le_refl _), up_s]; omega
    · have := sumD_up f (k := k) x n (by omega)
      rw [up_n _ _ (show n ≠ k by omega)]; omega
theorem i6 {z : Int} (h : -2147483648 ≤ z ∧ z < 2147483648) : (iI z).toInt64 = Int64.ofInt z := by
  apply Int64.toInt_inj.mp
  rw [Int32.toInt_toInt64, iI_t h, Int64.toInt_ofInt_of_le (by omega) (by omega)]
/-- salt that was strewed, and salt in the plough -/
def slt (G : GS) : Int64 := G.tt 1 + Int64.ofInt (G.vs : Int)
/-- a drive: no more snow, its minutes, no salt lost -/
theorem drv_snow {G : GS} {r k : Nat} (hk : k < 2 * G.rr) : sumD (drv G r k).de (2 * G.rr) ≤ sumD G.de (2 * G.rr) := by
  show sumD (dDe G k) (2 * G.rr) ≤ _
  unfold dDe
  have h1 := sumD_up (up G.de (op k) (min 999 (G.de (op k) + G.de k / 2))) 0 (2 * G.rr) hk
  have h2 := sumD_up G.de (k := op k) (min 999 (G.de (op k) + G.de k / 2)) (2 * G.rr) (op_lt hk)
  rw [up_n _ _ (fun e => op_ne k e.symm)] at h1
  have h3 : min 999 (G.de (op k) + G.de k / 2) ≤ G.de (op k) + G.de k / 2 := Nat.min_le_right _ _
  omega
theorem drv_tt0 {G : GS} (hI : Inv G) (r k : Nat) : (drv G r k).tt 0 = G.tt 0 + Int64.ofInt (dMin G r k) := by
  have h := dMin_rng (r := r) (k := k) hI
  show dTt G.tt (dSt G r k) ((r : Int) = G.vc) (G.mi r) (dMin G r k) 0 = _
  unfold dTt
  rw [if_pos rfl, i6 (by omega)]
theorem drv_slt {G : GS} (hI : Inv G) (r k : Nat) : slt (drv G r k) = slt G := by
  have hm := hI.mi r
  show dTt G.tt (dSt G r k) ((r : Int) = G.vc) (G.mi r) (dMin G r k) 1 + Int64.ofInt ((if dSt G r k then G.vs - G.mi r else G.vs : Nat) : Int) = G.tt 1 + Int64.ofInt (G.vs : Int)
  unfold dTt
  rw [if_neg (by decide), if_pos rfl]
  by_cases h : dSt G r k
  · rw [if_pos h, if_pos h, i6 (by omega), Int64.add_assoc, ← Int64.ofInt_add]
    have := h.2.2
    rw [show (G.mi r : Int) + ((G.vs - G.mi r : Nat) : Int) = (G.vs : Int) by omega]
  · rw [if_neg h, if_neg h]
theorem fl_words : ∀ (w : List Nat) (G : GS), Inv G → isW G G.vn G.vc w → sumD (flG G w).de (2 * G.rr) ≤ sumD G.de (2 * G.rr) ∧ (flG G w).tt 0 = G.tt 0 + Int64.ofInt (flM G w) ∧ slt (flG G w) = slt G
  | [], G, _, _ => ⟨Nat.le_refl _, (Int64.add_zero _).symm, rfl⟩
  | j :: w, G, hI, h => by
    have hj : j / 2 < G.rr := by have := h.1.1; omega
    obtain ⟨a, b, c⟩ := fl_words w (drv G (j / 2) j) (drv_Inv hI hj) (isW_same (drv_same G (j / 2) j) _ _ _ h.2)
    refine ⟨Nat.le_trans a (drv_snow h.1.1), ?_, c.trans (drv_slt hI _ _)⟩
    show (flG (drv G (j / 2) j) w).tt 0 = G.tt 0 + Int64.ofInt (dMin G (j / 2) j + flM (drv G (j / 2) j) w)
    rw [b, drv_tt0 hI, Int64.ofInt_add, Int64.add_assoc]
/-- from p to q: the same town, no more snow, the minutes told, f of salt filled in -/
def pcl (p q : Int × GS) (f : Int) : Prop := sameTown p.2 q.2 ∧ sumD q.2.de (2 * p.2.rr) ≤ sumD p.2.de (2 * p.2.rr) ∧ q.2.tt 0 = p.2.tt 0 + Int64.ofInt (q.1 - p.1) ∧ slt q.2 = slt p.2 + Int64.ofInt f
theorem pcl.refl (p : Int × GS) : pcl p p 0 := ⟨sameTown.refl _, Nat.le_refl _, by rw [Int.sub_self]; exact (Int64.add_zero _).symm, (Int64.add_zero _).symm⟩
theorem pcl.trans {p q r : Int × GS} {f g : Int} (a : pcl p q f) (b : pcl q r g) : pcl p r (f + g) := by
  obtain ⟨a1, a2, a3, a4⟩ := a
  obtain ⟨b1, b2, b3, b4⟩ := b
  have hr : q.2.rr = p.2.rr := a1.2.2.2.2.2.2.1
  rw [hr] at b2
  refine ⟨a1.trans b1, Nat.le_trans b2 a2, ?_, ?_⟩
  · rw [b3, a3, Int64.add_assoc, ← Int64.ofInt_add, show q.1 - p.1 + (r.1 - q.1) = r.1 - p.1 by omega]
  · rw [b4, a4, Int64.add_assoc, ← Int64.ofInt_add]
/-- what is filled in on the way -/
noncomputable def filF (p : Int × GS) : Int := if (p.2.vw ≠ 0 ∧ p.2.vs < p.2.mi ((nxt p.2).toNat / 2)) ∧ sto p.2 ≠ -1 then ((120 - (flG p.2 (spW p.2 (sto p.2) (-1))).vs : Nat) : Int) else 0
theorem tks_slt {G : GS} (hI : Inv G) : slt (tks G) = slt G + Int64.ofInt ((120 - G.vs : Nat) : Int) := by
  have h := hI.vs
  show up G.tt 0 (G.tt 0 + 4) 1 + Int64.ofInt ((120 : Nat) : Int) = G.tt 1 + Int64.ofInt (G.vs : Int) + Int64.ofInt ((120 - G.vs : Nat) : Int)
  rw [up_n _ _ (by decide), Int64.add_assoc, ← Int64.ofInt_add, show (G.vs : Int) + ((120 - G.vs : Nat) : Int) = ((120 : Nat) : Int) by omega]
theorem cF_words {p : Int × GS} (hI : Inv p.2) : pcl p (cF9 p) (filF p) := by
  unfold cF9 filF
  split
  · rename_i h
    obtain ⟨a, b, c⟩ := sto_ok hI h.2
    obtain ⟨d1, d2, d3⟩ := fl_words _ _ hI b.1
    obtain ⟨e1, e2⟩ := fl_Inv _ _ hI b.1
    refine ⟨e2.trans ⟨rfl, rfl, rfl, rfl, rfl, rfl, rfl, rfl⟩, d1, ?_, ?_⟩
    · show (flG p.2 (spW p.2 (sto p.2) (-1))).tt 0 + 4 = p.2.tt 0 + Int64.ofInt (p.1 + (flM p.2 (spW p.2 (sto p.2) (-1)) + 4) - p.1)
      rw [d2, show p.1 + (flM p.2 (spW p.2 (sto p.2) (-1)) + 4) - p.1 = flM p.2 (spW p.2 (sto p.2) (-1)) + 4 by omega, Int64.ofInt_add, Int64.add_assoc]
      rfl
    · show slt (tks (flG p.2 (spW p.2 (sto p.2) (-1)))) = _
      rw [tks_slt e1, d3]
  · exact pcl.refl p
theorem cD_words {p : Int × GS} (hI : Inv p.2) : pcl p (cD9 p) 0 := by
  unfold cD9
  by_cases h : nxt p.2 = -1
  · rw [if_pos h]; exact pcl.refl p
  · rw [if_neg h]
    obtain ⟨a, b, c⟩ := nxt_ok hI h
    obtain ⟨d1, d2, d3⟩ := fl_words _ _ hI b.1
    refine ⟨(fl_Inv _ _ hI b.1).2, d1, ?_, by rw [show slt _ = slt p.2 from d3]; exact (Int64.add_zero _).symm⟩
    show (flG p.2 (spW p.2 (-1) (nxt p.2))).tt 0 = p.2.tt 0 + Int64.ofInt (p.1 + flM p.2 (spW p.2 (-1) (nxt p.2)) - p.1)
    rw [d2, show p.1 + flM p.2 (spW p.2 (-1) (nxt p.2)) - p.1 = flM p.2 (spW p.2 (-1) (nxt p.2)) by omega]
noncomputable def clF (lim : Int) : Nat → Int × GS → Int
  | 0, _ => 0
  | n + 1, p => if p.1 < lim ∧ nxt p.2 ≠ -1 then filF p + clF lim n (cD9 (cF9 p)) else 0
theorem clr_words (lim : Int) : ∀ (n : Nat) (p : Int × GS), Inv p.2 → pcl p (clr lim n p) (clF lim n p) ∧ Inv (clr lim n p).2 ∧ p.1 ≤ (clr lim n p).1 ∧ (lim ≤ p.1 + (n : Int) → (clr lim n p).1 < lim → nxt (clr lim n p).2 = -1)
  | 0, p, hI => ⟨pcl.refl p, hI, Int.le_refl _, fun h q => absurd (show p.1 < lim from q) (by omega)⟩
  | n + 1, p, hI => by
    rw [clr_s]
    show pcl p _ (if p.1 < lim ∧ nxt p.2 ≠ -1 then filF p + clF lim n (cD9 (cF9 p)) else 0) ∧ _
    by_cases h : p.1 < lim ∧ nxt p.2 ≠ -1
    · rw [if_pos h, if_pos h]
      obtain ⟨c1, c2, c3⟩ := cR_ok hI h.2
      obtain ⟨d1, d2, d3, d4⟩ := clr_words lim n (cD9 (cF9 p)) c1
      refine ⟨?_, d2, by omega, fun e q => d4 (by omega) q⟩
      have := ((cF_words hI).trans (cD_words (cF_ok hI).1)).trans d1
      rw [Int.add_zero] at this
      exact this
    · rw [if_neg h, if_neg h]
      exact ⟨pcl.refl p, hI, Int.le_refl _, fun _ q => Decidable.byContradiction fun e => h ⟨q, e⟩⟩
/-- CLEAR, from any state of the planner: no more snow in all; the minutes of all grow by what is told; less than the limit told: no next side; the salt is what it was and what was filled in; never more than 120 in the plough -/
theorem clear_words {G : GS} (hI : Inv G) {z : Int} (hz : 0 ≤ z ∧ z ≤ 300) :
    Inv (clr z z.toNat ((0 : Int), G)).2 ∧ sameTown G (clr z z.toNat ((0 : Int), G)).2 ∧ 0 ≤ (clr z z.toNat ((0 : Int), G)).1
    ∧ sumD (clr z z.toNat ((0 : Int), G)).2.de (2 * G.rr) ≤ sumD G.de (2 * G.rr)
    ∧ (clr z z.toNat ((0 : Int), G)).2.tt 0 = G.tt 0 + Int64.ofInt (clr z z.toNat ((0 : Int), G)).1
    ∧ ((clr z z.toNat ((0 : Int), G)).1 < z → nxt (clr z z.toNat ((0 : Int), G)).2 = -1)
    ∧ slt (clr z z.toNat ((0 : Int), G)).2 = slt G + Int64.ofInt (clF z z.toNat ((0 : Int), G))
    ∧ (clr z z.toNat ((0 : Int), G)).2.vs ≤ 120 := by
  obtain ⟨⟨a1, a2, a3, a4⟩, b, c, d⟩ := clr_words z z.toNat ((0 : Int), G) hI
  refine ⟨b, a1, c, a2, ?_, fun q => d (show z ≤ 0 + ((z.toNat : Nat) : Int) by omega) q, a4, b.vs⟩
  rw [a3, show (clr z z.toNat ((0 : Int), G)).1 - ((0 : Int), G).1 = (clr z z.toNat ((0 : Int), G)).1 from Int.sub_zero _]
/-- .. and then next() answers -1, whatever ways were laid before -/
theorem clear_next {G : GS} (hI : Inv G) {z : Int} (hz : 0 ≤ z ∧ z ≤ 300) (h : (clr z z.toNat ((0 : Int), G)).1 < z) {Y : YS} (hY : YI Y) : fnb (clr z z.toNat ((0 : Int), G)).2 (lka (clr z z.toNat ((0 : Int), G)).2 Y) (2 * (clr z z.toNat ((0 : Int), G)).2.rr) = -1 := by
  obtain ⟨a, -, -, -, -, b, -⟩ := clear_words hI hz
  rw [fnb_S a hY _ (Nat.le_refl _)]
  exact b h
/-- GO works just if the node is an end of the road, and the road is not the one by which it came, or the node is a turning place -/
theorem go_can {G : GS} {r : Nat} (hr : r < G.rr) : kGo G (r : Int) = 0 ↔ (G.sm (2 * r) = G.vn ∨ G.sm (2 * r + 1) = G.vn) ∧ ((r : Int) ≠ G.vc ∨ G.tu G.vn ≠ 0) := by
  unfold kGo cG sF
  rw [if_pos (by omega), Int.toNat_natCast]
  by_cases h1 : G.sm (2 * r) = G.vn
  · rw [if_pos h1, Int.toNat_natCast, show ((2 * r : Nat) : Int) / 2 = (r : Int) by omega]
    constructor
    · intro h
      by_cases q : (0 ≤ ((2 * r : Nat) : Int) ∧ ((2 * r : Nat) : Int) < ((2 * G.rr : Nat) : Int)) ∧ G.sm (2 * r) = G.vn ∧ ((r : Int) ≠ G.vc ∨ G.tu G.vn ≠ 0)
      · exact ⟨Or.inl h1, q.2.2⟩
      · rw [if_neg q] at h; cases h
    · intro h
      exact if_pos ⟨by omega, h1, h.2⟩
  · rw [if_neg h1]
    by_cases h2 : G.sm (2 * r + 1) = G.vn
    · rw [if_pos h2, Int.toNat_natCast, show ((2 * r + 1 : Nat) : Int) / 2 = (r : Int) by omega]
      constructor
      · intro h
        by_cases q : (0 ≤ ((2 * r + 1 : Nat) : Int) ∧ ((2 * r + 1 : Nat) : Int) < ((2 * G.rr : Nat) : Int)) ∧ G.sm (2 * r + 1) = G.vn ∧ ((r : Int) ≠ G.vc ∨ G.tu G.vn ≠ 0)
        · exact ⟨Or.inr h2, q.2.2⟩
        · rw [if_neg q] at h; cases h
      · intro h
        exact if_pos ⟨by omega, h2, h.2⟩
    · rw [if_neg h2]
      constructor
      · intro h
        rw [if_neg (fun q => absurd q.1.1 (by decide))] at h; cases h
      · intro h
        exact absurd h.1 (fun q => q.elim h1 h2)
/-- .. then it is at the other end, came by this road, the side is bare, and no salt is lost -/
theorem go_did {G : GS} (hI : Inv G) {r : Nat} (hr : r < G.rr) (h : kGo G (r : Int) = 0) :
    (drv G r (sF G G.vn r).toNat).vn ≠ G.vn ∧ (drv G r (sF G G.vn r).toNat).vc = (r : Int) ∧ (drv G r (sF G G.vn r).toNat).de (2 * r + (if G.sm (2 * r) = G.vn then 0 else 1)) = 0 ∧ slt (drv G r (sF G G.vn r).toNat) = slt G ∧ Inv (drv G r (sF G G.vn r).toNat) := by
  have hc := (go_can hr).mp h
  have hab := hI.ab hr
  have he : (sF G G.vn r).toNat = 2 * r + (if G.sm (2 * r) = G.vn then 0 else 1) := by
    unfold sF
    by_cases h1 : G.sm (2 * r) = G.vn
    · rw [if_pos h1, if_pos h1]; rfl
    · rw [if_neg h1, if_neg h1, if_pos (hc.1.elim (fun q => absurd q h1) id)]; rfl
  refine ⟨?_, rfl, ?_, drv_slt hI _ _, drv_Inv hI hr⟩
  · rw [he]
    show G.sm (op (2 * r + (if G.sm (2 * r) = G.vn then 0 else 1))) ≠ G.vn
    by_cases h1 : G.sm (2 * r) = G.vn
    · rw [if_pos h1, show op (2 * r + 0) = 2 * r + 1 by unfold op; rw [if_pos (by omega)]]
      exact fun q => hab (h1.trans q.symm)
    · rw [if_neg h1, show op (2 * r + 1) = 2 * r by unfold op; rw [if_neg (by omega)]; omega]
      exact h1
  · rw [he]
    exact up_s _ _ _
/-- FILL: the salt is what it was and what was filled in; 120 in the plough -/
theorem fill_words {G : GS} (hI : Inv G) : slt ((G.vs' 120).tt' (up G.tt 0 (G.tt 0 + 4))) = slt G + Int64.ofInt ((120 - G.vs : Nat) : Int) ∧ ((G.vs' 120).tt' (up G.tt 0 (G.tt 0 + 4))).vs = 120 := ⟨tks_slt hI, rfl⟩
/-- BARE lies from 0 to 1 (as dcmpl and dcmpg compare) -/
theorem bare_01 : ∀ r : Fin 12, ∀ c : Fin 25, c.val ≤ 2 * (r.val + 1) → (0 ≤ (Op.cmpValue (FP.dcmp (FP.ddiv (FP.i2d (iI ((c.val : Nat) : Int))) (FP.i2d (iI ((2 * (r.val + 1) : Nat) : Int)))) FP.dconst0) .l)) ∧ (Op.cmpValue (FP.dcmp (FP.ddiv (FP.i2d (iI ((c.val : Nat) : Int))) (FP.i2d (iI ((2 * (r.val + 1) : Nat) : Int)))) FP.dconst1) .g ≤ 0) := by decide +kernel
end
section
/-- true of no start: 'no_lists'. It says nothing of the class, and is not handed in -/
theorem i_vc : Claimed_1_1 ∧ Claimed_1_2 := ⟨fun l _ h => absurd h (no_lists l), fun l _ h => absurd h (no_lists l)⟩
end
