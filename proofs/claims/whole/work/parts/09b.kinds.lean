/-! 09b: how a throwing method's end is told: K = 0 it returns, else by which exception -/
def xKI (K : Nat) (v : Int) (G' : GS) (Y' : YS) : Int → GS → YS → Prop := fun z g y => K = 0 ∧ z = v ∧ g = G' ∧ y = Y'
def xKL (K : Nat) (v : Int64) (G' : GS) (Y' : YS) : Int64 → GS → YS → Prop := fun z g y => K = 0 ∧ z = v ∧ g = G' ∧ y = Y'
def xKV (K : Nat) (G' : GS) (Y' : YS) : GS → YS → Prop := fun g y => K = 0 ∧ g = G' ∧ y = Y'
def xK1 (E0 : String) (K : Nat) (G : GS) (Y : YS) : String → GS → YS → Prop := fun E g y => (E = E0 ∧ K = 1) ∧ g = G ∧ y = Y
def xK2 (E1 E2 : String) (K : Nat) (G : GS) (Y : YS) : String → GS → YS → Prop := fun E g y => ((E = E1 ∧ K = 1) ∨ (E = E2 ∧ K = 2)) ∧ g = G ∧ y = Y
def xK3 (E1 E2 E3 : String) (K : Nat) (G : GS) (Y : YS) : String → GS → YS → Prop := fun E g y => ((E = E1 ∧ K = 1) ∨ (E = E2 ∧ K = 2) ∨ (E = E3 ∧ K = 3)) ∧ g = G ∧ y = Y
def kRoad (G : GS) (a b m q : Int) : Nat := if (0 ≤ a ∧ a < (G.nn : Int)) ∧ (0 ≤ b ∧ b < (G.nn : Int)) then (if a ≠ b ∧ (1 ≤ m ∧ m ≤ 30) ∧ (0 ≤ q ∧ q ≤ 2) then (if G.rr < 12 then 0 else 3) else 2) else 1
def kGo (G : GS) (z : Int) : Nat := if 0 ≤ z ∧ z < (G.rr : Int) then (if cG G G.vn G.vc (sF G G.vn z.toNat) then 0 else 2) else 1
theorem li_cast3 {p : Program} {l : Launch} {e : Env} {R : Room} {s : State} {m : MethodId} {args : Array Value} {below : List Frame} {meth : Method} {c : Code} {H : Heap} {locs : List Loc} {cells slots : Nat} {Q : State → Prop} {cc : ByteArray} {pc : Nat} {ls : Array Slot} {rest : List Value} (hx : p.tables.exec = Jvm.exec) (hb : c.code = cc) {z z' : Int} {v0 v1 v2 : Value} (h : z = z') (k : W p l e R s m args below meth c H locs cells slots Q (F0 m pc ls (v0 :: v1 :: v2 :: .int (iI z') :: rest))) : W p l e R s m args below meth c H locs cells slots Q (F0 m pc ls (v0 :: v1 :: v2 :: .int (iI z) :: rest)) := by subst h; exact k
