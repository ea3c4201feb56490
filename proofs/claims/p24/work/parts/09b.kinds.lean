/-! 09b.kinds: from whole, what is needed here -/
def kGo (G : GS) (z : Int) : Nat := if 0 ≤ z ∧ z < (G.rr : Int) then (if cG G G.vn G.vc (sF G G.vn z.toNat) then 0 else 2) else 1
