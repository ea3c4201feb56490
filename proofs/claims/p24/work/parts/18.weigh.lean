/-! 18.weigh: from whole, what is needed here -/
def wEnd (G : GS) : Nat → List Nat → Nat
  | v, [] => v
  | _, j :: w => wEnd G (G.sm (op j)) w
def wLs : List Nat → Int
  | [] => -2
  | [j] => (j : Int)
  | _ :: i :: w => wLs (i :: w)
/-- the way w from v ends at the node n, or with the side k -/
def wGl (G : GS) (n k : Int) (v : Nat) (w : List Nat) : Prop := ((wEnd G v w : Nat) : Int) = n ∨ wLs w = k
