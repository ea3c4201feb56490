/-! 05: what a state of the class, and of the reference, is, and their cells -/
abbrev AD : Type := (Nat → Nat) × (Nat → Nat) × (va_G) × (ClassId) × (ClassId) × (ClassId) × (ClassId)
def AD.a (g : AD) : Nat → Nat := g.1
def AD.w (g : AD) : Nat → Nat := g.2.1
def AD.D (g : AD) : va_G := g.2.2.1
def AD.cI (g : AD) : ClassId := g.2.2.2.1
def AD.cZ (g : AD) : ClassId := g.2.2.2.2.1
def AD.cO (g : AD) : ClassId := g.2.2.2.2.2.1
def AD.cJ (g : AD) : ClassId := g.2.2.2.2.2.2
def AD.a' (g : AD) (x : Nat → Nat) : AD := (x, g.w, g.D, g.cI, g.cZ, g.cO, g.cJ)
def AD.w' (g : AD) (x : Nat → Nat) : AD := (g.a, x, g.D, g.cI, g.cZ, g.cO, g.cJ)
def AD.D' (g : AD) (x : va_G) : AD := (g.a, g.w, x, g.cI, g.cZ, g.cO, g.cJ)
def AD.cI' (g : AD) (x : ClassId) : AD := (g.a, g.w, g.D, x, g.cZ, g.cO, g.cJ)
def AD.cZ' (g : AD) (x : ClassId) : AD := (g.a, g.w, g.D, g.cI, x, g.cO, g.cJ)
def AD.cO' (g : AD) (x : ClassId) : AD := (g.a, g.w, g.D, g.cI, g.cZ, x, g.cJ)
def AD.cJ' (g : AD) (x : ClassId) : AD := (g.a, g.w, g.D, g.cI, g.cZ, g.cO, x)
abbrev GS : Type := (Nat → Nat) × (Nat → Nat) × (Nat → Nat) × (Nat → Nat) × (Nat → Nat) × (Nat → Nat) × (Nat → Nat) × (Nat) × (Nat) × (Nat) × (Int) × (Nat) × (Nat) × (Nat → Int64)
def GS.tu (g : GS) : Nat → Nat := g.1
def GS.st (g : GS) : Nat → Nat := g.2.1
def GS.sm (g : GS) : Nat → Nat := g.2.2.1
def GS.mi (g : GS) : Nat → Nat := g.2.2.2.1
def GS.pr (g : GS) : Nat → Nat := g.2.2.2.2.1
def GS.de (g : GS) : Nat → Nat := g.2.2.2.2.2.1
def GS.sa (g : GS) : Nat → Nat := g.2.2.2.2.2.2.1
def GS.nn (g : GS) : Nat := g.2.2.2.2.2.2.2.1
def GS.rr (g : GS) : Nat := g.2.2.2.2.2.2.2.2.1
def GS.vn (g : GS) : Nat := g.2.2.2.2.2.2.2.2.2.1
def GS.vc (g : GS) : Int := g.2.2.2.2.2.2.2.2.2.2.1
def GS.vs (g : GS) : Nat := g.2.2.2.2.2.2.2.2.2.2.2.1
def GS.vw (g : GS) : Nat := g.2.2.2.2.2.2.2.2.2.2.2.2.1
def GS.tt (g : GS) : Nat → Int64 := g.2.2.2.2.2.2.2.2.2.2.2.2.2
def GS.tu' (g : GS) (x : Nat → Nat) : GS := (x, g.st, g.sm, g.mi, g.pr, g.de, g.sa, g.nn, g.rr, g.vn, g.vc, g.vs, g.vw, g.tt)
def GS.st' (g : GS) (x : Nat → Nat) : GS := (g.tu, x, g.sm, g.mi, g.pr, g.de, g.sa, g.nn, g.rr, g.vn, g.vc, g.vs, g.vw, g.tt)
def GS.sm' (g : GS) (x : Nat → Nat) : GS := (g.tu, g.st, x, g.mi, g.pr, g.de, g.sa, g.nn, g.rr, g.vn, g.vc, g.vs, g.vw, g.tt)
def GS.mi' (g : GS) (x : Nat → Nat) : GS := (g.tu, g.st, g.sm, x, g.pr, g.de, g.sa, g.nn, g.rr, g.vn, g.vc, g.vs, g.vw, g.tt)
def GS.pr' (g : GS) (x : Nat → Nat) : GS := (g.tu, g.st, g.sm, g.mi, x, g.de, g.sa, g.nn, g.rr, g.vn, g.vc, g.vs, g.vw, g.tt)
def GS.de' (g : GS) (x : Nat → Nat) : GS := (g.tu, g.st, g.sm, g.mi, g.pr, x, g.sa, g.nn, g.rr, g.vn, g.vc, g.vs, g.vw, g.tt)
def GS.sa' (g : GS) (x : Nat → Nat) : GS := (g.tu, g.st, g.sm, g.mi, g.pr, g.de, x, g.nn, g.rr, g.vn, g.vc, g.vs, g.vw, g.tt)
def GS.nn' (g : GS) (x : Nat) : GS := (g.tu, g.st, g.sm, g.mi, g.pr, g.de, g.sa, x, g.rr, g.vn, g.vc, g.vs, g.vw, g.tt)
def GS.rr' (g : GS) (x : Nat) : GS := (g.tu, g.st, g.sm, g.mi, g.pr, g.de, g.sa, g.nn, x, g.vn, g.vc, g.vs, g.vw, g.tt)
def GS.vn' (g : GS) (x : Nat) : GS := (g.tu, g.st, g.sm, g.mi, g.pr, g.de, g.sa, g.nn, g.rr, x, g.vc, g.vs, g.vw, g.tt)
def GS.vc' (g : GS) (x : Int) : GS := (g.tu, g.st, g.sm, g.mi, g.pr, g.de, g.sa, g.nn, g.rr, g.vn, x, g.vs, g.vw, g.tt)
def GS.vs' (g : GS) (x : Nat) : GS := (g.tu, g.st, g.sm, g.mi, g.pr, g.de, g.sa, g.nn, g.rr, g.vn, g.vc, x, g.vw, g.tt)
def GS.vw' (g : GS) (x : Nat) : GS := (g.tu, g.st, g.sm, g.mi, g.pr, g.de, g.sa, g.nn, g.rr, g.vn, g.vc, g.vs, x, g.tt)
def GS.tt' (g : GS) (x : Nat → Int64) : GS := (g.tu, g.st, g.sm, g.mi, g.pr, g.de, g.sa, g.nn, g.rr, g.vn, g.vc, g.vs, g.vw, x)
abbrev YS : Type := (Nat → Int) × (Nat → Nat) × (Nat → Nat → Nat) × (Nat → Nat) × (Nat)
def YS.wm (g : YS) : Nat → Int := g.1
def YS.wl (g : YS) : Nat → Nat := g.2.1
def YS.wr (g : YS) : Nat → Nat → Nat := g.2.2.1
def YS.we (g : YS) : Nat → Nat := g.2.2.2.1
def YS.ws (g : YS) : Nat := g.2.2.2.2
def YS.wm' (g : YS) (x : Nat → Int) : YS := (x, g.wl, g.wr, g.we, g.ws)
def YS.wl' (g : YS) (x : Nat → Nat) : YS := (g.wm, x, g.wr, g.we, g.ws)
def YS.wr' (g : YS) (x : Nat → Nat → Nat) : YS := (g.wm, g.wl, x, g.we, g.ws)
def YS.we' (g : YS) (x : Nat → Nat) : YS := (g.wm, g.wl, g.wr, x, g.ws)
def YS.ws' (g : YS) (x : Nat) : YS := (g.wm, g.wl, g.wr, g.we, x)
abbrev ZS : Type := (Nat) × (Nat → Nat) × (Int) × (Int)
def ZS.th (g : ZS) : Nat := g.1
def ZS.wt (g : ZS) : Nat → Nat := g.2.1
def ZS.gn (g : ZS) : Int := g.2.2.1
def ZS.gs (g : ZS) : Int := g.2.2.2
def ZS.th' (g : ZS) (x : Nat) : ZS := (x, g.wt, g.gn, g.gs)
def ZS.wt' (g : ZS) (x : Nat → Nat) : ZS := (g.th, x, g.gn, g.gs)
def ZS.gn' (g : ZS) (x : Int) : ZS := (g.th, g.wt, x, g.gs)
def ZS.gs' (g : ZS) (x : Int) : ZS := (g.th, g.wt, g.gn, x)
def mkG (x0 : Nat → Nat) (x1 : Nat → Nat) (x2 : Nat → Nat) (x3 : Nat → Nat) (x4 : Nat → Nat) (x5 : Nat → Nat) (x6 : Nat → Nat) (x7 : Nat) (x8 : Nat) (x9 : Nat) (x10 : Int) (x11 : Nat) (x12 : Nat) (x13 : Nat → Int64) : GS := (x0, x1, x2, x3, x4, x5, x6, x7, x8, x9, x10, x11, x12, x13)
theorem mkG_eta (g : GS) : mkG g.tu g.st g.sm g.mi g.pr g.de g.sa g.nn g.rr g.vn g.vc g.vs g.vw g.tt = g := rfl
def mkY (x0 : Nat → Int) (x1 : Nat → Nat) (x2 : Nat → Nat → Nat) (x3 : Nat → Nat) (x4 : Nat) : YS := (x0, x1, x2, x3, x4)
theorem mkY_eta (g : YS) : mkY g.wm g.wl g.wr g.we g.ws = g := rfl
def mkZ (x0 : Nat) (x1 : Nat → Nat) (x2 : Int) (x3 : Int) : ZS := (x0, x1, x2, x3)
theorem mkZ_eta (g : ZS) : mkZ g.th g.wt g.gn g.gs = g := rfl
def AD.tys (A : AD) : List (ClassId × FieldType) := [(A.cI, .int), (A.cZ, .boolean), (A.cO, .array .int), (A.cJ, .long)]
/-- the class: 0 planner, 1 town, 2 vehicle, 3 ways, 4.. town's rows, 11.. ways' rows, then the rows of the ways -/
def CF (A : AD) (G : GS) (Y : YS) : va_W := [
  (A.a 0, .inr (3, [.ref (A.a 1), .ref (A.a 2), .ref (A.a 3)])),
  (A.a 1, .inr (0, [.ref (A.a 4), .ref (A.a 5), .ref (A.a 6), .ref (A.a 7), .ref (A.a 8), .ref (A.a 9), .ref (A.a 10), .int (iI G.nn), .int (iI G.rr)])),
  (A.a 2, .inr (1, [.ref (A.a 1), .int (iI G.vn), .int (iI G.vc), .int (iI G.vs), .int (iI G.vw), .long (G.tt 0), .long (G.tt 1), .long (G.tt 2), .long (G.tt 3)])),
  (A.a 3, .inr (2, [.ref (A.a 1), .ref (A.a 2), .ref (A.a 11), .ref (A.a 12), .ref (A.a 13), .ref (A.a 14), .int (iI Y.ws)])),
  (A.a 4, .inl (A.cZ, 8, .inl (cF G.tu))),
  (A.a 5, .inl (A.cZ, 8, .inl (cF G.st))),
  (A.a 6, .inl (A.cI, 24, .inl (cF G.sm))),
  (A.a 7, .inl (A.cI, 12, .inl (cF G.mi))),
  (A.a 8, .inl (A.cI, 12, .inl (cF G.pr))),
  (A.a 9, .inl (A.cI, 24, .inl (cF G.de))),
  (A.a 10, .inl (A.cZ, 24, .inl (cF G.sa))),
  (A.a 11, .inl (A.cI, 25, .inl (cZ Y.wm))),
  (A.a 12, .inl (A.cI, 25, .inl (cF Y.wl))),
  (A.a 13, .inl (A.cO, 25, .inr (.inr (.inr (.inr (fun i => if i < 25 then some (A.w i) else none)))))),
  (A.a 14, .inl (A.cZ, 24, .inl (cF Y.we)))]
def CR (A : AD) (Y : YS) : va_W := (List.range 25).map (fun i => (A.w i, .inl (A.cI, 24, .inl (cF (Y.wr i)))))
def CW (A : AD) (G : GS) (Y : YS) : va_W := CF A G Y ++ CR A Y
def cAdr (A : AD) : List Nat := [A.a 0, A.a 1, A.a 2, A.a 3, A.a 4, A.a 5, A.a 6, A.a 7, A.a 8, A.a 9, A.a 10, A.a 11, A.a 12, A.a 13, A.a 14] ++ (List.range 25).map A.w
theorem CW_adr (A : AD) (G : GS) (Y : YS) : (CW A G Y).map Prod.fst = cAdr A := by
  unfold CW CR cAdr
  rw [List.map_append, List.map_map]
  rfl
/-- the reference: 0 itself, 1.. its rows -/
def DW (A : AD) (G : GS) (Z : ZS) : va_W := [
  (A.a 0, .inr (4, [.int (iI Z.th), .int (iI G.nn), .ref (A.a 1), .ref (A.a 2), .int (iI G.rr), .ref (A.a 3), .ref (A.a 4), .ref (A.a 5), .ref (A.a 6), .ref (A.a 7), .int (iI G.vn), .int (iI G.vc), .int (iI G.vs), .int (iI G.vw), .ref (A.a 8), .ref (A.a 9), .int (iI Z.gn), .int (iI Z.gs)])),
  (A.a 1, .inl (A.cZ, 8, .inl (cF G.tu))),
  (A.a 2, .inl (A.cZ, 8, .inl (cF G.st))),
  (A.a 3, .inl (A.cI, 24, .inl (cF G.sm))),
  (A.a 4, .inl (A.cI, 12, .inl (cF G.mi))),
  (A.a 5, .inl (A.cI, 12, .inl (cF G.pr))),
  (A.a 6, .inl (A.cI, 24, .inl (cF G.de))),
  (A.a 7, .inl (A.cZ, 24, .inl (cF G.sa))),
  (A.a 8, .inl (A.cJ, 4, .inr (.inl G.tt))),
  (A.a 9, .inl (A.cI, 104, .inl (cF Z.wt)))]
def dAdr (A : AD) : List Nat := [A.a 0, A.a 1, A.a 2, A.a 3, A.a 4, A.a 5, A.a 6, A.a 7, A.a 8, A.a 9]
theorem DW_adr (A : AD) (G : GS) (Z : ZS) : (DW A G Z).map Prod.fst = dAdr A := rfl
/-- a list's places are apart -/
def aND (l : List Nat) : Prop := ∀ (i j q : Nat), l[i]? = some q → l[j]? = some q → i = j
theorem aND_D {A0 : Nat → Prop} {l : List Nat} {ws : va_W} (e : ws.map Prod.fst = l) (h : aND l) (hA : ∀ q ∈ l, A0 q) : va_D A0 ws := by
  have key : ∀ (k : Nat) (q : Nat × va_E), ws[k]? = some q → l[k]? = some q.1 := fun k q hk => by
    rw [← e, List.getElem?_map, hk]; rfl
  exact ⟨fun i j p q hi hj hpq => h i j p.1 (key i p hi) (by rw [hpq]; exact key j q hj), fun k q hk => hA q.1 (List.mem_of_getElem? (key k q hk))⟩
theorem aND_of {A0 : Nat → Prop} {l : List Nat} {ws : va_W} (e : ws.map Prod.fst = l) (h : va_D A0 ws) : aND l := by
  intro i j q hi hj
  rw [← e, List.getElem?_map] at hi hj
  cases h1 : ws[i]? with
  | none => rw [h1] at hi; cases hi
  | some x =>
    cases h2 : ws[j]? with
    | none => rw [h2] at hj; cases hj
    | some y =>
      rw [h1] at hi; rw [h2] at hj
      exact h.1 i j x y h1 h2 ((Option.some.inj hi).trans (Option.some.inj hj).symm)
/-- what a method of either side may change: the cells at l, and what is new -/
def aFr (l : List Nat) (sz : Nat) : Nat → Prop := fun q => q ∈ l ∨ sz ≤ q
/-- the fixed premises of a walk -/
def aX (p : Program) (s : State) (m : MethodId) (c : Code) (cc : ByteArray) (nL : Nat) (args : Array Value) (Ts : List Cond) (own : String) (A : AD) (l : List Nat) : Prop :=
  CallFix p m c cc nL s args Ts own ∧ va_K A.D vwCl A.tys s ∧ aND l
/-- the world at a point of a walk -/
def aH (A : AD) (l : List Nat) (ws : va_W) (s : State) (H : Heap) (locs : List Loc) : Prop := va_P A.D vwCl ws H ∧ va_S (aFr l s.heap.size) s.heap H locs
theorem aX.D {p : Program} {s : State} {m : MethodId} {c : Code} {cc : ByteArray} {nL : Nat} {args : Array Value} {Ts : List Cond} {own : String} {A : AD} {l : List Nat} (X : aX p s m c cc nL args Ts own A l) {ws : va_W} (e : ws.map Prod.fst = l) : va_D (aFr l s.heap.size) ws := aND_D e X.2.2 (fun _ h => Or.inl h)
theorem CR_get {A : AD} {Y : YS} {i : Nat} (h : i < 25) (G : GS) : (CW A G Y)[15 + i]? = some (A.w i, .inl (A.cI, 24, .inl (cF (Y.wr i)))) := by
  unfold CW
  rw [List.getElem?_append_right (by show 15 ≤ 15 + i; omega), show 15 + i - (CF A G Y).length = i by show 15 + i - 15 = i; omega]
  unfold CR
  rw [List.getElem?_map, List.getElem?_range h]
  rfl
theorem CR_set {A : AD} {Y : YS} {i : Nat} (h : i < 25) (G : GS) (f : Nat → Nat) : (CW A G Y).set (15 + i) (A.w i, .inl (A.cI, 24, .inl (cF f))) = CW A G (Y.wr' (up Y.wr i f)) := by
  apply List.ext_getElem?
  intro j
  by_cases hj : j = 15 + i
  · subst hj
    have hl : 15 + i < (CW A G Y).length := (List.getElem?_eq_some_iff.mp (CR_get h G)).1
    rw [List.getElem?_set_self hl, CR_get h]
    show _ = some (A.w i, (Sum.inl (A.cI, 24, .inl (cF (up Y.wr i f i))) : va_E))
    rw [up_s]
  · rw [List.getElem?_set_ne (Ne.symm hj)]
    by_cases hl : j < 15
    · unfold CW
      rw [List.getElem?_append_left (show j < (CF A G Y).length from hl), List.getElem?_append_left (show j < (CF A G (Y.wr' (up Y.wr i f))).length from hl)]
      rfl
    · by_cases h2 : j < 40
      · obtain ⟨k, rfl⟩ : ∃ k, j = 15 + k := ⟨j - 15, by omega⟩
        rw [CR_get (show k < 25 by omega), CR_get (show k < 25 by omega)]
        show _ = some (A.w k, (Sum.inl (A.cI, 24, .inl (cF (up Y.wr i f k))) : va_E))
        rw [up_n _ _ (by omega)]
      · have e1 : ∀ Y2 : YS, (CW A G Y2).length = 40 := fun Y2 => by unfold CW CR CF; simp
        rw [List.getElem?_eq_none (by rw [e1]; omega), List.getElem?_eq_none (by rw [e1]; omega)]
section AW
variable {p : Program} {l : Launch} {e : Env} {R : Room} {s : State} {m : MethodId} {args : Array Value} {below : List Frame} {meth : Method} {c : Code} {H : Heap} {locs : List Loc} {cells slots : Nat} {Q : State → Prop}
variable {cc : ByteArray} {pc nL idx : Nat} {ls : Array Slot} {rest : List Value} {Ts : List Cond} {own : String} {A : AD} {G : GS} {Y : YS} {Z : ZS}
theorem agX3_town (X : aX p s m c cc nL args Ts own A (cAdr A)) (hC : aH A (cAdr A) (CW A G Y) s H locs) (hin : ∀ w ∈ u_ws RX3 TX3 3, w ∈ Ts) (hl : Cond.fieldLink own idx "PloughPlanner" "town" "LPloughPlanner$Town;" ∈ Ts) (hdg : decode cc pc = .ok (.getfield idx, 3)) (k : W p l e R s m args below meth c H locs cells slots Q (F0 m (pc + 3) ls (.ref (A.a 1) :: rest))) : W p l e R s m args below meth c H locs cells slots Q (F0 m pc ls (.ref (A.a 0) :: rest)) := va_get (D := A.D) (ci := 3) (v := .ref (A.a 1)) (C := RX3) (T := TX3) (N := 3) X.1.1 X.1.2.1 X.1.2.2.2.2 hin X.1.2.2.2.1 X.2.1 hC.1 0 rfl rfl 0 (by decide) (X.1.2.2.2.2 _ hl) (fun _ h => h) rfl hdg k
theorem agX3_vehicle (X : aX p s m c cc nL args Ts own A (cAdr A)) (hC : aH A (cAdr A) (CW A G Y) s H locs) (hin : ∀ w ∈ u_ws RX3 TX3 3, w ∈ Ts) (hl : Cond.fieldLink own idx "PloughPlanner" "vehicle" "LPloughPlanner$Vehicle;" ∈ Ts) (hdg : decode cc pc = .ok (.getfield idx, 3)) (k : W p l e R s m args below meth c H locs cells slots Q (F0 m (pc + 3) ls (.ref (A.a 2) :: rest))) : W p l e R s m args below meth c H locs cells slots Q (F0 m pc ls (.ref (A.a 0) :: rest)) := va_get (D := A.D) (ci := 3) (v := .ref (A.a 2)) (C := RX3) (T := TX3) (N := 3) X.1.1 X.1.2.1 X.1.2.2.2.2 hin X.1.2.2.2.1 X.2.1 hC.1 0 rfl rfl 1 (by decide) (X.1.2.2.2.2 _ hl) (fun _ h => h) rfl hdg k
theorem agX3_ways (X : aX p s m c cc nL args Ts own A (cAdr A)) (hC : aH A (cAdr A) (CW A G Y) s H locs) (hin : ∀ w ∈ u_ws RX3 TX3 3, w ∈ Ts) (hl : Cond.fieldLink own idx "PloughPlanner" "ways" "LPloughPlanner$Ways;" ∈ Ts) (hdg : decode cc pc = .ok (.getfield idx, 3)) (k : W p l e R s m args below meth c H locs cells slots Q (F0 m (pc + 3) ls (.ref (A.a 3) :: rest))) : W p l e R s m args below meth c H locs cells slots Q (F0 m pc ls (.ref (A.a 0) :: rest)) := va_get (D := A.D) (ci := 3) (v := .ref (A.a 3)) (C := RX3) (T := TX3) (N := 3) X.1.1 X.1.2.1 X.1.2.2.2.2 hin X.1.2.2.2.1 X.2.1 hC.1 0 rfl rfl 2 (by decide) (X.1.2.2.2.2 _ hl) (fun _ h => h) rfl hdg k
theorem agX0_turning (X : aX p s m c cc nL args Ts own A (cAdr A)) (hC : aH A (cAdr A) (CW A G Y) s H locs) (hin : ∀ w ∈ u_ws RX0 TX0 9, w ∈ Ts) (hl : Cond.fieldLink own idx "PloughPlanner$Town" "turning" "[Z" ∈ Ts) (hdg : decode cc pc = .ok (.getfield idx, 3)) (k : W p l e R s m args below meth c H locs cells slots Q (F0 m (pc + 3) ls (.ref (A.a 4) :: rest))) : W p l e R s m args below meth c H locs cells slots Q (F0 m pc ls (.ref (A.a 1) :: rest)) := va_get (D := A.D) (ci := 0) (v := .ref (A.a 4)) (C := RX0) (T := TX0) (N := 9) X.1.1 X.1.2.1 X.1.2.2.2.2 hin X.1.2.2.2.1 X.2.1 hC.1 1 rfl rfl 0 (by decide) (X.1.2.2.2.2 _ hl) (fun _ h => h) rfl hdg k
theorem agX0_stores (X : aX p s m c cc nL args Ts own A (cAdr A)) (hC : aH A (cAdr A) (CW A G Y) s H locs) (hin : ∀ w ∈ u_ws RX0 TX0 9, w ∈ Ts) (hl : Cond.fieldLink own idx "PloughPlanner$Town" "stores" "[Z" ∈ Ts) (hdg : decode cc pc = .ok (.getfield idx, 3)) (k : W p l e R s m args below meth c H locs cells slots Q (F0 m (pc + 3) ls (.ref (A.a 5) :: rest))) : W p l e R s m args below meth c H locs cells slots Q (F0 m pc ls (.ref (A.a 1) :: rest)) := va_get (D := A.D) (ci := 0) (v := .ref (A.a 5)) (C := RX0) (T := TX0) (N := 9) X.1.1 X.1.2.1 X.1.2.2.2.2 hin X.1.2.2.2.1 X.2.1 hC.1 1 rfl rfl 1 (by decide) (X.1.2.2.2.2 _ hl) (fun _ h => h) rfl hdg k
theorem agX0_starts (X : aX p s m c cc nL args Ts own A (cAdr A)) (hC : aH A (cAdr A) (CW A G Y) s H locs) (hin : ∀ w ∈ u_ws RX0 TX0 9, w ∈ Ts) (hl : Cond.fieldLink own idx "PloughPlanner$Town" "starts" "[I" ∈ Ts) (hdg : decode cc pc = .ok (.getfield idx, 3)) (k : W p l e R s m args below meth c H locs cells slots Q (F0 m (pc + 3) ls (.ref (A.a 6) :: rest))) : W p l e R s m args below meth c H locs cells slots Q (F0 m pc ls (.ref (A.a 1) :: rest)) := va_get (D := A.D) (ci := 0) (v := .ref (A.a 6)) (C := RX0) (T := TX0) (N := 9) X.1.1 X.1.2.1 X.1.2.2.2.2 hin X.1.2.2.2.1 X.2.1 hC.1 1 rfl rfl 2 (by decide) (X.1.2.2.2.2 _ hl) (fun _ h => h) rfl hdg k
theorem agX0_minutes (X : aX p s m c cc nL args Ts own A (cAdr A)) (hC : aH A (cAdr A) (CW A G Y) s H locs) (hin : ∀ w ∈ u_ws RX0 TX0 9, w ∈ Ts) (hl : Cond.fieldLink own idx "PloughPlanner$Town" "minutes" "[I" ∈ Ts) (hdg : decode cc pc = .ok (.getfield idx, 3)) (k : W p l e R s m args below meth c H locs cells slots Q (F0 m (pc + 3) ls (.ref (A.a 7) :: rest))) : W p l e R s m args below meth c H locs cells slots Q (F0 m pc ls (.ref (A.a 1) :: rest)) := va_get (D := A.D) (ci := 0) (v := .ref (A.a 7)) (C := RX0) (T := TX0) (N := 9) X.1.1 X.1.2.1 X.1.2.2.2.2 hin X.1.2.2.2.1 X.2.1 hC.1 1 rfl rfl 3 (by decide) (X.1.2.2.2.2 _ hl) (fun _ h => h) rfl hdg k
theorem agX0_priorities (X : aX p s m c cc nL args Ts own A (cAdr A)) (hC : aH A (cAdr A) (CW A G Y) s H locs) (hin : ∀ w ∈ u_ws RX0 TX0 9, w ∈ Ts) (hl : Cond.fieldLink own idx "PloughPlanner$Town" "priorities" "[I" ∈ Ts) (hdg : decode cc pc = .ok (.getfield idx, 3)) (k : W p l e R s m args below meth c H locs cells slots Q (F0 m (pc + 3) ls (.ref (A.a 8) :: rest))) : W p l e R s m args below meth c H locs cells slots Q (F0 m pc ls (.ref (A.a 1) :: rest)) := va_get (D := A.D) (ci := 0) (v := .ref (A.a 8)) (C := RX0) (T := TX0) (N := 9) X.1.1 X.1.2.1 X.1.2.2.2.2 hin X.1.2.2.2.1 X.2.1 hC.1 1 rfl rfl 4 (by decide) (X.1.2.2.2.2 _ hl) (fun _ h => h) rfl hdg k
theorem agX0_depths (X : aX p s m c cc nL args Ts own A (cAdr A)) (hC : aH A (cAdr A) (CW A G Y) s H locs) (hin : ∀ w ∈ u_ws RX0 TX0 9, w ∈ Ts) (hl : Cond.fieldLink own idx "PloughPlanner$Town" "depths" "[I" ∈ Ts) (hdg : decode cc pc = .ok (.getfield idx, 3)) (k : W p l e R s m args below meth c H locs cells slots Q (F0 m (pc + 3) ls (.ref (A.a 9) :: rest))) : W p l e R s m args below meth c H locs cells slots Q (F0 m pc ls (.ref (A.a 1) :: rest)) := va_get (D := A.D) (ci := 0) (v := .ref (A.a 9)) (C := RX0) (T := TX0) (N := 9) X.1.1 X.1.2.1 X.1.2.2.2.2 hin X.1.2.2.2.1 X.2.1 hC.1 1 rfl rfl 5 (by decide) (X.1.2.2.2.2 _ hl) (fun _ h => h) rfl hdg k
theorem agX0_salted (X : aX p s m c cc nL args Ts own A (cAdr A)) (hC : aH A (cAdr A) (CW A G Y) s H locs) (hin : ∀ w ∈ u_ws RX0 TX0 9, w ∈ Ts) (hl : Cond.fieldLink own idx "PloughPlanner$Town" "salted" "[Z" ∈ Ts) (hdg : decode cc pc = .ok (.getfield idx, 3)) (k : W p l e R s m args below meth c H locs cells slots Q (F0 m (pc + 3) ls (.ref (A.a 10) :: rest))) : W p l e R s m args below meth c H locs cells slots Q (F0 m pc ls (.ref (A.a 1) :: rest)) := va_get (D := A.D) (ci := 0) (v := .ref (A.a 10)) (C := RX0) (T := TX0) (N := 9) X.1.1 X.1.2.1 X.1.2.2.2.2 hin X.1.2.2.2.1 X.2.1 hC.1 1 rfl rfl 6 (by decide) (X.1.2.2.2.2 _ hl) (fun _ h => h) rfl hdg k
theorem agX0_nodes (X : aX p s m c cc nL args Ts own A (cAdr A)) (hC : aH A (cAdr A) (CW A G Y) s H locs) (hin : ∀ w ∈ u_ws RX0 TX0 9, w ∈ Ts) (hl : Cond.fieldLink own idx "PloughPlanner$Town" "nodes" "I" ∈ Ts) (hdg : decode cc pc = .ok (.getfield idx, 3)) {v : Int} (hv : (G.nn : Int) = v) (k : W p l e R s m args below meth c H locs cells slots Q (F0 m (pc + 3) ls (.int (iI v) :: rest))) : W p l e R s m args below meth c H locs cells slots Q (F0 m pc ls (.ref (A.a 1) :: rest)) := by
  subst hv
  exact va_get (D := A.D) (ci := 0) (v := .int (iI (G.nn : Int))) (C := RX0) (T := TX0) (N := 9) X.1.1 X.1.2.1 X.1.2.2.2.2 hin X.1.2.2.2.1 X.2.1 hC.1 1 rfl rfl 7 (by decide) (X.1.2.2.2.2 _ hl) (fun _ h => h) rfl hdg k
theorem apX0_nodes (X : aX p s m c cc nL args Ts own A (cAdr A)) (hC : aH A (cAdr A) (CW A G Y) s H locs) (hin : ∀ w ∈ u_ws RX0 TX0 9, w ∈ Ts) (hl : Cond.fieldLink own idx "PloughPlanner$Town" "nodes" "I" ∈ Ts) (hdg : decode cc pc = .ok (.putfield idx, 3)) {v : Int} {x : Nat} (hv : v = (x : Int)) (k : ∀ H1 locs1, aH A (cAdr A) (CW A (G.nn' x) Y) s H1 locs1 → W p l e R s m args below meth c H1 locs1 cells slots Q (F0 m (pc + 3) ls rest)) : W p l e R s m args below meth c H locs cells slots Q (F0 m pc ls (.int (iI v) :: .ref (A.a 1) :: rest)) := by
  subst hv
  exact va_put (D := A.D) (ci := 0) (v := .int (iI (x : Int))) (ty := .int) (C := RX0) (T := TX0) (N := 9) X.1.1 X.1.2.1 X.1.2.2.2.2 hin tyX0 tyX0_ok nmX0 X.1.2.2.2.1 X.2.1 hC.1 (X.D (CW_adr A G Y)) hC.2 1 rfl rfl 7 (by decide) (X.1.2.2.2.2 _ hl) (fun _ h => h) rfl (by decide +kernel) rfl rfl (Nat.le_of_ble_eq_true rfl) hdg (fun H1 locs1 hP _ hS => k H1 locs1 ⟨hP, hS⟩)
theorem agX0_roads (X : aX p s m c cc nL args Ts own A (cAdr A)) (hC : aH A (cAdr A) (CW A G Y) s H locs) (hin : ∀ w ∈ u_ws RX0 TX0 9, w ∈ Ts) (hl : Cond.fieldLink own idx "PloughPlanner$Town" "roads" "I" ∈ Ts) (hdg : decode cc pc = .ok (.getfield idx, 3)) {v : Int} (hv : (G.rr : Int) = v) (k : W p l e R s m args below meth c H locs cells slots Q (F0 m (pc + 3) ls (.int (iI v) :: rest))) : W p l e R s m args below meth c H locs cells slots Q (F0 m pc ls (.ref (A.a 1) :: rest)) := by
  subst hv
  exact va_get (D := A.D) (ci := 0) (v := .int (iI (G.rr : Int))) (C := RX0) (T := TX0) (N := 9) X.1.1 X.1.2.1 X.1.2.2.2.2 hin X.1.2.2.2.1 X.2.1 hC.1 1 rfl rfl 8 (by decide) (X.1.2.2.2.2 _ hl) (fun _ h => h) rfl hdg k
theorem apX0_roads (X : aX p s m c cc nL args Ts own A (cAdr A)) (hC : aH A (cAdr A) (CW A G Y) s H locs) (hin : ∀ w ∈ u_ws RX0 TX0 9, w ∈ Ts) (hl : Cond.fieldLink own idx "PloughPlanner$Town" "roads" "I" ∈ Ts) (hdg : decode cc pc = .ok (.putfield idx, 3)) {v : Int} {x : Nat} (hv : v = (x : Int)) (k : ∀ H1 locs1, aH A (cAdr A) (CW A (G.rr' x) Y) s H1 locs1 → W p l e R s m args below meth c H1 locs1 cells slots Q (F0 m (pc + 3) ls rest)) : W p l e R s m args below meth c H locs cells slots Q (F0 m pc ls (.int (iI v) :: .ref (A.a 1) :: rest)) := by
  subst hv
  exact va_put (D := A.D) (ci := 0) (v := .int (iI (x : Int))) (ty := .int) (C := RX0) (T := TX0) (N := 9) X.1.1 X.1.2.1 X.1.2.2.2.2 hin tyX0 tyX0_ok nmX0 X.1.2.2.2.1 X.2.1 hC.1 (X.D (CW_adr A G Y)) hC.2 1 rfl rfl 8 (by decide) (X.1.2.2.2.2 _ hl) (fun _ h => h) rfl (by decide +kernel) rfl rfl (Nat.le_of_ble_eq_true rfl) hdg (fun H1 locs1 hP _ hS => k H1 locs1 ⟨hP, hS⟩)
theorem agX1_town (X : aX p s m c cc nL args Ts own A (cAdr A)) (hC : aH A (cAdr A) (CW A G Y) s H locs) (hin : ∀ w ∈ u_ws RX1 TX1 9, w ∈ Ts) (hl : Cond.fieldLink own idx "PloughPlanner$Vehicle" "town" "LPloughPlanner$Town;" ∈ Ts) (hdg : decode cc pc = .ok (.getfield idx, 3)) (k : W p l e R s m args below meth c H locs cells slots Q (F0 m (pc + 3) ls (.ref (A.a 1) :: rest))) : W p l e R s m args below meth c H locs cells slots Q (F0 m pc ls (.ref (A.a 2) :: rest)) := va_get (D := A.D) (ci := 1) (v := .ref (A.a 1)) (C := RX1) (T := TX1) (N := 9) X.1.1 X.1.2.1 X.1.2.2.2.2 hin X.1.2.2.2.1 X.2.1 hC.1 2 rfl rfl 0 (by decide) (X.1.2.2.2.2 _ hl) (fun _ h => h) rfl hdg k
theorem agX1_node (X : aX p s m c cc nL args Ts own A (cAdr A)) (hC : aH A (cAdr A) (CW A G Y) s H locs) (hin : ∀ w ∈ u_ws RX1 TX1 9, w ∈ Ts) (hl : Cond.fieldLink own idx "PloughPlanner$Vehicle" "node" "I" ∈ Ts) (hdg : decode cc pc = .ok (.getfield idx, 3)) {v : Int} (hv : (G.vn : Int) = v) (k : W p l e R s m args below meth c H locs cells slots Q (F0 m (pc + 3) ls (.int (iI v) :: rest))) : W p l e R s m args below meth c H locs cells slots Q (F0 m pc ls (.ref (A.a 2) :: rest)) := by
  subst hv
  exact va_get (D := A.D) (ci := 1) (v := .int (iI (G.vn : Int))) (C := RX1) (T := TX1) (N := 9) X.1.1 X.1.2.1 X.1.2.2.2.2 hin X.1.2.2.2.1 X.2.1 hC.1 2 rfl rfl 1 (by decide) (X.1.2.2.2.2 _ hl) (fun _ h => h) rfl hdg k
theorem apX1_node (X : aX p s m c cc nL args Ts own A (cAdr A)) (hC : aH A (cAdr A) (CW A G Y) s H locs) (hin : ∀ w ∈ u_ws RX1 TX1 9, w ∈ Ts) (hl : Cond.fieldLink own idx "PloughPlanner$Vehicle" "node" "I" ∈ Ts) (hdg : decode cc pc = .ok (.putfield idx, 3)) {v : Int} {x : Nat} (hv : v = (x : Int)) (k : ∀ H1 locs1, aH A (cAdr A) (CW A (G.vn' x) Y) s H1 locs1 → W p l e R s m args below meth c H1 locs1 cells slots Q (F0 m (pc + 3) ls rest)) : W p l e R s m args below meth c H locs cells slots Q (F0 m pc ls (.int (iI v) :: .ref (A.a 2) :: rest)) := by
  subst hv
  exact va_put (D := A.D) (ci := 1) (v := .int (iI (x : Int))) (ty := .int) (C := RX1) (T := TX1) (N := 9) X.1.1 X.1.2.1 X.1.2.2.2.2 hin tyX1 tyX1_ok nmX1 X.1.2.2.2.1 X.2.1 hC.1 (X.D (CW_adr A G Y)) hC.2 2 rfl rfl 1 (by decide) (X.1.2.2.2.2 _ hl) (fun _ h => h) rfl (by decide +kernel) rfl rfl (Nat.le_of_ble_eq_true rfl) hdg (fun H1 locs1 hP _ hS => k H1 locs1 ⟨hP, hS⟩)
theorem agX1_cameBy (X : aX p s m c cc nL args Ts own A (cAdr A)) (hC : aH A (cAdr A) (CW A G Y) s H locs) (hin : ∀ w ∈ u_ws RX1 TX1 9, w ∈ Ts) (hl : Cond.fieldLink own idx "PloughPlanner$Vehicle" "cameBy" "I" ∈ Ts) (hdg : decode cc pc = .ok (.getfield idx, 3)) {v : Int} (hv : G.vc = v) (k : W p l e R s m args below meth c H locs cells slots Q (F0 m (pc + 3) ls (.int (iI v) :: rest))) : W p l e R s m args below meth c H locs cells slots Q (F0 m pc ls (.ref (A.a 2) :: rest)) := by
  subst hv
  exact va_get (D := A.D) (ci := 1) (v := .int (iI G.vc)) (C := RX1) (T := TX1) (N := 9) X.1.1 X.1.2.1 X.1.2.2.2.2 hin X.1.2.2.2.1 X.2.1 hC.1 2 rfl rfl 2 (by decide) (X.1.2.2.2.2 _ hl) (fun _ h => h) rfl hdg k
theorem apX1_cameBy (X : aX p s m c cc nL args Ts own A (cAdr A)) (hC : aH A (cAdr A) (CW A G Y) s H locs) (hin : ∀ w ∈ u_ws RX1 TX1 9, w ∈ Ts) (hl : Cond.fieldLink own idx "PloughPlanner$Vehicle" "cameBy" "I" ∈ Ts) (hdg : decode cc pc = .ok (.putfield idx, 3)) {v : Int} {x : Int} (hv : v = x) (k : ∀ H1 locs1, aH A (cAdr A) (CW A (G.vc' x) Y) s H1 locs1 → W p l e R s m args below meth c H1 locs1 cells slots Q (F0 m (pc + 3) ls rest)) : W p l e R s m args below meth c H locs cells slots Q (F0 m pc ls (.int (iI v) :: .ref (A.a 2) :: rest)) := by
  subst hv
  exact va_put (D := A.D) (ci := 1) (v := .int (iI v)) (ty := .int) (C := RX1) (T := TX1) (N := 9) X.1.1 X.1.2.1 X.1.2.2.2.2 hin tyX1 tyX1_ok nmX1 X.1.2.2.2.1 X.2.1 hC.1 (X.D (CW_adr A G Y)) hC.2 2 rfl rfl 2 (by decide) (X.1.2.2.2.2 _ hl) (fun _ h => h) rfl (by decide +kernel) rfl rfl (Nat.le_of_ble_eq_true rfl) hdg (fun H1 locs1 hP _ hS => k H1 locs1 ⟨hP, hS⟩)
theorem agX1_salt (X : aX p s m c cc nL args Ts own A (cAdr A)) (hC : aH A (cAdr A) (CW A G Y) s H locs) (hin : ∀ w ∈ u_ws RX1 TX1 9, w ∈ Ts) (hl : Cond.fieldLink own idx "PloughPlanner$Vehicle" "salt" "I" ∈ Ts) (hdg : decode cc pc = .ok (.getfield idx, 3)) {v : Int} (hv : (G.vs : Int) = v) (k : W p l e R s m args below meth c H locs cells slots Q (F0 m (pc + 3) ls (.int (iI v) :: rest))) : W p l e R s m args below meth c H locs cells slots Q (F0 m pc ls (.ref (A.a 2) :: rest)) := by
  subst hv
  exact va_get (D := A.D) (ci := 1) (v := .int (iI (G.vs : Int))) (C := RX1) (T := TX1) (N := 9) X.1.1 X.1.2.1 X.1.2.2.2.2 hin X.1.2.2.2.1 X.2.1 hC.1 2 rfl rfl 3 (by decide) (X.1.2.2.2.2 _ hl) (fun _ h => h) rfl hdg k
theorem apX1_salt (X : aX p s m c cc nL args Ts own A (cAdr A)) (hC : aH A (cAdr A) (CW A G Y) s H locs) (hin : ∀ w ∈ u_ws RX1 TX1 9, w ∈ Ts) (hl : Cond.fieldLink own idx "PloughPlanner$Vehicle" "salt" "I" ∈ Ts) (hdg : decode cc pc = .ok (.putfield idx, 3)) {v : Int} {x : Nat} (hv : v = (x : Int)) (k : ∀ H1 locs1, aH A (cAdr A) (CW A (G.vs' x) Y) s H1 locs1 → W p l e R s m args below meth c H1 locs1 cells slots Q (F0 m (pc + 3) ls rest)) : W p l e R s m args below meth c H locs cells slots Q (F0 m pc ls (.int (iI v) :: .ref (A.a 2) :: rest)) := by
  subst hv
  exact va_put (D := A.D) (ci := 1) (v := .int (iI (x : Int))) (ty := .int) (C := RX1) (T := TX1) (N := 9) X.1.1 X.1.2.1 X.1.2.2.2.2 hin tyX1 tyX1_ok nmX1 X.1.2.2.2.1 X.2.1 hC.1 (X.D (CW_adr A G Y)) hC.2 2 rfl rfl 3 (by decide) (X.1.2.2.2.2 _ hl) (fun _ h => h) rfl (by decide +kernel) rfl rfl (Nat.le_of_ble_eq_true rfl) hdg (fun H1 locs1 hP _ hS => k H1 locs1 ⟨hP, hS⟩)
theorem agX1_strewing (X : aX p s m c cc nL args Ts own A (cAdr A)) (hC : aH A (cAdr A) (CW A G Y) s H locs) (hin : ∀ w ∈ u_ws RX1 TX1 9, w ∈ Ts) (hl : Cond.fieldLink own idx "PloughPlanner$Vehicle" "strewing" "Z" ∈ Ts) (hdg : decode cc pc = .ok (.getfield idx, 3)) {v : Int} (hv : (G.vw : Int) = v) (k : W p l e R s m args below meth c H locs cells slots Q (F0 m (pc + 3) ls (.int (iI v) :: rest))) : W p l e R s m args below meth c H locs cells slots Q (F0 m pc ls (.ref (A.a 2) :: rest)) := by
  subst hv
  exact va_get (D := A.D) (ci := 1) (v := .int (iI (G.vw : Int))) (C := RX1) (T := TX1) (N := 9) X.1.1 X.1.2.1 X.1.2.2.2.2 hin X.1.2.2.2.1 X.2.1 hC.1 2 rfl rfl 4 (by decide) (X.1.2.2.2.2 _ hl) (fun _ h => h) rfl hdg k
theorem apX1_strewing (X : aX p s m c cc nL args Ts own A (cAdr A)) (hC : aH A (cAdr A) (CW A G Y) s H locs) (hin : ∀ w ∈ u_ws RX1 TX1 9, w ∈ Ts) (hl : Cond.fieldLink own idx "PloughPlanner$Vehicle" "strewing" "Z" ∈ Ts) (hdg : decode cc pc = .ok (.putfield idx, 3)) {v : Int} {x : Nat} (hv : v = (x : Int)) (h01 : 0 ≤ v ∧ v ≤ 1) (k : ∀ H1 locs1, aH A (cAdr A) (CW A (G.vw' x) Y) s H1 locs1 → W p l e R s m args below meth c H1 locs1 cells slots Q (F0 m (pc + 3) ls rest)) : W p l e R s m args below meth c H locs cells slots Q (F0 m pc ls (.int (iI v) :: .ref (A.a 2) :: rest)) := by
  subst hv
  exact va_put (D := A.D) (ci := 1) (v := .int (iI (x : Int))) (ty := .boolean) (C := RX1) (T := TX1) (N := 9) X.1.1 X.1.2.1 X.1.2.2.2.2 hin tyX1 tyX1_ok nmX1 X.1.2.2.2.1 X.2.1 hC.1 (X.D (CW_adr A G Y)) hC.2 2 rfl rfl 4 (by decide) (X.1.2.2.2.2 _ hl) (fun _ h => h) rfl (by decide +kernel) (nar_b2 h01) (fit_b2 h01) (Nat.le_of_ble_eq_true rfl) hdg (fun H1 locs1 hP _ hS => k H1 locs1 ⟨hP, hS⟩)
theorem agX1_minutesSpent (X : aX p s m c cc nL args Ts own A (cAdr A)) (hC : aH A (cAdr A) (CW A G Y) s H locs) (hin : ∀ w ∈ u_ws RX1 TX1 9, w ∈ Ts) (hl : Cond.fieldLink own idx "PloughPlanner$Vehicle" "minutesSpent" "J" ∈ Ts) (hdg : decode cc pc = .ok (.getfield idx, 3)) {v : Int64} (hv : G.tt 0 = v) (k : W p l e R s m args below meth c H locs cells slots Q (F0 m (pc + 3) ls (.long v :: rest))) : W p l e R s m args below meth c H locs cells slots Q (F0 m pc ls (.ref (A.a 2) :: rest)) := by
  subst hv
  exact va_get (D := A.D) (ci := 1) (v := .long (G.tt 0)) (C := RX1) (T := TX1) (N := 9) X.1.1 X.1.2.1 X.1.2.2.2.2 hin X.1.2.2.2.1 X.2.1 hC.1 2 rfl rfl 5 (by decide) (X.1.2.2.2.2 _ hl) (fun _ h => h) rfl hdg k
theorem apX1_minutesSpent (X : aX p s m c cc nL args Ts own A (cAdr A)) (hC : aH A (cAdr A) (CW A G Y) s H locs) (hin : ∀ w ∈ u_ws RX1 TX1 9, w ∈ Ts) (hl : Cond.fieldLink own idx "PloughPlanner$Vehicle" "minutesSpent" "J" ∈ Ts) (hdg : decode cc pc = .ok (.putfield idx, 3)) {v : Int64} (k : ∀ H1 locs1, aH A (cAdr A) (CW A (G.tt' (up G.tt 0 v)) Y) s H1 locs1 → W p l e R s m args below meth c H1 locs1 cells slots Q (F0 m (pc + 3) ls rest)) : W p l e R s m args below meth c H locs cells slots Q (F0 m pc ls (.long v :: .ref (A.a 2) :: rest)) := va_put (D := A.D) (ci := 1) (v := .long v) (ty := .long) (C := RX1) (T := TX1) (N := 9) X.1.1 X.1.2.1 X.1.2.2.2.2 hin tyX1 tyX1_ok nmX1 X.1.2.2.2.1 X.2.1 hC.1 (X.D (CW_adr A G Y)) hC.2 2 rfl rfl 5 (by decide) (X.1.2.2.2.2 _ hl) (fun _ h => h) rfl (by decide +kernel) rfl rfl (Nat.le_of_ble_eq_true rfl) hdg (fun H1 locs1 hP _ hS => k H1 locs1 ⟨hP, hS⟩)
theorem agX1_saltStrewn (X : aX p s m c cc nL args Ts own A (cAdr A)) (hC : aH A (cAdr A) (CW A G Y) s H locs) (hin : ∀ w ∈ u_ws RX1 TX1 9, w ∈ Ts) (hl : Cond.fieldLink own idx "PloughPlanner$Vehicle" "saltStrewn" "J" ∈ Ts) (hdg : decode cc pc = .ok (.getfield idx, 3)) {v : Int64} (hv : G.tt 1 = v) (k : W p l e R s m args below meth c H locs cells slots Q (F0 m (pc + 3) ls (.long v :: rest))) : W p l e R s m args below meth c H locs cells slots Q (F0 m pc ls (.ref (A.a 2) :: rest)) := by
  subst hv
  exact va_get (D := A.D) (ci := 1) (v := .long (G.tt 1)) (C := RX1) (T := TX1) (N := 9) X.1.1 X.1.2.1 X.1.2.2.2.2 hin X.1.2.2.2.1 X.2.1 hC.1 2 rfl rfl 6 (by decide) (X.1.2.2.2.2 _ hl) (fun _ h => h) rfl hdg k
theorem apX1_saltStrewn (X : aX p s m c cc nL args Ts own A (cAdr A)) (hC : aH A (cAdr A) (CW A G Y) s H locs) (hin : ∀ w ∈ u_ws RX1 TX1 9, w ∈ Ts) (hl : Cond.fieldLink own idx "PloughPlanner$Vehicle" "saltStrewn" "J" ∈ Ts) (hdg : decode cc pc = .ok (.putfield idx, 3)) {v : Int64} (k : ∀ H1 locs1, aH A (cAdr A) (CW A (G.tt' (up G.tt 1 v)) Y) s H1 locs1 → W p l e R s m args below meth c H1 locs1 cells slots Q (F0 m (pc + 3) ls rest)) : W p l e R s m args below meth c H locs cells slots Q (F0 m pc ls (.long v :: .ref (A.a 2) :: rest)) := va_put (D := A.D) (ci := 1) (v := .long v) (ty := .long) (C := RX1) (T := TX1) (N := 9) X.1.1 X.1.2.1 X.1.2.2.2.2 hin tyX1 tyX1_ok nmX1 X.1.2.2.2.1 X.2.1 hC.1 (X.D (CW_adr A G Y)) hC.2 2 rfl rfl 6 (by decide) (X.1.2.2.2.2 _ hl) (fun _ h => h) rfl (by decide +kernel) rfl rfl (Nat.le_of_ble_eq_true rfl) hdg (fun H1 locs1 hP _ hS => k H1 locs1 ⟨hP, hS⟩)
theorem agX1_turns (X : aX p s m c cc nL args Ts own A (cAdr A)) (hC : aH A (cAdr A) (CW A G Y) s H locs) (hin : ∀ w ∈ u_ws RX1 TX1 9, w ∈ Ts) (hl : Cond.fieldLink own idx "PloughPlanner$Vehicle" "turns" "J" ∈ Ts) (hdg : decode cc pc = .ok (.getfield idx, 3)) {v : Int64} (hv : G.tt 2 = v) (k : W p l e R s m args below meth c H locs cells slots Q (F0 m (pc + 3) ls (.long v :: rest))) : W p l e R s m args below meth c H locs cells slots Q (F0 m pc ls (.ref (A.a 2) :: rest)) := by
  subst hv
  exact va_get (D := A.D) (ci := 1) (v := .long (G.tt 2)) (C := RX1) (T := TX1) (N := 9) X.1.1 X.1.2.1 X.1.2.2.2.2 hin X.1.2.2.2.1 X.2.1 hC.1 2 rfl rfl 7 (by decide) (X.1.2.2.2.2 _ hl) (fun _ h => h) rfl hdg k
theorem apX1_turns (X : aX p s m c cc nL args Ts own A (cAdr A)) (hC : aH A (cAdr A) (CW A G Y) s H locs) (hin : ∀ w ∈ u_ws RX1 TX1 9, w ∈ Ts) (hl : Cond.fieldLink own idx "PloughPlanner$Vehicle" "turns" "J" ∈ Ts) (hdg : decode cc pc = .ok (.putfield idx, 3)) {v : Int64} (k : ∀ H1 locs1, aH A (cAdr A) (CW A (G.tt' (up G.tt 2 v)) Y) s H1 locs1 → W p l e R s m args below meth c H1 locs1 cells slots Q (F0 m (pc + 3) ls rest)) : W p l e R s m args below meth c H locs cells slots Q (F0 m pc ls (.long v :: .ref (A.a 2) :: rest)) := va_put (D := A.D) (ci := 1) (v := .long v) (ty := .long) (C := RX1) (T := TX1) (N := 9) X.1.1 X.1.2.1 X.1.2.2.2.2 hin tyX1 tyX1_ok nmX1 X.1.2.2.2.1 X.2.1 hC.1 (X.D (CW_adr A G Y)) hC.2 2 rfl rfl 7 (by decide) (X.1.2.2.2.2 _ hl) (fun _ h => h) rfl (by decide +kernel) rfl rfl (Nat.le_of_ble_eq_true rfl) hdg (fun H1 locs1 hP _ hS => k H1 locs1 ⟨hP, hS⟩)
theorem agX1_roadsGone (X : aX p s m c cc nL args Ts own A (cAdr A)) (hC : aH A (cAdr A) (CW A G Y) s H locs) (hin : ∀ w ∈ u_ws RX1 TX1 9, w ∈ Ts) (hl : Cond.fieldLink own idx "PloughPlanner$Vehicle" "roadsGone" "J" ∈ Ts) (hdg : decode cc pc = .ok (.getfield idx, 3)) {v : Int64} (hv : G.tt 3 = v) (k : W p l e R s m args below meth c H locs cells slots Q (F0 m (pc + 3) ls (.long v :: rest))) : W p l e R s m args below meth c H locs cells slots Q (F0 m pc ls (.ref (A.a 2) :: rest)) := by
  subst hv
  exact va_get (D := A.D) (ci := 1) (v := .long (G.tt 3)) (C := RX1) (T := TX1) (N := 9) X.1.1 X.1.2.1 X.1.2.2.2.2 hin X.1.2.2.2.1 X.2.1 hC.1 2 rfl rfl 8 (by decide) (X.1.2.2.2.2 _ hl) (fun _ h => h) rfl hdg k
theorem apX1_roadsGone (X : aX p s m c cc nL args Ts own A (cAdr A)) (hC : aH A (cAdr A) (CW A G Y) s H locs) (hin : ∀ w ∈ u_ws RX1 TX1 9, w ∈ Ts) (hl : Cond.fieldLink own idx "PloughPlanner$Vehicle" "roadsGone" "J" ∈ Ts) (hdg : decode cc pc = .ok (.putfield idx, 3)) {v : Int64} (k : ∀ H1 locs1, aH A (cAdr A) (CW A (G.tt' (up G.tt 3 v)) Y) s H1 locs1 → W p l e R s m args below meth c H1 locs1 cells slots Q (F0 m (pc + 3) ls rest)) : W p l e R s m args below meth c H locs cells slots Q (F0 m pc ls (.long v :: .ref (A.a 2) :: rest)) := va_put (D := A.D) (ci := 1) (v := .long v) (ty := .long) (C := RX1) (T := TX1) (N := 9) X.1.1 X.1.2.1 X.1.2.2.2.2 hin tyX1 tyX1_ok nmX1 X.1.2.2.2.1 X.2.1 hC.1 (X.D (CW_adr A G Y)) hC.2 2 rfl rfl 8 (by decide) (X.1.2.2.2.2 _ hl) (fun _ h => h) rfl (by decide +kernel) rfl rfl (Nat.le_of_ble_eq_true rfl) hdg (fun H1 locs1 hP _ hS => k H1 locs1 ⟨hP, hS⟩)
theorem agX2_town (X : aX p s m c cc nL args Ts own A (cAdr A)) (hC : aH A (cAdr A) (CW A G Y) s H locs) (hin : ∀ w ∈ u_ws RX2 TX2 7, w ∈ Ts) (hl : Cond.fieldLink own idx "PloughPlanner$Ways" "town" "LPloughPlanner$Town;" ∈ Ts) (hdg : decode cc pc = .ok (.getfield idx, 3)) (k : W p l e R s m args below meth c H locs cells slots Q (F0 m (pc + 3) ls (.ref (A.a 1) :: rest))) : W p l e R s m args below meth c H locs cells slots Q (F0 m pc ls (.ref (A.a 3) :: rest)) := va_get (D := A.D) (ci := 2) (v := .ref (A.a 1)) (C := RX2) (T := TX2) (N := 7) X.1.1 X.1.2.1 X.1.2.2.2.2 hin X.1.2.2.2.1 X.2.1 hC.1 3 rfl rfl 0 (by decide) (X.1.2.2.2.2 _ hl) (fun _ h => h) rfl hdg k
theorem agX2_vehicle (X : aX p s m c cc nL args Ts own A (cAdr A)) (hC : aH A (cAdr A) (CW A G Y) s H locs) (hin : ∀ w ∈ u_ws RX2 TX2 7, w ∈ Ts) (hl : Cond.fieldLink own idx "PloughPlanner$Ways" "vehicle" "LPloughPlanner$Vehicle;" ∈ Ts) (hdg : decode cc pc = .ok (.getfield idx, 3)) (k : W p l e R s m args below meth c H locs cells slots Q (F0 m (pc + 3) ls (.ref (A.a 2) :: rest))) : W p l e R s m args below meth c H locs cells slots Q (F0 m pc ls (.ref (A.a 3) :: rest)) := va_get (D := A.D) (ci := 2) (v := .ref (A.a 2)) (C := RX2) (T := TX2) (N := 7) X.1.1 X.1.2.1 X.1.2.2.2.2 hin X.1.2.2.2.1 X.2.1 hC.1 3 rfl rfl 1 (by decide) (X.1.2.2.2.2 _ hl) (fun _ h => h) rfl hdg k
theorem agX2_minutes (X : aX p s m c cc nL args Ts own A (cAdr A)) (hC : aH A (cAdr A) (CW A G Y) s H locs) (hin : ∀ w ∈ u_ws RX2 TX2 7, w ∈ Ts) (hl : Cond.fieldLink own idx "PloughPlanner$Ways" "minutes" "[I" ∈ Ts) (hdg : decode cc pc = .ok (.getfield idx, 3)) (k : W p l e R s m args below meth c H locs cells slots Q (F0 m (pc + 3) ls (.ref (A.a 11) :: rest))) : W p l e R s m args below meth c H locs cells slots Q (F0 m pc ls (.ref (A.a 3) :: rest)) := va_get (D := A.D) (ci := 2) (v := .ref (A.a 11)) (C := RX2) (T := TX2) (N := 7) X.1.1 X.1.2.1 X.1.2.2.2.2 hin X.1.2.2.2.1 X.2.1 hC.1 3 rfl rfl 2 (by decide) (X.1.2.2.2.2 _ hl) (fun _ h => h) rfl hdg k
theorem agX2_lengths (X : aX p s m c cc nL args Ts own A (cAdr A)) (hC : aH A (cAdr A) (CW A G Y) s H locs) (hin : ∀ w ∈ u_ws RX2 TX2 7, w ∈ Ts) (hl : Cond.fieldLink own idx "PloughPlanner$Ways" "lengths" "[I" ∈ Ts) (hdg : decode cc pc = .ok (.getfield idx, 3)) (k : W p l e R s m args below meth c H locs cells slots Q (F0 m (pc + 3) ls (.ref (A.a 12) :: rest))) : W p l e R s m args below meth c H locs cells slots Q (F0 m pc ls (.ref (A.a 3) :: rest)) := va_get (D := A.D) (ci := 2) (v := .ref (A.a 12)) (C := RX2) (T := TX2) (N := 7) X.1.1 X.1.2.1 X.1.2.2.2.2 hin X.1.2.2.2.1 X.2.1 hC.1 3 rfl rfl 3 (by decide) (X.1.2.2.2.2 _ hl) (fun _ h => h) rfl hdg k
theorem agX2_rows (X : aX p s m c cc nL args Ts own A (cAdr A)) (hC : aH A (cAdr A) (CW A G Y) s H locs) (hin : ∀ w ∈ u_ws RX2 TX2 7, w ∈ Ts) (hl : Cond.fieldLink own idx "PloughPlanner$Ways" "rows" "[[I" ∈ Ts) (hdg : decode cc pc = .ok (.getfield idx, 3)) (k : W p l e R s m args below meth c H locs cells slots Q (F0 m (pc + 3) ls (.ref (A.a 13) :: rest))) : W p l e R s m args below meth c H locs cells slots Q (F0 m pc ls (.ref (A.a 3) :: rest)) := va_get (D := A.D) (ci := 2) (v := .ref (A.a 13)) (C := RX2) (T := TX2) (N := 7) X.1.1 X.1.2.1 X.1.2.2.2.2 hin X.1.2.2.2.1 X.2.1 hC.1 3 rfl rfl 4 (by decide) (X.1.2.2.2.2 _ hl) (fun _ h => h) rfl hdg k
theorem agX2_settled (X : aX p s m c cc nL args Ts own A (cAdr A)) (hC : aH A (cAdr A) (CW A G Y) s H locs) (hin : ∀ w ∈ u_ws RX2 TX2 7, w ∈ Ts) (hl : Cond.fieldLink own idx "PloughPlanner$Ways" "settled" "[Z" ∈ Ts) (hdg : decode cc pc = .ok (.getfield idx, 3)) (k : W p l e R s m args below meth c H locs cells slots Q (F0 m (pc + 3) ls (.ref (A.a 14) :: rest))) : W p l e R s m args below meth c H locs cells slots Q (F0 m pc ls (.ref (A.a 3) :: rest)) := va_get (D := A.D) (ci := 2) (v := .ref (A.a 14)) (C := RX2) (T := TX2) (N := 7) X.1.1 X.1.2.1 X.1.2.2.2.2 hin X.1.2.2.2.1 X.2.1 hC.1 3 rfl rfl 5 (by decide) (X.1.2.2.2.2 _ hl) (fun _ h => h) rfl hdg k
theorem agX2_start (X : aX p s m c cc nL args Ts own A (cAdr A)) (hC : aH A (cAdr A) (CW A G Y) s H locs) (hin : ∀ w ∈ u_ws RX2 TX2 7, w ∈ Ts) (hl : Cond.fieldLink own idx "PloughPlanner$Ways" "start" "I" ∈ Ts) (hdg : decode cc pc = .ok (.getfield idx, 3)) {v : Int} (hv : (Y.ws : Int) = v) (k : W p l e R s m args below meth c H locs cells slots Q (F0 m (pc + 3) ls (.int (iI v) :: rest))) : W p l e R s m args below meth c H locs cells slots Q (F0 m pc ls (.ref (A.a 3) :: rest)) := by
  subst hv
  exact va_get (D := A.D) (ci := 2) (v := .int (iI (Y.ws : Int))) (C := RX2) (T := TX2) (N := 7) X.1.1 X.1.2.1 X.1.2.2.2.2 hin X.1.2.2.2.1 X.2.1 hC.1 3 rfl rfl 6 (by decide) (X.1.2.2.2.2 _ hl) (fun _ h => h) rfl hdg k
theorem apX2_start (X : aX p s m c cc nL args Ts own A (cAdr A)) (hC : aH A (cAdr A) (CW A G Y) s H locs) (hin : ∀ w ∈ u_ws RX2 TX2 7, w ∈ Ts) (hl : Cond.fieldLink own idx "PloughPlanner$Ways" "start" "I" ∈ Ts) (hdg : decode cc pc = .ok (.putfield idx, 3)) {v : Int} {x : Nat} (hv : v = (x : Int)) (k : ∀ H1 locs1, aH A (cAdr A) (CW A G (Y.ws' x)) s H1 locs1 → W p l e R s m args below meth c H1 locs1 cells slots Q (F0 m (pc + 3) ls rest)) : W p l e R s m args below meth c H locs cells slots Q (F0 m pc ls (.int (iI v) :: .ref (A.a 3) :: rest)) := by
  subst hv
  exact va_put (D := A.D) (ci := 2) (v := .int (iI (x : Int))) (ty := .int) (C := RX2) (T := TX2) (N := 7) X.1.1 X.1.2.1 X.1.2.2.2.2 hin tyX2 tyX2_ok nmX2 X.1.2.2.2.1 X.2.1 hC.1 (X.D (CW_adr A G Y)) hC.2 3 rfl rfl 6 (by decide) (X.1.2.2.2.2 _ hl) (fun _ h => h) rfl (by decide +kernel) rfl rfl (Nat.le_of_ble_eq_true rfl) hdg (fun H1 locs1 hP _ hS => k H1 locs1 ⟨hP, hS⟩)
theorem agX4_thrown (X : aX p s m c cc nL args Ts own A (dAdr A)) (hC : aH A (dAdr A) (DW A G Z) s H locs) (hin : ∀ w ∈ u_ws RX4 TX4 18, w ∈ Ts) (hl : Cond.fieldLink own idx "PloughPlannerModel" "thrown" "I" ∈ Ts) (hdg : decode cc pc = .ok (.getfield idx, 3)) {v : Int} (hv : (Z.th : Int) = v) (k : W p l e R s m args below meth c H locs cells slots Q (F0 m (pc + 3) ls (.int (iI v) :: rest))) : W p l e R s m args below meth c H locs cells slots Q (F0 m pc ls (.ref (A.a 0) :: rest)) := by
  subst hv
  exact va_get (D := A.D) (ci := 4) (v := .int (iI (Z.th : Int))) (C := RX4) (T := TX4) (N := 18) X.1.1 X.1.2.1 X.1.2.2.2.2 hin X.1.2.2.2.1 X.2.1 hC.1 0 rfl rfl 0 (by decide) (X.1.2.2.2.2 _ hl) (fun _ h => h) rfl hdg k
theorem apX4_thrown (X : aX p s m c cc nL args Ts own A (dAdr A)) (hC : aH A (dAdr A) (DW A G Z) s H locs) (hin : ∀ w ∈ u_ws RX4 TX4 18, w ∈ Ts) (hl : Cond.fieldLink own idx "PloughPlannerModel" "thrown" "I" ∈ Ts) (hdg : decode cc pc = .ok (.putfield idx, 3)) {v : Int} {x : Nat} (hv : v = (x : Int)) (k : ∀ H1 locs1, aH A (dAdr A) (DW A G (Z.th' x)) s H1 locs1 → W p l e R s m args below meth c H1 locs1 cells slots Q (F0 m (pc + 3) ls rest)) : W p l e R s m args below meth c H locs cells slots Q (F0 m pc ls (.int (iI v) :: .ref (A.a 0) :: rest)) := by
  subst hv
  exact va_put (D := A.D) (ci := 4) (v := .int (iI (x : Int))) (ty := .int) (C := RX4) (T := TX4) (N := 18) X.1.1 X.1.2.1 X.1.2.2.2.2 hin tyX4 tyX4_ok nmX4 X.1.2.2.2.1 X.2.1 hC.1 (X.D (DW_adr A G Z)) hC.2 0 rfl rfl 0 (by decide) (X.1.2.2.2.2 _ hl) (fun _ h => h) rfl (by decide +kernel) rfl rfl (Nat.le_of_ble_eq_true rfl) hdg (fun H1 locs1 hP _ hS => k H1 locs1 ⟨hP, hS⟩)
theorem agX4_nodes (X : aX p s m c cc nL args Ts own A (dAdr A)) (hC : aH A (dAdr A) (DW A G Z) s H locs) (hin : ∀ w ∈ u_ws RX4 TX4 18, w ∈ Ts) (hl : Cond.fieldLink own idx "PloughPlannerModel" "nodes" "I" ∈ Ts) (hdg : decode cc pc = .ok (.getfield idx, 3)) {v : Int} (hv : (G.nn : Int) = v) (k : W p l e R s m args below meth c H locs cells slots Q (F0 m (pc + 3) ls (.int (iI v) :: rest))) : W p l e R s m args below meth c H locs cells slots Q (F0 m pc ls (.ref (A.a 0) :: rest)) := by
  subst hv
  exact va_get (D := A.D) (ci := 4) (v := .int (iI (G.nn : Int))) (C := RX4) (T := TX4) (N := 18) X.1.1 X.1.2.1 X.1.2.2.2.2 hin X.1.2.2.2.1 X.2.1 hC.1 0 rfl rfl 1 (by decide) (X.1.2.2.2.2 _ hl) (fun _ h => h) rfl hdg k
theorem apX4_nodes (X : aX p s m c cc nL args Ts own A (dAdr A)) (hC : aH A (dAdr A) (DW A G Z) s H locs) (hin : ∀ w ∈ u_ws RX4 TX4 18, w ∈ Ts) (hl : Cond.fieldLink own idx "PloughPlannerModel" "nodes" "I" ∈ Ts) (hdg : decode cc pc = .ok (.putfield idx, 3)) {v : Int} {x : Nat} (hv : v = (x : Int)) (k : ∀ H1 locs1, aH A (dAdr A) (DW A (G.nn' x) Z) s H1 locs1 → W p l e R s m args below meth c H1 locs1 cells slots Q (F0 m (pc + 3) ls rest)) : W p l e R s m args below meth c H locs cells slots Q (F0 m pc ls (.int (iI v) :: .ref (A.a 0) :: rest)) := by
  subst hv
  exact va_put (D := A.D) (ci := 4) (v := .int (iI (x : Int))) (ty := .int) (C := RX4) (T := TX4) (N := 18) X.1.1 X.1.2.1 X.1.2.2.2.2 hin tyX4 tyX4_ok nmX4 X.1.2.2.2.1 X.2.1 hC.1 (X.D (DW_adr A G Z)) hC.2 0 rfl rfl 1 (by decide) (X.1.2.2.2.2 _ hl) (fun _ h => h) rfl (by decide +kernel) rfl rfl (Nat.le_of_ble_eq_true rfl) hdg (fun H1 locs1 hP _ hS => k H1 locs1 ⟨hP, hS⟩)
theorem agX4_areTurning (X : aX p s m c cc nL args Ts own A (dAdr A)) (hC : aH A (dAdr A) (DW A G Z) s H locs) (hin : ∀ w ∈ u_ws RX4 TX4 18, w ∈ Ts) (hl : Cond.fieldLink own idx "PloughPlannerModel" "areTurning" "[Z" ∈ Ts) (hdg : decode cc pc = .ok (.getfield idx, 3)) (k : W p l e R s m args below meth c H locs cells slots Q (F0 m (pc + 3) ls (.ref (A.a 1) :: rest))) : W p l e R s m args below meth c H locs cells slots Q (F0 m pc ls (.ref (A.a 0) :: rest)) := va_get (D := A.D) (ci := 4) (v := .ref (A.a 1)) (C := RX4) (T := TX4) (N := 18) X.1.1 X.1.2.1 X.1.2.2.2.2 hin X.1.2.2.2.1 X.2.1 hC.1 0 rfl rfl 2 (by decide) (X.1.2.2.2.2 _ hl) (fun _ h => h) rfl hdg k
theorem agX4_areStores (X : aX p s m c cc nL args Ts own A (dAdr A)) (hC : aH A (dAdr A) (DW A G Z) s H locs) (hin : ∀ w ∈ u_ws RX4 TX4 18, w ∈ Ts) (hl : Cond.fieldLink own idx "PloughPlannerModel" "areStores" "[Z" ∈ Ts) (hdg : decode cc pc = .ok (.getfield idx, 3)) (k : W p l e R s m args below meth c H locs cells slots Q (F0 m (pc + 3) ls (.ref (A.a 2) :: rest))) : W p l e R s m args below meth c H locs cells slots Q (F0 m pc ls (.ref (A.a 0) :: rest)) := va_get (D := A.D) (ci := 4) (v := .ref (A.a 2)) (C := RX4) (T := TX4) (N := 18) X.1.1 X.1.2.1 X.1.2.2.2.2 hin X.1.2.2.2.1 X.2.1 hC.1 0 rfl rfl 3 (by decide) (X.1.2.2.2.2 _ hl) (fun _ h => h) rfl hdg k
theorem agX4_roads (X : aX p s m c cc nL args Ts own A (dAdr A)) (hC : aH A (dAdr A) (DW A G Z) s H locs) (hin : ∀ w ∈ u_ws RX4 TX4 18, w ∈ Ts) (hl : Cond.fieldLink own idx "PloughPlannerModel" "roads" "I" ∈ Ts) (hdg : decode cc pc = .ok (.getfield idx, 3)) {v : Int} (hv : (G.rr : Int) = v) (k : W p l e R s m args below meth c H locs cells slots Q (F0 m (pc + 3) ls (.int (iI v) :: rest))) : W p l e R s m args below meth c H locs cells slots Q (F0 m pc ls (.ref (A.a 0) :: rest)) := by
  subst hv
  exact va_get (D := A.D) (ci := 4) (v := .int (iI (G.rr : Int))) (C := RX4) (T := TX4) (N := 18) X.1.1 X.1.2.1 X.1.2.2.2.2 hin X.1.2.2.2.1 X.2.1 hC.1 0 rfl rfl 4 (by decide) (X.1.2.2.2.2 _ hl) (fun _ h => h) rfl hdg k
theorem apX4_roads (X : aX p s m c cc nL args Ts own A (dAdr A)) (hC : aH A (dAdr A) (DW A G Z) s H locs) (hin : ∀ w ∈ u_ws RX4 TX4 18, w ∈ Ts) (hl : Cond.fieldLink own idx "PloughPlannerModel" "roads" "I" ∈ Ts) (hdg : decode cc pc = .ok (.putfield idx, 3)) {v : Int} {x : Nat} (hv : v = (x : Int)) (k : ∀ H1 locs1, aH A (dAdr A) (DW A (G.rr' x) Z) s H1 locs1 → W p l e R s m args below meth c H1 locs1 cells slots Q (F0 m (pc + 3) ls rest)) : W p l e R s m args below meth c H locs cells slots Q (F0 m pc ls (.int (iI v) :: .ref (A.a 0) :: rest)) := by
  subst hv
  exact va_put (D := A.D) (ci := 4) (v := .int (iI (x : Int))) (ty := .int) (C := RX4) (T := TX4) (N := 18) X.1.1 X.1.2.1 X.1.2.2.2.2 hin tyX4 tyX4_ok nmX4 X.1.2.2.2.1 X.2.1 hC.1 (X.D (DW_adr A G Z)) hC.2 0 rfl rfl 4 (by decide) (X.1.2.2.2.2 _ hl) (fun _ h => h) rfl (by decide +kernel) rfl rfl (Nat.le_of_ble_eq_true rfl) hdg (fun H1 locs1 hP _ hS => k H1 locs1 ⟨hP, hS⟩)
theorem agX4_ends (X : aX p s m c cc nL args Ts own A (dAdr A)) (hC : aH A (dAdr A) (DW A G Z) s H locs) (hin : ∀ w ∈ u_ws RX4 TX4 18, w ∈ Ts) (hl : Cond.fieldLink own idx "PloughPlannerModel" "ends" "[I" ∈ Ts) (hdg : decode cc pc = .ok (.getfield idx, 3)) (k : W p l e R s m args below meth c H locs cells slots Q (F0 m (pc + 3) ls (.ref (A.a 3) :: rest))) : W p l e R s m args below meth c H locs cells slots Q (F0 m pc ls (.ref (A.a 0) :: rest)) := va_get (D := A.D) (ci := 4) (v := .ref (A.a 3)) (C := RX4) (T := TX4) (N := 18) X.1.1 X.1.2.1 X.1.2.2.2.2 hin X.1.2.2.2.1 X.2.1 hC.1 0 rfl rfl 5 (by decide) (X.1.2.2.2.2 _ hl) (fun _ h => h) rfl hdg k
theorem agX4_lengths (X : aX p s m c cc nL args Ts own A (dAdr A)) (hC : aH A (dAdr A) (DW A G Z) s H locs) (hin : ∀ w ∈ u_ws RX4 TX4 18, w ∈ Ts) (hl : Cond.fieldLink own idx "PloughPlannerModel" "lengths" "[I" ∈ Ts) (hdg : decode cc pc = .ok (.getfield idx, 3)) (k : W p l e R s m args below meth c H locs cells slots Q (F0 m (pc + 3) ls (.ref (A.a 4) :: rest))) : W p l e R s m args below meth c H locs cells slots Q (F0 m pc ls (.ref (A.a 0) :: rest)) := va_get (D := A.D) (ci := 4) (v := .ref (A.a 4)) (C := RX4) (T := TX4) (N := 18) X.1.1 X.1.2.1 X.1.2.2.2.2 hin X.1.2.2.2.1 X.2.1 hC.1 0 rfl rfl 6 (by decide) (X.1.2.2.2.2 _ hl) (fun _ h => h) rfl hdg k
theorem agX4_priorities (X : aX p s m c cc nL args Ts own A (dAdr A)) (hC : aH A (dAdr A) (DW A G Z) s H locs) (hin : ∀ w ∈ u_ws RX4 TX4 18, w ∈ Ts) (hl : Cond.fieldLink own idx "PloughPlannerModel" "priorities" "[I" ∈ Ts) (hdg : decode cc pc = .ok (.getfield idx, 3)) (k : W p l e R s m args below meth c H locs cells slots Q (F0 m (pc + 3) ls (.ref (A.a 5) :: rest))) : W p l e R s m args below meth c H locs cells slots Q (F0 m pc ls (.ref (A.a 0) :: rest)) := va_get (D := A.D) (ci := 4) (v := .ref (A.a 5)) (C := RX4) (T := TX4) (N := 18) X.1.1 X.1.2.1 X.1.2.2.2.2 hin X.1.2.2.2.1 X.2.1 hC.1 0 rfl rfl 7 (by decide) (X.1.2.2.2.2 _ hl) (fun _ h => h) rfl hdg k
theorem agX4_depths (X : aX p s m c cc nL args Ts own A (dAdr A)) (hC : aH A (dAdr A) (DW A G Z) s H locs) (hin : ∀ w ∈ u_ws RX4 TX4 18, w ∈ Ts) (hl : Cond.fieldLink own idx "PloughPlannerModel" "depths" "[I" ∈ Ts) (hdg : decode cc pc = .ok (.getfield idx, 3)) (k : W p l e R s m args below meth c H locs cells slots Q (F0 m (pc + 3) ls (.ref (A.a 6) :: rest))) : W p l e R s m args below meth c H locs cells slots Q (F0 m pc ls (.ref (A.a 0) :: rest)) := va_get (D := A.D) (ci := 4) (v := .ref (A.a 6)) (C := RX4) (T := TX4) (N := 18) X.1.1 X.1.2.1 X.1.2.2.2.2 hin X.1.2.2.2.1 X.2.1 hC.1 0 rfl rfl 8 (by decide) (X.1.2.2.2.2 _ hl) (fun _ h => h) rfl hdg k
theorem agX4_areSalted (X : aX p s m c cc nL args Ts own A (dAdr A)) (hC : aH A (dAdr A) (DW A G Z) s H locs) (hin : ∀ w ∈ u_ws RX4 TX4 18, w ∈ Ts) (hl : Cond.fieldLink own idx "PloughPlannerModel" "areSalted" "[Z" ∈ Ts) (hdg : decode cc pc = .ok (.getfield idx, 3)) (k : W p l e R s m args below meth c H locs cells slots Q (F0 m (pc + 3) ls (.ref (A.a 7) :: rest))) : W p l e R s m args below meth c H locs cells slots Q (F0 m pc ls (.ref (A.a 0) :: rest)) := va_get (D := A.D) (ci := 4) (v := .ref (A.a 7)) (C := RX4) (T := TX4) (N := 18) X.1.1 X.1.2.1 X.1.2.2.2.2 hin X.1.2.2.2.1 X.2.1 hC.1 0 rfl rfl 9 (by decide) (X.1.2.2.2.2 _ hl) (fun _ h => h) rfl hdg k
theorem agX4_at (X : aX p s m c cc nL args Ts own A (dAdr A)) (hC : aH A (dAdr A) (DW A G Z) s H locs) (hin : ∀ w ∈ u_ws RX4 TX4 18, w ∈ Ts) (hl : Cond.fieldLink own idx "PloughPlannerModel" "at" "I" ∈ Ts) (hdg : decode cc pc = .ok (.getfield idx, 3)) {v : Int} (hv : (G.vn : Int) = v) (k : W p l e R s m args below meth c H locs cells slots Q (F0 m (pc + 3) ls (.int (iI v) :: rest))) : W p l e R s m args below meth c H locs cells slots Q (F0 m pc ls (.ref (A.a 0) :: rest)) := by
  subst hv
  exact va_get (D := A.D) (ci := 4) (v := .int (iI (G.vn : Int))) (C := RX4) (T := TX4) (N := 18) X.1.1 X.1.2.1 X.1.2.2.2.2 hin X.1.2.2.2.1 X.2.1 hC.1 0 rfl rfl 10 (by decide) (X.1.2.2.2.2 _ hl) (fun _ h => h) rfl hdg k
theorem apX4_at (X : aX p s m c cc nL args Ts own A (dAdr A)) (hC : aH A (dAdr A) (DW A G Z) s H locs) (hin : ∀ w ∈ u_ws RX4 TX4 18, w ∈ Ts) (hl : Cond.fieldLink own idx "PloughPlannerModel" "at" "I" ∈ Ts) (hdg : decode cc pc = .ok (.putfield idx, 3)) {v : Int} {x : Nat} (hv : v = (x : Int)) (k : ∀ H1 locs1, aH A (dAdr A) (DW A (G.vn' x) Z) s H1 locs1 → W p l e R s m args below meth c H1 locs1 cells slots Q (F0 m (pc + 3) ls rest)) : W p l e R s m args below meth c H locs cells slots Q (F0 m pc ls (.int (iI v) :: .ref (A.a 0) :: rest)) := by
  subst hv
  exact va_put (D := A.D) (ci := 4) (v := .int (iI (x : Int))) (ty := .int) (C := RX4) (T := TX4) (N := 18) X.1.1 X.1.2.1 X.1.2.2.2.2 hin tyX4 tyX4_ok nmX4 X.1.2.2.2.1 X.2.1 hC.1 (X.D (DW_adr A G Z)) hC.2 0 rfl rfl 10 (by decide) (X.1.2.2.2.2 _ hl) (fun _ h => h) rfl (by decide +kernel) rfl rfl (Nat.le_of_ble_eq_true rfl) hdg (fun H1 locs1 hP _ hS => k H1 locs1 ⟨hP, hS⟩)
theorem agX4_came (X : aX p s m c cc nL args Ts own A (dAdr A)) (hC : aH A (dAdr A) (DW A G Z) s H locs) (hin : ∀ w ∈ u_ws RX4 TX4 18, w ∈ Ts) (hl : Cond.fieldLink own idx "PloughPlannerModel" "came" "I" ∈ Ts) (hdg : decode cc pc = .ok (.getfield idx, 3)) {v : Int} (hv : G.vc = v) (k : W p l e R s m args below meth c H locs cells slots Q (F0 m (pc + 3) ls (.int (iI v) :: rest))) : W p l e R s m args below meth c H locs cells slots Q (F0 m pc ls (.ref (A.a 0) :: rest)) := by
  subst hv
  exact va_get (D := A.D) (ci := 4) (v := .int (iI G.vc)) (C := RX4) (T := TX4) (N := 18) X.1.1 X.1.2.1 X.1.2.2.2.2 hin X.1.2.2.2.1 X.2.1 hC.1 0 rfl rfl 11 (by decide) (X.1.2.2.2.2 _ hl) (fun _ h => h) rfl hdg k
theorem apX4_came (X : aX p s m c cc nL args Ts own A (dAdr A)) (hC : aH A (dAdr A) (DW A G Z) s H locs) (hin : ∀ w ∈ u_ws RX4 TX4 18, w ∈ Ts) (hl : Cond.fieldLink own idx "PloughPlannerModel" "came" "I" ∈ Ts) (hdg : decode cc pc = .ok (.putfield idx, 3)) {v : Int} {x : Int} (hv : v = x) (k : ∀ H1 locs1, aH A (dAdr A) (DW A (G.vc' x) Z) s H1 locs1 → W p l e R s m args below meth c H1 locs1 cells slots Q (F0 m (pc + 3) ls rest)) : W p l e R s m args below meth c H locs cells slots Q (F0 m pc ls (.int (iI v) :: .ref (A.a 0) :: rest)) := by
  subst hv
  exact va_put (D := A.D) (ci := 4) (v := .int (iI v)) (ty := .int) (C := RX4) (T := TX4) (N := 18) X.1.1 X.1.2.1 X.1.2.2.2.2 hin tyX4 tyX4_ok nmX4 X.1.2.2.2.1 X.2.1 hC.1 (X.D (DW_adr A G Z)) hC.2 0 rfl rfl 11 (by decide) (X.1.2.2.2.2 _ hl) (fun _ h => h) rfl (by decide +kernel) rfl rfl (Nat.le_of_ble_eq_true rfl) hdg (fun H1 locs1 hP _ hS => k H1 locs1 ⟨hP, hS⟩)
theorem agX4_salt (X : aX p s m c cc nL args Ts own A (dAdr A)) (hC : aH A (dAdr A) (DW A G Z) s H locs) (hin : ∀ w ∈ u_ws RX4 TX4 18, w ∈ Ts) (hl : Cond.fieldLink own idx "PloughPlannerModel" "salt" "I" ∈ Ts) (hdg : decode cc pc = .ok (.getfield idx, 3)) {v : Int} (hv : (G.vs : Int) = v) (k : W p l e R s m args below meth c H locs cells slots Q (F0 m (pc + 3) ls (.int (iI v) :: rest))) : W p l e R s m args below meth c H locs cells slots Q (F0 m pc ls (.ref (A.a 0) :: rest)) := by
  subst hv
  exact va_get (D := A.D) (ci := 4) (v := .int (iI (G.vs : Int))) (C := RX4) (T := TX4) (N := 18) X.1.1 X.1.2.1 X.1.2.2.2.2 hin X.1.2.2.2.1 X.2.1 hC.1 0 rfl rfl 12 (by decide) (X.1.2.2.2.2 _ hl) (fun _ h => h) rfl hdg k
theorem apX4_salt (X : aX p s m c cc nL args Ts own A (dAdr A)) (hC : aH A (dAdr A) (DW A G Z) s H locs) (hin : ∀ w ∈ u_ws RX4 TX4 18, w ∈ Ts) (hl : Cond.fieldLink own idx "PloughPlannerModel" "salt" "I" ∈ Ts) (hdg : decode cc pc = .ok (.putfield idx, 3)) {v : Int} {x : Nat} (hv : v = (x : Int)) (k : ∀ H1 locs1, aH A (dAdr A) (DW A (G.vs' x) Z) s H1 locs1 → W p l e R s m args below meth c H1 locs1 cells slots Q (F0 m (pc + 3) ls rest)) : W p l e R s m args below meth c H locs cells slots Q (F0 m pc ls (.int (iI v) :: .ref (A.a 0) :: rest)) := by
  subst hv
  exact va_put (D := A.D) (ci := 4) (v := .int (iI (x : Int))) (ty := .int) (C := RX4) (T := TX4) (N := 18) X.1.1 X.1.2.1 X.1.2.2.2.2 hin tyX4 tyX4_ok nmX4 X.1.2.2.2.1 X.2.1 hC.1 (X.D (DW_adr A G Z)) hC.2 0 rfl rfl 12 (by decide) (X.1.2.2.2.2 _ hl) (fun _ h => h) rfl (by decide +kernel) rfl rfl (Nat.le_of_ble_eq_true rfl) hdg (fun H1 locs1 hP _ hS => k H1 locs1 ⟨hP, hS⟩)
theorem agX4_strews (X : aX p s m c cc nL args Ts own A (dAdr A)) (hC : aH A (dAdr A) (DW A G Z) s H locs) (hin : ∀ w ∈ u_ws RX4 TX4 18, w ∈ Ts) (hl : Cond.fieldLink own idx "PloughPlannerModel" "strews" "Z" ∈ Ts) (hdg : decode cc pc = .ok (.getfield idx, 3)) {v : Int} (hv : (G.vw : Int) = v) (k : W p l e R s m args below meth c H locs cells slots Q (F0 m (pc + 3) ls (.int (iI v) :: rest))) : W p l e R s m args below meth c H locs cells slots Q (F0 m pc ls (.ref (A.a 0) :: rest)) := by
  subst hv
  exact va_get (D := A.D) (ci := 4) (v := .int (iI (G.vw : Int))) (C := RX4) (T := TX4) (N := 18) X.1.1 X.1.2.1 X.1.2.2.2.2 hin X.1.2.2.2.1 X.2.1 hC.1 0 rfl rfl 13 (by decide) (X.1.2.2.2.2 _ hl) (fun _ h => h) rfl hdg k
theorem apX4_strews (X : aX p s m c cc nL args Ts own A (dAdr A)) (hC : aH A (dAdr A) (DW A G Z) s H locs) (hin : ∀ w ∈ u_ws RX4 TX4 18, w ∈ Ts) (hl : Cond.fieldLink own idx "PloughPlannerModel" "strews" "Z" ∈ Ts) (hdg : decode cc pc = .ok (.putfield idx, 3)) {v : Int} {x : Nat} (hv : v = (x : Int)) (h01 : 0 ≤ v ∧ v ≤ 1) (k : ∀ H1 locs1, aH A (dAdr A) (DW A (G.vw' x) Z) s H1 locs1 → W p l e R s m args below meth c H1 locs1 cells slots Q (F0 m (pc + 3) ls rest)) : W p l e R s m args below meth c H locs cells slots Q (F0 m pc ls (.int (iI v) :: .ref (A.a 0) :: rest)) := by
  subst hv
  exact va_put (D := A.D) (ci := 4) (v := .int (iI (x : Int))) (ty := .boolean) (C := RX4) (T := TX4) (N := 18) X.1.1 X.1.2.1 X.1.2.2.2.2 hin tyX4 tyX4_ok nmX4 X.1.2.2.2.1 X.2.1 hC.1 (X.D (DW_adr A G Z)) hC.2 0 rfl rfl 13 (by decide) (X.1.2.2.2.2 _ hl) (fun _ h => h) rfl (by decide +kernel) (nar_b2 h01) (fit_b2 h01) (Nat.le_of_ble_eq_true rfl) hdg (fun H1 locs1 hP _ hS => k H1 locs1 ⟨hP, hS⟩)
theorem agX4_totals (X : aX p s m c cc nL args Ts own A (dAdr A)) (hC : aH A (dAdr A) (DW A G Z) s H locs) (hin : ∀ w ∈ u_ws RX4 TX4 18, w ∈ Ts) (hl : Cond.fieldLink own idx "PloughPlannerModel" "totals" "[J" ∈ Ts) (hdg : decode cc pc = .ok (.getfield idx, 3)) (k : W p l e R s m args below meth c H locs cells slots Q (F0 m (pc + 3) ls (.ref (A.a 8) :: rest))) : W p l e R s m args below meth c H locs cells slots Q (F0 m pc ls (.ref (A.a 0) :: rest)) := va_get (D := A.D) (ci := 4) (v := .ref (A.a 8)) (C := RX4) (T := TX4) (N := 18) X.1.1 X.1.2.1 X.1.2.2.2.2 hin X.1.2.2.2.1 X.2.1 hC.1 0 rfl rfl 14 (by decide) (X.1.2.2.2.2 _ hl) (fun _ h => h) rfl hdg k
theorem agX4_weights (X : aX p s m c cc nL args Ts own A (dAdr A)) (hC : aH A (dAdr A) (DW A G Z) s H locs) (hin : ∀ w ∈ u_ws RX4 TX4 18, w ∈ Ts) (hl : Cond.fieldLink own idx "PloughPlannerModel" "weights" "[I" ∈ Ts) (hdg : decode cc pc = .ok (.getfield idx, 3)) (k : W p l e R s m args below meth c H locs cells slots Q (F0 m (pc + 3) ls (.ref (A.a 9) :: rest))) : W p l e R s m args below meth c H locs cells slots Q (F0 m pc ls (.ref (A.a 0) :: rest)) := va_get (D := A.D) (ci := 4) (v := .ref (A.a 9)) (C := RX4) (T := TX4) (N := 18) X.1.1 X.1.2.1 X.1.2.2.2.2 hin X.1.2.2.2.1 X.2.1 hC.1 0 rfl rfl 15 (by decide) (X.1.2.2.2.2 _ hl) (fun _ h => h) rfl hdg k
theorem agX4_goalNode (X : aX p s m c cc nL args Ts own A (dAdr A)) (hC : aH A (dAdr A) (DW A G Z) s H locs) (hin : ∀ w ∈ u_ws RX4 TX4 18, w ∈ Ts) (hl : Cond.fieldLink own idx "PloughPlannerModel" "goalNode" "I" ∈ Ts) (hdg : decode cc pc = .ok (.getfield idx, 3)) {v : Int} (hv : Z.gn = v) (k : W p l e R s m args below meth c H locs cells slots Q (F0 m (pc + 3) ls (.int (iI v) :: rest))) : W p l e R s m args below meth c H locs cells slots Q (F0 m pc ls (.ref (A.a 0) :: rest)) := by
  subst hv
  exact va_get (D := A.D) (ci := 4) (v := .int (iI Z.gn)) (C := RX4) (T := TX4) (N := 18) X.1.1 X.1.2.1 X.1.2.2.2.2 hin X.1.2.2.2.1 X.2.1 hC.1 0 rfl rfl 16 (by decide) (X.1.2.2.2.2 _ hl) (fun _ h => h) rfl hdg k
theorem apX4_goalNode (X : aX p s m c cc nL args Ts own A (dAdr A)) (hC : aH A (dAdr A) (DW A G Z) s H locs) (hin : ∀ w ∈ u_ws RX4 TX4 18, w ∈ Ts) (hl : Cond.fieldLink own idx "PloughPlannerModel" "goalNode" "I" ∈ Ts) (hdg : decode cc pc = .ok (.putfield idx, 3)) {v : Int} {x : Int} (hv : v = x) (k : ∀ H1 locs1, aH A (dAdr A) (DW A G (Z.gn' x)) s H1 locs1 → W p l e R s m args below meth c H1 locs1 cells slots Q (F0 m (pc + 3) ls rest)) : W p l e R s m args below meth c H locs cells slots Q (F0 m pc ls (.int (iI v) :: .ref (A.a 0) :: rest)) := by
  subst hv
  exact va_put (D := A.D) (ci := 4) (v := .int (iI v)) (ty := .int) (C := RX4) (T := TX4) (N := 18) X.1.1 X.1.2.1 X.1.2.2.2.2 hin tyX4 tyX4_ok nmX4 X.1.2.2.2.1 X.2.1 hC.1 (X.D (DW_adr A G Z)) hC.2 0 rfl rfl 16 (by decide) (X.1.2.2.2.2 _ hl) (fun _ h => h) rfl (by decide +kernel) rfl rfl (Nat.le_of_ble_eq_true rfl) hdg (fun H1 locs1 hP _ hS => k H1 locs1 ⟨hP, hS⟩)
theorem agX4_goalSide (X : aX p s m c cc nL args Ts own A (dAdr A)) (hC : aH A (dAdr A) (DW A G Z) s H locs) (hin : ∀ w ∈ u_ws RX4 TX4 18, w ∈ Ts) (hl : Cond.fieldLink own idx "PloughPlannerModel" "goalSide" "I" ∈ Ts) (hdg : decode cc pc = .ok (.getfield idx, 3)) {v : Int} (hv : Z.gs = v) (k : W p l e R s m args below meth c H locs cells slots Q (F0 m (pc + 3) ls (.int (iI v) :: rest))) : W p l e R s m args below meth c H locs cells slots Q (F0 m pc ls (.ref (A.a 0) :: rest)) := by
  subst hv
  exact va_get (D := A.D) (ci := 4) (v := .int (iI Z.gs)) (C := RX4) (T := TX4) (N := 18) X.1.1 X.1.2.1 X.1.2.2.2.2 hin X.1.2.2.2.1 X.2.1 hC.1 0 rfl rfl 17 (by decide) (X.1.2.2.2.2 _ hl) (fun _ h => h) rfl hdg k
theorem apX4_goalSide (X : aX p s m c cc nL args Ts own A (dAdr A)) (hC : aH A (dAdr A) (DW A G Z) s H locs) (hin : ∀ w ∈ u_ws RX4 TX4 18, w ∈ Ts) (hl : Cond.fieldLink own idx "PloughPlannerModel" "goalSide" "I" ∈ Ts) (hdg : decode cc pc = .ok (.putfield idx, 3)) {v : Int} {x : Int} (hv : v = x) (k : ∀ H1 locs1, aH A (dAdr A) (DW A G (Z.gs' x)) s H1 locs1 → W p l e R s m args below meth c H1 locs1 cells slots Q (F0 m (pc + 3) ls rest)) : W p l e R s m args below meth c H locs cells slots Q (F0 m pc ls (.int (iI v) :: .ref (A.a 0) :: rest)) := by
  subst hv
  exact va_put (D := A.D) (ci := 4) (v := .int (iI v)) (ty := .int) (C := RX4) (T := TX4) (N := 18) X.1.1 X.1.2.1 X.1.2.2.2.2 hin tyX4 tyX4_ok nmX4 X.1.2.2.2.1 X.2.1 hC.1 (X.D (DW_adr A G Z)) hC.2 0 rfl rfl 17 (by decide) (X.1.2.2.2.2 _ hl) (fun _ h => h) rfl (by decide +kernel) rfl rfl (Nat.le_of_ble_eq_true rfl) hdg (fun H1 locs1 hP _ hS => k H1 locs1 ⟨hP, hS⟩)
theorem alC_tu (X : aX p s m c cc nL args Ts own A (cAdr A)) (hC : aH A (cAdr A) (CW A G Y) s H locs) {a v : Int} {k0 : Nat} (hk : a = (k0 : Int)) (hlt : k0 < 8) (hv : (G.tu k0 : Int) = v) (hdg : decode cc pc = .ok (.baload, 1)) (k : W p l e R s m args below meth c H locs cells slots Q (F0 m (pc + 1) ls (.int (iI v) :: rest))) : W p l e R s m args below meth c H locs cells slots Q (F0 m pc ls (.int (iI a) :: .ref (A.a 4) :: rest)) := by
  have e : (cF G.tu) (iI a).toNatClampNeg = iI v := by
    rw [iI_cl hk (by omega), ← hv]
    rfl
  exact va_zald (D := A.D) X.1.1 X.1.2.1 X.2.1 hC.1 4 1 rfl rfl (iI_in hk hlt (by decide)) hdg (by rw [e]; exact k)
theorem asC_tu (X : aX p s m c cc nL args Ts own A (cAdr A)) (hC : aH A (cAdr A) (CW A G Y) s H locs) {a v : Int} {k0 : Nat} {x : Nat} (hk : a = (k0 : Int)) (hlt : k0 < 8) (hv : v = (x : Int)) (h01 : 0 ≤ v ∧ v ≤ 1) (hdg : decode cc pc = .ok (.bastore, 1)) (k : ∀ H1 locs1, aH A (cAdr A) (CW A (G.tu' (up G.tu k0 x)) Y) s H1 locs1 → W p l e R s m args below meth c H1 locs1 cells slots Q (F0 m (pc + 1) ls rest)) : W p l e R s m args below meth c H locs cells slots Q (F0 m pc ls (.int (iI v) :: .int (iI a) :: .ref (A.a 4) :: rest)) := by
  have e : upd (cF G.tu) (iI a).toNatClampNeg (vp_nar .boolean (iI v)) = cF (up G.tu k0 x) := by
    rw [nar_b h01]
    exact cF_up _ hk (by omega) hv
  exact va_zast (D := A.D) X.1.1 X.1.2.1 X.2.1 hC.1 (X.D (CW_adr A G Y)) hC.2 4 1 rfl rfl (iI_in hk hlt (by decide)) hdg (fun H1 locs1 hP _ hS => k H1 locs1 ⟨by rw [e] at hP; exact hP, hS⟩)
theorem alC_st (X : aX p s m c cc nL args Ts own A (cAdr A)) (hC : aH A (cAdr A) (CW A G Y) s H locs) {a v : Int} {k0 : Nat} (hk : a = (k0 : Int)) (hlt : k0 < 8) (hv : (G.st k0 : Int) = v) (hdg : decode cc pc = .ok (.baload, 1)) (k : W p l e R s m args below meth c H locs cells slots Q (F0 m (pc + 1) ls (.int (iI v) :: rest))) : W p l e R s m args below meth c H locs cells slots Q (F0 m pc ls (.int (iI a) :: .ref (A.a 5) :: rest)) := by
  have e : (cF G.st) (iI a).toNatClampNeg = iI v := by
    rw [iI_cl hk (by omega), ← hv]
    rfl
  exact va_zald (D := A.D) X.1.1 X.1.2.1 X.2.1 hC.1 5 1 rfl rfl (iI_in hk hlt (by decide)) hdg (by rw [e]; exact k)
theorem asC_st (X : aX p s m c cc nL args Ts own A (cAdr A)) (hC : aH A (cAdr A) (CW A G Y) s H locs) {a v : Int} {k0 : Nat} {x : Nat} (hk : a = (k0 : Int)) (hlt : k0 < 8) (hv : v = (x : Int)) (h01 : 0 ≤ v ∧ v ≤ 1) (hdg : decode cc pc = .ok (.bastore, 1)) (k : ∀ H1 locs1, aH A (cAdr A) (CW A (G.st' (up G.st k0 x)) Y) s H1 locs1 → W p l e R s m args below meth c H1 locs1 cells slots Q (F0 m (pc + 1) ls rest)) : W p l e R s m args below meth c H locs cells slots Q (F0 m pc ls (.int (iI v) :: .int (iI a) :: .ref (A.a 5) :: rest)) := by
  have e : upd (cF G.st) (iI a).toNatClampNeg (vp_nar .boolean (iI v)) = cF (up G.st k0 x) := by
    rw [nar_b h01]
    exact cF_up _ hk (by omega) hv
  exact va_zast (D := A.D) X.1.1 X.1.2.1 X.2.1 hC.1 (X.D (CW_adr A G Y)) hC.2 5 1 rfl rfl (iI_in hk hlt (by decide)) hdg (fun H1 locs1 hP _ hS => k H1 locs1 ⟨by rw [e] at hP; exact hP, hS⟩)
theorem alC_sm (X : aX p s m c cc nL args Ts own A (cAdr A)) (hC : aH A (cAdr A) (CW A G Y) s H locs) {a v : Int} {k0 : Nat} (hk : a = (k0 : Int)) (hlt : k0 < 24) (hv : (G.sm k0 : Int) = v) (hdg : decode cc pc = .ok (.iaload, 1)) (k : W p l e R s m args below meth c H locs cells slots Q (F0 m (pc + 1) ls (.int (iI v) :: rest))) : W p l e R s m args below meth c H locs cells slots Q (F0 m pc ls (.int (iI a) :: .ref (A.a 6) :: rest)) := by
  have e : (cF G.sm) (iI a).toNatClampNeg = iI v := by
    rw [iI_cl hk (by omega), ← hv]
    rfl
  exact va_iald (D := A.D) X.1.1 X.1.2.1 X.2.1 hC.1 6 0 rfl rfl (iI_in hk hlt (by decide)) hdg (by rw [e]; exact k)
theorem asC_sm (X : aX p s m c cc nL args Ts own A (cAdr A)) (hC : aH A (cAdr A) (CW A G Y) s H locs) {a v : Int} {k0 : Nat} {x : Nat} (hk : a = (k0 : Int)) (hlt : k0 < 24) (hv : v = (x : Int)) (hdg : decode cc pc = .ok (.iastore, 1)) (k : ∀ H1 locs1, aH A (cAdr A) (CW A (G.sm' (up G.sm k0 x)) Y) s H1 locs1 → W p l e R s m args below meth c H1 locs1 cells slots Q (F0 m (pc + 1) ls rest)) : W p l e R s m args below meth c H locs cells slots Q (F0 m pc ls (.int (iI v) :: .int (iI a) :: .ref (A.a 6) :: rest)) := by
  have e : upd (cF G.sm) (iI a).toNatClampNeg (iI v) = cF (up G.sm k0 x) := cF_up _ hk (by omega) hv
  exact va_iast (D := A.D) X.1.1 X.1.2.1 X.2.1 hC.1 (X.D (CW_adr A G Y)) hC.2 6 0 rfl rfl (iI_in hk hlt (by decide)) hdg (fun H1 locs1 hP _ hS => k H1 locs1 ⟨by rw [e] at hP; exact hP, hS⟩)
theorem alC_mi (X : aX p s m c cc nL args Ts own A (cAdr A)) (hC : aH A (cAdr A) (CW A G Y) s H locs) {a v : Int} {k0 : Nat} (hk : a = (k0 : Int)) (hlt : k0 < 12) (hv : (G.mi k0 : Int) = v) (hdg : decode cc pc = .ok (.iaload, 1)) (k : W p l e R s m args below meth c H locs cells slots Q (F0 m (pc + 1) ls (.int (iI v) :: rest))) : W p l e R s m args below meth c H locs cells slots Q (F0 m pc ls (.int (iI a) :: .ref (A.a 7) :: rest)) := by
  have e : (cF G.mi) (iI a).toNatClampNeg = iI v := by
    rw [iI_cl hk (by omega), ← hv]
    rfl
  exact va_iald (D := A.D) X.1.1 X.1.2.1 X.2.1 hC.1 7 0 rfl rfl (iI_in hk hlt (by decide)) hdg (by rw [e]; exact k)
theorem asC_mi (X : aX p s m c cc nL args Ts own A (cAdr A)) (hC : aH A (cAdr A) (CW A G Y) s H locs) {a v : Int} {k0 : Nat} {x : Nat} (hk : a = (k0 : Int)) (hlt : k0 < 12) (hv : v = (x : Int)) (hdg : decode cc pc = .ok (.iastore, 1)) (k : ∀ H1 locs1, aH A (cAdr A) (CW A (G.mi' (up G.mi k0 x)) Y) s H1 locs1 → W p l e R s m args below meth c H1 locs1 cells slots Q (F0 m (pc + 1) ls rest)) : W p l e R s m args below meth c H locs cells slots Q (F0 m pc ls (.int (iI v) :: .int (iI a) :: .ref (A.a 7) :: rest)) := by
  have e : upd (cF G.mi) (iI a).toNatClampNeg (iI v) = cF (up G.mi k0 x) := cF_up _ hk (by omega) hv
  exact va_iast (D := A.D) X.1.1 X.1.2.1 X.2.1 hC.1 (X.D (CW_adr A G Y)) hC.2 7 0 rfl rfl (iI_in hk hlt (by decide)) hdg (fun H1 locs1 hP _ hS => k H1 locs1 ⟨by rw [e] at hP; exact hP, hS⟩)
theorem alC_pr (X : aX p s m c cc nL args Ts own A (cAdr A)) (hC : aH A (cAdr A) (CW A G Y) s H locs) {a v : Int} {k0 : Nat} (hk : a = (k0 : Int)) (hlt : k0 < 12) (hv : (G.pr k0 : Int) = v) (hdg : decode cc pc = .ok (.iaload, 1)) (k : W p l e R s m args below meth c H locs cells slots Q (F0 m (pc + 1) ls (.int (iI v) :: rest))) : W p l e R s m args below meth c H locs cells slots Q (F0 m pc ls (.int (iI a) :: .ref (A.a 8) :: rest)) := by
  have e : (cF G.pr) (iI a).toNatClampNeg = iI v := by
    rw [iI_cl hk (by omega), ← hv]
    rfl
  exact va_iald (D := A.D) X.1.1 X.1.2.1 X.2.1 hC.1 8 0 rfl rfl (iI_in hk hlt (by decide)) hdg (by rw [e]; exact k)
theorem asC_pr (X : aX p s m c cc nL args Ts own A (cAdr A)) (hC : aH A (cAdr A) (CW A G Y) s H locs) {a v : Int} {k0 : Nat} {x : Nat} (hk : a = (k0 : Int)) (hlt : k0 < 12) (hv : v = (x : Int)) (hdg : decode cc pc = .ok (.iastore, 1)) (k : ∀ H1 locs1, aH A (cAdr A) (CW A (G.pr' (up G.pr k0 x)) Y) s H1 locs1 → W p l e R s m args below meth c H1 locs1 cells slots Q (F0 m (pc + 1) ls rest)) : W p l e R s m args below meth c H locs cells slots Q (F0 m pc ls (.int (iI v) :: .int (iI a) :: .ref (A.a 8) :: rest)) := by
  have e : upd (cF G.pr) (iI a).toNatClampNeg (iI v) = cF (up G.pr k0 x) := cF_up _ hk (by omega) hv
  exact va_iast (D := A.D) X.1.1 X.1.2.1 X.2.1 hC.1 (X.D (CW_adr A G Y)) hC.2 8 0 rfl rfl (iI_in hk hlt (by decide)) hdg (fun H1 locs1 hP _ hS => k H1 locs1 ⟨by rw [e] at hP; exact hP, hS⟩)
theorem alC_de (X : aX p s m c cc nL args Ts own A (cAdr A)) (hC : aH A (cAdr A) (CW A G Y) s H locs) {a v : Int} {k0 : Nat} (hk : a = (k0 : Int)) (hlt : k0 < 24) (hv : (G.de k0 : Int) = v) (hdg : decode cc pc = .ok (.iaload, 1)) (k : W p l e R s m args below meth c H locs cells slots Q (F0 m (pc + 1) ls (.int (iI v) :: rest))) : W p l e R s m args below meth c H locs cells slots Q (F0 m pc ls (.int (iI a) :: .ref (A.a 9) :: rest)) := by
  have e : (cF G.de) (iI a).toNatClampNeg = iI v := by
    rw [iI_cl hk (by omega), ← hv]
    rfl
  exact va_iald (D := A.D) X.1.1 X.1.2.1 X.2.1 hC.1 9 0 rfl rfl (iI_in hk hlt (by decide)) hdg (by rw [e]; exact k)
theorem asC_de (X : aX p s m c cc nL args Ts own A (cAdr A)) (hC : aH A (cAdr A) (CW A G Y) s H locs) {a v : Int} {k0 : Nat} {x : Nat} (hk : a = (k0 : Int)) (hlt : k0 < 24) (hv : v = (x : Int)) (hdg : decode cc pc = .ok (.iastore, 1)) (k : ∀ H1 locs1, aH A (cAdr A) (CW A (G.de' (up G.de k0 x)) Y) s H1 locs1 → W p l e R s m args below meth c H1 locs1 cells slots Q (F0 m (pc + 1) ls rest)) : W p l e R s m args below meth c H locs cells slots Q (F0 m pc ls (.int (iI v) :: .int (iI a) :: .ref (A.a 9) :: rest)) := by
  have e : upd (cF G.de) (iI a).toNatClampNeg (iI v) = cF (up G.de k0 x) := cF_up _ hk (by omega) hv
  exact va_iast (D := A.D) X.1.1 X.1.2.1 X.2.1 hC.1 (X.D (CW_adr A G Y)) hC.2 9 0 rfl rfl (iI_in hk hlt (by decide)) hdg (fun H1 locs1 hP _ hS => k H1 locs1 ⟨by rw [e] at hP; exact hP, hS⟩)
theorem alC_sa (X : aX p s m c cc nL args Ts own A (cAdr A)) (hC : aH A (cAdr A) (CW A G Y) s H locs) {a v : Int} {k0 : Nat} (hk : a = (k0 : Int)) (hlt : k0 < 24) (hv : (G.sa k0 : Int) = v) (hdg : decode cc pc = .ok (.baload, 1)) (k : W p l e R s m args below meth c H locs cells slots Q (F0 m (pc + 1) ls (.int (iI v) :: rest))) : W p l e R s m args below meth c H locs cells slots Q (F0 m pc ls (.int (iI a) :: .ref (A.a 10) :: rest)) := by
  have e : (cF G.sa) (iI a).toNatClampNeg = iI v := by
    rw [iI_cl hk (by omega), ← hv]
    rfl
  exact va_zald (D := A.D) X.1.1 X.1.2.1 X.2.1 hC.1 10 1 rfl rfl (iI_in hk hlt (by decide)) hdg (by rw [e]; exact k)
theorem asC_sa (X : aX p s m c cc nL args Ts own A (cAdr A)) (hC : aH A (cAdr A) (CW A G Y) s H locs) {a v : Int} {k0 : Nat} {x : Nat} (hk : a = (k0 : Int)) (hlt : k0 < 24) (hv : v = (x : Int)) (h01 : 0 ≤ v ∧ v ≤ 1) (hdg : decode cc pc = .ok (.bastore, 1)) (k : ∀ H1 locs1, aH A (cAdr A) (CW A (G.sa' (up G.sa k0 x)) Y) s H1 locs1 → W p l e R s m args below meth c H1 locs1 cells slots Q (F0 m (pc + 1) ls rest)) : W p l e R s m args below meth c H locs cells slots Q (F0 m pc ls (.int (iI v) :: .int (iI a) :: .ref (A.a 10) :: rest)) := by
  have e : upd (cF G.sa) (iI a).toNatClampNeg (vp_nar .boolean (iI v)) = cF (up G.sa k0 x) := by
    rw [nar_b h01]
    exact cF_up _ hk (by omega) hv
  exact va_zast (D := A.D) X.1.1 X.1.2.1 X.2.1 hC.1 (X.D (CW_adr A G Y)) hC.2 10 1 rfl rfl (iI_in hk hlt (by decide)) hdg (fun H1 locs1 hP _ hS => k H1 locs1 ⟨by rw [e] at hP; exact hP, hS⟩)
theorem alC_wm (X : aX p s m c cc nL args Ts own A (cAdr A)) (hC : aH A (cAdr A) (CW A G Y) s H locs) {a v : Int} {k0 : Nat} (hk : a = (k0 : Int)) (hlt : k0 < 25) (hv : (Y.wm k0) = v) (hdg : decode cc pc = .ok (.iaload, 1)) (k : W p l e R s m args below meth c H locs cells slots Q (F0 m (pc + 1) ls (.int (iI v) :: rest))) : W p l e R s m args below meth c H locs cells slots Q (F0 m pc ls (.int (iI a) :: .ref (A.a 11) :: rest)) := by
  have e : (cZ Y.wm) (iI a).toNatClampNeg = iI v := by
    rw [iI_cl hk (by omega), ← hv]
    rfl
  exact va_iald (D := A.D) X.1.1 X.1.2.1 X.2.1 hC.1 11 0 rfl rfl (iI_in hk hlt (by decide)) hdg (by rw [e]; exact k)
theorem asC_wm (X : aX p s m c cc nL args Ts own A (cAdr A)) (hC : aH A (cAdr A) (CW A G Y) s H locs) {a v : Int} {k0 : Nat} {x : Int} (hk : a = (k0 : Int)) (hlt : k0 < 25) (hv : v = x) (hdg : decode cc pc = .ok (.iastore, 1)) (k : ∀ H1 locs1, aH A (cAdr A) (CW A G (Y.wm' (up Y.wm k0 x))) s H1 locs1 → W p l e R s m args below meth c H1 locs1 cells slots Q (F0 m (pc + 1) ls rest)) : W p l e R s m args below meth c H locs cells slots Q (F0 m pc ls (.int (iI v) :: .int (iI a) :: .ref (A.a 11) :: rest)) := by
  have e : upd (cZ Y.wm) (iI a).toNatClampNeg (iI v) = cZ (up Y.wm k0 x) := by
    subst hv
    exact cZ_up _ hk (by omega)
  exact va_iast (D := A.D) X.1.1 X.1.2.1 X.2.1 hC.1 (X.D (CW_adr A G Y)) hC.2 11 0 rfl rfl (iI_in hk hlt (by decide)) hdg (fun H1 locs1 hP _ hS => k H1 locs1 ⟨by rw [e] at hP; exact hP, hS⟩)
theorem alC_wl (X : aX p s m c cc nL args Ts own A (cAdr A)) (hC : aH A (cAdr A) (CW A G Y) s H locs) {a v : Int} {k0 : Nat} (hk : a = (k0 : Int)) (hlt : k0 < 25) (hv : (Y.wl k0 : Int) = v) (hdg : decode cc pc = .ok (.iaload, 1)) (k : W p l e R s m args below meth c H locs cells slots Q (F0 m (pc + 1) ls (.int (iI v) :: rest))) : W p l e R s m args below meth c H locs cells slots Q (F0 m pc ls (.int (iI a) :: .ref (A.a 12) :: rest)) := by
  have e : (cF Y.wl) (iI a).toNatClampNeg = iI v := by
    rw [iI_cl hk (by omega), ← hv]
    rfl
  exact va_iald (D := A.D) X.1.1 X.1.2.1 X.2.1 hC.1 12 0 rfl rfl (iI_in hk hlt (by decide)) hdg (by rw [e]; exact k)
theorem asC_wl (X : aX p s m c cc nL args Ts own A (cAdr A)) (hC : aH A (cAdr A) (CW A G Y) s H locs) {a v : Int} {k0 : Nat} {x : Nat} (hk : a = (k0 : Int)) (hlt : k0 < 25) (hv : v = (x : Int)) (hdg : decode cc pc = .ok (.iastore, 1)) (k : ∀ H1 locs1, aH A (cAdr A) (CW A G (Y.wl' (up Y.wl k0 x))) s H1 locs1 → W p l e R s m args below meth c H1 locs1 cells slots Q (F0 m (pc + 1) ls rest)) : W p l e R s m args below meth c H locs cells slots Q (F0 m pc ls (.int (iI v) :: .int (iI a) :: .ref (A.a 12) :: rest)) := by
  have e : upd (cF Y.wl) (iI a).toNatClampNeg (iI v) = cF (up Y.wl k0 x) := cF_up _ hk (by omega) hv
  exact va_iast (D := A.D) X.1.1 X.1.2.1 X.2.1 hC.1 (X.D (CW_adr A G Y)) hC.2 12 0 rfl rfl (iI_in hk hlt (by decide)) hdg (fun H1 locs1 hP _ hS => k H1 locs1 ⟨by rw [e] at hP; exact hP, hS⟩)
theorem alC_we (X : aX p s m c cc nL args Ts own A (cAdr A)) (hC : aH A (cAdr A) (CW A G Y) s H locs) {a v : Int} {k0 : Nat} (hk : a = (k0 : Int)) (hlt : k0 < 24) (hv : (Y.we k0 : Int) = v) (hdg : decode cc pc = .ok (.baload, 1)) (k : W p l e R s m args below meth c H locs cells slots Q (F0 m (pc + 1) ls (.int (iI v) :: rest))) : W p l e R s m args below meth c H locs cells slots Q (F0 m pc ls (.int (iI a) :: .ref (A.a 14) :: rest)) := by
  have e : (cF Y.we) (iI a).toNatClampNeg = iI v := by
    rw [iI_cl hk (by omega), ← hv]
    rfl
  exact va_zald (D := A.D) X.1.1 X.1.2.1 X.2.1 hC.1 14 1 rfl rfl (iI_in hk hlt (by decide)) hdg (by rw [e]; exact k)
theorem asC_we (X : aX p s m c cc nL args Ts own A (cAdr A)) (hC : aH A (cAdr A) (CW A G Y) s H locs) {a v : Int} {k0 : Nat} {x : Nat} (hk : a = (k0 : Int)) (hlt : k0 < 24) (hv : v = (x : Int)) (h01 : 0 ≤ v ∧ v ≤ 1) (hdg : decode cc pc = .ok (.bastore, 1)) (k : ∀ H1 locs1, aH A (cAdr A) (CW A G (Y.we' (up Y.we k0 x))) s H1 locs1 → W p l e R s m args below meth c H1 locs1 cells slots Q (F0 m (pc + 1) ls rest)) : W p l e R s m args below meth c H locs cells slots Q (F0 m pc ls (.int (iI v) :: .int (iI a) :: .ref (A.a 14) :: rest)) := by
  have e : upd (cF Y.we) (iI a).toNatClampNeg (vp_nar .boolean (iI v)) = cF (up Y.we k0 x) := by
    rw [nar_b h01]
    exact cF_up _ hk (by omega) hv
  exact va_zast (D := A.D) X.1.1 X.1.2.1 X.2.1 hC.1 (X.D (CW_adr A G Y)) hC.2 14 1 rfl rfl (iI_in hk hlt (by decide)) hdg (fun H1 locs1 hP _ hS => k H1 locs1 ⟨by rw [e] at hP; exact hP, hS⟩)
theorem alD_tu (X : aX p s m c cc nL args Ts own A (dAdr A)) (hC : aH A (dAdr A) (DW A G Z) s H locs) {a v : Int} {k0 : Nat} (hk : a = (k0 : Int)) (hlt : k0 < 8) (hv : (G.tu k0 : Int) = v) (hdg : decode cc pc = .ok (.baload, 1)) (k : W p l e R s m args below meth c H locs cells slots Q (F0 m (pc + 1) ls (.int (iI v) :: rest))) : W p l e R s m args below meth c H locs cells slots Q (F0 m pc ls (.int (iI a) :: .ref (A.a 1) :: rest)) := by
  have e : (cF G.tu) (iI a).toNatClampNeg = iI v := by
    rw [iI_cl hk (by omega), ← hv]
    rfl
  exact va_zald (D := A.D) X.1.1 X.1.2.1 X.2.1 hC.1 1 1 rfl rfl (iI_in hk hlt (by decide)) hdg (by rw [e]; exact k)
theorem asD_tu (X : aX p s m c cc nL args Ts own A (dAdr A)) (hC : aH A (dAdr A) (DW A G Z) s H locs) {a v : Int} {k0 : Nat} {x : Nat} (hk : a = (k0 : Int)) (hlt : k0 < 8) (hv : v = (x : Int)) (h01 : 0 ≤ v ∧ v ≤ 1) (hdg : decode cc pc = .ok (.bastore, 1)) (k : ∀ H1 locs1, aH A (dAdr A) (DW A (G.tu' (up G.tu k0 x)) Z) s H1 locs1 → W p l e R s m args below meth c H1 locs1 cells slots Q (F0 m (pc + 1) ls rest)) : W p l e R s m args below meth c H locs cells slots Q (F0 m pc ls (.int (iI v) :: .int (iI a) :: .ref (A.a 1) :: rest)) := by
  have e : upd (cF G.tu) (iI a).toNatClampNeg (vp_nar .boolean (iI v)) = cF (up G.tu k0 x) := by
    rw [nar_b h01]
    exact cF_up _ hk (by omega) hv
  exact va_zast (D := A.D) X.1.1 X.1.2.1 X.2.1 hC.1 (X.D (DW_adr A G Z)) hC.2 1 1 rfl rfl (iI_in hk hlt (by decide)) hdg (fun H1 locs1 hP _ hS => k H1 locs1 ⟨by rw [e] at hP; exact hP, hS⟩)
theorem alD_st (X : aX p s m c cc nL args Ts own A (dAdr A)) (hC : aH A (dAdr A) (DW A G Z) s H locs) {a v : Int} {k0 : Nat} (hk : a = (k0 : Int)) (hlt : k0 < 8) (hv : (G.st k0 : Int) = v) (hdg : decode cc pc = .ok (.baload, 1)) (k : W p l e R s m args below meth c H locs cells slots Q (F0 m (pc + 1) ls (.int (iI v) :: rest))) : W p l e R s m args below meth c H locs cells slots Q (F0 m pc ls (.int (iI a) :: .ref (A.a 2) :: rest)) := by
  have e : (cF G.st) (iI a).toNatClampNeg = iI v := by
    rw [iI_cl hk (by omega), ← hv]
    rfl
  exact va_zald (D := A.D) X.1.1 X.1.2.1 X.2.1 hC.1 2 1 rfl rfl (iI_in hk hlt (by decide)) hdg (by rw [e]; exact k)
theorem asD_st (X : aX p s m c cc nL args Ts own A (dAdr A)) (hC : aH A (dAdr A) (DW A G Z) s H locs) {a v : Int} {k0 : Nat} {x : Nat} (hk : a = (k0 : Int)) (hlt : k0 < 8) (hv : v = (x : Int)) (h01 : 0 ≤ v ∧ v ≤ 1) (hdg : decode cc pc = .ok (.bastore, 1)) (k : ∀ H1 locs1, aH A (dAdr A) (DW A (G.st' (up G.st k0 x)) Z) s H1 locs1 → W p l e R s m args below meth c H1 locs1 cells slots Q (F0 m (pc + 1) ls rest)) : W p l e R s m args below meth c H locs cells slots Q (F0 m pc ls (.int (iI v) :: .int (iI a) :: .ref (A.a 2) :: rest)) := by
  have e : upd (cF G.st) (iI a).toNatClampNeg (vp_nar .boolean (iI v)) = cF (up G.st k0 x) := by
    rw [nar_b h01]
    exact cF_up _ hk (by omega) hv
  exact va_zast (D := A.D) X.1.1 X.1.2.1 X.2.1 hC.1 (X.D (DW_adr A G Z)) hC.2 2 1 rfl rfl (iI_in hk hlt (by decide)) hdg (fun H1 locs1 hP _ hS => k H1 locs1 ⟨by rw [e] at hP; exact hP, hS⟩)
theorem alD_sm (X : aX p s m c cc nL args Ts own A (dAdr A)) (hC : aH A (dAdr A) (DW A G Z) s H locs) {a v : Int} {k0 : Nat} (hk : a = (k0 : Int)) (hlt : k0 < 24) (hv : (G.sm k0 : Int) = v) (hdg : decode cc pc = .ok (.iaload, 1)) (k : W p l e R s m args below meth c H locs cells slots Q (F0 m (pc + 1) ls (.int (iI v) :: rest))) : W p l e R s m args below meth c H locs cells slots Q (F0 m pc ls (.int (iI a) :: .ref (A.a 3) :: rest)) := by
  have e : (cF G.sm) (iI a).toNatClampNeg = iI v := by
    rw [iI_cl hk (by omega), ← hv]
    rfl
  exact va_iald (D := A.D) X.1.1 X.1.2.1 X.2.1 hC.1 3 0 rfl rfl (iI_in hk hlt (by decide)) hdg (by rw [e]; exact k)
theorem asD_sm (X : aX p s m c cc nL args Ts own A (dAdr A)) (hC : aH A (dAdr A) (DW A G Z) s H locs) {a v : Int} {k0 : Nat} {x : Nat} (hk : a = (k0 : Int)) (hlt : k0 < 24) (hv : v = (x : Int)) (hdg : decode cc pc = .ok (.iastore, 1)) (k : ∀ H1 locs1, aH A (dAdr A) (DW A (G.sm' (up G.sm k0 x)) Z) s H1 locs1 → W p l e R s m args below meth c H1 locs1 cells slots Q (F0 m (pc + 1) ls rest)) : W p l e R s m args below meth c H locs cells slots Q (F0 m pc ls (.int (iI v) :: .int (iI a) :: .ref (A.a 3) :: rest)) := by
  have e : upd (cF G.sm) (iI a).toNatClampNeg (iI v) = cF (up G.sm k0 x) := cF_up _ hk (by omega) hv
  exact va_iast (D := A.D) X.1.1 X.1.2.1 X.2.1 hC.1 (X.D (DW_adr A G Z)) hC.2 3 0 rfl rfl (iI_in hk hlt (by decide)) hdg (fun H1 locs1 hP _ hS => k H1 locs1 ⟨by rw [e] at hP; exact hP, hS⟩)
theorem alD_mi (X : aX p s m c cc nL args Ts own A (dAdr A)) (hC : aH A (dAdr A) (DW A G Z) s H locs) {a v : Int} {k0 : Nat} (hk : a = (k0 : Int)) (hlt : k0 < 12) (hv : (G.mi k0 : Int) = v) (hdg : decode cc pc = .ok (.iaload, 1)) (k : W p l e R s m args below meth c H locs cells slots Q (F0 m (pc + 1) ls (.int (iI v) :: rest))) : W p l e R s m args below meth c H locs cells slots Q (F0 m pc ls (.int (iI a) :: .ref (A.a 4) :: rest)) := by
  have e : (cF G.mi) (iI a).toNatClampNeg = iI v := by
    rw [iI_cl hk (by omega), ← hv]
    rfl
  exact va_iald (D := A.D) X.1.1 X.1.2.1 X.2.1 hC.1 4 0 rfl rfl (iI_in hk hlt (by decide)) hdg (by rw [e]; exact k)
theorem asD_mi (X : aX p s m c cc nL args Ts own A (dAdr A)) (hC : aH A (dAdr A) (DW A G Z) s H locs) {a v : Int} {k0 : Nat} {x : Nat} (hk : a = (k0 : Int)) (hlt : k0 < 12) (hv : v = (x : Int)) (hdg : decode cc pc = .ok (.iastore, 1)) (k : ∀ H1 locs1, aH A (dAdr A) (DW A (G.mi' (up G.mi k0 x)) Z) s H1 locs1 → W p l e R s m args below meth c H1 locs1 cells slots Q (F0 m (pc + 1) ls rest)) : W p l e R s m args below meth c H locs cells slots Q (F0 m pc ls (.int (iI v) :: .int (iI a) :: .ref (A.a 4) :: rest)) := by
  have e : upd (cF G.mi) (iI a).toNatClampNeg (iI v) = cF (up G.mi k0 x) := cF_up _ hk (by omega) hv
  exact va_iast (D := A.D) X.1.1 X.1.2.1 X.2.1 hC.1 (X.D (DW_adr A G Z)) hC.2 4 0 rfl rfl (iI_in hk hlt (by decide)) hdg (fun H1 locs1 hP _ hS => k H1 locs1 ⟨by rw [e] at hP; exact hP, hS⟩)
theorem alD_pr (X : aX p s m c cc nL args Ts own A (dAdr A)) (hC : aH A (dAdr A) (DW A G Z) s H locs) {a v : Int} {k0 : Nat} (hk : a = (k0 : Int)) (hlt : k0 < 12) (hv : (G.pr k0 : Int) = v) (hdg : decode cc pc = .ok (.iaload, 1)) (k : W p l e R s m args below meth c H locs cells slots Q (F0 m (pc + 1) ls (.int (iI v) :: rest))) : W p l e R s m args below meth c H locs cells slots Q (F0 m pc ls (.int (iI a) :: .ref (A.a 5) :: rest)) := by
  have e : (cF G.pr) (iI a).toNatClampNeg = iI v := by
    rw [iI_cl hk (by omega), ← hv]
    rfl
  exact va_iald (D := A.D) X.1.1 X.1.2.1 X.2.1 hC.1 5 0 rfl rfl (iI_in hk hlt (by decide)) hdg (by rw [e]; exact k)
theorem asD_pr (X : aX p s m c cc nL args Ts own A (dAdr A)) (hC : aH A (dAdr A) (DW A G Z) s H locs) {a v : Int} {k0 : Nat} {x : Nat} (hk : a = (k0 : Int)) (hlt : k0 < 12) (hv : v = (x : Int)) (hdg : decode cc pc = .ok (.iastore, 1)) (k : ∀ H1 locs1, aH A (dAdr A) (DW A (G.pr' (up G.pr k0 x)) Z) s H1 locs1 → W p l e R s m args below meth c H1 locs1 cells slots Q (F0 m (pc + 1) ls rest)) : W p l e R s m args below meth c H locs cells slots Q (F0 m pc ls (.int (iI v) :: .int (iI a) :: .ref (A.a 5) :: rest)) := by
  have e : upd (cF G.pr) (iI a).toNatClampNeg (iI v) = cF (up G.pr k0 x) := cF_up _ hk (by omega) hv
  exact va_iast (D := A.D) X.1.1 X.1.2.1 X.2.1 hC.1 (X.D (DW_adr A G Z)) hC.2 5 0 rfl rfl (iI_in hk hlt (by decide)) hdg (fun H1 locs1 hP _ hS => k H1 locs1 ⟨by rw [e] at hP; exact hP, hS⟩)
theorem alD_de (X : aX p s m c cc nL args Ts own A (dAdr A)) (hC : aH A (dAdr A) (DW A G Z) s H locs) {a v : Int} {k0 : Nat} (hk : a = (k0 : Int)) (hlt : k0 < 24) (hv : (G.de k0 : Int) = v) (hdg : decode cc pc = .ok (.iaload, 1)) (k : W p l e R s m args below meth c H locs cells slots Q (F0 m (pc + 1) ls (.int (iI v) :: rest))) : W p l e R s m args below meth c H locs cells slots Q (F0 m pc ls (.int (iI a) :: .ref (A.a 6) :: rest)) := by
  have e : (cF G.de) (iI a).toNatClampNeg = iI v := by
    rw [iI_cl hk (by omega), ← hv]
    rfl
  exact va_iald (D := A.D) X.1.1 X.1.2.1 X.2.1 hC.1 6 0 rfl rfl (iI_in hk hlt (by decide)) hdg (by rw [e]; exact k)
theorem asD_de (X : aX p s m c cc nL args Ts own A (dAdr A)) (hC : aH A (dAdr A) (DW A G Z) s H locs) {a v : Int} {k0 : Nat} {x : Nat} (hk : a = (k0 : Int)) (hlt : k0 < 24) (hv : v = (x : Int)) (hdg : decode cc pc = .ok (.iastore, 1)) (k : ∀ H1 locs1, aH A (dAdr A) (DW A (G.de' (up G.de k0 x)) Z) s H1 locs1 → W p l e R s m args below meth c H1 locs1 cells slots Q (F0 m (pc + 1) ls rest)) : W p l e R s m args below meth c H locs cells slots Q (F0 m pc ls (.int (iI v) :: .int (iI a) :: .ref (A.a 6) :: rest)) := by
  have e : upd (cF G.de) (iI a).toNatClampNeg (iI v) = cF (up G.de k0 x) := cF_up _ hk (by omega) hv
  exact va_iast (D := A.D) X.1.1 X.1.2.1 X.2.1 hC.1 (X.D (DW_adr A G Z)) hC.2 6 0 rfl rfl (iI_in hk hlt (by decide)) hdg (fun H1 locs1 hP _ hS => k H1 locs1 ⟨by rw [e] at hP; exact hP, hS⟩)
theorem alD_sa (X : aX p s m c cc nL args Ts own A (dAdr A)) (hC : aH A (dAdr A) (DW A G Z) s H locs) {a v : Int} {k0 : Nat} (hk : a = (k0 : Int)) (hlt : k0 < 24) (hv : (G.sa k0 : Int) = v) (hdg : decode cc pc = .ok (.baload, 1)) (k : W p l e R s m args below meth c H locs cells slots Q (F0 m (pc + 1) ls (.int (iI v) :: rest))) : W p l e R s m args below meth c H locs cells slots Q (F0 m pc ls (.int (iI a) :: .ref (A.a 7) :: rest)) := by
  have e : (cF G.sa) (iI a).toNatClampNeg = iI v := by
    rw [iI_cl hk (by omega), ← hv]
    rfl
  exact va_zald (D := A.D) X.1.1 X.1.2.1 X.2.1 hC.1 7 1 rfl rfl (iI_in hk hlt (by decide)) hdg (by rw [e]; exact k)
theorem asD_sa (X : aX p s m c cc nL args Ts own A (dAdr A)) (hC : aH A (dAdr A) (DW A G Z) s H locs) {a v : Int} {k0 : Nat} {x : Nat} (hk : a = (k0 : Int)) (hlt : k0 < 24) (hv : v = (x : Int)) (h01 : 0 ≤ v ∧ v ≤ 1) (hdg : decode cc pc = .ok (.bastore, 1)) (k : ∀ H1 locs1, aH A (dAdr A) (DW A (G.sa' (up G.sa k0 x)) Z) s H1 locs1 → W p l e R s m args below meth c H1 locs1 cells slots Q (F0 m (pc + 1) ls rest)) : W p l e R s m args below meth c H locs cells slots Q (F0 m pc ls (.int (iI v) :: .int (iI a) :: .ref (A.a 7) :: rest)) := by
  have e : upd (cF G.sa) (iI a).toNatClampNeg (vp_nar .boolean (iI v)) = cF (up G.sa k0 x) := by
    rw [nar_b h01]
    exact cF_up _ hk (by omega) hv
  exact va_zast (D := A.D) X.1.1 X.1.2.1 X.2.1 hC.1 (X.D (DW_adr A G Z)) hC.2 7 1 rfl rfl (iI_in hk hlt (by decide)) hdg (fun H1 locs1 hP _ hS => k H1 locs1 ⟨by rw [e] at hP; exact hP, hS⟩)
theorem alD_wt (X : aX p s m c cc nL args Ts own A (dAdr A)) (hC : aH A (dAdr A) (DW A G Z) s H locs) {a v : Int} {k0 : Nat} (hk : a = (k0 : Int)) (hlt : k0 < 104) (hv : (Z.wt k0 : Int) = v) (hdg : decode cc pc = .ok (.iaload, 1)) (k : W p l e R s m args below meth c H locs cells slots Q (F0 m (pc + 1) ls (.int (iI v) :: rest))) : W p l e R s m args below meth c H locs cells slots Q (F0 m pc ls (.int (iI a) :: .ref (A.a 9) :: rest)) := by
  have e : (cF Z.wt) (iI a).toNatClampNeg = iI v := by
    rw [iI_cl hk (by omega), ← hv]
    rfl
  exact va_iald (D := A.D) X.1.1 X.1.2.1 X.2.1 hC.1 9 0 rfl rfl (iI_in hk hlt (by decide)) hdg (by rw [e]; exact k)
theorem asD_wt (X : aX p s m c cc nL args Ts own A (dAdr A)) (hC : aH A (dAdr A) (DW A G Z) s H locs) {a v : Int} {k0 : Nat} {x : Nat} (hk : a = (k0 : Int)) (hlt : k0 < 104) (hv : v = (x : Int)) (hdg : decode cc pc = .ok (.iastore, 1)) (k : ∀ H1 locs1, aH A (dAdr A) (DW A G (Z.wt' (up Z.wt k0 x))) s H1 locs1 → W p l e R s m args below meth c H1 locs1 cells slots Q (F0 m (pc + 1) ls rest)) : W p l e R s m args below meth c H locs cells slots Q (F0 m pc ls (.int (iI v) :: .int (iI a) :: .ref (A.a 9) :: rest)) := by
  have e : upd (cF Z.wt) (iI a).toNatClampNeg (iI v) = cF (up Z.wt k0 x) := cF_up _ hk (by omega) hv
  exact va_iast (D := A.D) X.1.1 X.1.2.1 X.2.1 hC.1 (X.D (DW_adr A G Z)) hC.2 9 0 rfl rfl (iI_in hk hlt (by decide)) hdg (fun H1 locs1 hP _ hS => k H1 locs1 ⟨by rw [e] at hP; exact hP, hS⟩)
theorem alD_tt (X : aX p s m c cc nL args Ts own A (dAdr A)) (hC : aH A (dAdr A) (DW A G Z) s H locs) {a : Int} {v : Int64} {k0 : Nat} (hk : a = (k0 : Int)) (hlt : k0 < 4) (hv : G.tt k0 = v) (hdg : decode cc pc = .ok (.laload, 1)) (k : W p l e R s m args below meth c H locs cells slots Q (F0 m (pc + 1) ls (.long v :: rest))) : W p l e R s m args below meth c H locs cells slots Q (F0 m pc ls (.int (iI a) :: .ref (A.a 8) :: rest)) := by
  have e : G.tt (iI a).toNatClampNeg = v := by rw [iI_cl hk (by omega), ← hv]
  exact va_lald (D := A.D) X.1.1 X.1.2.1 X.2.1 hC.1 8 3 rfl rfl (iI_in hk hlt (by decide)) hdg (by rw [e]; exact k)
theorem asD_tt (X : aX p s m c cc nL args Ts own A (dAdr A)) (hC : aH A (dAdr A) (DW A G Z) s H locs) {a : Int} {v : Int64} {k0 : Nat} (hk : a = (k0 : Int)) (hlt : k0 < 4) (hdg : decode cc pc = .ok (.lastore, 1)) (k : ∀ H1 locs1, aH A (dAdr A) (DW A (G.tt' (up G.tt k0 v)) Z) s H1 locs1 → W p l e R s m args below meth c H1 locs1 cells slots Q (F0 m (pc + 1) ls rest)) : W p l e R s m args below meth c H locs cells slots Q (F0 m pc ls (.long v :: .int (iI a) :: .ref (A.a 8) :: rest)) := by
  have e : vp_updL G.tt (iI a).toNatClampNeg v = up G.tt k0 v := by
    rw [iI_cl hk (by omega)]
    rfl
  exact va_last (D := A.D) X.1.1 X.1.2.1 X.2.1 hC.1 (X.D (DW_adr A G Z)) hC.2 8 3 rfl rfl (iI_in hk hlt (by decide)) hdg (fun H1 locs1 hP _ hS => k H1 locs1 ⟨by rw [e] at hP; exact hP, hS⟩)
theorem anD_wt (X : aX p s m c cc nL args Ts own A (dAdr A)) (hC : aH A (dAdr A) (DW A G Z) s H locs) (hdg : decode cc pc = .ok (.arraylength, 1)) (k : W p l e R s m args below meth c H locs cells slots Q (F0 m (pc + 1) ls (.int (iI 104) :: rest))) : W p l e R s m args below meth c H locs cells slots Q (F0 m pc ls (.ref (A.a 9) :: rest)) := va_alen (D := A.D) (ty := .int) (v := iI 104) X.1.1 X.1.2.1 X.2.1 hC.1 9 0 rfl rfl (show Int32.ofNat 104 = iI 104 by decide) hdg k
theorem anD_tt (X : aX p s m c cc nL args Ts own A (dAdr A)) (hC : aH A (dAdr A) (DW A G Z) s H locs) (hdg : decode cc pc = .ok (.arraylength, 1)) (k : W p l e R s m args below meth c H locs cells slots Q (F0 m (pc + 1) ls (.int (iI 4) :: rest))) : W p l e R s m args below meth c H locs cells slots Q (F0 m pc ls (.ref (A.a 8) :: rest)) := va_alen (D := A.D) (ty := .long) (v := iI 4) X.1.1 X.1.2.1 X.2.1 hC.1 8 3 rfl rfl (show Int32.ofNat 4 = iI 4 by decide) hdg k
theorem aldA {D : va_G} {cl : List vw_C} {ws : va_W} {tys : List (ClassId × FieldType)} {ra : Nat} (hexec : p.tables.exec = Jvm.exec) (hb : c.code = cc) (hK : va_K D cl tys s) (hP : va_P D cl ws H) (q0 t0 : Nat) {cA : ClassId} {t : FieldType} {n : Nat} {f : Nat → Option Nat} (ha : ws[q0]? = some (ra, .inl (cA, n, .inr (.inr (.inr (.inr f)))))) (ht : tys[t0]? = some (cA, .array t)) {i : Int32} (hin : vp_in i n) (hdg : decode cc pc = .ok (.aaload, 1)) (kk : W p l e R s m args below meth c H locs cells slots Q (F0 m (pc + 1) ls (va_rf (f i.toNatClampNeg) :: rest))) : W p l e R s m args below meth c H locs cells slots Q (F0 m pc ls (.int i :: .ref ra :: rest)) := by
  have hlt : i.toNatClampNeg < n := Nat.not_le.mp fun q => hin (Or.inr q)
  exact W.aald (v := va_rf (f i.toNatClampNeg)) (ty := .array t) hexec hb (hP q0 _ ha) ((hK.2 t0 _ ht).1 n (fun j => va_rf (f j))) rfl (fun q => by cases q) (by show ¬ (i < 0 ∨ (arrV _ _ _).slots.size ≤ _); rw [arrV_size]; exact hin) (by show (arrV _ _ _).slots[_]? = _; rw [arrV_read _ _ hlt]) rfl rfl hdg kk
theorem alC_ro (X : aX p s m c cc nL args Ts own A (cAdr A)) (hC : aH A (cAdr A) (CW A G Y) s H locs) {a : Int} {k0 : Nat} (hk : a = (k0 : Int)) (hlt : k0 < 25) (hdg : decode cc pc = .ok (.aaload, 1)) (k : W p l e R s m args below meth c H locs cells slots Q (F0 m (pc + 1) ls (.ref (A.w k0) :: rest))) : W p l e R s m args below meth c H locs cells slots Q (F0 m pc ls (.int (iI a) :: .ref (A.a 13) :: rest)) := by
  have e : va_rf ((fun i => if i < 25 then some (A.w i) else none) (iI a).toNatClampNeg) = .ref (A.w k0) := by
    rw [iI_cl hk (by omega)]
    show va_rf (if k0 < 25 then some (A.w k0) else none) = _
    rw [if_pos hlt]
    rfl
  exact aldA (D := A.D) X.1.1 X.1.2.1 X.2.1 hC.1 13 2 rfl rfl (iI_in hk hlt (by decide)) hdg (by rw [e]; exact k)
theorem alC_wr (X : aX p s m c cc nL args Ts own A (cAdr A)) (hC : aH A (cAdr A) (CW A G Y) s H locs) {a v : Int} {i0 k0 : Nat} (hi : i0 < 25) (hk : a = (k0 : Int)) (hlt : k0 < 24) (hv : (Y.wr i0 k0 : Int) = v) (hdg : decode cc pc = .ok (.iaload, 1)) (k : W p l e R s m args below meth c H locs cells slots Q (F0 m (pc + 1) ls (.int (iI v) :: rest))) : W p l e R s m args below meth c H locs cells slots Q (F0 m pc ls (.int (iI a) :: .ref (A.w i0) :: rest)) := by
  have e : (cF (Y.wr i0)) (iI a).toNatClampNeg = iI v := by
    rw [iI_cl hk (by omega), ← hv]
    rfl
  exact va_iald (D := A.D) X.1.1 X.1.2.1 X.2.1 hC.1 (15 + i0) 0 (CR_get hi G) rfl (iI_in hk hlt (by decide)) hdg (by rw [e]; exact k)
theorem asC_wr (X : aX p s m c cc nL args Ts own A (cAdr A)) (hC : aH A (cAdr A) (CW A G Y) s H locs) {a v : Int} {i0 k0 x : Nat} (hi : i0 < 25) (hk : a = (k0 : Int)) (hlt : k0 < 24) (hv : v = (x : Int)) (hdg : decode cc pc = .ok (.iastore, 1)) (k : ∀ H1 locs1, aH A (cAdr A) (CW A G (Y.wr' (up Y.wr i0 (up (Y.wr i0) k0 x)))) s H1 locs1 → W p l e R s m args below meth c H1 locs1 cells slots Q (F0 m (pc + 1) ls rest)) : W p l e R s m args below meth c H locs cells slots Q (F0 m pc ls (.int (iI v) :: .int (iI a) :: .ref (A.w i0) :: rest)) := by
  have e : upd (cF (Y.wr i0)) (iI a).toNatClampNeg (iI v) = cF (up (Y.wr i0) k0 x) := cF_up _ hk (by omega) hv
  exact va_iast (D := A.D) X.1.1 X.1.2.1 X.2.1 hC.1 (X.D (CW_adr A G Y)) hC.2 (15 + i0) 0 (CR_get hi G) rfl (iI_in hk hlt (by decide)) hdg (fun H1 locs1 hP _ hS => k H1 locs1 ⟨by rw [e, CR_set hi] at hP; exact hP, hS⟩)
end AW
