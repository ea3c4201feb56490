/-! 33: the share of sides without snow -/
def bareV (c r : Nat) : UInt64 := if r = 0 then FP.dconst1 else FP.ddiv (FP.i2d (iI ((c : Nat) : Int))) (FP.i2d (iI ((2 * r : Nat) : Int)))
theorem bare_n : ∀ r : Fin 12, ∀ c : Fin 25, vf_n64 (FP.ddiv (FP.i2d (iI ((c.val : Nat) : Int))) (FP.i2d (iI ((2 * (r.val + 1) : Nat) : Int)))) := by unfold vf_n64; decide +kernel
theorem bare_c : ∀ r : Fin 12, ∀ c : Fin 25, Op.cmpValue (FP.dcmp (FP.ddiv (FP.i2d (iI ((c.val : Nat) : Int))) (FP.i2d (iI ((2 * (r.val + 1) : Nat) : Int)))) (FP.ddiv (FP.i2d (iI ((c.val : Nat) : Int))) (FP.i2d (iI ((2 * (r.val + 1) : Nat) : Int))))) .l = 0 := by decide +kernel
theorem bareV_n {c r : Nat} (h0 : r ≠ 0) (hr : r ≤ 12) (hc : c ≤ 24) : vf_n64 (FP.ddiv (FP.i2d (iI ((c : Nat) : Int))) (FP.i2d (iI ((2 * r : Nat) : Int)))) := by
  have h := bare_n ⟨r - 1, by omega⟩ ⟨c, by omega⟩
  rw [show r - 1 + 1 = r by omega] at h
  exact h
theorem bareV_c {c r : Nat} (hr : r ≤ 12) (hc : c ≤ 24) : Op.cmpValue (FP.dcmp (bareV c r) (bareV c r)) .l = 0 := by
  unfold bareV
  by_cases h0 : r = 0
  · rw [if_pos h0]; decide +kernel
  · rw [if_neg h0]
    have h := bare_c ⟨r - 1, by omega⟩ ⟨c, by omega⟩
    rw [show r - 1 + 1 = r by omega] at h
    exact h
abbrev aQd {T : Type} (below : List Frame) (E : GS × T → State → Prop) (ad : List Nat) (args : Array Value) (s : State) (P : UInt64 → GS → T → Prop) : State → Prop := MQ below (va_Qd (fun r (u : GS × T) => P r u.1 u.2) E (aFr ad s.heap.size)) args s 0 0 (aFr ad s.heap.size)
def cMd (l : Launch) (y : MethodName) (ws : List Cond) (rm : Room) (A : AD) (av : List Value) (G : GS) (Y : YS) (Q : UInt64 → GS → YS → Prop) : Prop := ∀ sz : Nat, Met l y ws rm (va_Pc av (aPre A (cAdr A) (CW A G Y) sz)) (va_Qd (fun r (u : GS × YS) => Q r u.1 u.2) (cEnd A) (aFr (cAdr A) sz)) 0 0 (aFr (cAdr A) sz)
def dMd (l : Launch) (y : MethodName) (ws : List Cond) (rm : Room) (A : AD) (av : List Value) (G : GS) (Z : ZS) (Q : UInt64 → GS → ZS → Prop) : Prop := ∀ sz : Nat, Met l y ws rm (va_Pc av (aPre A (dAdr A) (DW A G Z) sz)) (va_Qd (fun r (u : GS × ZS) => Q r u.1 u.2) (dEnd A) (aFr (dAdr A) sz)) 0 0 (aFr (dAdr A) sz)
def xD {T : Type} (v : UInt64) (G' : GS) (Y' : T) : UInt64 → GS → T → Prop := fun z g y => z = v ∧ g = G' ∧ y = Y'
section BD
variable {p : Program} {l : Launch} {e : Env} {R : Room} {s : State} {m : MethodId} {args : Array Value} {below : List Frame} {meth : Method} {c : Code} {H : Heap} {locs : List Loc}
variable {cc : ByteArray} {pc nL : Nat} {ls : Array Slot} {Ts : List Cond} {own : String} {A : AD} {G : GS} {Y : YS} {Z : ZS}
theorem c_dret {P : UInt64 → GS → YS → Prop} {v : UInt64} (X : aX p s m c cc nL args Ts own A (cAdr A)) (hC : aH A (cAdr A) (CW A G Y) s H locs) (hr : meth.sig.returnType = some .double) (hk : meth.locks = false) (hq : P v G Y) (hdg : decode cc pc = .ok (.dreturn, 1)) : W p l e R s m args below meth c H locs 0 0 (aQd below (cEnd A) (cAdr A) args s P) (F0 m pc ls [.double v]) := W.dret X.1.1 X.1.2.1 hr (fun t ht hW => ⟨⟨v, (G, Y), rfl, hq, by unfold cEnd; rw [ht]; exact hC.1⟩, hC.2.F ht⟩) hC.2.2.2 hdg hk
theorem d_dret {P : UInt64 → GS → ZS → Prop} {v : UInt64} (X : aX p s m c cc nL args Ts own A (dAdr A)) (hC : aH A (dAdr A) (DW A G Z) s H locs) (hr : meth.sig.returnType = some .double) (hk : meth.locks = false) (hq : P v G Z) (hdg : decode cc pc = .ok (.dreturn, 1)) : W p l e R s m args below meth c H locs 0 0 (aQd below (dEnd A) (dAdr A) args s P) (F0 m pc ls [.double v]) := W.dret X.1.1 X.1.2.1 hr (fun t ht hW => ⟨⟨v, (G, Z), rfl, hq, by unfold dEnd; rw [ht]; exact hC.1⟩, hC.2.F ht⟩) hC.2.2.2 hdg hk
end BD
