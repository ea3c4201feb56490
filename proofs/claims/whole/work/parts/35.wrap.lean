/-! 35: the law's own methods about the planner: what they stand on -/
theorem Met.ofWH {l : Launch} {y : MethodName} {ws ws' : List Cond} {rm : Room} {Pc : Array Value → State → Prop} {Qc : Array Value → State → Outcome → State → Prop} {mc ms : Nat} {free : Addr → Prop} {cc : ByteArray} {maxL : Nat} {ret : Option FieldType} {hh : List (Nat × Nat × Nat × Nat)}
    (hy : plainName y.cls = true) (hw : ws = Cond.codeWith y cc maxL ret hh :: ws')
    (body : ∀ p e s m args below meth c s₁, BodyLoose p l y (headSpec ws rm) cc maxL ret e s m args below meth c s₁ → c.maxLocals = maxL → Pc args s →
      W p l e (headSpec ws rm).room s m args below meth c s.heap [] 0 0 (MQ below Qc args s mc ms free) (entryFrame m args maxL)) : Met l y ws rm Pc Qc mc ms free := by
  refine MetFree.of_bodyS (code := cc) (maxLocals := maxL) (ret := ret) hy ?_ ?_
  · intro args s m h hn
    obtain ⟨m9, meth, c, hn9, h1, h2, h3, h4, -, h5, h6, -⟩ := Cond.codeWith_spec (atoms_spec (ws := ws) h _ (by rw [hw]; exact List.mem_cons_self))
    cases hn.symm.trans hn9
    exact ⟨meth, c, h1, h2, h3, h4, h5, h6⟩
  · intro p e s m args below meth c s₁ B hml hP _
    have hh0 : s₁.heap = s.heap := by rw [B.state]; rfl
    obtain ⟨t, a1, o, b1, b2, b3⟩ := body p e s m args below meth c s₁ B hml hP s₁ hh0 (Stand.of_body B)
    exact ⟨t, o, a1, b1, b2, b3⟩
def oC (A : AD) (o : Nat) (f : Nat → Int64) : va_W := [(o, .inl (A.cJ, 1, .inr (.inl f)))]
/-- the class's world and the law's row for an answer -/
def OW (A : AD) (o : Nat) (G : GS) (Y : YS) (f : Nat → Int64) : va_W := CW A G Y ++ oC A o f
def oAdr (A : AD) (o : Nat) : List Nat := cAdr A ++ [o]
theorem OW_adr (A : AD) (o : Nat) (G : GS) (Y : YS) (f : Nat → Int64) : (OW A o G Y f).map Prod.fst = oAdr A o := by
  unfold OW oAdr
  rw [List.map_append, CW_adr]; rfl
theorem va_P_l {D : va_G} {cl : List vw_C} {a b : va_W} {H : Heap} (h : va_P D cl (a ++ b) H) : va_P D cl a H := fun k q hk => h k q (by
  rw [List.getElem?_append_left (List.getElem?_eq_some_iff.mp hk).1]; exact hk)
theorem va_P_r {D : va_G} {cl : List vw_C} {a b : va_W} {H : Heap} (h : va_P D cl (a ++ b) H) : va_P D cl b H := fun k q hk => h (a.length + k) q (by
  rw [List.getElem?_append_right (Nat.le_add_right _ _), Nat.add_sub_cancel_left]; exact hk)
theorem aND_l {a b : List Nat} (h : aND (a ++ b)) : aND a := fun i j q hi hj => h i j q (by
  rw [List.getElem?_append_left (List.getElem?_eq_some_iff.mp hi).1]; exact hi) (by
  rw [List.getElem?_append_left (List.getElem?_eq_some_iff.mp hj).1]; exact hj)
theorem aND_r {a b : List Nat} (h : aND (a ++ b)) : aND b := fun i j q hi hj => by
  have := h (a.length + i) (a.length + j) q (by rw [List.getElem?_append_right (Nat.le_add_right _ _), Nat.add_sub_cancel_left]; exact hi) (by rw [List.getElem?_append_right (Nat.le_add_right _ _), Nat.add_sub_cancel_left]; exact hj)
  omega
theorem aND_x {a b : List Nat} (h : aND (a ++ b)) {q : Nat} (ha : q ∈ a) (hb : q ∈ b) : False := by
  obtain ⟨i, hi, e1⟩ := List.mem_iff_getElem.mp ha
  obtain ⟨j, hj, e2⟩ := List.mem_iff_getElem.mp hb
  have := h i (a.length + j) q (by rw [List.getElem?_append_left hi, List.getElem?_eq_getElem hi, e1]) (by rw [List.getElem?_append_right (Nat.le_add_right _ _), Nat.add_sub_cancel_left, List.getElem?_eq_getElem hj, e2])
  omega
/-- one part of a world changed, the other kept -/
theorem part_keep {D : va_G} {cl : List vw_C} {a b a' : va_W} {H H1 : Heap} {la : List Nat} (h : va_P D cl (a ++ b) H) (hN : aND (la ++ b.map Prod.fst)) (h1 : va_P D cl a' H1) (hk : ∀ q : Nat, q < H.size → ¬ aFr la H.size q → H1[q]? = H[q]?) : va_P D cl (a' ++ b) H1 :=
  h1.app ((va_P_r h).kept (fun k q hq => hk q.1 ((va_P_r h k q hq).lt) (fun z => z.elim (fun z => aND_x hN z (List.mem_map.mpr ⟨q, List.mem_of_getElem? hq, rfl⟩)) (fun z => absurd ((va_P_r h k q hq).lt) (Nat.not_lt.mpr z)))))
def xnc (U : State) : Prop := va_Nc xIAE xIOE U ∧ va_Nc xISE xIOE U ∧ va_Nc xISE xIAE U
theorem xnc.moved {u U : State} (h : u.vm.Alike U.vm) (x : xnc u) : xnc U := ⟨va_Nc.moved h x.1, va_Nc.moved h x.2.1, va_Nc.moved h x.2.2⟩
def wPre (A : AD) (o : Nat) (G : GS) (Y : YS) (f : Nat → Int64) (sz : Nat) : State → Prop := fun U => xPre A (oAdr A o) (OW A o G Y f) sz U ∧ xnc U
theorem wPre_blind {A : AD} {o : Nat} {G : GS} {Y : YS} {f : Nat → Int64} {sz : Nat} {av : List Value} : FrameBlind (va_Pc av (wPre A o G Y f sz)) := fun a U g mk q => by
  obtain ⟨q0, q1, q2⟩ := q
  obtain ⟨r0, r1⟩ := xPre_blind (av := av) a U g mk ⟨q0, q1⟩
  exact ⟨r0, r1, xnc.moved (u := U) (U := U.calling g mk a) (Vm.Alike.refl U.vm) q2⟩
def wEnd9 (A : AD) (o : Nat) (u : GS × YS × (Nat → Int64)) (t : State) : Prop := va_P A.D vwCl (OW A o u.1 u.2.1 u.2.2) t.heap
def WP (K : Nat) (v : Int64) (G G' : GS) (r : Int32) (u : GS × YS × (Nat → Int64)) : Prop := r = iI ((K : Nat) : Int) ∧ (K = 0 → u.1 = G' ∧ YI u.2.1 ∧ u.2.2 0 = v) ∧ (K ≠ 0 → u.1 = G ∧ YI u.2.1)
def wMet (l : Launch) (y : MethodName) (ws : List Cond) (rm : Room) (A : AD) (o : Nat) (av : List Value) (G : GS) (Y : YS) (f : Nat → Int64) (K : Nat) (v : Int64) (G' : GS) (mc ms : Nat) : Prop := ∀ sz : Nat, Met l y ws rm (va_Pc av (wPre A o G Y f sz)) (va_Qi (WP K v G G') (wEnd9 A o) (aFr (oAdr A o) sz)) mc ms (aFr (oAdr A o) sz)
def wX (l : Launch) (p : Program) (s : State) (m : MethodId) (c : Code) (cc : ByteArray) (nL : Nat) (args : Array Value) (Ts : List Cond) (own : String) (A : AD) (o : Nat) : Prop :=
  aX p s m c cc nL args Ts own A (oAdr A o) ∧ xtra s ∧ xZ (aFr (oAdr A o) s.heap.size) s s.heap ∧ xnc s ∧ l.stackTraces = false
section WE
variable {p : Program} {l : Launch} {e : Env} {R : Room} {s : State} {m : MethodId} {args : Array Value} {below : List Frame} {meth : Method} {c : Code} {H : Heap} {locs : List Loc} {cells slots : Nat} {Q : State → Prop}
variable {cc : ByteArray} {pc nL mc ms : Nat} {ls : Array Slot} {rest st0 : List Value} {Ts : List Cond} {own : String} {A : AD} {o : Nat} {G : GS} {Y : YS} {f : Nat → Int64}
theorem w_start {y : MethodName} {ws ws' : List Cond} {rm : Room} {free : Addr → Prop} {maxL : Nat} {ret : Option FieldType} {hh : List (Nat × Nat × Nat × Nat)} {sz : Nat} {av : List Value} {Qc : Array Value → State → Outcome → State → Prop}
    (hl0 : l.stackTraces = false) (hy : plainName y.cls = true) (hw : ws = Cond.codeWith y cc maxL ret hh :: ws') (hle : Nat.ble (lg_sl av).length maxL = true)
    (body : ∀ p e s m args below meth c, wX l p s m c cc maxL args ws y.cls A o → meth.sig.returnType = ret → meth.locks = false → c.exceptionTable.toList = tableOf hh → s.heap.size = sz → ∀ ls, lv_has ls maxL (lv_args 0 av) → ∀ (H : Heap) (locs : List Loc), aH A (oAdr A o) (OW A o G Y f) s H locs →
      W p l e rm s m args below meth c H locs 0 0 (MQ below Qc args s mc ms free) (F0 m 0 ls [])) : Met l y ws rm (va_Pc av (wPre A o G Y f sz)) Qc mc ms free := by
  refine Met.ofWH (cc := cc) (maxL := maxL) (ret := ret) (hh := hh) hy hw ?_
  intro p e s m args below meth c s₁ B hml hv
  obtain ⟨rfl, ⟨⟨hsz, hP, hK, hN⟩, hX, hZ⟩, hnc⟩ := hv
  have hts := atoms_spec (ws := ws) B.pre
  have hl := lv_entry av (n := maxL) (Nat.le_of_ble_eq_true hle)
  rw [lg_entry_eq]
  exact body p e s m _ below meth c ⟨⟨⟨B.exec, B.bytes, hml, findClass_of_methodNamed B.named, hts⟩, hK, hN⟩, hX, by rw [hsz]; exact hZ, hnc, hl0⟩ B.returns B.notSynchronized (vx_table (x := y) B (hts _ (by rw [hw]; exact List.mem_cons_self))) hsz _ hl _ _ ⟨hP, va_S.rf⟩
theorem oFr {q sz : Nat} (h : aFr (cAdr A) sz q) : aFr (oAdr A o) sz q := h.elim (fun h => Or.inl (List.mem_append_left _ h)) Or.inr
theorem w_pre (X : wX l p s m c cc nL args Ts own A o) (hC : aH A (oAdr A o) (OW A o G Y f) s H locs) {av : List Value} (U : State) (hU : U.heap = H) (hW : s.WarmedH U.vm) : va_Pc av (xPre A (cAdr A) (CW A G Y) H.size) av.toArray U := by
  have hm : ∀ q, aFr (oAdr A o) H.size q → aFr (oAdr A o) s.heap.size q := aFr_mono hC.2
  refine ⟨rfl, ⟨by rw [hU], by rw [hU]; exact va_P_l hC.1, va_K.moved hW.alike X.1.2.1, aND_l X.1.2.2⟩, xtra.warm hW X.2.1, ?_, ?_⟩
  · rw [hU]; exact vx_Zq.moved hW.alike ((vx_Zq.kept X.2.2.1.1 hC.2.2.1).narrow (fun q h => hm q (oFr h)))
  · rw [hU]; exact vx_Zq.moved hW.alike ((vx_Zq.kept X.2.2.1.2 hC.2.2.1).narrow (fun q h => hm q (oFr h)))
theorem ow_keep (X : wX l p s m c cc nL args Ts own A o) (hC : aH A (oAdr A o) (OW A o G Y f) s H locs) {G' : GS} {Y' : YS} {H1 : Heap} (h1 : va_P A.D vwCl (CW A G' Y') H1) (hk : ∀ q : Nat, q < H.size → ¬ aFr (cAdr A) H.size q → H1[q]? = H[q]?) : va_P A.D vwCl (OW A o G' Y' f) H1 := part_keep hC.1 X.1.2.2 h1 hk
variable {y : MethodName} {bytes : ByteArray} {maxL n index : Nat} {ret : Option FieldType} {ws : List Cond} {rm : Room} {As : List Value}
theorem w_recv (X : wX l p s m c cc nL args Ts own A o) (hC : aH A (oAdr A o) (OW A o G Y f) s H locs) : ∃ cell : Cell, H[A.a 0]? = some cell ∧ cell.vm.isStatics = false ∧ s.vm.findClass RX3 = some cell.cls := va_recv (ci := 3) (q := (RX3, TX3, 3)) (q0 := 0) (fs := [.ref (A.a 1), .ref (A.a 2), .ref (A.a 3)]) X.1.2.1 hC.1 rfl rfl
theorem w_calli {P : Int → GS → YS → Prop} {XP : String → GS → YS → Prop} {mc0 ms0 : Nat} (X : wX l p s m c cc nL args Ts own A o) (hC : aH A (oAdr A o) (OW A o G Y f) s H locs) (hM : cXi l y ws rm A (.ref (A.a 0) :: As) G Y P XP mc0 ms0) (hy : y.cls = RX3) (hcw : xCall R Ts own index y bytes maxL ret ws rm mc0 ms0 n) (hn : As.length = n) (hsz : ls.size = nL) (hst : st0 = As.reverse ++ .ref (A.a 0) :: rest) (hsum : (rest.map fun v => v.category).sum ≤ 8) (hf : cells + mc0 ≤ R.cells ∧ slots + ms0 ≤ R.slots) (hdg : decode cc pc = .ok (.invokevirtual index, 3))
    (kx : ∀ (E : String) (ce : Cell) (q9 : Addr) (G' : GS) (Y' : YS) (H1 : Heap) (locs1 : List Loc), XP E G' Y' → aH A (oAdr A o) (OW A o G' Y' f) s H1 locs1 → H1[q9]? = some ce → ce.vm = .none → s.vm.findClass E = some ce.cls → vx_W p l e R s m args below meth c H1 locs1 (cells + mc0) (slots + ms0) Q (F0 m pc ls rest) q9)
    (kk : ∀ (z : Int) (G' : GS) (Y' : YS) (H1 : Heap) (locs1 : List Loc), P z G' Y' → aH A (oAdr A o) (OW A o G' Y' f) s H1 locs1 → W p l e R s m args below meth c H1 locs1 (cells + mc0) (slots + ms0) Q (F0 m (pc + 3) ls (.int (iI z) :: rest))) : W p l e R s m args below meth c H locs cells slots Q (F0 m pc ls st0) :=
  vx_calli (A1 := aFr (cAdr A) H.size) (vx_runV (As := As) (rest := rest) X.1.1 (hM H.size) (hcw.W X.1.1.2.2.2.2) ⟨xPre_blind, by rw [hy]; exact w_recv X hC, fun U hU hW => w_pre X hC U hU hW⟩ rfl hn hsz hst (lv_room hsum) hdg hf) hC.2 (fun q _ h => aFr_mono hC.2 q (oFr h)) (fun q h => aFr_mono hC.2 q (oFr h)) (fun q _ h => aFr_mono hC.2 q (oFr h)) (fun E ce q9 u t H1 locs1 ht _ _ hB _ hk hS hce hv hcl => kx E ce q9 u.1 u.2 H1 locs1 hB.1 ⟨ow_keep X hC (by rw [← ht]; exact hB.2) hk, hS⟩ hce hv hcl) (fun r u t H1 locs1 ht _ hp hB _ hk hS => by obtain ⟨z, rfl, hq⟩ := hp; exact kk z u.1 u.2 H1 locs1 hq ⟨ow_keep X hC (by rw [← ht]; exact hB) hk, hS⟩)
theorem w_calll {P : Int64 → GS → YS → Prop} {XP : String → GS → YS → Prop} {mc0 ms0 : Nat} (X : wX l p s m c cc nL args Ts own A o) (hC : aH A (oAdr A o) (OW A o G Y f) s H locs) (hM : cXl l y ws rm A (.ref (A.a 0) :: As) G Y P XP mc0 ms0) (hy : y.cls = RX3) (hcw : xCall R Ts own index y bytes maxL ret ws rm mc0 ms0 n) (hn : As.length = n) (hsz : ls.size = nL) (hst : st0 = As.reverse ++ .ref (A.a 0) :: rest) (hsum : (rest.map fun v => v.category).sum ≤ 8) (hf : cells + mc0 ≤ R.cells ∧ slots + ms0 ≤ R.slots) (hdg : decode cc pc = .ok (.invokevirtual index, 3))
    (kx : ∀ (E : String) (ce : Cell) (q9 : Addr) (G' : GS) (Y' : YS) (H1 : Heap) (locs1 : List Loc), XP E G' Y' → aH A (oAdr A o) (OW A o G' Y' f) s H1 locs1 → H1[q9]? = some ce → ce.vm = .none → s.vm.findClass E = some ce.cls → vx_W p l e R s m args below meth c H1 locs1 (cells + mc0) (slots + ms0) Q (F0 m pc ls rest) q9)
    (kk : ∀ (z : Int64) (G' : GS) (Y' : YS) (H1 : Heap) (locs1 : List Loc), P z G' Y' → aH A (oAdr A o) (OW A o G' Y' f) s H1 locs1 → W p l e R s m args below meth c H1 locs1 (cells + mc0) (slots + ms0) Q (F0 m (pc + 3) ls (.long z :: rest))) : W p l e R s m args below meth c H locs cells slots Q (F0 m pc ls st0) :=
  vx_calll (A1 := aFr (cAdr A) H.size) (vx_runV (As := As) (rest := rest) X.1.1 (hM H.size) (hcw.W X.1.1.2.2.2.2) ⟨xPre_blind, by rw [hy]; exact w_recv X hC, fun U hU hW => w_pre X hC U hU hW⟩ rfl hn hsz hst (lv_room hsum) hdg hf) hC.2 (fun q _ h => aFr_mono hC.2 q (oFr h)) (fun q h => aFr_mono hC.2 q (oFr h)) (fun q _ h => aFr_mono hC.2 q (oFr h)) (fun E ce q9 u t H1 locs1 ht _ _ hB _ hk hS hce hv hcl => kx E ce q9 u.1 u.2 H1 locs1 hB.1 ⟨ow_keep X hC (by rw [← ht]; exact hB.2) hk, hS⟩ hce hv hcl) (fun r u t H1 locs1 ht _ hp hB _ hk hS => kk r u.1 u.2 H1 locs1 hp ⟨ow_keep X hC (by rw [← ht]; exact hB) hk, hS⟩)
/-- the answer is laid into the row -/
theorem w_last {x : Int64} (X : wX l p s m c cc nL args Ts own A o) (hC : aH A (oAdr A o) (OW A o G Y f) s H locs) (hdg : decode cc pc = .ok (.lastore, 1)) (k : ∀ H1 locs1, aH A (oAdr A o) (OW A o G Y (up f 0 x)) s H1 locs1 → W p l e R s m args below meth c H1 locs1 cells slots Q (F0 m (pc + 1) ls rest)) : W p l e R s m args below meth c H locs cells slots Q (F0 m pc ls (.long x :: .int (iI 0) :: .ref o :: rest)) :=
  va_last (D := A.D) X.1.1.1 X.1.1.2.1 X.1.2.1 hC.1 (X.1.D (OW_adr A o G Y f)) hC.2 40 3 rfl rfl (iI_in (k := 0) rfl (by decide) (by decide)) hdg (fun H1 locs1 hP _ hS => k H1 locs1 ⟨by
    have e : vp_updL f (iI 0).toNatClampNeg x = up f 0 x := by
      rw [show (iI 0).toNatClampNeg = 0 from iI_cl (k := 0) rfl (by decide)]; rfl
    rw [e] at hP; exact hP, hS⟩)
theorem w_ret {K mcx msx : Nat} {v : Int64} {G0 G1 : GS} {z : Int} (X : wX l p s m c cc nL args Ts own A o) (hC : aH A (oAdr A o) (OW A o G Y f) s H locs) (hr : meth.sig.returnType = some .int) (hk : meth.locks = false) (hc : cells ≤ mcx) (hs : slots ≤ msx) (hq : WP K v G0 G1 (iI z) (G, Y, f)) (hdg : decode cc pc = .ok (.ireturn, 1)) : W p l e R s m args below meth c H locs cells slots (MQ below (va_Qi (WP K v G0 G1) (wEnd9 A o) (aFr (oAdr A o) s.heap.size)) args s mcx msx (aFr (oAdr A o) s.heap.size)) (F0 m pc ls [.int (iI z)]) :=
  W.widen hc hs (W.zret X.1.1.1 X.1.1.2.1 hr rfl (fun t ht hW => ⟨⟨iI z, (G, Y, f), rfl, hq, by unfold wEnd9; rw [ht]; exact hC.1⟩, hC.2.F ht⟩) hC.2.2.2 hdg hk)
end WE
