/-! 38: the law: its world, its calls -/
def itw8_w (G : GS) (z n : Nat) : Prop := wnb G (itw G z n) (2 * G.rr) = itw G z n
theorem lcmp_s (x : Int64) : lg_cmp x x = iI 0 := by unfold lg_cmp; simp; decide
theorem and31 (x : Int32) : ∃ k : Nat, k ≤ 31 ∧ x &&& iI 31 = iI (k : Int) := by
  refine ⟨(x &&& iI 31).toBitVec.toNat, ?_, ?_⟩
  · have : (x &&& iI 31).toBitVec = x.toBitVec &&& (iI 31).toBitVec := rfl
    rw [this, BitVec.toNat_and]
    refine Nat.le_trans Nat.and_le_right ?_
    decide
  · rw [iI_nat]
    unfold nI
    apply Int32.toBitVec.inj
    show _ = BitVec.ofNat 32 _
    rw [BitVec.ofNat_toNat, BitVec.setWidth_eq]
/-- the law's world: the class's, the row for an answer, the reference's -/
def LW (A B : AD) (o : Nat) (G : GS) (Y : YS) (f : Nat → Int64) (G2 : GS) (Z : ZS) : va_W := OW A o G Y f ++ DW B G2 Z
def lAdr (A B : AD) (o : Nat) : List Nat := oAdr A o ++ dAdr B
def lwN (s : State) : Nat → Prop := fun q => s.heap.size ≤ q
def lwC (A B : AD) (o : Nat) (G : GS) (Y : YS) (f : Nat → Int64) (G2 : GS) (Z : ZS) (s : State) (H : Heap) (locs : List Loc) : Prop := va_P A.D vwCl (LW A B o G Y f G2 Z) H ∧ va_S (lwN s) s.heap H locs
def lwX (l : Launch) (p : Program) (s : State) (m : MethodId) (c : Code) (args : Array Value) (A B : AD) (o : Nat) : Prop :=
  CallFix p m c code 9 s args wsL_law RL ∧ va_K A.D vwCl A.tys s ∧ aND (lAdr A B o) ∧ (∀ q ∈ lAdr A B o, s.heap.size ≤ q) ∧ xtra s ∧ xZ (lwN s) s s.heap ∧ xnc s ∧ l.stackTraces = false ∧ B.D = A.D ∧ B.tys = A.tys
theorem LW_adrO (A : AD) (o : Nat) (G : GS) (Y : YS) (f : Nat → Int64) : (OW A o G Y f).map Prod.fst = oAdr A o := OW_adr A o G Y f
section LE
variable {p : Program} {l : Launch} {e : Env} {R : Room} {s : State} {m : MethodId} {args : Array Value} {below : List Frame} {meth : Method} {c : Code} {H : Heap} {locs : List Loc} {cells slots : Nat} {Q : State → Prop}
variable {pc : Nat} {ls : Array Slot} {rest st0 : List Value} {A B : AD} {o : Nat} {G G2 : GS} {Y : YS} {f : Nat → Int64} {Z : ZS}
variable {y : MethodName} {bytes : ByteArray} {maxL n index : Nat} {ret : Option FieldType} {ws : List Cond} {rm : Room} {As : List Value}
theorem l_fr (X : lwX l p s m c args A B o) (hS : va_S (lwN s) s.heap H locs) {ad : List Nat} (had : ∀ q ∈ ad, q ∈ lAdr A B o) : ∀ q, aFr ad H.size q → lwN s q := fun q h => h.elim (fun h => X.2.2.2.1 q (had q h)) (fun h => Nat.le_trans hS.1 h)
theorem l_mO {q : Nat} (h : q ∈ oAdr A o) : q ∈ lAdr A B o := List.mem_append_left _ h
theorem l_mC {q : Nat} (h : q ∈ cAdr A) : q ∈ lAdr A B o := List.mem_append_left _ (List.mem_append_left _ h)
theorem l_mD {q : Nat} (h : q ∈ dAdr B) : q ∈ lAdr A B o := List.mem_append_right _ h
/-- the right part of a world changed, the left kept -/
theorem part_keepR {D : va_G} {cl : List vw_C} {a b b' : va_W} {H H1 : Heap} {lb : List Nat} (h : va_P D cl (a ++ b) H) (hN : aND (a.map Prod.fst ++ lb)) (h1 : va_P D cl b' H1) (hk : ∀ q : Nat, q < H.size → ¬ aFr lb H.size q → H1[q]? = H[q]?) : va_P D cl (a ++ b') H1 :=
  ((va_P_l h).kept (fun k q hq => hk q.1 ((va_P_l h k q hq).lt) (fun z => z.elim (fun z => aND_x hN (List.mem_map.mpr ⟨q, List.mem_of_getElem? hq, rfl⟩) z) (fun z => absurd ((va_P_l h k q hq).lt) (Nat.not_lt.mpr z))))).app h1
theorem l_keepO (X : lwX l p s m c args A B o) (hC : lwC A B o G Y f G2 Z s H locs) {G' : GS} {Y' : YS} {f' : Nat → Int64} {H1 : Heap} (h1 : va_P A.D vwCl (OW A o G' Y' f') H1) (hk : ∀ q : Nat, q < H.size → ¬ aFr (oAdr A o) H.size q → H1[q]? = H[q]?) : va_P A.D vwCl (LW A B o G' Y' f' G2 Z) H1 := part_keep hC.1 X.2.2.1 h1 hk
theorem l_keepC (X : lwX l p s m c args A B o) (hC : lwC A B o G Y f G2 Z s H locs) {G' : GS} {Y' : YS} {H1 : Heap} (h1 : va_P A.D vwCl (CW A G' Y') H1) (hk : ∀ q : Nat, q < H.size → ¬ aFr (cAdr A) H.size q → H1[q]? = H[q]?) : va_P A.D vwCl (LW A B o G' Y' f G2 Z) H1 := by
  have h2 : va_P A.D vwCl (CW A G Y ++ (oC A o f ++ DW B G2 Z)) H := by rw [← List.append_assoc]; exact hC.1
  have h3 := part_keep (la := cAdr A) h2 (by
    rw [List.map_append]
    show aND (cAdr A ++ ([o] ++ dAdr B))
    rw [← List.append_assoc]; exact X.2.2.1) h1 hk
  rw [← List.append_assoc] at h3; exact h3
theorem l_keepD (X : lwX l p s m c args A B o) (hC : lwC A B o G Y f G2 Z s H locs) {G' : GS} {Z' : ZS} {H1 : Heap} (h1 : va_P A.D vwCl (DW B G' Z') H1) (hk : ∀ q : Nat, q < H.size → ¬ aFr (dAdr B) H.size q → H1[q]? = H[q]?) : va_P A.D vwCl (LW A B o G Y f G' Z') H1 := part_keepR hC.1 (by rw [OW_adr]; exact X.2.2.1) h1 hk
theorem l_preC (X : lwX l p s m c args A B o) (hC : lwC A B o G Y f G2 Z s H locs) {av : List Value} (U : State) (hU : U.heap = H) (hW : s.WarmedH U.vm) : va_Pc av (aPre A (cAdr A) (CW A G Y) H.size) av.toArray U :=
  ⟨rfl, by rw [hU], by rw [hU]; exact va_P_l (va_P_l hC.1), va_K.moved hW.alike X.2.1, aND_l (aND_l X.2.2.1)⟩
theorem l_preD (X : lwX l p s m c args A B o) (hC : lwC A B o G Y f G2 Z s H locs) {av : List Value} (U : State) (hU : U.heap = H) (hW : s.WarmedH U.vm) : va_Pc av (aPre B (dAdr B) (DW B G2 Z) H.size) av.toArray U :=
  ⟨rfl, by rw [hU], by rw [hU, X.2.2.2.2.2.2.2.2.1]; exact va_P_r hC.1, by rw [X.2.2.2.2.2.2.2.2.1, X.2.2.2.2.2.2.2.2.2]; exact va_K.moved hW.alike X.2.1, aND_r X.2.2.1⟩
theorem l_preW (X : lwX l p s m c args A B o) (hC : lwC A B o G Y f G2 Z s H locs) {av : List Value} (U : State) (hU : U.heap = H) (hW : s.WarmedH U.vm) : va_Pc av (wPre A o G Y f H.size) av.toArray U := by
  have hm := l_fr X hC.2 (ad := oAdr A o) (fun q h => l_mO h)
  refine ⟨rfl, ⟨⟨by rw [hU], by rw [hU]; exact va_P_l hC.1, va_K.moved hW.alike X.2.1, aND_l X.2.2.1⟩, xtra.warm hW X.2.2.2.2.1, ?_, ?_⟩, xnc.moved hW.alike X.2.2.2.2.2.2.1⟩
  · rw [hU]; exact vx_Zq.moved hW.alike ((vx_Zq.kept X.2.2.2.2.2.1.1 hC.2.2.1).narrow hm)
  · rw [hU]; exact vx_Zq.moved hW.alike ((vx_Zq.kept X.2.2.2.2.2.1.2 hC.2.2.1).narrow hm)
theorem l_recvC (X : lwX l p s m c args A B o) (hC : lwC A B o G Y f G2 Z s H locs) : ∃ cell : Cell, H[A.a 0]? = some cell ∧ cell.vm.isStatics = false ∧ s.vm.findClass RX3 = some cell.cls := va_recv (ci := 3) (q := (RX3, TX3, 3)) (q0 := 0) (fs := [.ref (A.a 1), .ref (A.a 2), .ref (A.a 3)]) X.2.1 (va_P_l (va_P_l hC.1)) rfl rfl
theorem l_recvD (X : lwX l p s m c args A B o) (hC : lwC A B o G Y f G2 Z s H locs) : ∃ cell : Cell, H[B.a 0]? = some cell ∧ cell.vm.isStatics = false ∧ s.vm.findClass RX4 = some cell.cls := va_recv (ci := 4) (q := (RX4, TX4, 18)) (q0 := 0) X.2.1 (va_P_r hC.1) rfl rfl
/-- a call of the law's own methods -/
theorem l_callW {K : Nat} {v : Int64} {G' : GS} {mc0 ms0 : Nat} {hh : List (Nat × Nat × Nat × Nat)} (X : lwX l p s m c args A B o) (hC : lwC A B o G Y f G2 Z s H locs) (hM : wMet l y ws rm A o As G Y f K v G' mc0 ms0) (hG : GoodIn wsL_law (va_wsS RL index y ws)) (hw : ∃ ws', ws = Cond.codeWith y bytes maxL ret hh :: ws') (hrc : rm.cells = mc0) (hrs : rm.slots = ms0) (hd : y.cls ≠ "java/lang/invoke/MethodHandle" ∧ y.cls ≠ "java/lang/invoke/VarHandle" ∧ (parseMethodDescriptor y.desc).map (fun d => d.parameters.length) = some n) (hR : rm.frames + 1 ≤ R.frames ∧ 8 + (maxL + 11) + rm.locals ≤ R.locals) (hn : As.length = n) (hsz : ls.size = 9) (hst : st0 = As.reverse ++ rest) (hsum : (rest.map fun v => v.category).sum ≤ 8) (hf : cells + mc0 ≤ R.cells ∧ slots + ms0 ≤ R.slots) (hdg : decode code pc = .ok (.invokestatic index, 3))
    (kk : ∀ (G1 : GS) (Y1 : YS) (f1 : Nat → Int64) (H1 : Heap) (locs1 : List Loc), YI Y1 → (K = 0 → G1 = G' ∧ f1 0 = v) → (K ≠ 0 → G1 = G) → lwC A B o G1 Y1 f1 G2 Z s H1 locs1 → W p l e R s m args below meth c H1 locs1 (cells + mc0) (slots + ms0) Q (F0 m (pc + 3) ls (.int (iI ((K : Nat) : Int)) :: rest))) : W p l e R s m args below meth c H locs cells slots Q (F0 m pc ls st0) := by
  obtain ⟨ws', hw⟩ := hw
  refine va_calli (A1 := aFr (oAdr A o) H.size) (vx_runSW (As := As) (rest := rest) X.1 (hM H.size) (vx_cwSW n X.1.2.2.2.2 hG hw hrc hrs hd hR) ⟨wPre_blind, fun U hU hW => l_preW X hC U hU hW⟩ rfl hn hsz hst (lv_room hsum) hdg hf) hC.2 (fun q _ h => l_fr X hC.2 (fun q h => l_mO h) q h) (fun q h => l_fr X hC.2 (fun q h => l_mO h) q h) (fun r u t H1 locs1 ht _ hp hB _ hk hS => ?_)
  obtain ⟨rfl, h1, h2⟩ := hp
  have hB' : va_P A.D vwCl (OW A o u.1 u.2.1 u.2.2) H1 := by rw [← ht]; exact hB
  refine kk u.1 u.2.1 u.2.2 H1 locs1 ?_ (fun q => ⟨(h1 q).1, (h1 q).2.2⟩) (fun q => (h2 q).1) ⟨l_keepO X hC hB' hk, hS⟩
  by_cases q : K = 0
  · exact (h1 q).2.1
  · exact (h2 q).2

theorem l_callCi {P : Int → GS → YS → Prop} (X : lwX l p s m c args A B o) (hC : lwC A B o G Y f G2 Z s H locs) (hM : cMi l y ws rm A (.ref (A.a 0) :: As) G Y P) (hy : y.cls = RX3) (hcw : aCall R wsL_law RL index y bytes maxL ret ws rm n) (hn : As.length = n) (hsz : ls.size = 9) (hst : st0 = As.reverse ++ .ref (A.a 0) :: rest) (hsum : (rest.map fun v => v.category).sum ≤ 8) (hf : cells ≤ R.cells ∧ slots ≤ R.slots) (hdg : decode code pc = .ok (.invokevirtual index, 3)) (kk : ∀ (z : Int) (G' : GS) (T' : YS) (H1 : Heap) (locs1 : List Loc), P z G' T' → lwC A B o G' T' f G2 Z s H1 locs1 → W p l e R s m args below meth c H1 locs1 cells slots Q (F0 m (pc + 3) ls (.int (iI z) :: rest))) : W p l e R s m args below meth c H locs cells slots Q (F0 m pc ls st0) := by
  refine va_calli (A1 := aFr (cAdr A) H.size) (va_runV (As := As) (rest := rest) X.1 (hM H.size) (hcw.W X.1.2.2.2.2) ⟨aPre_blind, by rw [hy]; exact l_recvC X hC, fun U hU hW => l_preC X hC U hU hW⟩ rfl hn hsz hst (lv_room hsum) hdg hf) hC.2 (fun q _ h => l_fr X hC.2 (fun q h => l_mC h) q h) (fun q h => l_fr X hC.2 (fun q h => l_mC h) q h) (fun r u t H1 locs1 ht _ hp hB _ hk hS => ?_)
  obtain ⟨z, rfl, hq⟩ := hp
  exact kk z u.1 u.2 H1 locs1 hq ⟨l_keepC X hC (by rw [← ht]; exact hB) hk, hS⟩

theorem l_callCl {P : Int64 → GS → YS → Prop} (X : lwX l p s m c args A B o) (hC : lwC A B o G Y f G2 Z s H locs) (hM : cMl l y ws rm A (.ref (A.a 0) :: As) G Y P) (hy : y.cls = RX3) (hcw : aCall R wsL_law RL index y bytes maxL ret ws rm n) (hn : As.length = n) (hsz : ls.size = 9) (hst : st0 = As.reverse ++ .ref (A.a 0) :: rest) (hsum : (rest.map fun v => v.category).sum ≤ 8) (hf : cells ≤ R.cells ∧ slots ≤ R.slots) (hdg : decode code pc = .ok (.invokevirtual index, 3)) (kk : ∀ (z : Int64) (G' : GS) (T' : YS) (H1 : Heap) (locs1 : List Loc), P z G' T' → lwC A B o G' T' f G2 Z s H1 locs1 → W p l e R s m args below meth c H1 locs1 cells slots Q (F0 m (pc + 3) ls (.long z :: rest))) : W p l e R s m args below meth c H locs cells slots Q (F0 m pc ls st0) := by
  refine va_calll (A1 := aFr (cAdr A) H.size) (va_runV (As := As) (rest := rest) X.1 (hM H.size) (hcw.W X.1.2.2.2.2) ⟨aPre_blind, by rw [hy]; exact l_recvC X hC, fun U hU hW => l_preC X hC U hU hW⟩ rfl hn hsz hst (lv_room hsum) hdg hf) hC.2 (fun q _ h => l_fr X hC.2 (fun q h => l_mC h) q h) (fun q h => l_fr X hC.2 (fun q h => l_mC h) q h) (fun r u t H1 locs1 ht _ hp hB _ hk hS => ?_)
  have hq := hp; have z := r
  exact kk r u.1 u.2 H1 locs1 hq ⟨l_keepC X hC (by rw [← ht]; exact hB) hk, hS⟩

theorem l_callCd {P : UInt64 → GS → YS → Prop} (X : lwX l p s m c args A B o) (hC : lwC A B o G Y f G2 Z s H locs) (hM : cMd l y ws rm A (.ref (A.a 0) :: As) G Y P) (hy : y.cls = RX3) (hcw : aCall R wsL_law RL index y bytes maxL ret ws rm n) (hn : As.length = n) (hsz : ls.size = 9) (hst : st0 = As.reverse ++ .ref (A.a 0) :: rest) (hsum : (rest.map fun v => v.category).sum ≤ 8) (hf : cells ≤ R.cells ∧ slots ≤ R.slots) (hdg : decode code pc = .ok (.invokevirtual index, 3)) (kk : ∀ (z : UInt64) (G' : GS) (T' : YS) (H1 : Heap) (locs1 : List Loc), P z G' T' → lwC A B o G' T' f G2 Z s H1 locs1 → W p l e R s m args below meth c H1 locs1 cells slots Q (F0 m (pc + 3) ls (.double z :: rest))) : W p l e R s m args below meth c H locs cells slots Q (F0 m pc ls st0) := by
  refine va_calld (A1 := aFr (cAdr A) H.size) (va_runV (As := As) (rest := rest) X.1 (hM H.size) (hcw.W X.1.2.2.2.2) ⟨aPre_blind, by rw [hy]; exact l_recvC X hC, fun U hU hW => l_preC X hC U hU hW⟩ rfl hn hsz hst (lv_room hsum) hdg hf) hC.2 (fun q _ h => l_fr X hC.2 (fun q h => l_mC h) q h) (fun q h => l_fr X hC.2 (fun q h => l_mC h) q h) (fun r u t H1 locs1 ht _ hp hB _ hk hS => ?_)
  have hq := hp
  exact kk r u.1 u.2 H1 locs1 hq ⟨l_keepC X hC (by rw [← ht]; exact hB) hk, hS⟩

theorem l_callDi {P : Int → GS → ZS → Prop} (X : lwX l p s m c args A B o) (hC : lwC A B o G Y f G2 Z s H locs) (hM : dMi l y ws rm B (.ref (B.a 0) :: As) G2 Z P) (hy : y.cls = RX4) (hcw : aCall R wsL_law RL index y bytes maxL ret ws rm n) (hn : As.length = n) (hsz : ls.size = 9) (hst : st0 = As.reverse ++ .ref (B.a 0) :: rest) (hsum : (rest.map fun v => v.category).sum ≤ 8) (hf : cells ≤ R.cells ∧ slots ≤ R.slots) (hdg : decode code pc = .ok (.invokevirtual index, 3)) (kk : ∀ (z : Int) (G' : GS) (T' : ZS) (H1 : Heap) (locs1 : List Loc), P z G' T' → lwC A B o G Y f G' T' s H1 locs1 → W p l e R s m args below meth c H1 locs1 cells slots Q (F0 m (pc + 3) ls (.int (iI z) :: rest))) : W p l e R s m args below meth c H locs cells slots Q (F0 m pc ls st0) := by
  refine va_calli (A1 := aFr (dAdr B) H.size) (va_runV (As := As) (rest := rest) X.1 (hM H.size) (hcw.W X.1.2.2.2.2) ⟨aPre_blind, by rw [hy]; exact l_recvD X hC, fun U hU hW => l_preD X hC U hU hW⟩ rfl hn hsz hst (lv_room hsum) hdg hf) hC.2 (fun q _ h => l_fr X hC.2 (fun q h => l_mD h) q h) (fun q h => l_fr X hC.2 (fun q h => l_mD h) q h) (fun r u t H1 locs1 ht _ hp hB _ hk hS => ?_)
  obtain ⟨z, rfl, hq⟩ := hp
  exact kk z u.1 u.2 H1 locs1 hq ⟨l_keepD X hC (by rw [← ht, ← X.2.2.2.2.2.2.2.2.1]; exact hB) hk, hS⟩

theorem l_callDl {P : Int64 → GS → ZS → Prop} (X : lwX l p s m c args A B o) (hC : lwC A B o G Y f G2 Z s H locs) (hM : dMl l y ws rm B (.ref (B.a 0) :: As) G2 Z P) (hy : y.cls = RX4) (hcw : aCall R wsL_law RL index y bytes maxL ret ws rm n) (hn : As.length = n) (hsz : ls.size = 9) (hst : st0 = As.reverse ++ .ref (B.a 0) :: rest) (hsum : (rest.map fun v => v.category).sum ≤ 8) (hf : cells ≤ R.cells ∧ slots ≤ R.slots) (hdg : decode code pc = .ok (.invokevirtual index, 3)) (kk : ∀ (z : Int64) (G' : GS) (T' : ZS) (H1 : Heap) (locs1 : List Loc), P z G' T' → lwC A B o G Y f G' T' s H1 locs1 → W p l e R s m args below meth c H1 locs1 cells slots Q (F0 m (pc + 3) ls (.long z :: rest))) : W p l e R s m args below meth c H locs cells slots Q (F0 m pc ls st0) := by
  refine va_calll (A1 := aFr (dAdr B) H.size) (va_runV (As := As) (rest := rest) X.1 (hM H.size) (hcw.W X.1.2.2.2.2) ⟨aPre_blind, by rw [hy]; exact l_recvD X hC, fun U hU hW => l_preD X hC U hU hW⟩ rfl hn hsz hst (lv_room hsum) hdg hf) hC.2 (fun q _ h => l_fr X hC.2 (fun q h => l_mD h) q h) (fun q h => l_fr X hC.2 (fun q h => l_mD h) q h) (fun r u t H1 locs1 ht _ hp hB _ hk hS => ?_)
  have hq := hp; have z := r
  exact kk r u.1 u.2 H1 locs1 hq ⟨l_keepD X hC (by rw [← ht, ← X.2.2.2.2.2.2.2.2.1]; exact hB) hk, hS⟩

theorem l_callDd {P : UInt64 → GS → ZS → Prop} (X : lwX l p s m c args A B o) (hC : lwC A B o G Y f G2 Z s H locs) (hM : dMd l y ws rm B (.ref (B.a 0) :: As) G2 Z P) (hy : y.cls = RX4) (hcw : aCall R wsL_law RL index y bytes maxL ret ws rm n) (hn : As.length = n) (hsz : ls.size = 9) (hst : st0 = As.reverse ++ .ref (B.a 0) :: rest) (hsum : (rest.map fun v => v.category).sum ≤ 8) (hf : cells ≤ R.cells ∧ slots ≤ R.slots) (hdg : decode code pc = .ok (.invokevirtual index, 3)) (kk : ∀ (z : UInt64) (G' : GS) (T' : ZS) (H1 : Heap) (locs1 : List Loc), P z G' T' → lwC A B o G Y f G' T' s H1 locs1 → W p l e R s m args below meth c H1 locs1 cells slots Q (F0 m (pc + 3) ls (.double z :: rest))) : W p l e R s m args below meth c H locs cells slots Q (F0 m pc ls st0) := by
  refine va_calld (A1 := aFr (dAdr B) H.size) (va_runV (As := As) (rest := rest) X.1 (hM H.size) (hcw.W X.1.2.2.2.2) ⟨aPre_blind, by rw [hy]; exact l_recvD X hC, fun U hU hW => l_preD X hC U hU hW⟩ rfl hn hsz hst (lv_room hsum) hdg hf) hC.2 (fun q _ h => l_fr X hC.2 (fun q h => l_mD h) q h) (fun q h => l_fr X hC.2 (fun q h => l_mD h) q h) (fun r u t H1 locs1 ht _ hp hB _ hk hS => ?_)
  have hq := hp
  exact kk r u.1 u.2 H1 locs1 hq ⟨l_keepD X hC (by rw [← ht, ← X.2.2.2.2.2.2.2.2.1]; exact hB) hk, hS⟩

/-- the row for an answer is read -/
theorem l_load (X : lwX l p s m c args A B o) (hC : lwC A B o G Y f G2 Z s H locs) (hdg : decode code pc = .ok (.laload, 1)) (k : W p l e R s m args below meth c H locs cells slots Q (F0 m (pc + 1) ls (.long (f 0) :: rest))) : W p l e R s m args below meth c H locs cells slots Q (F0 m pc ls (.int (iI 0) :: .ref o :: rest)) := by
  exact va_lald (D := A.D) (tys := A.tys) (f := f) X.1.1 X.1.2.1 X.2.1 (va_P_l hC.1) 40 3 rfl rfl (iI_in (k := 0) (n := 1) rfl (by decide) (by decide)) hdg (by rw [show (iI 0).toNatClampNeg = 0 from iI_cl (k := 0) rfl (by decide)]; exact k)
end LE
