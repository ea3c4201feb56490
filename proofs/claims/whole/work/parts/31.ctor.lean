/-! 31: constructors: what they stand on -/
def aoa (U : State) : Prop := (Cond.arrayOver (.array .int)).before #[] U = true
theorem aoa.moved {u U : State} (hvm : u.vm.Alike U.vm) (h : aoa u) : aoa U := by
  have hb : U.vm.bare = u.vm.bare := by first | exact hvm.bare_eq | exact hvm.bare_eq.symm
  unfold aoa Cond.before Cond.holds at h ⊢
  simp only [Cond.value] at h ⊢
  have hi : ∀ comp : ClassId, (U.vm.classes.findIdx? fun (x : Class) => match x.kind with | .array component _ => component == comp | _ => false) = (u.vm.classes.findIdx? fun (x : Class) => match x.kind with | .array component _ => component == comp | _ => false) := fun comp => ((va_idx_bare U.vm comp).symm.trans (by rw [hb])).trans (va_idx_bare u.vm comp)
  simp only [hvm.findClass]
  cases hf : u.vm.findClass (FieldType.array .int).toString with
  | none => rw [hf] at h; simp at h
  | some comp =>
    rw [hf] at h
    simp only [Option.bind_some] at h ⊢
    have h2 := hi comp
    refine (congrArg (fun o : Option Nat => (o.bind (fun c => (U.vm.classes[c]?).map fun (k : Class) => match k.kind with | .array _ ty => decide (ty = FieldType.array .int) && decide (u.vm.findClass ("[" ++ (FieldType.array .int).toString) = some c) | _ => false) == some true)) h2).trans ?_
    cases hx : (u.vm.classes.findIdx? fun (x : Class) => match x.kind with | .array component _ => component == comp | _ => false) with
    | none =>
      have h3 := (congrArg (fun o : Option Nat => (o.bind (fun c => (u.vm.classes[c]?).map fun (k : Class) => match k.kind with | .array _ ty => decide (ty = FieldType.array .int) && decide (u.vm.findClass ("[" ++ (FieldType.array .int).toString) = some c) | _ => false) == some true)) hx).symm.trans h
      simp at h3
    | some c =>
      have h3 := (congrArg (fun o : Option Nat => (o.bind (fun c => (u.vm.classes[c]?).map fun (k : Class) => match k.kind with | .array _ ty => decide (ty = FieldType.array .int) && decide (u.vm.findClass ("[" ++ (FieldType.array .int).toString) = some c) | _ => false) == some true)) hx).symm.trans h
      simp only [Option.bind_some] at h3 ⊢
      cases hk : u.vm.classes[c]? with
      | none => rw [hk] at h3; simp at h3
      | some k =>
        obtain ⟨k', hk', he⟩ := hvm.2.2 _ _ hk
        rw [hk] at h3
        have hkk : k'.kind = k.kind := by rw [he]
        simp only [hk', Option.map_some, hkk] at h3 ⊢
        exact h3
def iPre (A : AD) (ws : va_W) (sz : Nat) : State → Prop := fun U => U.heap.size = sz ∧ va_P A.D vwCl ws U.heap ∧ va_K A.D vwCl A.tys U ∧ aoa U
theorem iPre_blind {A : AD} {ws : va_W} {sz : Nat} {av : List Value} : FrameBlind (va_Pc av (iPre A ws sz)) := fun a U g mk q => by
  obtain ⟨q0, q1, qP, qK, qA⟩ := q
  exact ⟨q0, q1, qP, va_K.moved (u := U) (U := U.calling g mk a) (Vm.Alike.refl U.vm) qK, aoa.moved (u := U) (U := U.calling g mk a) (Vm.Alike.refl U.vm) qA⟩
theorem i_start {A : AD} {y : MethodName} {ws ws' : List Cond} {rm : Room} {mc ms : Nat} {free : Addr → Prop} {cc : ByteArray} {maxL : Nat} {ret : Option FieldType} {l : Launch} {wd : va_W} {sz : Nat} {av : List Value} {Qc : Array Value → State → Outcome → State → Prop}
    (hy : plainName y.cls = true) (hw : ws = Cond.code y cc maxL ret :: ws') (hle : Nat.ble (lg_sl av).length maxL = true) (hD0 : va_D (fun _ => True) wd)
    (body : ∀ p e s m args below meth c, CallFix p m c cc maxL s args ws y.cls → va_K A.D vwCl A.tys s → aoa s → meth.sig.returnType = ret → meth.locks = false → meth.name = y.name → s.heap.size = sz → ∀ ls, lv_has ls maxL (lv_args 0 av) → ∀ (H : Heap) (locs : List Loc), va_P A.D vwCl wd H → va_D (va_A wd sz) wd → va_S (va_A wd sz) s.heap H locs →
      W p l e rm s m args below meth c H locs 0 0 (MQ below Qc args s mc ms free) (F0 m 0 ls [])) : Met l y ws rm (va_Pc av (iPre A wd sz)) Qc mc ms free := by
  refine Met.ofW (cc := cc) (maxL := maxL) (ret := ret) hy hw ?_
  intro p e s m args below meth c s₁ B hml hv
  obtain ⟨rfl, hsz, hP, hK, hN⟩ := hv
  have hts := atoms_spec (ws := ws) B.pre
  have hl := lv_entry av (n := maxL) (Nat.le_of_ble_eq_true hle)
  rw [lg_entry_eq]
  exact body p e s m _ below meth c ⟨B.exec, B.bytes, hml, findClass_of_methodNamed B.named, hts⟩ hK hN B.returns B.notSynchronized (name_of_methodNamed B.named B.method).1 hsz _ hl _ _ hP (hD0.self (sz := sz)) va_S.rf
theorem va_D1 (x : Nat × va_E) : va_D (fun _ => True) [x] := ⟨fun i j p q hi hj _ => by
  have h1 : i = 0 := by
    cases i with
    | zero => rfl
    | succ i => simp at hi
  have h2 : j = 0 := by
    cases j with
    | zero => rfl
    | succ j => simp at hj
  rw [h1, h2], fun _ _ _ => trivial⟩
theorem z9i (cA : ClassId) (N : Nat) : vp_cell cA (N, .inl (cF (fun _ => 0))) = arrV cA N (fun _ => .int 0) := congrArg (arrV cA N) (funext fun _ => congrArg Value.int iI_0.symm)
theorem z9m (cA : ClassId) (N : Nat) : vp_cell cA (N, .inl (cZ (fun _ => 0))) = arrV cA N (fun _ => .int 0) := congrArg (arrV cA N) (funext fun _ => congrArg Value.int iI_0.symm)
theorem z9l (cA : ClassId) (N : Nat) : vp_cell cA (N, .inr (.inl (fun _ => 0))) = arrV cA N (fun _ => .long 0) := rfl
section NA
variable {p : Program} {l : Launch} {e : Env} {R : Room} {s : State} {m : MethodId} {args : Array Value} {below : List Frame} {meth : Method} {c : Code} {H : Heap} {locs : List Loc} {cells slots : Nat} {Q : State → Prop}
variable {cc : ByteArray} {pc : Nat} {ls : Array Slot} {rest : List Value} {A : AD} {A0 : Nat → Prop} {ws : va_W} {H0 : Heap}
/-- a new array of a known class -/
theorem an_newa (hexec : p.tables.exec = Jvm.exec) (hb : c.code = cc) {atype : ArrayType} {ty : FieldType} (harr : (Cond.arrayClass (newarray.typeOf atype)).before args s = true) (hty : newarray.typeOf atype = ty) (hK : va_K A.D vwCl A.tys s) (hP : va_P A.D vwCl ws H) (hD : va_D A0 ws) (hS : va_S A0 H0 H locs) (hA : ∀ q, H0.size ≤ q → A0 q)
    (k0 : Nat) {cT : ClassId} (hk0 : A.tys[k0]? = some (cT, ty)) (hno : ∀ U cA, va_RA U cA ty = (U.vm.findClass ("[" ++ ty.toString) = some cA)) {N : Nat} {a0 : vp_A} (ha : ∀ cA : ClassId, vp_cell cA a0 = arrV cA N (fun _ => defaultValue ty)) (hN31 : N < 2147483648) (hbytes : N * componentBytes ty ≤ 536870912) (hcells : cells + 1 ≤ R.cells) (hslots : slots + N ≤ R.slots) (hdg : decode cc pc = .ok (.newarray atype, 2))
    (kk : ∀ (q : Nat) (H1 : Heap), va_P A.D vwCl (ws ++ [(q, .inl (cT, a0))]) H1 → va_D A0 (ws ++ [(q, .inl (cT, a0))]) → va_S A0 H0 H1 locs →
      W p l e R s m args below meth c H1 locs (cells + 1) (slots + N) Q (F0 m (pc + 2) ls (.ref q :: rest))) : W p l e R s m args below meth c H locs cells slots Q (F0 m pc ls (.int (iI ((N : Nat) : Int)) :: rest)) := by
  refine va_newa (atype := atype) (ty := ty) (N' := N) (a0 := a0) hexec hb harr hty hK hP hD hS hA ha (by rw [iI_nat]; exact nI_pos (by omega)) (iI_cl rfl hN31) hbytes hcells hslots hdg (fun q cA H1 hK' hP1 hD1 hS1 => ?_)
  have h1 := (hK.2 k0 _ hk0).2
  have h2 := (hK'.2 4 (cA, ty) rfl).2
  rw [hno] at h1 h2
  have h3 : cA = cT := Option.some.inj (h2.symm.trans h1)
  subst h3
  exact kk q H1 hP1 hD1 hS1
end NA
def RW (A : AD) (r : Nat → Nat) : va_W := (List.range 25).map (fun i => (r i, .inl (A.cI, 24, .inl (cF (fun _ => 0)))))
theorem rw_pl {A : AD} {r : Nat → Nat} {f : Nat → va_E} : va_pl ([] ++ (List.range 25).map r) (vr_up f ((List.range 25).map r) (.inl (A.cI, 24, .inl (cF (fun _ => 0))))) = RW A r := by
  unfold va_pl RW
  rw [List.nil_append, List.map_map]
  refine List.map_congr_left (fun i hi => ?_)
  show (r i, vr_up f ((List.range 25).map r) _ (r i)) = _
  rw [vr_up_in (List.mem_map.mpr ⟨i, hi, rfl⟩)]
theorem z9u : upd (cF (fun _ => 0)) (iI 0).toNatClampNeg (vp_nar .boolean (iI 1)) = cF (up (fun _ => 0) 0 1) := by
  rw [nar_b (by decide)]
  exact cF_up (k := 0) (x := 1) _ rfl (by decide) rfl
def G00 : GS := mkG (up (fun _ => 0) 0 1) (up (fun _ => 0) 0 1) (fun _ => 0) (fun _ => 0) (fun _ => 0) (fun _ => 0) (fun _ => 0) 1 0 0 (-1) 120 1 (fun _ => 0)
def Y0z : YS := mkY (fun _ => 0) (fun _ => 0) (fun _ _ => 0) (fun _ => 0) 0
def Z0z : ZS := mkZ 0 (fun _ => 0) 0 0
def aU (A : AD) (t : Nat) (u : (Nat → Nat) × (Nat → Nat)) : AD := (fun i => if i = 0 then t else u.1 i, u.2, A.D, A.cI, A.cZ, A.cO, A.cJ)
