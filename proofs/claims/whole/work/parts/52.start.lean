/-! 52: the law's entry -/
theorem ac_of {ty : FieldType} {args : Array Value} {s : State} (h : (Cond.arrayClass ty).before args s = true) : ∃ cA : ClassId, ArrOfT s cA ty ∧ s.vm.findClass ("[" ++ ty.toString) = some cA := by
  obtain ⟨cA, k, comp, h1, h2, h3⟩ := Cond.arrayClass_spec h
  exact ⟨cA, fun n z => ⟨fun k h => (by cases h), k, h2, comp, h3⟩, h1⟩
theorem aoa_cls {U : State} (h : aoa U) : ∃ cA : ClassId, ArrOfT U cA (.array .int) ∧ U.vm.findClass ("[" ++ (FieldType.array .int).toString) = some cA := by
  unfold aoa Cond.before Cond.holds at h
  simp only [Cond.value] at h
  cases hf : U.vm.findClass (FieldType.array .int).toString with
  | none => rw [hf] at h; simp at h
  | some comp =>
    rw [hf] at h
    simp only [Option.bind_some] at h
    cases hx : (U.vm.classes.findIdx? fun (x : Class) => match x.kind with | .array component _ => component == comp | _ => false) with
    | none =>
      have h3 := (congrArg (fun o : Option Nat => (o.bind (fun c => (U.vm.classes[c]?).map fun (k : Class) => match k.kind with | .array _ ty => decide (ty = FieldType.array .int) && decide (U.vm.findClass ("[" ++ (FieldType.array .int).toString) = some c) | _ => false) == some true)) hx).symm.trans h
      simp at h3
    | some c =>
      have h3 := (congrArg (fun o : Option Nat => (o.bind (fun c => (U.vm.classes[c]?).map fun (k : Class) => match k.kind with | .array _ ty => decide (ty = FieldType.array .int) && decide (U.vm.findClass ("[" ++ (FieldType.array .int).toString) = some c) | _ => false) == some true)) hx).symm.trans h
      simp only [Option.bind_some] at h3
      cases hk : U.vm.classes[c]? with
      | none => rw [hk] at h3; simp at h3
      | some k =>
        rw [hk] at h3
        cases hkd : k.kind with
        | array co ty =>
          simp [hkd] at h3
          refine ⟨c, fun n z => ⟨fun k h => (by cases h), k, hk, co, by rw [hkd, h3.1]⟩, h3.2⟩
        | _ => simp [hkd] at h3
abbrev lwF : List Cond := flatC (Jvm.Cond.and given_1 narrow_1)
theorem lx_s1 : ∀ q ∈ xStr, Cond.stringRef RX3 q.1 q.2 ∈ lw_tbl := by decide +kernel
theorem lx_s2 : ∀ q ∈ xStr, Cond.exactly (.string RX3 q.1) "java/lang/String" ∈ lwF := by decide +kernel
theorem lx_c : ∀ q ∈ xCa, Cond.castable q q ∈ lw_tbl := by decide +kernel
theorem lx_d : ∀ q ∈ xDe, Cond.declares q ∈ lw_tbl := by decide +kernel
theorem lx_n : Cond.not (.castable xIAE xIOE) ∈ lwF ∧ Cond.not (.castable xISE xIOE) ∈ lwF ∧ Cond.not (.castable xISE xIAE) ∈ lwF := by decide +kernel
theorem lx_z : (Cond.laysStatic Bundle.tN "UNASSIGNED_STACK" Bundle.steD ∈ lw_tbl ∧ Cond.laysStatic Bundle.tN "SUPPRESSED_SENTINEL" Bundle.listD ∈ lw_tbl ∧ Cond.initialized Bundle.tN ∈ lw_tbl) ∧ Cond.isRef (.static Bundle.tN "UNASSIGNED_STACK" Bundle.steD) ∈ lwF ∧ Cond.isRef (.static Bundle.tN "SUPPRESSED_SENTINEL" Bundle.listD) ∈ lwF := by decide +kernel
theorem lx_a : Cond.arrayOver (.array .int) ∈ lw_tbl ∧ Cond.arrayClass .int ∈ lw_tbl ∧ Cond.arrayClass .boolean ∈ lw_tbl ∧ Cond.arrayClass .long ∈ lw_tbl := by decide +kernel
theorem lx_i : Cond.instantiable RX0 9 ∈ lw_tbl ∧ Cond.instantiable RX1 9 ∈ lw_tbl ∧ Cond.instantiable RX2 7 ∈ lw_tbl ∧ Cond.instantiable RX3 3 ∈ lw_tbl ∧ Cond.instantiable RX4 18 ∈ lw_tbl := by decide +kernel
theorem law_xtra {s : State} {b : Nat} (hts : ∀ w ∈ lw_tbl, w.before #[Value.ref b] s = true) (hg : ∀ w ∈ lwF, w.before #[Value.ref b] s = true) : xtra s := by
  refine ⟨fun q hq => va_Nw.of rfl (hts _ (lx_c q hq)), fun q hq => va_Nw.of rfl (hts _ (lx_d q hq)), fun q hq => ?_⟩
  obtain ⟨b', cB, cellB, kB, hb, -⟩ := Cond.exactly_spec (hg _ (lx_s2 q hq))
  exact ⟨b', vk_R.of (hts _ (lx_s1 q hq)) hb⟩
theorem law_xnc {s : State} {b : Nat} (hg : ∀ w ∈ lwF, w.before #[Value.ref b] s = true) : xnc s := ⟨va_Nc.of (hg _ lx_n.1), va_Nc.of (hg _ lx_n.2.1), va_Nc.of (hg _ lx_n.2.2)⟩
theorem law_xZ {s : State} {b : Nat} (hts : ∀ w ∈ lw_tbl, w.before #[Value.ref b] s = true) (hg : ∀ w ∈ lwF, w.before #[Value.ref b] s = true) : xZ (lwN s) s s.heap :=
  ⟨vx_Zqof (hts _ lx_z.1.1) (hts _ lx_z.1.2.2) (hg _ lx_z.2.1) (fun a ha h => absurd ha (Nat.not_lt.mpr h)), vx_Zqof (hts _ lx_z.1.2.1) (hts _ lx_z.1.2.2) (hg _ lx_z.2.2) (fun a ha h => absurd ha (Nat.not_lt.mpr h))⟩
theorem law_flags {l : Launch} (h : l.flags = flags0) : l.stackTraces = false := by
  unfold Launch.stackTraces; rw [h]; decide +kernel
theorem law_K {s : State} {b : Nat} (hts : ∀ w ∈ lw_tbl, w.before #[Value.ref b] s = true) : ∃ A : AD, va_K A.D vwCl A.tys s ∧ aoa s := by
  have hao : aoa s := hts _ lx_a.1
  obtain ⟨c0, s0, k0⟩ := u_known (C := RX0) (T := TX0) (N := 9) (n := 9) hts (fun w h => wfX0_in w h) (hts _ lx_i.1)
  obtain ⟨c1, s1, k1⟩ := u_known (C := RX1) (T := TX1) (N := 9) (n := 9) hts (fun w h => wfX1_in w h) (hts _ lx_i.2.1)
  obtain ⟨c2, s2, k2⟩ := u_known (C := RX2) (T := TX2) (N := 7) (n := 7) hts (fun w h => wfX2_in w h) (hts _ lx_i.2.2.1)
  obtain ⟨c3, s3, k3⟩ := u_known (C := RX3) (T := TX3) (N := 3) (n := 3) hts (fun w h => wfX3_in w h) (hts _ lx_i.2.2.2.1)
  obtain ⟨c4, s4, k4⟩ := u_known (C := RX4) (T := TX4) (N := 18) (n := 18) hts (fun w h => wfX4_in w h) (hts _ lx_i.2.2.2.2)
  obtain ⟨cI, i1, i2⟩ := ac_of (hts _ lx_a.2.1)
  obtain ⟨cZ, z1, z2⟩ := ac_of (hts _ lx_a.2.2.1)
  obtain ⟨cJ, j1, j2⟩ := ac_of (hts _ lx_a.2.2.2)
  obtain ⟨cO, o1, o2⟩ := aoa_cls hao
  refine ⟨(fun _ => 0, fun _ => 0, (fun k => match k with | 0 => c0 | 1 => c1 | 2 => c2 | 3 => c3 | _ => c4, fun k => match k with | 0 => s0 | 1 => s1 | 2 => s2 | 3 => s3 | _ => s4), cI, cZ, cO, cJ), ⟨fun k q hq => ?_, fun k q hq => ?_⟩, hao⟩
  · match k, hq with
    | 0, hq => cases hq; exact k0
    | 1, hq => cases hq; exact k1
    | 2, hq => cases hq; exact k2
    | 3, hq => cases hq; exact k3
    | 4, hq => cases hq; exact k4
    | k + 5, hq => simp [vwCl] at hq
  · match k, hq with
    | 0, hq => cases hq; exact ⟨i1, i2⟩
    | 1, hq => cases hq; exact ⟨z1, z2⟩
    | 2, hq => cases hq; exact ⟨o1, o2⟩
    | 3, hq => cases hq; exact ⟨j1, j2⟩
    | k + 4, hq => simp [AD.tys] at hq
