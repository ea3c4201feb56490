/-! 01: what the printed statement says of the law's own method, and what the class file that it names says -/
/-- the law's own method has an exception table in the class file (378 to 385, handler 388): so the file doesn't have this code without a table -/
theorem law_hasNot : classFile.hasCode x code maxLocals ret = false := by decide +kernel
/-- .. it has it with this one -/
theorem law_has : ∃ hs : List (Nat × Nat × Nat × Nat), hs.length = 1 ∧ (hs.map fun h => (h.1, h.2.1, h.2.2.1)) = [(378, 385, 388)] ∧ classFile.hasCodeWith x code maxLocals ret hs = true := ⟨[(378, 385, 388, 108)], rfl, rfl, by decide +kernel⟩
/-- so no launch at all meets the statement's premise on its class files -/
theorem no_lists (l : Launch) : ¬ Jvm.D.Lists l classFile x code maxLocals ret tables_1 room_1 := by
  rintro ⟨-, hf, hL, -⟩
  have hm : (x, code, maxLocals, ret) ∈ (Jvm.D.headSpec (Jvm.Cond.code x code maxLocals ret :: tables_1) room_1).pre.codes ++ (Jvm.D.headSpec (Jvm.Cond.code x code maxLocals ret :: tables_1) room_1).post.codes :=
    List.mem_append_left _ (List.mem_append_left _ List.mem_cons_self)
  have h := hL.1 _ hm
  rw [show l.file? x.cls = some classFile from hf] at h
  rw [Option.any_some, law_hasNot] at h
  exact Bool.false_ne_true h
/-- the witness's claim is false -/
theorem no_witness : ¬ WitnessClaimed_1 := fun ⟨_, _, _, _, _, _, h⟩ => no_lists launch0 h.1
