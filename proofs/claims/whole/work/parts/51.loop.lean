/-! 51: the law's loop -/
set_option maxHeartbeats 8000000 in
set_option maxRecDepth 100000 in
theorem law_end {p : Program} {l : Launch} {e : Env} {s : State} {m : MethodId} {below : List Frame} {meth : Method} {c : Code} {H : Heap} {locs : List Loc} {cells slots : Nat} {ls : Array Slot} {A B : AD} {o : Nat} {G : GS} {Y : YS} {f : Nat → Int64} {Z : ZS} {b : Nat}
    (X : lwX l p s m c #[Value.ref b] A B o) (hC : lwC A B o G Y f G Z s H locs) (hr : meth.sig.returnType = ret) (hk : meth.locks = false) (hc : cells ≤ 615468) (hs : slots ≤ 7249701) :
    W p l e room_1 s m #[Value.ref b] below meth c H locs cells slots (lw_Z below #[Value.ref b] s) (F0 m 1388 ls []) := by
  obtain ⟨hx, hb, hml, hown, hts⟩ := id X.1
  refine va_forget (fun q hq => hC.2.2.2 q hq) ?_
  refine W.widen (k := 615468) (n := 7249701) hc hs ?_
  refine lv_iconst (v := 1) hx hb dL_law_1388 (by decide) ?_
  exact lw_ret (d0 := s.drawn) (Drawn.sameBut.refl s.drawn lw_cs) hx hb hr hk dL_law_1389
set_option maxHeartbeats 8000000 in
set_option maxRecDepth 100000 in
theorem law_loop {p : Program} {l : Launch} {e : Env} {s : State} {m : MethodId} {below : List Frame} {meth : Method} {c : Code} {A B : AD} {o : Nat} {b L : Nat} {xs : Nat → Int32}
    (X : lwX l p s m c #[Value.ref b] A B o) (hr : meth.sig.returnType = ret) (hk : meth.locks = false) (hL : L ≤ 2560) (hX : va_X b L xs s s.heap) (hbl : b < s.heap.size) :
    ∀ (n i : Nat) (hn : 513 - i < n) (hi : i ≤ 512) (G : GS) (Y : YS) (f : Nat → Int64) (Z : ZS) (H : Heap) (locs : List Loc) (ls : Array Slot), Inv G → YI Y → lwC A B o G Y f G Z s H locs → lv_has ls 9 [(4, .int (iI ((5 * i : Nat) : Int))), (0, .ref b), (1, .ref (A.a 0)), (2, .ref (B.a 0)), (3, .ref o)] →
      W p l e room_1 s m #[Value.ref b] below meth c H locs (100 + 10 * i) (2000 + 60 * i) (lw_Z below #[Value.ref b] s) (F0 m 23 ls []) := by
  intro n
  induction n with
  | zero => intro i hn; exact absurd hn (Nat.not_lt_zero _)
  | succ n ih =>
    intro i hn hi G Y f Z H locs ls hI hY hC hl
    obtain ⟨hx, hb, hml, hown, hts⟩ := id X.1
    refine lv_iload hx hb dL_law_23 (lv_at hl 0 rfl) ?_
    refine lv_aload_n hx hb dL_law_25 rfl (lv_at hl 1 rfl) ?_
    refine l_slen X hC hX hbl dL_law_26 ?_
    refine li_c hx hb dL_law_27 ?_
    refine li_sub hx hb dL_law_28 ?_
    refine li_icmp_gt (tgt := 1388) hx hb dL_law_29 (by decide) (by omega) (fun c_29 => ?_) (fun c_29 => ?_)
    · exact law_end X hC hr hk (by omega) (by omega)
    · have hi5 : 5 * i + 5 ≤ L := by omega
      refine lv_aload_n hx hb dL_law_32 rfl (lv_at hl 1 rfl) ?_
      refine lv_iload hx hb dL_law_33 (lv_at hl 0 rfl) ?_
      obtain ⟨a0, ha0, ea0⟩ := iI_of (xs (5 * i))
      refine l_sld (k0 := 5 * i) (z := a0) X hC hX hbl hL (by omega) ea0 dL_law_35 ?_
      refine li_bi hx hb dL_law_36 (by decide) ?_
      obtain ⟨k, hk31, hk2⟩ := and31 (iI a0)
      refine lv_iand hx hb dL_law_38 ?_
      rw [hk2]
      have hnext : ∀ (G' : GS) (Y' : YS) (f' : Nat → Int64) (Z' : ZS) (H' : Heap) (locs' : List Loc) (ls' : Array Slot), Inv G' → YI Y' → lwC A B o G' Y' f' G' Z' s H' locs' → lv_has ls' 9 [(4, .int (iI ((5 * i : Nat) : Int))), (0, .ref b), (1, .ref (A.a 0)), (2, .ref (B.a 0)), (3, .ref o)] → W p l e room_1 s m #[Value.ref b] below meth c H' locs' (100 + 10 * i + 10) (2000 + 60 * i + 60) (lw_Z below #[Value.ref b] s) (F0 m 1382 ls' []) := by
        intro G' Y' f' Z' H' locs' ls' hI' hY' hC' hl'
        refine li_incN (lv' := [(4, .int (iI ((5 * i + 5 : Nat) : Int))), (0, .ref b), (1, .ref (A.a 0)), (2, .ref (B.a 0)), (3, .ref o)]) (x := 5 * i) (d0 := 5) hx hb dL_law_1382 hl' (k := 0) rfl rfl rfl (by decide) rfl (fun ls hl => ?_)
        refine lv_goto (tgt := 23) hx hb dL_law_1385 (by decide) ?_
        exact ih (i + 1) (by omega) (by omega) G' Y' f' Z' H' locs' ls hI' hY' hC' hl
      have hcl : 100 + 10 * i + 10 ≤ room_1.cells := by show 100 + 10 * i + 10 ≤ 615468; omega
      have hsl : 2000 + 60 * i + 60 ≤ room_1.slots := by show 2000 + 60 * i + 60 ≤ 7249701; omega
      rcases (show k = 0 ∨ k = 1 ∨ k = 2 ∨ k = 3 ∨ k = 4 ∨ k = 5 ∨ k = 6 ∨ k = 7 ∨ k = 8 ∨ k = 9 ∨ k = 10 ∨ k = 11 ∨ k = 12 ∨ k = 13 ∨ k = 14 ∨ k = 15 ∨ k = 16 ∨ k = 17 ∨ k = 18 ∨ k = 19 ∨ k = 20 ∨ 20 < k by omega) with rfl | rfl | rfl | rfl | rfl | rfl | rfl | rfl | rfl | rfl | rfl | rfl | rfl | rfl | rfl | rfl | rfl | rfl | rfl | rfl | rfl | hk20
      · refine lv_tableIn (tgt := 136) hx hb dL_law_39 (by decide) (by decide) (by rfl) (by decide) ?_
        exact lw_case_0 X hI hY hC hl hi5 hL hX hbl hcl hsl hnext
      · refine lv_tableIn (tgt := 236) hx hb dL_law_39 (by decide) (by decide) (by rfl) (by decide) ?_
        exact lw_case_1 X hI hY hC hl hi5 hL hX hbl hcl hsl hnext
      · refine lv_tableIn (tgt := 355) hx hb dL_law_39 (by decide) (by decide) (by rfl) (by decide) ?_
        exact lw_case_2 X hI hY hC hl hi5 hL hX hbl hcl hsl hnext
      · refine lv_tableIn (tgt := 447) hx hb dL_law_39 (by decide) (by decide) (by rfl) (by decide) ?_
        exact lw_case_3 X hI hY hC hl hi5 hL hX hbl hcl hsl hnext
      · refine lv_tableIn (tgt := 503) hx hb dL_law_39 (by decide) (by decide) (by rfl) (by decide) ?_
        exact lw_case_4 X hI hY hC hl hi5 hL hX hbl hcl hsl hnext
      · refine lv_tableIn (tgt := 571) hx hb dL_law_39 (by decide) (by decide) (by rfl) (by decide) ?_
        exact lw_case_5 X hI hY hC hl hi5 hL hX hbl hcl hsl hnext
      · refine lv_tableIn (tgt := 646) hx hb dL_law_39 (by decide) (by decide) (by rfl) (by decide) ?_
        exact lw_case_6 X hI hY hC hl hi5 hL hX hbl hcl hsl hnext
      · refine lv_tableIn (tgt := 702) hx hb dL_law_39 (by decide) (by decide) (by rfl) (by decide) ?_
        exact lw_case_7 X hI hY hC hl hi5 hL hX hbl hcl hsl hnext
      · refine lv_tableIn (tgt := 758) hx hb dL_law_39 (by decide) (by decide) (by rfl) (by decide) ?_
        exact lw_case_8 X hI hY hC hl hi5 hL hX hbl hcl hsl hnext
      · refine lv_tableIn (tgt := 799) hx hb dL_law_39 (by decide) (by decide) (by rfl) (by decide) ?_
        exact lw_case_9 X hI hY hC hl hi5 hL hX hbl hcl hsl hnext
      · refine lv_tableIn (tgt := 840) hx hb dL_law_39 (by decide) (by decide) (by rfl) (by decide) ?_
        exact lw_case_10 X hI hY hC hl hi5 hL hX hbl hcl hsl hnext
      · refine lv_tableIn (tgt := 896) hx hb dL_law_39 (by decide) (by decide) (by rfl) (by decide) ?_
        exact lw_case_11 X hI hY hC hl hi5 hL hX hbl hcl hsl hnext
      · refine lv_tableIn (tgt := 940) hx hb dL_law_39 (by decide) (by decide) (by rfl) (by decide) ?_
        exact lw_case_12 X hI hY hC hl hi5 hL hX hbl hcl hsl hnext
      · refine lv_tableIn (tgt := 996) hx hb dL_law_39 (by decide) (by decide) (by rfl) (by decide) ?_
        exact lw_case_13 X hI hY hC hl hi5 hL hX hbl hcl hsl hnext
      · refine lv_tableIn (tgt := 1052) hx hb dL_law_39 (by decide) (by decide) (by rfl) (by decide) ?_
        exact lw_case_14 X hI hY hC hl hi5 hL hX hbl hcl hsl hnext
      · refine lv_tableIn (tgt := 1108) hx hb dL_law_39 (by decide) (by decide) (by rfl) (by decide) ?_
        exact lw_case_15 X hI hY hC hl hi5 hL hX hbl hcl hsl hnext
      · refine lv_tableIn (tgt := 1176) hx hb dL_law_39 (by decide) (by decide) (by rfl) (by decide) ?_
        exact lw_case_16 X hI hY hC hl hi5 hL hX hbl hcl hsl hnext
      · refine lv_tableIn (tgt := 1244) hx hb dL_law_39 (by decide) (by decide) (by rfl) (by decide) ?_
        exact lw_case_17 X hI hY hC hl hi5 hL hX hbl hcl hsl hnext
      · refine lv_tableIn (tgt := 1257) hx hb dL_law_39 (by decide) (by decide) (by rfl) (by decide) ?_
        exact lw_case_18 X hI hY hC hl hi5 hL hX hbl hcl hsl hnext
      · refine lv_tableIn (tgt := 1313) hx hb dL_law_39 (by decide) (by decide) (by rfl) (by decide) ?_
        exact lw_case_19 X hI hY hC hl hi5 hL hX hbl hcl hsl hnext
      · refine lv_tableIn (tgt := 1368) hx hb dL_law_39 (by decide) (by decide) (by rfl) (by decide) ?_
        exact lw_case_20 X hI hY hC hl hi5 hL hX hbl hcl hsl hnext
      · refine lv_tableOut (tgt := 1382) hx hb dL_law_39 (by rw [iI_t (by omega)]; omega) (by decide) ?_
        refine W.widen (k := 100 + 10 * i + 10) (n := 2000 + 60 * i + 60) (by omega) (by omega) ?_
        exact hnext G Y f Z H locs ls hI hY hC hl
