/-! 12: the ways -/
set_option maxHeartbeats 4000000 in
set_option maxRecDepth 100000 in
theorem mX2_forgetAll (l : Launch) (A : AD) (G : GS) (Y : YS) : cMv l yX2_forgetAll wsX2_forgetAll ({ frames := 0, cells := 0, slots := 0, locals := 0 }) A [.ref (A.a 3)] G Y (xV G (fgt Y)) := by
  intro sz
  refine c_start (cc := cX2_forgetAll) (maxL := 2) (ret := none) (by decide) rfl rfl ?_
  intro p e s m args below meth c X hr hk hnm hsz ls hl H locs hC
  subst hsz
  obtain ⟨hx, hb, hml, hown, hts⟩ := id X.1
  have hl : lv_has ls 2 [(0, .ref (A.a 3))] := hl
  have iX2 : ∀ w ∈ u_ws RX2 TX2 7, w ∈ wsX2_forgetAll := by decide +kernel
  refine li_c hx hb dX2_forgetAll_0 ?_
  refine lv_istore_n (lv' := [(1, .int (iI 0)), (0, .ref (A.a 3))]) hx hb dX2_forgetAll_1 rfl hl (by decide) rfl (fun ls hl => ?_)
  have loop_2 : ∀ (n : Nat) (i : Nat) (hn : 24 - i < n) (hi : i ≤ 24) (H : Heap) (locs : List Loc) (hC : aH A (cAdr A) (CW A G (((Y.wm' (fgM Y i)).wl' (fgL Y i)).we' (fgE Y i))) s H locs) (ls : Array Slot) (hl : lv_has ls 2 [(1, .int (iI (i : Int))), (0, .ref (A.a 3))]), W p l e ({ frames := 0, cells := 0, slots := 0, locals := 0 }) s m args below meth c H locs 0 0 (aQv below (cEnd A) (cAdr A) args s (xV G (fgt Y))) (F0 m 2 ls []) := by
    intro n
    induction n with
    | zero => intro i hn; exact absurd hn (Nat.not_lt_zero _)
    | succ n ih_2 =>
      intro i hn hi H locs hC ls hl
      refine lv_iload_n hx hb dX2_forgetAll_2 rfl (lv_at hl 0 rfl) ?_
      refine li_bi hx hb dX2_forgetAll_3 (by decide) ?_
      refine li_icmp_ge (tgt := 35) hx hb dX2_forgetAll_5 (by decide) (by omega) (fun c_5 => ?_) (fun c_5 => ?_)
      · exact c_vret X hC hr hk (⟨rfl, by rw [show i = 24 by omega]; rfl⟩) dX2_forgetAll_35
      · refine lv_aload_n hx hb dX2_forgetAll_8 rfl (lv_at hl 1 rfl) ?_
        refine agX2_minutes X hC iX2 (by decide +kernel) dX2_forgetAll_9 ?_
        refine lv_iload_n hx hb dX2_forgetAll_12 rfl (lv_at hl 0 rfl) ?_
        refine li_c hx hb dX2_forgetAll_13 ?_
        refine asC_wm (k0 := i) (x := (-1)) X hC (by omega) (by omega) rfl dX2_forgetAll_14 (fun H locs hC => ?_)
        have hC : aH A (cAdr A) (CW A G (mkY (up (fgM Y i) i (-1)) (fgL Y i) Y.wr (fgE Y i) Y.ws)) s H locs := hC
        refine lv_aload_n hx hb dX2_forgetAll_15 rfl (lv_at hl 1 rfl) ?_
        refine agX2_lengths X hC iX2 (by decide +kernel) dX2_forgetAll_16 ?_
        refine lv_iload_n hx hb dX2_forgetAll_19 rfl (lv_at hl 0 rfl) ?_
        refine li_c hx hb dX2_forgetAll_20 ?_
        refine asC_wl (k0 := i) (x := 0) X hC (by omega) (by omega) (by omega) dX2_forgetAll_21 (fun H locs hC => ?_)
        have hC : aH A (cAdr A) (CW A G (mkY (up (fgM Y i) i (-1)) (up (fgL Y i) i 0) Y.wr (fgE Y i) Y.ws)) s H locs := hC
        refine lv_aload_n hx hb dX2_forgetAll_22 rfl (lv_at hl 1 rfl) ?_
        refine agX2_settled X hC iX2 (by decide +kernel) dX2_forgetAll_23 ?_
        refine lv_iload_n hx hb dX2_forgetAll_26 rfl (lv_at hl 0 rfl) ?_
        refine li_c hx hb dX2_forgetAll_27 ?_
        refine asC_we (k0 := i) (x := 0) X hC (by omega) (by omega) (by omega) (by omega) dX2_forgetAll_28 (fun H locs hC => ?_)
        have hC : aH A (cAdr A) (CW A G (mkY (up (fgM Y i) i (-1)) (up (fgL Y i) i 0) Y.wr (up (fgE Y i) i 0) Y.ws)) s H locs := hC
        refine li_incN (lv' := [(1, .int (iI ((i + 1 : Nat) : Int))), (0, .ref (A.a 3))]) (x := i) (d0 := 1) hx hb dX2_forgetAll_29 hl (k := 0) rfl rfl rfl (by decide) rfl (fun ls hl => ?_)
        refine lv_goto (tgt := 2) hx hb dX2_forgetAll_32 (by decide) ?_
        have e1 : up (fgM Y i) i (-1) = fgM Y (i + 1) := fg_s Y.wm (-1) i
        have e2 : up (fgL Y i) i 0 = fgL Y (i + 1) := fg_s Y.wl 0 i
        have e3 : up (fgE Y i) i 0 = fgE Y (i + 1) := fg_s Y.we 0 i
        have hC : aH A (cAdr A) (CW A G (((Y.wm' (fgM Y (i + 1))).wl' (fgL Y (i + 1))).we' (fgE Y (i + 1)))) s H locs := by rw [← e1, ← e2, ← e3]; exact hC
        exact ih_2 (i + 1) (by omega) (by omega) H locs hC ls (lv_sub hl [0, 1] rfl)
  have hC : aH A (cAdr A) (CW A G (((Y.wm' (fgM Y 0)).wl' (fgL Y 0)).we' (fgE Y 0))) s H locs := by rw [fgM_0, fgL_0, fgE_0]; exact hC
  exact loop_2 (24 + 1) 0 (Nat.lt_succ_self _) (by omega) H locs hC ls (lv_sub hl [0, 1] rfl)

set_option maxHeartbeats 4000000 in
set_option maxRecDepth 100000 in
theorem mX2_copyRow (l : Launch) (A : AD) (G : GS) (Y : YS) (z : Int) (b : Nat) (n0 : Nat) (hb1 : b < 25) (hn1 : n0 ≤ 24) (hz : -1 ≤ z ∧ z < 25 ∧ (n0 = 0 ∨ 0 ≤ z)) (hne : z ≠ (b : Int)) (hY : YI Y) : cMv l yX2_copyRow wsX2_copyRow ({ frames := 0, cells := 0, slots := 0, locals := 0 }) A [.ref (A.a 3), .int (iI z), .int (iI (b : Int)), .int (iI (n0 : Int))] G Y (xV G (Y.wr' (up Y.wr b (cpr Y.wr (z).toNat b n0)))) := by
  intro sz
  refine c_start (cc := cX2_copyRow) (maxL := 5) (ret := none) (by decide) rfl rfl ?_
  intro p e s m args below meth c X hr hk hnm hsz ls hl H locs hC
  subst hsz
  obtain ⟨hx, hb, hml, hown, hts⟩ := id X.1
  have hl : lv_has ls 5 [(0, .ref (A.a 3)), (1, .int (iI z)), (2, .int (iI (b : Int))), (3, .int (iI (n0 : Int)))] := hl
  have iX2 : ∀ w ∈ u_ws RX2 TX2 7, w ∈ wsX2_copyRow := by decide +kernel
  refine li_c hx hb dX2_copyRow_0 ?_
  refine lv_istore (lv' := [(4, .int (iI 0)), (0, .ref (A.a 3)), (1, .int (iI z)), (2, .int (iI (b : Int))), (3, .int (iI (n0 : Int)))]) hx hb dX2_copyRow_1 hl (by decide) rfl (fun ls hl => ?_)
  have loop_3 : ∀ (n : Nat) (i : Nat) (hn : n0 - i < n) (hi : i ≤ n0) (H : Heap) (locs : List Loc) (hC : aH A (cAdr A) (CW A G (Y.wr' (up Y.wr b (cpr Y.wr z.toNat b i)))) s H locs) (ls : Array Slot) (hl : lv_has ls 5 [(4, .int (iI (i : Int))), (0, .ref (A.a 3)), (1, .int (iI z)), (2, .int (iI (b : Int))), (3, .int (iI (n0 : Int)))]), W p l e ({ frames := 0, cells := 0, slots := 0, locals := 0 }) s m args below meth c H locs 0 0 (aQv below (cEnd A) (cAdr A) args s (xV G (Y.wr' (up Y.wr b (cpr Y.wr (z).toNat b n0))))) (F0 m 3 ls []) := by
    intro n
    induction n with
    | zero => intro i hn; exact absurd hn (Nat.not_lt_zero _)
    | succ n ih_3 =>
      intro i hn hi H locs hC ls hl
      refine lv_iload hx hb dX2_copyRow_3 (lv_at hl 0 rfl) ?_
      refine lv_iload_n hx hb dX2_copyRow_5 rfl (lv_at hl 4 rfl) ?_
      refine li_icmp_ge (tgt := 33) hx hb dX2_copyRow_6 (by decide) (by omega) (fun c_6 => ?_) (fun c_6 => ?_)
      · exact c_vret X hC hr hk (⟨rfl, by rw [show i = n0 by omega]⟩) dX2_copyRow_33
      · refine lv_aload_n hx hb dX2_copyRow_9 rfl (lv_at hl 1 rfl) ?_
        refine agX2_rows X hC iX2 (by decide +kernel) dX2_copyRow_10 ?_
        refine lv_iload_n hx hb dX2_copyRow_13 rfl (lv_at hl 3 rfl) ?_
        refine alC_ro (k0 := b) X hC (by omega) (by omega) dX2_copyRow_14 ?_
        refine lv_iload hx hb dX2_copyRow_15 (lv_at hl 0 rfl) ?_
        refine lv_aload_n hx hb dX2_copyRow_17 rfl (lv_at hl 1 rfl) ?_
        refine agX2_rows X hC iX2 (by decide +kernel) dX2_copyRow_18 ?_
        refine lv_iload_n hx hb dX2_copyRow_21 rfl (lv_at hl 2 rfl) ?_
        refine alC_ro (k0 := (z).toNat) X hC (by omega) (by omega) dX2_copyRow_22 ?_
        refine lv_iload hx hb dX2_copyRow_23 (lv_at hl 0 rfl) ?_
        refine alC_wr (i0 := ((z).toNat)) (k0 := i) (v := (((up Y.wr b (cpr Y.wr z.toNat b i)) ((z).toNat) i : Nat) : Int)) X hC (by omega) (by omega) (by omega) rfl dX2_copyRow_25 ?_
        refine asC_wr (i0 := b) (k0 := i) (x := (up Y.wr b (cpr Y.wr z.toNat b i)) ((z).toNat) i) X hC (by omega) (by omega) (by omega) (by omega) dX2_copyRow_26 (fun H locs hC => ?_)
        have hC : aH A (cAdr A) (CW A G (mkY Y.wm Y.wl (up (up Y.wr b (cpr Y.wr z.toNat b i)) b (up ((up Y.wr b (cpr Y.wr z.toNat b i)) b) i ((up Y.wr b (cpr Y.wr z.toNat b i)) ((z).toNat) i))) Y.we Y.ws)) s H locs := hC
        refine li_incN (lv' := [(4, .int (iI ((i + 1 : Nat) : Int))), (0, .ref (A.a 3)), (1, .int (iI z)), (2, .int (iI (b : Int))), (3, .int (iI (n0 : Int)))]) (x := i) (d0 := 1) hx hb dX2_copyRow_27 hl (k := 0) rfl rfl rfl (by decide) rfl (fun ls hl => ?_)
        refine lv_goto (tgt := 3) hx hb dX2_copyRow_30 (by decide) ?_
        have e1 : (up (up Y.wr b (cpr Y.wr z.toNat b i)) b (up ((up Y.wr b (cpr Y.wr z.toNat b i)) b) i ((up Y.wr b (cpr Y.wr z.toNat b i)) ((z).toNat) i))) = up Y.wr b (cpr Y.wr z.toNat b (i + 1)) := by rw [up_up, up_s, up_n _ _ (show z.toNat ≠ b by omega), cpr_s]
        have hC : aH A (cAdr A) (CW A G (Y.wr' (up Y.wr b (cpr Y.wr z.toNat b (i + 1))))) s H locs := by rw [← e1]; exact hC
        exact ih_3 (i + 1) (by omega) (by omega) H locs hC ls (lv_sub hl [0, 1, 2, 3, 4] rfl)
  have hC : aH A (cAdr A) (CW A G (Y.wr' (up Y.wr b (cpr Y.wr z.toNat b 0)))) s H locs := by rw [cpr_0, up_id]; exact hC
  exact loop_3 (n0 + 1) 0 (Nat.lt_succ_self _) (by omega) H locs hC ls (lv_sub hl [0, 1, 2, 3, 4] rfl)

set_option maxHeartbeats 4000000 in
set_option maxRecDepth 100000 in
theorem mX2_isShorter (l : Launch) (A : AD) (G : GS) (Y : YS) (i : Nat) (j : Nat) (hi1 : i < 25) (hj1 : j < 25) (hY : YI Y) : cMi l yX2_isShorter wsX2_isShorter ({ frames := 0, cells := 0, slots := 0, locals := 0 }) A [.ref (A.a 3), .int (iI (i : Int)), .int (iI (j : Int))] G Y (xI (bP (shr Y i j)) G Y) := by
  intro sz
  refine c_start (cc := cX2_isShorter) (maxL := 4) (ret := (some .boolean)) (by decide) rfl rfl ?_
  intro p e s m args below meth c X hr hk hnm hsz ls hl H locs hC
  subst hsz
  obtain ⟨hx, hb, hml, hown, hts⟩ := id X.1
  have hl : lv_has ls 4 [(0, .ref (A.a 3)), (1, .int (iI (i : Int))), (2, .int (iI (j : Int)))] := hl
  have iX2 : ∀ w ∈ u_ws RX2 TX2 7, w ∈ wsX2_isShorter := by decide +kernel
  have hwi := hY.wmb i
  have hwj := hY.wmb j
  have hli := hY.wl i
  have hlj := hY.wl j
  refine lv_aload_n hx hb dX2_isShorter_0 rfl (lv_at hl 0 rfl) ?_
  refine agX2_minutes X hC iX2 (by decide +kernel) dX2_isShorter_1 ?_
  refine lv_iload_n hx hb dX2_isShorter_4 rfl (lv_at hl 1 rfl) ?_
  refine alC_wm (k0 := i) (v := (Y.wm i)) X hC (by omega) (by omega) rfl dX2_isShorter_5 ?_
  refine lv_aload_n hx hb dX2_isShorter_6 rfl (lv_at hl 0 rfl) ?_
  refine agX2_minutes X hC iX2 (by decide +kernel) dX2_isShorter_7 ?_
  refine lv_iload_n hx hb dX2_isShorter_10 rfl (lv_at hl 2 rfl) ?_
  refine alC_wm (k0 := j) (v := (Y.wm j)) X hC (by omega) (by omega) rfl dX2_isShorter_11 ?_
  refine li_icmp_eq (tgt := 36) hx hb dX2_isShorter_12 (by decide) (by omega) (fun c_12 => ?_) (fun c_12 => ?_)
  · refine lv_aload_n hx hb dX2_isShorter_36 rfl (lv_at hl 0 rfl) ?_
    refine agX2_lengths X hC iX2 (by decide +kernel) dX2_isShorter_37 ?_
    refine lv_iload_n hx hb dX2_isShorter_40 rfl (lv_at hl 1 rfl) ?_
    refine alC_wl (k0 := i) (v := ((Y.wl i : Nat) : Int)) X hC (by omega) (by omega) rfl dX2_isShorter_41 ?_
    refine lv_aload_n hx hb dX2_isShorter_42 rfl (lv_at hl 0 rfl) ?_
    refine agX2_lengths X hC iX2 (by decide +kernel) dX2_isShorter_43 ?_
    refine lv_iload_n hx hb dX2_isShorter_46 rfl (lv_at hl 2 rfl) ?_
    refine alC_wl (k0 := j) (v := ((Y.wl j : Nat) : Int)) X hC (by omega) (by omega) rfl dX2_isShorter_47 ?_
    refine li_icmp_eq (tgt := 72) hx hb dX2_isShorter_48 (by decide) (by omega) (fun c_48 => ?_) (fun c_48 => ?_)
    · refine li_c hx hb dX2_isShorter_72 ?_
      refine lv_istore_n (lv' := [(3, .int (iI 0)), (0, .ref (A.a 3)), (1, .int (iI (i : Int))), (2, .int (iI (j : Int)))]) hx hb dX2_isShorter_73 rfl hl (by decide) rfl (fun ls hl => ?_)
      have loop_74 : ∀ (n : Nat) (t : Nat) (hn : Y.wl i - t < n) (ht : t ≤ Y.wl i) (hlex : lexB (Y.wr i) (Y.wr j) (Y.wl i) 0 = lexB (Y.wr i) (Y.wr j) (Y.wl i - t) t) (H : Heap) (locs : List Loc) (hC : aH A (cAdr A) (CW A G Y) s H locs) (ls : Array Slot) (hl : lv_has ls 4 [(3, .int (iI (t : Int))), (0, .ref (A.a 3)), (1, .int (iI (i : Int))), (2, .int (iI (j : Int)))]), W p l e ({ frames := 0, cells := 0, slots := 0, locals := 0 }) s m args below meth c H locs 0 0 (aQi below (cEnd A) (cAdr A) args s (xI (bP (shr Y i j)) G Y)) (F0 m 74 ls []) := by
        intro n
        induction n with
        | zero => intro t hn; exact absurd hn (Nat.not_lt_zero _)
        | succ n ih_74 =>
          intro t hn ht hlex H locs hC ls hl
          have hr1 := hY.wr i t
          have hr2 := hY.wr j t
          refine lv_iload_n hx hb dX2_isShorter_74 rfl (lv_at hl 0 rfl) ?_
          refine lv_aload_n hx hb dX2_isShorter_75 rfl (lv_at hl 1 rfl) ?_
          refine agX2_lengths X hC iX2 (by decide +kernel) dX2_isShorter_76 ?_
          refine lv_iload_n hx hb dX2_isShorter_79 rfl (lv_at hl 2 rfl) ?_
          refine alC_wl (k0 := i) (v := ((Y.wl i : Nat) : Int)) X hC (by omega) (by omega) rfl dX2_isShorter_80 ?_
          refine li_icmp_ge (tgt := 134) hx hb dX2_isShorter_81 (by decide) (by omega) (fun c_81 => ?_) (fun c_81 => ?_)
          · refine li_c hx hb dX2_isShorter_134 ?_
            exact c_zret X hC hr hk (by omega) (⟨(bP_f (fun hq => by rcases hq with h | ⟨h, h2 | ⟨h2, h3⟩⟩; omega; omega; rw [hlex, show Y.wl i - t = 0 by omega] at h3; cases h3)).symm, rfl, rfl⟩) dX2_isShorter_135
          · refine lv_aload_n hx hb dX2_isShorter_84 rfl (lv_at hl 1 rfl) ?_
            refine agX2_rows X hC iX2 (by decide +kernel) dX2_isShorter_85 ?_
            refine lv_iload_n hx hb dX2_isShorter_88 rfl (lv_at hl 2 rfl) ?_
            refine alC_ro (k0 := i) X hC (by omega) (by omega) dX2_isShorter_89 ?_
            refine lv_iload_n hx hb dX2_isShorter_90 rfl (lv_at hl 0 rfl) ?_
            refine alC_wr (i0 := i) (k0 := t) (v := ((Y.wr i t : Nat) : Int)) X hC (by omega) (by omega) (by omega) rfl dX2_isShorter_91 ?_
            refine lv_aload_n hx hb dX2_isShorter_92 rfl (lv_at hl 1 rfl) ?_
            refine agX2_rows X hC iX2 (by decide +kernel) dX2_isShorter_93 ?_
            refine lv_iload_n hx hb dX2_isShorter_96 rfl (lv_at hl 3 rfl) ?_
            refine alC_ro (k0 := j) X hC (by omega) (by omega) dX2_isShorter_97 ?_
            refine lv_iload_n hx hb dX2_isShorter_98 rfl (lv_at hl 0 rfl) ?_
            refine alC_wr (i0 := j) (k0 := t) (v := ((Y.wr j t : Nat) : Int)) X hC (by omega) (by omega) (by omega) rfl dX2_isShorter_99 ?_
            refine li_icmp_eq (tgt := 128) hx hb dX2_isShorter_100 (by decide) (by omega) (fun c_100 => ?_) (fun c_100 => ?_)
            · refine li_incN (lv' := [(3, .int (iI ((t + 1 : Nat) : Int))), (0, .ref (A.a 3)), (1, .int (iI (i : Int))), (2, .int (iI (j : Int)))]) (x := t) (d0 := 1) hx hb dX2_isShorter_128 hl (k := 0) rfl rfl rfl (by decide) rfl (fun ls hl => ?_)
              refine lv_goto (tgt := 74) hx hb dX2_isShorter_131 (by decide) ?_
              exact ih_74 (t + 1) (by omega) (by omega) (by rw [hlex, show Y.wl i - t = (Y.wl i - (t + 1)) + 1 by omega, lexB_s, if_pos (by omega)]) H locs hC ls (lv_sub hl [0, 1, 2, 3] rfl)
            · refine lv_aload_n hx hb dX2_isShorter_103 rfl (lv_at hl 1 rfl) ?_
              refine agX2_rows X hC iX2 (by decide +kernel) dX2_isShorter_104 ?_
              refine lv_iload_n hx hb dX2_isShorter_107 rfl (lv_at hl 2 rfl) ?_
              refine alC_ro (k0 := i) X hC (by omega) (by omega) dX2_isShorter_108 ?_
              refine lv_iload_n hx hb dX2_isShorter_109 rfl (lv_at hl 0 rfl) ?_
              refine alC_wr (i0 := i) (k0 := t) (v := ((Y.wr i t : Nat) : Int)) X hC (by omega) (by omega) (by omega) rfl dX2_isShorter_110 ?_
              refine lv_aload_n hx hb dX2_isShorter_111 rfl (lv_at hl 1 rfl) ?_
              refine agX2_rows X hC iX2 (by decide +kernel) dX2_isShorter_112 ?_
              refine lv_iload_n hx hb dX2_isShorter_115 rfl (lv_at hl 3 rfl) ?_
              refine alC_ro (k0 := j) X hC (by omega) (by omega) dX2_isShorter_116 ?_
              refine lv_iload_n hx hb dX2_isShorter_117 rfl (lv_at hl 0 rfl) ?_
              refine alC_wr (i0 := j) (k0 := t) (v := ((Y.wr j t : Nat) : Int)) X hC (by omega) (by omega) (by omega) rfl dX2_isShorter_118 ?_
              refine li_icmp_ge (tgt := 126) hx hb dX2_isShorter_119 (by decide) (by omega) (fun c_119 => ?_) (fun c_119 => ?_)
              · refine li_c hx hb dX2_isShorter_126 ?_
                exact c_zret X hC hr hk (by omega) (⟨(bP_f (fun hq => by rcases hq with h | ⟨h, h2 | ⟨h2, h3⟩⟩; omega; omega; rw [hlex, show Y.wl i - t = (Y.wl i - t - 1) + 1 by omega, lexB_s, if_neg (by omega)] at h3; have := of_decide_eq_true h3; omega)).symm, rfl, rfl⟩) dX2_isShorter_127
              · refine li_c hx hb dX2_isShorter_122 ?_
                refine lv_goto (tgt := 127) hx hb dX2_isShorter_123 (by decide) ?_
                exact c_zret X hC hr hk (by omega) (⟨(bP_t (Or.inr ⟨by omega, Or.inr ⟨by omega, by rw [hlex, show Y.wl i - t = (Y.wl i - t - 1) + 1 by omega, lexB_s, if_neg (by omega)]; exact decide_eq_true (by omega)⟩⟩)).symm, rfl, rfl⟩) dX2_isShorter_127
      exact loop_74 ((Y.wl i) + 1) 0 (Nat.lt_succ_self _) (by omega) (rfl) H locs hC ls (lv_sub hl [0, 1, 2, 3] rfl)
    · refine lv_aload_n hx hb dX2_isShorter_51 rfl (lv_at hl 0 rfl) ?_
      refine agX2_lengths X hC iX2 (by decide +kernel) dX2_isShorter_52 ?_
      refine lv_iload_n hx hb dX2_isShorter_55 rfl (lv_at hl 1 rfl) ?_
      refine alC_wl (k0 := i) (v := ((Y.wl i : Nat) : Int)) X hC (by omega) (by omega) rfl dX2_isShorter_56 ?_
      refine lv_aload_n hx hb dX2_isShorter_57 rfl (lv_at hl 0 rfl) ?_
      refine agX2_lengths X hC iX2 (by decide +kernel) dX2_isShorter_58 ?_
      refine lv_iload_n hx hb dX2_isShorter_61 rfl (lv_at hl 2 rfl) ?_
      refine alC_wl (k0 := j) (v := ((Y.wl j : Nat) : Int)) X hC (by omega) (by omega) rfl dX2_isShorter_62 ?_
      refine li_icmp_ge (tgt := 70) hx hb dX2_isShorter_63 (by decide) (by omega) (fun c_63 => ?_) (fun c_63 => ?_)
      · refine li_c hx hb dX2_isShorter_70 ?_
        exact c_zret X hC hr hk (by omega) (⟨(bP_f (fun hq => by rcases hq with h | ⟨h, h2 | ⟨h2, h3⟩⟩ <;> omega)).symm, rfl, rfl⟩) dX2_isShorter_71
      · refine li_c hx hb dX2_isShorter_66 ?_
        refine lv_goto (tgt := 71) hx hb dX2_isShorter_67 (by decide) ?_
        exact c_zret X hC hr hk (by omega) (⟨(bP_t (Or.inr ⟨by omega, Or.inl (by omega)⟩)).symm, rfl, rfl⟩) dX2_isShorter_71
  · refine lv_aload_n hx hb dX2_isShorter_15 rfl (lv_at hl 0 rfl) ?_
    refine agX2_minutes X hC iX2 (by decide +kernel) dX2_isShorter_16 ?_
    refine lv_iload_n hx hb dX2_isShorter_19 rfl (lv_at hl 1 rfl) ?_
    refine alC_wm (k0 := i) (v := (Y.wm i)) X hC (by omega) (by omega) rfl dX2_isShorter_20 ?_
    refine lv_aload_n hx hb dX2_isShorter_21 rfl (lv_at hl 0 rfl) ?_
    refine agX2_minutes X hC iX2 (by decide +kernel) dX2_isShorter_22 ?_
    refine lv_iload_n hx hb dX2_isShorter_25 rfl (lv_at hl 2 rfl) ?_
    refine alC_wm (k0 := j) (v := (Y.wm j)) X hC (by omega) (by omega) rfl dX2_isShorter_26 ?_
    refine li_icmp_ge (tgt := 34) hx hb dX2_isShorter_27 (by decide) (by omega) (fun c_27 => ?_) (fun c_27 => ?_)
    · refine li_c hx hb dX2_isShorter_34 ?_
      exact c_zret X hC hr hk (by omega) (⟨(bP_f (fun hq => by rcases hq with h | ⟨h, h2⟩ <;> omega)).symm, rfl, rfl⟩) dX2_isShorter_35
    · refine li_c hx hb dX2_isShorter_30 ?_
      refine lv_goto (tgt := 35) hx hb dX2_isShorter_31 (by decide) ?_
      exact c_zret X hC hr hk (by omega) (⟨(bP_t (Or.inl (by omega))).symm, rfl, rfl⟩) dX2_isShorter_35

set_option maxHeartbeats 4000000 in
set_option maxRecDepth 100000 in
theorem mX2_minutesTo (l : Launch) (A : AD) (G : GS) (Y : YS) (z : Int) (hz : -1 ≤ z ∧ z < ((2 * G.rr : Nat) : Int)) (hr1 : G.rr ≤ 12) : cMi l yX2_minutesTo wsX2_minutesTo ({ frames := 1, cells := 0, slots := 0, locals := 21 }) A [.ref (A.a 3), .int (iI z)] G Y (xI ((mtZ Y z)) G Y) := by
  intro sz
  refine c_start (cc := cX2_minutesTo) (maxL := 2) (ret := (some .int)) (by decide) rfl rfl ?_
  intro p e s m args below meth c X hr hk hnm hsz ls hl H locs hC
  subst hsz
  obtain ⟨hx, hb, hml, hown, hts⟩ := id X.1
  have hl : lv_has ls 2 [(0, .ref (A.a 3)), (1, .int (iI z))] := hl
  have iX2 : ∀ w ∈ u_ws RX2 TX2 7, w ∈ wsX2_minutesTo := by decide +kernel
  refine lv_aload_n hx hb dX2_minutesTo_0 rfl (lv_at hl 0 rfl) ?_
  refine agX2_town X hC iX2 (by decide +kernel) dX2_minutesTo_1 ?_
  refine lv_iload_n hx hb dX2_minutesTo_4 rfl (lv_at hl 1 rfl) ?_
  refine c_callix (v := bP (0 ≤ z ∧ z < ((2 * G.rr : Nat) : Int))) (n := 1) (As := [.int (iI z)]) (rest := []) X hC (mX0_hasSide l A G Y z (show -2147483648 ≤ z ∧ z < 2147483648 by omega) (show G.rr ≤ 12 by omega)) ⟨gX2_minutesTo_X0_hasSide, ⟨_, rfl⟩, rfl, rfl, ⟨by decide, by decide, by decide +kernel⟩, Nat.le_of_ble_eq_true rfl, Nat.le_of_ble_eq_true rfl⟩ (a_recv (y := yX0_hasSide) X hC.1 (ci := 0) (q0 := 1) rfl rfl rfl) rfl hl.1 rfl (Nat.le_of_ble_eq_true rfl) ⟨Nat.zero_le _, Nat.zero_le _⟩ dX2_minutesTo_5 (fun H locs hC => ?_)
  refine li_ifb_eq (tgt := 20) hx hb dX2_minutesTo_8 (by decide) (fun c_8 => ?_) (fun c_8 => ?_)
  · refine li_c hx hb dX2_minutesTo_20 ?_
    exact c_iret X hC hr hk (⟨(mtZ_0 (by omega)).symm, rfl, rfl⟩) dX2_minutesTo_21
  · refine lv_aload_n hx hb dX2_minutesTo_11 rfl (lv_at hl 0 rfl) ?_
    refine agX2_minutes X hC iX2 (by decide +kernel) dX2_minutesTo_12 ?_
    refine lv_iload_n hx hb dX2_minutesTo_15 rfl (lv_at hl 1 rfl) ?_
    refine alC_wm (k0 := (z).toNat) (v := (Y.wm ((z).toNat))) X hC (by omega) (by omega) rfl dX2_minutesTo_16 ?_
    refine lv_goto (tgt := 21) hx hb dX2_minutesTo_17 (by decide) ?_
    exact c_iret X hC hr hk (⟨(mtZ_1 (by omega)).symm, rfl, rfl⟩) dX2_minutesTo_21

set_option maxHeartbeats 4000000 in
set_option maxRecDepth 100000 in
theorem mX2_lengthTo (l : Launch) (A : AD) (G : GS) (Y : YS) (z : Int) (hz : -1 ≤ z ∧ z < ((2 * G.rr : Nat) : Int)) (hr1 : G.rr ≤ 12) : cMi l yX2_lengthTo wsX2_lengthTo ({ frames := 1, cells := 0, slots := 0, locals := 21 }) A [.ref (A.a 3), .int (iI z)] G Y (xI (((layL Y z : Nat) : Int)) G Y) := by
  intro sz
  refine c_start (cc := cX2_lengthTo) (maxL := 2) (ret := (some .int)) (by decide) rfl rfl ?_
  intro p e s m args below meth c X hr hk hnm hsz ls hl H locs hC
  subst hsz
  obtain ⟨hx, hb, hml, hown, hts⟩ := id X.1
  have hl : lv_has ls 2 [(0, .ref (A.a 3)), (1, .int (iI z))] := hl
  have iX2 : ∀ w ∈ u_ws RX2 TX2 7, w ∈ wsX2_lengthTo := by decide +kernel
  refine lv_aload_n hx hb dX2_lengthTo_0 rfl (lv_at hl 0 rfl) ?_
  refine agX2_town X hC iX2 (by decide +kernel) dX2_lengthTo_1 ?_
  refine lv_iload_n hx hb dX2_lengthTo_4 rfl (lv_at hl 1 rfl) ?_
  refine c_callix (v := bP (0 ≤ z ∧ z < ((2 * G.rr : Nat) : Int))) (n := 1) (As := [.int (iI z)]) (rest := []) X hC (mX0_hasSide l A G Y z (show -2147483648 ≤ z ∧ z < 2147483648 by omega) (show G.rr ≤ 12 by omega)) ⟨gX2_lengthTo_X0_hasSide, ⟨_, rfl⟩, rfl, rfl, ⟨by decide, by decide, by decide +kernel⟩, Nat.le_of_ble_eq_true rfl, Nat.le_of_ble_eq_true rfl⟩ (a_recv (y := yX0_hasSide) X hC.1 (ci := 0) (q0 := 1) rfl rfl rfl) rfl hl.1 rfl (Nat.le_of_ble_eq_true rfl) ⟨Nat.zero_le _, Nat.zero_le _⟩ dX2_lengthTo_5 (fun H locs hC => ?_)
  refine li_ifb_eq (tgt := 20) hx hb dX2_lengthTo_8 (by decide) (fun c_8 => ?_) (fun c_8 => ?_)
  · refine li_c hx hb dX2_lengthTo_20 ?_
    exact c_iret X hC hr hk (⟨by rw [layL_0 (by omega)]; rfl, rfl, rfl⟩) dX2_lengthTo_21
  · refine lv_aload_n hx hb dX2_lengthTo_11 rfl (lv_at hl 0 rfl) ?_
    refine agX2_lengths X hC iX2 (by decide +kernel) dX2_lengthTo_12 ?_
    refine lv_iload_n hx hb dX2_lengthTo_15 rfl (lv_at hl 1 rfl) ?_
    refine alC_wl (k0 := (z).toNat) (v := ((Y.wl ((z).toNat) : Nat) : Int)) X hC (by omega) (by omega) rfl dX2_lengthTo_16 ?_
    refine lv_goto (tgt := 21) hx hb dX2_lengthTo_17 (by decide) ?_
    exact c_iret X hC hr hk (⟨by rw [layL_1 (by omega)], rfl, rfl⟩) dX2_lengthTo_21

set_option maxHeartbeats 4000000 in
set_option maxRecDepth 100000 in
theorem mX2_roadTo (l : Launch) (A : AD) (G : GS) (Y : YS) (z : Int) (t : Nat) (hz : -1 ≤ z ∧ z < ((2 * G.rr : Nat) : Int)) (hr1 : G.rr ≤ 12) (hY : YI Y) (ht : t ≤ 24) : cMi l yX2_roadTo wsX2_roadTo ({ frames := 2, cells := 0, slots := 0, locals := 42 }) A [.ref (A.a 3), .int (iI z), .int (iI (t : Int))] G Y (xI ((rdZ Y z t)) G Y) := by
  intro sz
  refine c_start (cc := cX2_roadTo) (maxL := 3) (ret := (some .int)) (by decide) rfl rfl ?_
  intro p e s m args below meth c X hr hk hnm hsz ls hl H locs hC
  subst hsz
  obtain ⟨hx, hb, hml, hown, hts⟩ := id X.1
  have hl : lv_has ls 3 [(0, .ref (A.a 3)), (1, .int (iI z)), (2, .int (iI (t : Int)))] := hl
  have iX2 : ∀ w ∈ u_ws RX2 TX2 7, w ∈ wsX2_roadTo := by decide +kernel
  have hL := layL_le hY z
  have hz0 : z = -1 → layL Y z = 0 := layL_0
  refine lv_iload_n hx hb dX2_roadTo_0 rfl (lv_at hl 2 rfl) ?_
  refine li_if_lt (tgt := 24) hx hb dX2_roadTo_1 (by decide) (by omega) (fun c_1 => ?_) (fun c_1 => ?_)
  · omega
  · refine lv_iload_n hx hb dX2_roadTo_4 rfl (lv_at hl 2 rfl) ?_
    refine lv_aload_n hx hb dX2_roadTo_5 rfl (lv_at hl 0 rfl) ?_
    refine lv_iload_n hx hb dX2_roadTo_6 rfl (lv_at hl 1 rfl) ?_
    refine c_callix (v := ((layL Y z : Nat) : Int)) (n := 1) (As := [.int (iI z)]) (rest := [.int (iI (t : Int))]) X hC (mX2_lengthTo l A G Y z (show -1 ≤ z ∧ z < ((2 * G.rr : Nat) : Int) by omega) (show G.rr ≤ 12 by omega)) ⟨gX2_roadTo_X2_lengthTo, ⟨_, rfl⟩, rfl, rfl, ⟨by decide, by decide, by decide +kernel⟩, Nat.le_of_ble_eq_true rfl, Nat.le_of_ble_eq_true rfl⟩ (a_recv (y := yX2_lengthTo) X hC.1 (ci := 2) (q0 := 3) rfl rfl rfl) rfl hl.1 rfl (Nat.le_of_ble_eq_true rfl) ⟨Nat.zero_le _, Nat.zero_le _⟩ dX2_roadTo_7 (fun H locs hC => ?_)
    refine li_icmp_ge (tgt := 24) hx hb dX2_roadTo_10 (by decide) (by omega) (fun c_10 => ?_) (fun c_10 => ?_)
    · refine li_c hx hb dX2_roadTo_24 ?_
      exact c_iret X hC hr hk (⟨by unfold rdZ; rw [if_neg (by omega)], rfl, rfl⟩) dX2_roadTo_25
    · refine lv_aload_n hx hb dX2_roadTo_13 rfl (lv_at hl 0 rfl) ?_
      refine agX2_rows X hC iX2 (by decide +kernel) dX2_roadTo_14 ?_
      refine lv_iload_n hx hb dX2_roadTo_17 rfl (lv_at hl 1 rfl) ?_
      refine alC_ro (k0 := (z).toNat) X hC (by omega) (by have := hz0; omega) dX2_roadTo_18 ?_
      refine lv_iload_n hx hb dX2_roadTo_19 rfl (lv_at hl 2 rfl) ?_
      refine alC_wr (i0 := ((z).toNat)) (k0 := t) (v := ((Y.wr ((z).toNat) t : Nat) : Int)) X hC (by have := hz0; omega) (by omega) (by omega) rfl dX2_roadTo_20 ?_
      refine lv_goto (tgt := 25) hx hb dX2_roadTo_21 (by decide) ?_
      exact c_iret X hC hr hk (⟨by unfold rdZ; rw [if_pos (by omega)], rfl, rfl⟩) dX2_roadTo_25

set_option maxHeartbeats 4000000 in
set_option maxRecDepth 100000 in
theorem mX2_firstRoadTo (l : Launch) (A : AD) (G : GS) (Y : YS) (z : Int) (hz : -1 ≤ z ∧ z < ((2 * G.rr : Nat) : Int)) (hr1 : G.rr ≤ 12) (hY : YI Y) : cMi l yX2_firstRoadTo wsX2_firstRoadTo ({ frames := 3, cells := 0, slots := 0, locals := 64 }) A [.ref (A.a 3), .int (iI z)] G Y (xI ((rdZ Y z 0)) G Y) := by
  intro sz
  refine c_start (cc := cX2_firstRoadTo) (maxL := 2) (ret := (some .int)) (by decide) rfl rfl ?_
  intro p e s m args below meth c X hr hk hnm hsz ls hl H locs hC
  subst hsz
  obtain ⟨hx, hb, hml, hown, hts⟩ := id X.1
  have hl : lv_has ls 2 [(0, .ref (A.a 3)), (1, .int (iI z))] := hl
  refine lv_aload_n hx hb dX2_firstRoadTo_0 rfl (lv_at hl 0 rfl) ?_
  refine lv_iload_n hx hb dX2_firstRoadTo_1 rfl (lv_at hl 1 rfl) ?_
  refine li_c hx hb dX2_firstRoadTo_2 ?_
  refine c_callix (v := (rdZ Y z 0)) (n := 2) (As := [.int (iI z), .int (iI 0)]) (rest := []) X hC (mX2_roadTo l A G Y z 0 (show -1 ≤ z ∧ z < ((2 * G.rr : Nat) : Int) by omega) (show G.rr ≤ 12 by omega) (show YI Y from hY) (show 0 ≤ 24 by omega)) ⟨gX2_firstRoadTo_X2_roadTo, ⟨_, rfl⟩, rfl, rfl, ⟨by decide, by decide, by decide +kernel⟩, Nat.le_of_ble_eq_true rfl, Nat.le_of_ble_eq_true rfl⟩ (a_recv (y := yX2_roadTo) X hC.1 (ci := 2) (q0 := 3) rfl rfl rfl) rfl hl.1 rfl (Nat.le_of_ble_eq_true rfl) ⟨Nat.zero_le _, Nat.zero_le _⟩ dX2_firstRoadTo_3 (fun H locs hC => ?_)
  exact c_iret X hC hr hk (⟨rfl, rfl, rfl⟩) dX2_firstRoadTo_6

set_option maxHeartbeats 4000000 in
set_option maxRecDepth 100000 in
theorem mX2_lastSideTo (l : Launch) (A : AD) (G : GS) (Y : YS) (v : Nat) (hI : Inv G) (hY : YI Y) (hv : v < G.nn) : cMi l yX2_lastSideTo wsX2_lastSideTo ({ frames := 2, cells := 0, slots := 0, locals := 42 }) A [.ref (A.a 3), .int (iI (v : Int))] G Y (xI ((lstZ G Y v)) G Y) := by
  intro sz
  refine c_start (cc := cX2_lastSideTo) (maxL := 4) (ret := (some .int)) (by decide) rfl rfl ?_
  intro p e s m args below meth c X hr hk hnm hsz ls hl H locs hC
  subst hsz
  obtain ⟨hx, hb, hml, hown, hts⟩ := id X.1
  have hl : lv_has ls 4 [(0, .ref (A.a 3)), (1, .int (iI (v : Int)))] := hl
  have iX2 : ∀ w ∈ u_ws RX2 TX2 7, w ∈ wsX2_lastSideTo := by decide +kernel
  have hrr := hI.rr
  have hnn := hI.nn
  have hws := hY.ws
  refine li_c hx hb dX2_lastSideTo_0 ?_
  refine lv_istore_n (lv' := [(2, .int (iI (-1))), (0, .ref (A.a 3)), (1, .int (iI (v : Int)))]) hx hb dX2_lastSideTo_1 rfl hl (by decide) rfl (fun ls hl => ?_)
  refine lv_iload_n hx hb dX2_lastSideTo_2 rfl (lv_at hl 2 rfl) ?_
  refine lv_aload_n hx hb dX2_lastSideTo_3 rfl (lv_at hl 1 rfl) ?_
  refine agX2_start X hC iX2 (by decide +kernel) dX2_lastSideTo_4 (v := (Y.ws : Int)) rfl ?_
  refine li_icmp_ne (tgt := 12) hx hb dX2_lastSideTo_7 (by decide) (by omega) (fun c_7 => ?_) (fun c_7 => ?_)
  · refine li_c hx hb dX2_lastSideTo_12 ?_
    refine lv_istore_n (lv' := [(3, .int (iI 0)), (2, .int (iI (-1))), (0, .ref (A.a 3)), (1, .int (iI (v : Int)))]) hx hb dX2_lastSideTo_13 rfl hl (by decide) rfl (fun ls hl => ?_)
    have loop_14 : ∀ (n : Nat) (i : Nat) (hn : 2 * G.rr - i < n) (hi : i ≤ 2 * G.rr) (H : Heap) (locs : List Loc) (hC : aH A (cAdr A) (CW A G Y) s H locs) (ls : Array Slot) (hl : lv_has ls 4 [(3, .int (iI (i : Int))), (2, .int (iI (lst G Y v i))), (0, .ref (A.a 3)), (1, .int (iI (v : Int)))]), W p l e ({ frames := 2, cells := 0, slots := 0, locals := 42 }) s m args below meth c H locs 0 0 (aQi below (cEnd A) (cAdr A) args s (xI ((lstZ G Y v)) G Y)) (F0 m 14 ls []) := by
      intro n
      induction n with
      | zero => intro i hn; exact absurd hn (Nat.not_lt_zero _)
      | succ n ih_14 =>
        intro i hn hi H locs hC ls hl
        have hlr := lst_rng G Y v i
        have hs2 := hI.sm (op i)
        have hwm := hY.wmb i
        refine lv_iload_n hx hb dX2_lastSideTo_14 rfl (lv_at hl 0 rfl) ?_
        refine lv_aload_n hx hb dX2_lastSideTo_15 rfl (lv_at hl 2 rfl) ?_
        refine agX2_town X hC iX2 (by decide +kernel) dX2_lastSideTo_16 ?_
        refine c_callix (v := ((2 * G.rr : Nat) : Int)) (n := 0) (As := []) (rest := [.int (iI (i : Int))]) X hC (mX0_sideCount l A G Y) ⟨gX2_lastSideTo_X0_sideCount, ⟨_, rfl⟩, rfl, rfl, ⟨by decide, by decide, by decide +kernel⟩, Nat.le_of_ble_eq_true rfl, Nat.le_of_ble_eq_true rfl⟩ (a_recv (y := yX0_sideCount) X hC.1 (ci := 0) (q0 := 1) rfl rfl rfl) rfl hl.1 rfl (Nat.le_of_ble_eq_true rfl) ⟨Nat.zero_le _, Nat.zero_le _⟩ dX2_lastSideTo_19 (fun H locs hC => ?_)
        refine li_icmp_ge (tgt := 69) hx hb dX2_lastSideTo_22 (by decide) (by omega) (fun c_22 => ?_) (fun c_22 => ?_)
        · refine lv_iload_n hx hb dX2_lastSideTo_69 rfl (lv_at hl 1 rfl) ?_
          exact c_iret X hC hr hk (⟨by unfold lstZ; rw [if_neg (by omega), show 2 * G.rr = i by omega], rfl, rfl⟩) dX2_lastSideTo_70
        · refine lv_aload_n hx hb dX2_lastSideTo_25 rfl (lv_at hl 2 rfl) ?_
          refine agX2_town X hC iX2 (by decide +kernel) dX2_lastSideTo_26 ?_
          refine lv_iload_n hx hb dX2_lastSideTo_29 rfl (lv_at hl 0 rfl) ?_
          refine c_callix (v := ((G.sm (op i) : Nat) : Int)) (n := 1) (As := [.int (iI (i : Int))]) (rest := []) X hC (mX0_endOf l A G Y i (show i < 2 * G.rr by omega) (show G.rr ≤ 12 by omega)) ⟨gX2_lastSideTo_X0_endOf, ⟨_, rfl⟩, rfl, rfl, ⟨by decide, by decide, by decide +kernel⟩, Nat.le_of_ble_eq_true rfl, Nat.le_of_ble_eq_true rfl⟩ (a_recv (y := yX0_endOf) X hC.1 (ci := 0) (q0 := 1) rfl rfl rfl) rfl hl.1 rfl (Nat.le_of_ble_eq_true rfl) ⟨Nat.zero_le _, Nat.zero_le _⟩ dX2_lastSideTo_30 (fun H locs hC => ?_)
          refine lv_iload_n hx hb dX2_lastSideTo_33 rfl (lv_at hl 3 rfl) ?_
          refine li_icmp_ne (tgt := 63) hx hb dX2_lastSideTo_34 (by decide) (by omega) (fun c_34 => ?_) (fun c_34 => ?_)
          · refine li_incN (lv' := [(3, .int (iI ((i + 1 : Nat) : Int))), (2, .int (iI (lst G Y v i))), (0, .ref (A.a 3)), (1, .int (iI (v : Int)))]) (x := i) (d0 := 1) hx hb dX2_lastSideTo_63 hl (k := 0) rfl rfl rfl (by decide) rfl (fun ls hl => ?_)
            refine lv_goto (tgt := 14) hx hb dX2_lastSideTo_66 (by decide) ?_
            have e1 : (lst G Y v i) = lst G Y v (i + 1) := by
              rw [lst_s]
              first
              | rw [if_neg (fun hq => by obtain ⟨h1, h2, h3⟩ := hq; omega)]
              | rw [if_neg (fun hq => by obtain ⟨h1, h2, h3 | h3⟩ := hq; omega; exact c_58 h3)]
            rw [e1] at hl
            exact ih_14 (i + 1) (by omega) (by omega) H locs hC ls (lv_sub hl [0, 1, 2, 3] rfl)
          · refine lv_aload_n hx hb dX2_lastSideTo_37 rfl (lv_at hl 2 rfl) ?_
            refine agX2_minutes X hC iX2 (by decide +kernel) dX2_lastSideTo_38 ?_
            refine lv_iload_n hx hb dX2_lastSideTo_41 rfl (lv_at hl 0 rfl) ?_
            refine alC_wm (k0 := i) (v := (Y.wm i)) X hC (by omega) (by omega) rfl dX2_lastSideTo_42 ?_
            refine li_c hx hb dX2_lastSideTo_43 ?_
            refine li_icmp_eq (tgt := 63) hx hb dX2_lastSideTo_44 (by decide) (by omega) (fun c_44 => ?_) (fun c_44 => ?_)
            · refine li_incN (lv' := [(3, .int (iI ((i + 1 : Nat) : Int))), (2, .int (iI (lst G Y v i))), (0, .ref (A.a 3)), (1, .int (iI (v : Int)))]) (x := i) (d0 := 1) hx hb dX2_lastSideTo_63 hl (k := 0) rfl rfl rfl (by decide) rfl (fun ls hl => ?_)
              refine lv_goto (tgt := 14) hx hb dX2_lastSideTo_66 (by decide) ?_
              have e1 : (lst G Y v i) = lst G Y v (i + 1) := by
                rw [lst_s]
                first
                | rw [if_neg (fun hq => by obtain ⟨h1, h2, h3⟩ := hq; omega)]
                | rw [if_neg (fun hq => by obtain ⟨h1, h2, h3 | h3⟩ := hq; omega; exact c_58 h3)]
              rw [e1] at hl
              exact ih_14 (i + 1) (by omega) (by omega) H locs hC ls (lv_sub hl [0, 1, 2, 3] rfl)
            · refine lv_iload_n hx hb dX2_lastSideTo_47 rfl (lv_at hl 1 rfl) ?_
              refine li_c hx hb dX2_lastSideTo_48 ?_
              refine li_icmp_eq (tgt := 61) hx hb dX2_lastSideTo_49 (by decide) (by omega) (fun c_49 => ?_) (fun c_49 => ?_)
              · refine lv_iload_n hx hb dX2_lastSideTo_61 rfl (lv_at hl 0 rfl) ?_
                refine lv_istore_n (lv' := [(2, .int (iI (i : Int))), (3, .int (iI (i : Int))), (0, .ref (A.a 3)), (1, .int (iI (v : Int)))]) hx hb dX2_lastSideTo_62 rfl hl (by decide) rfl (fun ls hl => ?_)
                refine li_incN (lv' := [(3, .int (iI ((i + 1 : Nat) : Int))), (2, .int (iI (i : Int))), (0, .ref (A.a 3)), (1, .int (iI (v : Int)))]) (x := i) (d0 := 1) hx hb dX2_lastSideTo_63 hl (k := 1) rfl rfl rfl (by decide) rfl (fun ls hl => ?_)
                refine lv_goto (tgt := 14) hx hb dX2_lastSideTo_66 (by decide) ?_
                have e1 : (i : Int) = lst G Y v (i + 1) := by
                  rw [lst_s]
                  first
                  | rw [if_pos ⟨by omega, by omega, Or.inl (by omega)⟩]
                  | rw [if_pos ⟨by omega, by omega, Or.inr c_58⟩]
                rw [e1] at hl
                exact ih_14 (i + 1) (by omega) (by omega) H locs hC ls (lv_sub hl [0, 1, 2, 3] rfl)
              · refine lv_aload_n hx hb dX2_lastSideTo_52 rfl (lv_at hl 2 rfl) ?_
                refine lv_iload_n hx hb dX2_lastSideTo_53 rfl (lv_at hl 0 rfl) ?_
                refine lv_iload_n hx hb dX2_lastSideTo_54 rfl (lv_at hl 1 rfl) ?_
                refine li_cast0 (z' := ((((lst G Y v i)).toNat : Nat) : Int)) hx hb (by omega) ?_
                refine c_callix (v := bP (shr Y i (((lst G Y v i)).toNat))) (n := 2) (As := [.int (iI (i : Int)), .int (iI ((((lst G Y v i)).toNat : Nat) : Int))]) (rest := []) X hC (mX2_isShorter l A G Y i (((lst G Y v i)).toNat) (show i < 25 by omega) (show (((lst G Y v i)).toNat) < 25 by omega) (show YI Y from hY)) ⟨gX2_lastSideTo_X2_isShorter, ⟨_, rfl⟩, rfl, rfl, ⟨by decide, by decide, by decide +kernel⟩, Nat.le_of_ble_eq_true rfl, Nat.le_of_ble_eq_true rfl⟩ (a_recv (y := yX2_isShorter) X hC.1 (ci := 2) (q0 := 3) rfl rfl rfl) rfl hl.1 rfl (Nat.le_of_ble_eq_true rfl) ⟨Nat.zero_le _, Nat.zero_le _⟩ dX2_lastSideTo_55 (fun H locs hC => ?_)
                refine li_ifb_eq (tgt := 63) hx hb dX2_lastSideTo_58 (by decide) (fun c_58 => ?_) (fun c_58 => ?_)
                · refine li_incN (lv' := [(3, .int (iI ((i + 1 : Nat) : Int))), (2, .int (iI (lst G Y v i))), (0, .ref (A.a 3)), (1, .int (iI (v : Int)))]) (x := i) (d0 := 1) hx hb dX2_lastSideTo_63 hl (k := 0) rfl rfl rfl (by decide) rfl (fun ls hl => ?_)
                  refine lv_goto (tgt := 14) hx hb dX2_lastSideTo_66 (by decide) ?_
                  have e1 : (lst G Y v i) = lst G Y v (i + 1) := by
                    rw [lst_s]
                    first
                    | rw [if_neg (fun hq => by obtain ⟨h1, h2, h3⟩ := hq; omega)]
                    | rw [if_neg (fun hq => by obtain ⟨h1, h2, h3 | h3⟩ := hq; omega; exact c_58 h3)]
                  rw [e1] at hl
                  exact ih_14 (i + 1) (by omega) (by omega) H locs hC ls (lv_sub hl [0, 1, 2, 3] rfl)
                · refine lv_iload_n hx hb dX2_lastSideTo_61 rfl (lv_at hl 0 rfl) ?_
                  refine lv_istore_n (lv' := [(2, .int (iI (i : Int))), (3, .int (iI (i : Int))), (0, .ref (A.a 3)), (1, .int (iI (v : Int)))]) hx hb dX2_lastSideTo_62 rfl hl (by decide) rfl (fun ls hl => ?_)
                  refine li_incN (lv' := [(3, .int (iI ((i + 1 : Nat) : Int))), (2, .int (iI (i : Int))), (0, .ref (A.a 3)), (1, .int (iI (v : Int)))]) (x := i) (d0 := 1) hx hb dX2_lastSideTo_63 hl (k := 1) rfl rfl rfl (by decide) rfl (fun ls hl => ?_)
                  refine lv_goto (tgt := 14) hx hb dX2_lastSideTo_66 (by decide) ?_
                  have e1 : (i : Int) = lst G Y v (i + 1) := by
                    rw [lst_s]
                    first
                    | rw [if_pos ⟨by omega, by omega, Or.inl (by omega)⟩]
                    | rw [if_pos ⟨by omega, by omega, Or.inr c_58⟩]
                  rw [e1] at hl
                  exact ih_14 (i + 1) (by omega) (by omega) H locs hC ls (lv_sub hl [0, 1, 2, 3] rfl)
    exact loop_14 ((2 * G.rr) + 1) 0 (Nat.lt_succ_self _) (by omega) H locs hC ls (lv_sub hl [0, 1, 2, 3] rfl)
  · refine lv_iload_n hx hb dX2_lastSideTo_10 rfl (lv_at hl 0 rfl) ?_
    exact c_iret X hC hr hk (⟨by unfold lstZ; rw [if_pos (by omega)], rfl, rfl⟩) dX2_lastSideTo_11

set_option maxHeartbeats 4000000 in
set_option maxRecDepth 100000 in
theorem mX2_minutesToNode (l : Launch) (A : AD) (G : GS) (Y : YS) (v : Nat) (hI : Inv G) (hY : YI Y) (hv : v < G.nn) : cMi l yX2_minutesToNode wsX2_minutesToNode ({ frames := 3, cells := 0, slots := 0, locals := 65 }) A [.ref (A.a 3), .int (iI (v : Int))] G Y (xI ((mnZ G Y v)) G Y) := by
  intro sz
  refine c_start (cc := cX2_minutesToNode) (maxL := 2) (ret := (some .int)) (by decide) rfl rfl ?_
  intro p e s m args below meth c X hr hk hnm hsz ls hl H locs hC
  subst hsz
  obtain ⟨hx, hb, hml, hown, hts⟩ := id X.1
  have hl : lv_has ls 2 [(0, .ref (A.a 3)), (1, .int (iI (v : Int)))] := hl
  have iX2 : ∀ w ∈ u_ws RX2 TX2 7, w ∈ wsX2_minutesToNode := by decide +kernel
  have hrr := hI.rr
  have hnn := hI.nn
  have hws := hY.ws
  have hlz := lstZ_rng G Y v
  refine lv_iload_n hx hb dX2_minutesToNode_0 rfl (lv_at hl 1 rfl) ?_
  refine lv_aload_n hx hb dX2_minutesToNode_1 rfl (lv_at hl 0 rfl) ?_
  refine agX2_start X hC iX2 (by decide +kernel) dX2_minutesToNode_2 (v := (Y.ws : Int)) rfl ?_
  refine li_icmp_ne (tgt := 12) hx hb dX2_minutesToNode_5 (by decide) (by omega) (fun c_5 => ?_) (fun c_5 => ?_)
  · refine lv_aload_n hx hb dX2_minutesToNode_12 rfl (lv_at hl 0 rfl) ?_
    refine lv_aload_n hx hb dX2_minutesToNode_13 rfl (lv_at hl 0 rfl) ?_
    refine lv_iload_n hx hb dX2_minutesToNode_14 rfl (lv_at hl 1 rfl) ?_
    refine c_callix (v := (lstZ G Y v)) (n := 1) (As := [.int (iI (v : Int))]) (rest := [.ref (A.a 3)]) X hC (mX2_lastSideTo l A G Y v hI (show YI Y from hY) (show v < G.nn from hv)) ⟨gX2_minutesToNode_X2_lastSideTo, ⟨_, rfl⟩, rfl, rfl, ⟨by decide, by decide, by decide +kernel⟩, Nat.le_of_ble_eq_true rfl, Nat.le_of_ble_eq_true rfl⟩ (a_recv (y := yX2_lastSideTo) X hC.1 (ci := 2) (q0 := 3) rfl rfl rfl) rfl hl.1 rfl (Nat.le_of_ble_eq_true rfl) ⟨Nat.zero_le _, Nat.zero_le _⟩ dX2_minutesToNode_15 (fun H locs hC => ?_)
    refine c_callix (v := (mtZ Y (lstZ G Y v))) (n := 1) (As := [.int (iI (lstZ G Y v))]) (rest := []) X hC (mX2_minutesTo l A G Y (lstZ G Y v) (show -1 ≤ (lstZ G Y v) ∧ (lstZ G Y v) < ((2 * G.rr : Nat) : Int) by omega) (show G.rr ≤ 12 by omega)) ⟨gX2_minutesToNode_X2_minutesTo, ⟨_, rfl⟩, rfl, rfl, ⟨by decide, by decide, by decide +kernel⟩, Nat.le_of_ble_eq_true rfl, Nat.le_of_ble_eq_true rfl⟩ (a_recv (y := yX2_minutesTo) X hC.1 (ci := 2) (q0 := 3) rfl rfl rfl) rfl hl.1 rfl (Nat.le_of_ble_eq_true rfl) ⟨Nat.zero_le _, Nat.zero_le _⟩ dX2_minutesToNode_18 (fun H locs hC => ?_)
    exact c_iret X hC hr hk (⟨by unfold mnZ; rw [if_neg (by omega)], rfl, rfl⟩) dX2_minutesToNode_21
  · refine li_c hx hb dX2_minutesToNode_8 ?_
    refine lv_goto (tgt := 21) hx hb dX2_minutesToNode_9 (by decide) ?_
    exact c_iret X hC hr hk (⟨by unfold mnZ; rw [if_pos (by omega)], rfl, rfl⟩) dX2_minutesToNode_21

set_option maxHeartbeats 4000000 in
set_option maxRecDepth 100000 in
theorem mX2_nearestOpenSide (l : Launch) (A : AD) (G : GS) (Y : YS) (hI : Inv G) (hY : YI Y) : cMi l yX2_nearestOpenSide wsX2_nearestOpenSide ({ frames := 1, cells := 0, slots := 0, locals := 20 }) A [.ref (A.a 3)] G Y (xI ((nos Y (2 * G.rr))) G Y) := by
  intro sz
  refine c_start (cc := cX2_nearestOpenSide) (maxL := 3) (ret := (some .int)) (by decide) rfl rfl ?_
  intro p e s m args below meth c X hr hk hnm hsz ls hl H locs hC
  subst hsz
  obtain ⟨hx, hb, hml, hown, hts⟩ := id X.1
  have hl : lv_has ls 3 [(0, .ref (A.a 3))] := hl
  have iX2 : ∀ w ∈ u_ws RX2 TX2 7, w ∈ wsX2_nearestOpenSide := by decide +kernel
  have hrr := hI.rr
  refine li_c hx hb dX2_nearestOpenSide_0 ?_
  refine lv_istore_n (lv' := [(1, .int (iI (-1))), (0, .ref (A.a 3))]) hx hb dX2_nearestOpenSide_1 rfl hl (by decide) rfl (fun ls hl => ?_)
  refine li_c hx hb dX2_nearestOpenSide_2 ?_
  refine lv_istore_n (lv' := [(2, .int (iI 0)), (1, .int (iI (-1))), (0, .ref (A.a 3))]) hx hb dX2_nearestOpenSide_3 rfl hl (by decide) rfl (fun ls hl => ?_)
  have loop_4 : ∀ (n : Nat) (i : Nat) (hn : 2 * G.rr - i < n) (hi : i ≤ 2 * G.rr) (H : Heap) (locs : List Loc) (hC : aH A (cAdr A) (CW A G Y) s H locs) (ls : Array Slot) (hl : lv_has ls 3 [(2, .int (iI (i : Int))), (1, .int (iI (nos Y i))), (0, .ref (A.a 3))]), W p l e ({ frames := 1, cells := 0, slots := 0, locals := 20 }) s m args below meth c H locs 0 0 (aQi below (cEnd A) (cAdr A) args s (xI ((nos Y (2 * G.rr))) G Y)) (F0 m 4 ls []) := by
    intro n
    induction n with
    | zero => intro i hn; exact absurd hn (Nat.not_lt_zero _)
    | succ n ih_4 =>
      intro i hn hi H locs hC ls hl
      have hnr := nos_rng Y i
      have hwm := hY.wmb i
      have hwm2 := hY.wmb (nos Y i).toNat
      have hwe := hY.we i
      refine lv_iload_n hx hb dX2_nearestOpenSide_4 rfl (lv_at hl 0 rfl) ?_
      refine lv_aload_n hx hb dX2_nearestOpenSide_5 rfl (lv_at hl 2 rfl) ?_
      refine agX2_town X hC iX2 (by decide +kernel) dX2_nearestOpenSide_6 ?_
      refine c_callix (v := ((2 * G.rr : Nat) : Int)) (n := 0) (As := []) (rest := [.int (iI (i : Int))]) X hC (mX0_sideCount l A G Y) ⟨gX2_nearestOpenSide_X0_sideCount, ⟨_, rfl⟩, rfl, rfl, ⟨by decide, by decide, by decide +kernel⟩, Nat.le_of_ble_eq_true rfl, Nat.le_of_ble_eq_true rfl⟩ (a_recv (y := yX0_sideCount) X hC.1 (ci := 0) (q0 := 1) rfl rfl rfl) rfl hl.1 rfl (Nat.le_of_ble_eq_true rfl) ⟨Nat.zero_le _, Nat.zero_le _⟩ dX2_nearestOpenSide_9 (fun H locs hC => ?_)
      refine li_icmp_ge (tgt := 62) hx hb dX2_nearestOpenSide_12 (by decide) (by omega) (fun c_12 => ?_) (fun c_12 => ?_)
      · refine lv_iload_n hx hb dX2_nearestOpenSide_62 rfl (lv_at hl 1 rfl) ?_
        exact c_iret X hC hr hk (⟨by rw [show 2 * G.rr = i by omega], rfl, rfl⟩) dX2_nearestOpenSide_63
      · refine lv_aload_n hx hb dX2_nearestOpenSide_15 rfl (lv_at hl 2 rfl) ?_
        refine agX2_settled X hC iX2 (by decide +kernel) dX2_nearestOpenSide_16 ?_
        refine lv_iload_n hx hb dX2_nearestOpenSide_19 rfl (lv_at hl 0 rfl) ?_
        refine alC_we (k0 := i) (v := ((Y.we i : Nat) : Int)) X hC (by omega) (by omega) rfl dX2_nearestOpenSide_20 ?_
        refine li_if_ne (tgt := 56) hx hb dX2_nearestOpenSide_21 (by decide) (by omega) (fun c_21 => ?_) (fun c_21 => ?_)
        · refine li_incN (lv' := [(2, .int (iI ((i + 1 : Nat) : Int))), (1, .int (iI (nos Y i))), (0, .ref (A.a 3))]) (x := i) (d0 := 1) hx hb dX2_nearestOpenSide_56 hl (k := 0) rfl rfl rfl (by decide) rfl (fun ls hl => ?_)
          refine lv_goto (tgt := 4) hx hb dX2_nearestOpenSide_59 (by decide) ?_
          have e1 : (nos Y i) = nos Y (i + 1) := by
            rw [nos_s]
            first
            | rw [if_pos ⟨by omega, by omega, Or.inl (by omega)⟩]
            | rw [if_pos ⟨by omega, by omega, Or.inr (by omega)⟩]
            | rw [if_neg (fun hq => by obtain ⟨h1, h2, h3⟩ := hq; omega)]
          rw [e1] at hl
          exact ih_4 (i + 1) (by omega) (by omega) H locs hC ls (lv_sub hl [0, 1, 2] rfl)
        · refine lv_aload_n hx hb dX2_nearestOpenSide_24 rfl (lv_at hl 2 rfl) ?_
          refine agX2_minutes X hC iX2 (by decide +kernel) dX2_nearestOpenSide_25 ?_
          refine lv_iload_n hx hb dX2_nearestOpenSide_28 rfl (lv_at hl 0 rfl) ?_
          refine alC_wm (k0 := i) (v := (Y.wm i)) X hC (by omega) (by omega) rfl dX2_nearestOpenSide_29 ?_
          refine li_c hx hb dX2_nearestOpenSide_30 ?_
          refine li_icmp_eq (tgt := 56) hx hb dX2_nearestOpenSide_31 (by decide) (by omega) (fun c_31 => ?_) (fun c_31 => ?_)
          · refine li_incN (lv' := [(2, .int (iI ((i + 1 : Nat) : Int))), (1, .int (iI (nos Y i))), (0, .ref (A.a 3))]) (x := i) (d0 := 1) hx hb dX2_nearestOpenSide_56 hl (k := 0) rfl rfl rfl (by decide) rfl (fun ls hl => ?_)
            refine lv_goto (tgt := 4) hx hb dX2_nearestOpenSide_59 (by decide) ?_
            have e1 : (nos Y i) = nos Y (i + 1) := by
              rw [nos_s]
              first
              | rw [if_pos ⟨by omega, by omega, Or.inl (by omega)⟩]
              | rw [if_pos ⟨by omega, by omega, Or.inr (by omega)⟩]
              | rw [if_neg (fun hq => by obtain ⟨h1, h2, h3⟩ := hq; omega)]
            rw [e1] at hl
            exact ih_4 (i + 1) (by omega) (by omega) H locs hC ls (lv_sub hl [0, 1, 2] rfl)
          · refine lv_iload_n hx hb dX2_nearestOpenSide_34 rfl (lv_at hl 1 rfl) ?_
            refine li_c hx hb dX2_nearestOpenSide_35 ?_
            refine li_icmp_eq (tgt := 54) hx hb dX2_nearestOpenSide_36 (by decide) (by omega) (fun c_36 => ?_) (fun c_36 => ?_)
            · refine lv_iload_n hx hb dX2_nearestOpenSide_54 rfl (lv_at hl 0 rfl) ?_
              refine lv_istore_n (lv' := [(1, .int (iI (i : Int))), (2, .int (iI (i : Int))), (0, .ref (A.a 3))]) hx hb dX2_nearestOpenSide_55 rfl hl (by decide) rfl (fun ls hl => ?_)
              refine li_incN (lv' := [(2, .int (iI ((i + 1 : Nat) : Int))), (1, .int (iI (i : Int))), (0, .ref (A.a 3))]) (x := i) (d0 := 1) hx hb dX2_nearestOpenSide_56 hl (k := 1) rfl rfl rfl (by decide) rfl (fun ls hl => ?_)
              refine lv_goto (tgt := 4) hx hb dX2_nearestOpenSide_59 (by decide) ?_
              have e1 : (i : Int) = nos Y (i + 1) := by
                rw [nos_s]
                first
                | rw [if_pos ⟨by omega, by omega, Or.inl (by omega)⟩]
                | rw [if_pos ⟨by omega, by omega, Or.inr (by omega)⟩]
                | rw [if_neg (fun hq => by obtain ⟨h1, h2, h3⟩ := hq; omega)]
              rw [e1] at hl
              exact ih_4 (i + 1) (by omega) (by omega) H locs hC ls (lv_sub hl [0, 1, 2] rfl)
            · refine lv_aload_n hx hb dX2_nearestOpenSide_39 rfl (lv_at hl 2 rfl) ?_
              refine agX2_minutes X hC iX2 (by decide +kernel) dX2_nearestOpenSide_40 ?_
              refine lv_iload_n hx hb dX2_nearestOpenSide_43 rfl (lv_at hl 0 rfl) ?_
              refine alC_wm (k0 := i) (v := (Y.wm i)) X hC (by omega) (by omega) rfl dX2_nearestOpenSide_44 ?_
              refine lv_aload_n hx hb dX2_nearestOpenSide_45 rfl (lv_at hl 2 rfl) ?_
              refine agX2_minutes X hC iX2 (by decide +kernel) dX2_nearestOpenSide_46 ?_
              refine lv_iload_n hx hb dX2_nearestOpenSide_49 rfl (lv_at hl 1 rfl) ?_
              refine alC_wm (k0 := ((nos Y i)).toNat) (v := (Y.wm (((nos Y i)).toNat))) X hC (by omega) (by omega) rfl dX2_nearestOpenSide_50 ?_
              refine li_icmp_ge (tgt := 56) hx hb dX2_nearestOpenSide_51 (by decide) (by omega) (fun c_51 => ?_) (fun c_51 => ?_)
              · refine li_incN (lv' := [(2, .int (iI ((i + 1 : Nat) : Int))), (1, .int (iI (nos Y i))), (0, .ref (A.a 3))]) (x := i) (d0 := 1) hx hb dX2_nearestOpenSide_56 hl (k := 0) rfl rfl rfl (by decide) rfl (fun ls hl => ?_)
                refine lv_goto (tgt := 4) hx hb dX2_nearestOpenSide_59 (by decide) ?_
                have e1 : (nos Y i) = nos Y (i + 1) := by
                  rw [nos_s]
                  first
                  | rw [if_pos ⟨by omega, by omega, Or.inl (by omega)⟩]
                  | rw [if_pos ⟨by omega, by omega, Or.inr (by omega)⟩]
                  | rw [if_neg (fun hq => by obtain ⟨h1, h2, h3⟩ := hq; omega)]
                rw [e1] at hl
                exact ih_4 (i + 1) (by omega) (by omega) H locs hC ls (lv_sub hl [0, 1, 2] rfl)
              · refine lv_iload_n hx hb dX2_nearestOpenSide_54 rfl (lv_at hl 0 rfl) ?_
                refine lv_istore_n (lv' := [(1, .int (iI (i : Int))), (2, .int (iI (i : Int))), (0, .ref (A.a 3))]) hx hb dX2_nearestOpenSide_55 rfl hl (by decide) rfl (fun ls hl => ?_)
                refine li_incN (lv' := [(2, .int (iI ((i + 1 : Nat) : Int))), (1, .int (iI (i : Int))), (0, .ref (A.a 3))]) (x := i) (d0 := 1) hx hb dX2_nearestOpenSide_56 hl (k := 1) rfl rfl rfl (by decide) rfl (fun ls hl => ?_)
                refine lv_goto (tgt := 4) hx hb dX2_nearestOpenSide_59 (by decide) ?_
                have e1 : (i : Int) = nos Y (i + 1) := by
                  rw [nos_s]
                  first
                  | rw [if_pos ⟨by omega, by omega, Or.inl (by omega)⟩]
                  | rw [if_pos ⟨by omega, by omega, Or.inr (by omega)⟩]
                  | rw [if_neg (fun hq => by obtain ⟨h1, h2, h3⟩ := hq; omega)]
                rw [e1] at hl
                exact ih_4 (i + 1) (by omega) (by omega) H locs hC ls (lv_sub hl [0, 1, 2] rfl)
  exact loop_4 ((2 * G.rr) + 1) 0 (Nat.lt_succ_self _) (by omega) H locs hC ls (lv_sub hl [0, 1, 2] rfl)

set_option maxHeartbeats 4000000 in
set_option maxRecDepth 100000 in
theorem mX2_layTrial (l : Launch) (A : AD) (G : GS) (Y : YS) (z : Int) (k : Nat) (x : Nat) (hI : Inv G) (hY : YI Y) (hz : -1 ≤ z ∧ z < ((2 * G.rr : Nat) : Int)) (hk1 : k < 2 * G.rr) (hL : layL Y z < 24) (hx2 : x ≤ 2) : cMv l yX2_layTrial wsX2_layTrial ({ frames := 2, cells := 0, slots := 0, locals := 42 }) A [.ref (A.a 3), .int (iI z), .int (iI (k : Int)), .int (iI (x : Int))] G Y (xV G (lay G Y z k x)) := by
  intro sz
  refine c_start (cc := cX2_layTrial) (maxL := 5) (ret := none) (by decide) rfl rfl ?_
  intro p e s m args below meth c X hr hk hnm hsz ls hl H locs hC
  subst hsz
  obtain ⟨hx, hb, hml, hown, hts⟩ := id X.1
  have hl : lv_has ls 5 [(0, .ref (A.a 3)), (1, .int (iI z)), (2, .int (iI (k : Int))), (3, .int (iI (x : Int)))] := hl
  have iX2 : ∀ w ∈ u_ws RX2 TX2 7, w ∈ wsX2_layTrial := by decide +kernel
  have hrr := hI.rr
  have hm := hI.mi (k / 2)
  have hz0 : z = -1 → layL Y z = 0 := layL_0
  refine lv_aload_n hx hb dX2_layTrial_0 rfl (lv_at hl 0 rfl) ?_
  refine lv_iload_n hx hb dX2_layTrial_1 rfl (lv_at hl 1 rfl) ?_
  refine c_callix (v := ((layL Y z : Nat) : Int)) (n := 1) (As := [.int (iI z)]) (rest := []) X hC (mX2_lengthTo l A G Y z (show -1 ≤ z ∧ z < ((2 * G.rr : Nat) : Int) by omega) (show G.rr ≤ 12 by omega)) ⟨gX2_layTrial_X2_lengthTo, ⟨_, rfl⟩, rfl, rfl, ⟨by decide, by decide, by decide +kernel⟩, Nat.le_of_ble_eq_true rfl, Nat.le_of_ble_eq_true rfl⟩ (a_recv (y := yX2_lengthTo) X hC.1 (ci := 2) (q0 := 3) rfl rfl rfl) rfl hl.1 rfl (Nat.le_of_ble_eq_true rfl) ⟨Nat.zero_le _, Nat.zero_le _⟩ dX2_layTrial_2 (fun H locs hC => ?_)
  refine lv_istore (lv' := [(4, .int (iI ((layL Y z : Nat) : Int))), (0, .ref (A.a 3)), (1, .int (iI z)), (2, .int (iI (k : Int))), (3, .int (iI (x : Int)))]) hx hb dX2_layTrial_5 hl (by decide) rfl (fun ls hl => ?_)
  refine lv_iload hx hb dX2_layTrial_7 (lv_at hl 0 rfl) ?_
  refine li_bi hx hb dX2_layTrial_9 (by decide) ?_
  refine li_icmp_lt (tgt := 15) hx hb dX2_layTrial_11 (by decide) (by omega) (fun c_11 => ?_) (fun c_11 => ?_)
  · refine lv_aload_n hx hb dX2_layTrial_15 rfl (lv_at hl 1 rfl) ?_
    refine lv_iload_n hx hb dX2_layTrial_16 rfl (lv_at hl 2 rfl) ?_
    refine li_bi hx hb dX2_layTrial_17 (by decide) ?_
    refine lv_iload hx hb dX2_layTrial_19 (lv_at hl 0 rfl) ?_
    refine c_callvx (n := 3) (As := [.int (iI z), .int (iI 24), .int (iI ((layL Y z : Nat) : Int))]) (rest := []) X hC (mX2_copyRow l A G Y z 24 (layL Y z) (show 24 < 25 by omega) (show (layL Y z) ≤ 24 by omega) (show -1 ≤ z ∧ z < 25 ∧ ((layL Y z) = 0 ∨ 0 ≤ z) from ⟨by omega, by omega, by have := hz0; omega⟩) (show z ≠ (24 : Int) by omega) (show YI Y from hY)) ⟨gX2_layTrial_X2_copyRow, ⟨_, rfl⟩, rfl, rfl, ⟨by decide, by decide, by decide +kernel⟩, Nat.le_of_ble_eq_true rfl, Nat.le_of_ble_eq_true rfl⟩ (a_recv (y := yX2_copyRow) X hC.1 (ci := 2) (q0 := 3) rfl rfl rfl) rfl hl.1 rfl (Nat.le_of_ble_eq_true rfl) ⟨Nat.zero_le _, Nat.zero_le _⟩ dX2_layTrial_21 (fun H locs hC => ?_)
    have hC : aH A (cAdr A) (CW A G (mkY Y.wm Y.wl (up Y.wr 24 (cpr Y.wr (z).toNat 24 (layL Y z))) Y.we Y.ws)) s H locs := hC
    refine lv_aload_n hx hb dX2_layTrial_24 rfl (lv_at hl 1 rfl) ?_
    refine agX2_rows X hC iX2 (by decide +kernel) dX2_layTrial_25 ?_
    refine li_bi hx hb dX2_layTrial_28 (by decide) ?_
    refine alC_ro (k0 := 24) X hC (by omega) (by omega) dX2_layTrial_30 ?_
    refine lv_iload hx hb dX2_layTrial_31 (lv_at hl 0 rfl) ?_
    refine lv_iload_n hx hb dX2_layTrial_33 rfl (lv_at hl 3 rfl) ?_
    refine li_c hx hb dX2_layTrial_34 ?_
    refine li_divN (x := k) (y := 2) hx hb dX2_layTrial_35 rfl rfl (by omega) ?_
    refine asC_wr (i0 := 24) (k0 := layL Y z) (x := k / 2) X hC (by omega) (by omega) (by omega) (by omega) dX2_layTrial_36 (fun H locs hC => ?_)
    have hC : aH A (cAdr A) (CW A G (mkY Y.wm Y.wl (up (up Y.wr 24 (cpr Y.wr (z).toNat 24 (layL Y z))) 24 (up ((up Y.wr 24 (cpr Y.wr (z).toNat 24 (layL Y z))) 24) (layL Y z) (k / 2))) Y.we Y.ws)) s H locs := hC
    refine lv_aload_n hx hb dX2_layTrial_37 rfl (lv_at hl 1 rfl) ?_
    refine agX2_lengths X hC iX2 (by decide +kernel) dX2_layTrial_38 ?_
    refine li_bi hx hb dX2_layTrial_41 (by decide) ?_
    refine lv_iload hx hb dX2_layTrial_43 (lv_at hl 0 rfl) ?_
    refine li_c hx hb dX2_layTrial_45 ?_
    refine li_addN (x := layL Y z) (y := 1) hx hb dX2_layTrial_46 rfl rfl ?_
    refine asC_wl (k0 := 24) (x := (layL Y z) + 1) X hC (by omega) (by omega) (by omega) dX2_layTrial_47 (fun H locs hC => ?_)
    have hC : aH A (cAdr A) (CW A G (mkY Y.wm (up Y.wl 24 ((layL Y z) + 1)) (up (up Y.wr 24 (cpr Y.wr (z).toNat 24 (layL Y z))) 24 (up ((up Y.wr 24 (cpr Y.wr (z).toNat 24 (layL Y z))) 24) (layL Y z) (k / 2))) Y.we Y.ws)) s H locs := hC
    refine lv_aload_n hx hb dX2_layTrial_48 rfl (lv_at hl 1 rfl) ?_
    refine agX2_minutes X hC iX2 (by decide +kernel) dX2_layTrial_49 ?_
    refine li_bi hx hb dX2_layTrial_52 (by decide) ?_
    refine lv_iload_n hx hb dX2_layTrial_54 rfl (lv_at hl 2 rfl) ?_
    refine li_c hx hb dX2_layTrial_55 ?_
    refine li_icmp_ne (tgt := 63) hx hb dX2_layTrial_56 (by decide) (by omega) (fun c_56 => ?_) (fun c_56 => ?_)
    · refine lv_aload_n hx hb dX2_layTrial_63 rfl (lv_at hl 1 rfl) ?_
      refine lv_iload_n hx hb dX2_layTrial_64 rfl (lv_at hl 2 rfl) ?_
      refine c_callix (v := (mtZ (mkY Y.wm (up Y.wl 24 ((layL Y z) + 1)) (up (up Y.wr 24 (cpr Y.wr (z).toNat 24 (layL Y z))) 24 (up ((up Y.wr 24 (cpr Y.wr (z).toNat 24 (layL Y z))) 24) (layL Y z) (k / 2))) Y.we Y.ws) z)) (n := 1) (As := [.int (iI z)]) (rest := [.int (iI 24), .ref (A.a 11)]) X hC (mX2_minutesTo l A G (mkY Y.wm (up Y.wl 24 ((layL Y z) + 1)) (up (up Y.wr 24 (cpr Y.wr (z).toNat 24 (layL Y z))) 24 (up ((up Y.wr 24 (cpr Y.wr (z).toNat 24 (layL Y z))) 24) (layL Y z) (k / 2))) Y.we Y.ws) z (show -1 ≤ z ∧ z < ((2 * G.rr : Nat) : Int) by omega) (show G.rr ≤ 12 by omega)) ⟨gX2_layTrial_X2_minutesTo, ⟨_, rfl⟩, rfl, rfl, ⟨by decide, by decide, by decide +kernel⟩, Nat.le_of_ble_eq_true rfl, Nat.le_of_ble_eq_true rfl⟩ (a_recv (y := yX2_minutesTo) X hC.1 (ci := 2) (q0 := 3) rfl rfl rfl) rfl hl.1 rfl (Nat.le_of_ble_eq_true rfl) ⟨Nat.zero_le _, Nat.zero_le _⟩ dX2_layTrial_65 (fun H locs hC => ?_)
      refine lv_aload_n hx hb dX2_layTrial_68 rfl (lv_at hl 1 rfl) ?_
      refine agX2_town X hC iX2 (by decide +kernel) dX2_layTrial_69 ?_
      refine lv_iload_n hx hb dX2_layTrial_72 rfl (lv_at hl 3 rfl) ?_
      refine li_c hx hb dX2_layTrial_73 ?_
      refine li_divN (x := k) (y := 2) hx hb dX2_layTrial_74 rfl rfl (by omega) ?_
      refine c_callix (v := ((G.mi (k / 2) : Nat) : Int)) (n := 1) (As := [.int (iI ((k / 2 : Nat) : Int))]) (rest := [.int (iI (mtZ (mkY Y.wm (up Y.wl 24 ((layL Y z) + 1)) (up (up Y.wr 24 (cpr Y.wr (z).toNat 24 (layL Y z))) 24 (up ((up Y.wr 24 (cpr Y.wr (z).toNat 24 (layL Y z))) 24) (layL Y z) (k / 2))) Y.we Y.ws) z)), .int (iI 24), .ref (A.a 11)]) X hC (mX0_minutesOf l A G (mkY Y.wm (up Y.wl 24 ((layL Y z) + 1)) (up (up Y.wr 24 (cpr Y.wr (z).toNat 24 (layL Y z))) 24 (up ((up Y.wr 24 (cpr Y.wr (z).toNat 24 (layL Y z))) 24) (layL Y z) (k / 2))) Y.we Y.ws) (k / 2) (show (k / 2) < G.rr by omega) (show G.rr ≤ 12 by omega)) ⟨gX2_layTrial_X0_minutesOf, ⟨_, rfl⟩, rfl, rfl, ⟨by decide, by decide, by decide +kernel⟩, Nat.le_of_ble_eq_true rfl, Nat.le_of_ble_eq_true rfl⟩ (a_recv (y := yX0_minutesOf) X hC.1 (ci := 0) (q0 := 1) rfl rfl rfl) rfl hl.1 rfl (Nat.le_of_ble_eq_true rfl) ⟨Nat.zero_le _, Nat.zero_le _⟩ dX2_layTrial_75 (fun H locs hC => ?_)
      refine li_add hx hb dX2_layTrial_78 ?_
      refine lv_iload_n hx hb dX2_layTrial_79 rfl (lv_at hl 4 rfl) ?_
      refine li_add hx hb dX2_layTrial_80 ?_
      refine asC_wm (k0 := 24) (x := (((mtZ (mkY Y.wm (up Y.wl 24 ((layL Y z) + 1)) (up (up Y.wr 24 (cpr Y.wr (z).toNat 24 (layL Y z))) 24 (up ((up Y.wr 24 (cpr Y.wr (z).toNat 24 (layL Y z))) 24) (layL Y z) (k / 2))) Y.we Y.ws) z) + ((G.mi (k / 2) : Nat) : Int)) + (x : Int))) X hC (by omega) (by omega) rfl dX2_layTrial_81 (fun H locs hC => ?_)
      have hC : aH A (cAdr A) (CW A G (mkY (up Y.wm 24 (((mtZ (mkY Y.wm (up Y.wl 24 ((layL Y z) + 1)) (up (up Y.wr 24 (cpr Y.wr (z).toNat 24 (layL Y z))) 24 (up ((up Y.wr 24 (cpr Y.wr (z).toNat 24 (layL Y z))) 24) (layL Y z) (k / 2))) Y.we Y.ws) z) + ((G.mi (k / 2) : Nat) : Int)) + (x : Int))) (up Y.wl 24 ((layL Y z) + 1)) (up (up Y.wr 24 (cpr Y.wr (z).toNat 24 (layL Y z))) 24 (up ((up Y.wr 24 (cpr Y.wr (z).toNat 24 (layL Y z))) 24) (layL Y z) (k / 2))) Y.we Y.ws)) s H locs := hC
      exact c_vret X hC hr hk (by
    have e1 : (up (up Y.wr 24 (cpr Y.wr (z).toNat 24 (layL Y z))) 24 (up ((up Y.wr 24 (cpr Y.wr (z).toNat 24 (layL Y z))) 24) (layL Y z) (k / 2))) = up Y.wr 24 (up (cpr Y.wr z.toNat 24 (layL Y z)) (layL Y z) (k / 2)) := by rw [up_up, up_s]
    have e2 : (((mtZ (mkY Y.wm (up Y.wl 24 ((layL Y z) + 1)) (up (up Y.wr 24 (cpr Y.wr (z).toNat 24 (layL Y z))) 24 (up ((up Y.wr 24 (cpr Y.wr (z).toNat 24 (layL Y z))) 24) (layL Y z) (k / 2))) Y.we Y.ws) z) + ((G.mi (k / 2) : Nat) : Int)) + (x : Int)) = layM Y z + (G.mi (k / 2) : Int) + (x : Int) := by rw [layM_1 (by omega), mtZ_1 (by omega)]; rfl
    refine ⟨rfl, ?_⟩
    unfold lay
    rw [← e1, ← e2]
    rfl) dX2_layTrial_82
    · refine li_c hx hb dX2_layTrial_59 ?_
      refine lv_goto (tgt := 68) hx hb dX2_layTrial_60 (by decide) ?_
      refine lv_aload_n hx hb dX2_layTrial_68 rfl (lv_at hl 1 rfl) ?_
      refine agX2_town X hC iX2 (by decide +kernel) dX2_layTrial_69 ?_
      refine lv_iload_n hx hb dX2_layTrial_72 rfl (lv_at hl 3 rfl) ?_
      refine li_c hx hb dX2_layTrial_73 ?_
      refine li_divN (x := k) (y := 2) hx hb dX2_layTrial_74 rfl rfl (by omega) ?_
      refine c_callix (v := ((G.mi (k / 2) : Nat) : Int)) (n := 1) (As := [.int (iI ((k / 2 : Nat) : Int))]) (rest := [.int (iI 0), .int (iI 24), .ref (A.a 11)]) X hC (mX0_minutesOf l A G (mkY Y.wm (up Y.wl 24 ((layL Y z) + 1)) (up (up Y.wr 24 (cpr Y.wr (z).toNat 24 (layL Y z))) 24 (up ((up Y.wr 24 (cpr Y.wr (z).toNat 24 (layL Y z))) 24) (layL Y z) (k / 2))) Y.we Y.ws) (k / 2) (show (k / 2) < G.rr by omega) (show G.rr ≤ 12 by omega)) ⟨gX2_layTrial_X0_minutesOf, ⟨_, rfl⟩, rfl, rfl, ⟨by decide, by decide, by decide +kernel⟩, Nat.le_of_ble_eq_true rfl, Nat.le_of_ble_eq_true rfl⟩ (a_recv (y := yX0_minutesOf) X hC.1 (ci := 0) (q0 := 1) rfl rfl rfl) rfl hl.1 rfl (Nat.le_of_ble_eq_true rfl) ⟨Nat.zero_le _, Nat.zero_le _⟩ dX2_layTrial_75 (fun H locs hC => ?_)
      refine li_addN (x := 0) (y := G.mi (k / 2)) hx hb dX2_layTrial_78 rfl rfl ?_
      refine lv_iload_n hx hb dX2_layTrial_79 rfl (lv_at hl 4 rfl) ?_
      refine li_addN (x := 0 + (G.mi (k / 2))) (y := x) hx hb dX2_layTrial_80 rfl rfl ?_
      refine asC_wm (k0 := 24) (x := (((0 + (G.mi (k / 2))) + x : Nat) : Int)) X hC (by omega) (by omega) rfl dX2_layTrial_81 (fun H locs hC => ?_)
      have hC : aH A (cAdr A) (CW A G (mkY (up Y.wm 24 (((0 + (G.mi (k / 2))) + x : Nat) : Int)) (up Y.wl 24 ((layL Y z) + 1)) (up (up Y.wr 24 (cpr Y.wr (z).toNat 24 (layL Y z))) 24 (up ((up Y.wr 24 (cpr Y.wr (z).toNat 24 (layL Y z))) 24) (layL Y z) (k / 2))) Y.we Y.ws)) s H locs := hC
      exact c_vret X hC hr hk (by
    have e1 : (up (up Y.wr 24 (cpr Y.wr (z).toNat 24 (layL Y z))) 24 (up ((up Y.wr 24 (cpr Y.wr (z).toNat 24 (layL Y z))) 24) (layL Y z) (k / 2))) = up Y.wr 24 (up (cpr Y.wr z.toNat 24 (layL Y z)) (layL Y z) (k / 2)) := by rw [up_up, up_s]
    have e2 : (((0 + (G.mi (k / 2))) + x : Nat) : Int) = layM Y z + (G.mi (k / 2) : Int) + (x : Int) := by rw [layM_0 (by omega)]; omega
    refine ⟨rfl, ?_⟩
    unfold lay
    rw [← e1, ← e2]
    rfl) dX2_layTrial_82
  · omega

set_option maxHeartbeats 4000000 in
set_option maxRecDepth 100000 in
theorem mX2_goOnFrom (l : Launch) (A : AD) (G : GS) (Y : YS) (z : Int) (v : Nat) (cb : Int) (hI : Inv G) (hY : YI Y) (hz : -1 ≤ z ∧ z < ((2 * G.rr : Nat) : Int)) (hzo : zOk Y z) (hL : ∀ k, k < 2 * G.rr → Y.we k = 0 → layL Y z < 24) (hv : v < G.nn) (hc : -1 ≤ cb ∧ cb < 1000) : cMv l yX2_goOnFrom wsX2_goOnFrom ({ frames := 3, cells := 0, slots := 0, locals := 66 }) A [.ref (A.a 3), .int (iI z), .int (iI (v : Int)), .int (iI cb)] G Y (xV G (gof G Y z v cb (2 * G.rr))) := by
  intro sz
  refine c_start (cc := cX2_goOnFrom) (maxL := 5) (ret := none) (by decide) rfl rfl ?_
  intro p e s m args below meth c X hr hk hnm hsz ls hl H locs hC
  subst hsz
  obtain ⟨hx, hb, hml, hown, hts⟩ := id X.1
  have hl : lv_has ls 5 [(0, .ref (A.a 3)), (1, .int (iI z)), (2, .int (iI (v : Int))), (3, .int (iI cb))] := hl
  have iX2 : ∀ w ∈ u_ws RX2 TX2 7, w ∈ wsX2_goOnFrom := by decide +kernel
  have hrr := hI.rr
  have hnn := hI.nn
  refine li_c hx hb dX2_goOnFrom_0 ?_
  refine lv_istore (lv' := [(4, .int (iI 0)), (0, .ref (A.a 3)), (1, .int (iI z)), (2, .int (iI (v : Int))), (3, .int (iI cb))]) hx hb dX2_goOnFrom_1 hl (by decide) rfl (fun ls hl => ?_)
  have loop_3 : ∀ (n : Nat) (i : Nat) (hn : 2 * G.rr - i < n) (hi : i ≤ 2 * G.rr) (H : Heap) (locs : List Loc) (hC : aH A (cAdr A) (CW A G (gof G Y z v cb i)) s H locs) (ls : Array Slot) (hl : lv_has ls 5 [(4, .int (iI (i : Int))), (0, .ref (A.a 3)), (1, .int (iI z)), (2, .int (iI (v : Int))), (3, .int (iI cb))]), W p l e ({ frames := 3, cells := 0, slots := 0, locals := 66 }) s m args below meth c H locs 0 0 (aQv below (cEnd A) (cAdr A) args s (xV G (gof G Y z v cb (2 * G.rr)))) (F0 m 3 ls []) := by
    intro n
    induction n with
    | zero => intro i hn; exact absurd hn (Nat.not_lt_zero _)
    | succ n ih_3 =>
      intro i hn hi H locs hC ls hl
      obtain ⟨hYi, hwei, -, hli, -⟩ := gof_inv (v := v) (c := cb) hI hY hzo hL i hi
      have hwe1 := hYi.we i
      have hLi : (gof G Y z v cb i).we i = 0 → i < 2 * G.rr → layL (gof G Y z v cb i) z < 24 := fun q1 q2 => by rw [hli]; rw [hwei] at q1; exact hL i q2 q1
      refine lv_iload hx hb dX2_goOnFrom_3 (lv_at hl 0 rfl) ?_
      refine lv_aload_n hx hb dX2_goOnFrom_5 rfl (lv_at hl 1 rfl) ?_
      refine agX2_town X hC iX2 (by decide +kernel) dX2_goOnFrom_6 ?_
      refine c_callix (v := ((2 * G.rr : Nat) : Int)) (n := 0) (As := []) (rest := [.int (iI (i : Int))]) X hC (mX0_sideCount l A G (gof G Y z v cb i)) ⟨gX2_goOnFrom_X0_sideCount, ⟨_, rfl⟩, rfl, rfl, ⟨by decide, by decide, by decide +kernel⟩, Nat.le_of_ble_eq_true rfl, Nat.le_of_ble_eq_true rfl⟩ (a_recv (y := yX0_sideCount) X hC.1 (ci := 0) (q0 := 1) rfl rfl rfl) rfl hl.1 rfl (Nat.le_of_ble_eq_true rfl) ⟨Nat.zero_le _, Nat.zero_le _⟩ dX2_goOnFrom_9 (fun H locs hC => ?_)
      refine li_icmp_ge (tgt := 130) hx hb dX2_goOnFrom_12 (by decide) (by omega) (fun c_12 => ?_) (fun c_12 => ?_)
      · exact c_vret X hC hr hk (⟨rfl, by rw [show 2 * G.rr = i by omega]⟩) dX2_goOnFrom_130
      · refine lv_aload_n hx hb dX2_goOnFrom_15 rfl (lv_at hl 1 rfl) ?_
        refine agX2_settled X hC iX2 (by decide +kernel) dX2_goOnFrom_16 ?_
        refine lv_iload hx hb dX2_goOnFrom_19 (lv_at hl 0 rfl) ?_
        refine alC_we (k0 := i) (v := (((gof G Y z v cb i).we i : Nat) : Int)) X hC (by omega) (by omega) rfl dX2_goOnFrom_21 ?_
        refine li_if_ne (tgt := 124) hx hb dX2_goOnFrom_22 (by decide) (by omega) (fun c_22 => ?_) (fun c_22 => ?_)
        · refine li_incN (lv' := [(4, .int (iI ((i + 1 : Nat) : Int))), (0, .ref (A.a 3)), (1, .int (iI z)), (2, .int (iI (v : Int))), (3, .int (iI cb))]) (x := i) (d0 := 1) hx hb dX2_goOnFrom_124 hl (k := 0) rfl rfl rfl (by decide) rfl (fun ls hl => ?_)
          refine lv_goto (tgt := 3) hx hb dX2_goOnFrom_127 (by decide) ?_
          have e1 : (gof G Y z v cb i) = gof G Y z v cb (i + 1) := by
            rw [gof_s]
            unfold gst
            first
            | rw [if_neg (fun hq => by obtain ⟨h1, h2⟩ := hq; omega)]
            | rw [if_neg (fun hq => c_36 hq.2)]
          rw [e1] at hC
          exact ih_3 (i + 1) (by omega) (by omega) H locs hC ls (lv_sub hl [0, 1, 2, 3, 4] rfl)
        · refine lv_aload_n hx hb dX2_goOnFrom_25 rfl (lv_at hl 1 rfl) ?_
          refine agX2_town X hC iX2 (by decide +kernel) dX2_goOnFrom_26 ?_
          refine lv_iload_n hx hb dX2_goOnFrom_29 rfl (lv_at hl 3 rfl) ?_
          refine lv_iload_n hx hb dX2_goOnFrom_30 rfl (lv_at hl 4 rfl) ?_
          refine lv_iload hx hb dX2_goOnFrom_31 (lv_at hl 0 rfl) ?_
          refine c_callix (v := bP (cG G v cb (i : Int))) (n := 3) (As := [.int (iI (v : Int)), .int (iI cb), .int (iI (i : Int))]) (rest := []) X hC (mX0_canGoOn l A G (gof G Y z v cb i) v cb (i : Int) hI (show v < G.nn by omega) (show -2147483648 ≤ cb ∧ cb < 2147483648 by omega) (show -2147483648 ≤ (i : Int) ∧ (i : Int) < 2147483648 by omega)) ⟨gX2_goOnFrom_X0_canGoOn, ⟨_, rfl⟩, rfl, rfl, ⟨by decide, by decide, by decide +kernel⟩, Nat.le_of_ble_eq_true rfl, Nat.le_of_ble_eq_true rfl⟩ (a_recv (y := yX0_canGoOn) X hC.1 (ci := 0) (q0 := 1) rfl rfl rfl) rfl hl.1 rfl (Nat.le_of_ble_eq_true rfl) ⟨Nat.zero_le _, Nat.zero_le _⟩ dX2_goOnFrom_33 (fun H locs hC => ?_)
          refine li_ifb_eq (tgt := 124) hx hb dX2_goOnFrom_36 (by decide) (fun c_36 => ?_) (fun c_36 => ?_)
          · refine li_incN (lv' := [(4, .int (iI ((i + 1 : Nat) : Int))), (0, .ref (A.a 3)), (1, .int (iI z)), (2, .int (iI (v : Int))), (3, .int (iI cb))]) (x := i) (d0 := 1) hx hb dX2_goOnFrom_124 hl (k := 0) rfl rfl rfl (by decide) rfl (fun ls hl => ?_)
            refine lv_goto (tgt := 3) hx hb dX2_goOnFrom_127 (by decide) ?_
            have e1 : (gof G Y z v cb i) = gof G Y z v cb (i + 1) := by
              rw [gof_s]
              unfold gst
              first
              | rw [if_neg (fun hq => by obtain ⟨h1, h2⟩ := hq; omega)]
              | rw [if_neg (fun hq => c_36 hq.2)]
            rw [e1] at hC
            exact ih_3 (i + 1) (by omega) (by omega) H locs hC ls (lv_sub hl [0, 1, 2, 3, 4] rfl)
          · refine lv_aload_n hx hb dX2_goOnFrom_39 rfl (lv_at hl 1 rfl) ?_
            refine lv_iload_n hx hb dX2_goOnFrom_40 rfl (lv_at hl 2 rfl) ?_
            refine lv_iload hx hb dX2_goOnFrom_41 (lv_at hl 0 rfl) ?_
            refine lv_iload hx hb dX2_goOnFrom_43 (lv_at hl 0 rfl) ?_
            refine li_c hx hb dX2_goOnFrom_45 ?_
            refine li_divN (x := i) (y := 2) hx hb dX2_goOnFrom_46 rfl rfl (by omega) ?_
            refine lv_iload_n hx hb dX2_goOnFrom_47 rfl (lv_at hl 4 rfl) ?_
            refine li_icmp_ne (tgt := 55) hx hb dX2_goOnFrom_48 (by decide) (by omega) (fun c_48 => ?_) (fun c_48 => ?_)
            · refine li_c hx hb dX2_goOnFrom_55 ?_
              refine c_callvx (n := 3) (As := [.int (iI z), .int (iI (i : Int)), .int (iI 0)]) (rest := []) X hC (mX2_layTrial l A G (gof G Y z v cb i) z i 0 hI (show YI (gof G Y z v cb i) from hYi) (show -1 ≤ z ∧ z < ((2 * G.rr : Nat) : Int) by omega) (show i < 2 * G.rr by omega) (show layL (gof G Y z v cb i) z < 24 from hLi (by omega) (by omega)) (show 0 ≤ 2 by omega)) ⟨gX2_goOnFrom_X2_layTrial, ⟨_, rfl⟩, rfl, rfl, ⟨by decide, by decide, by decide +kernel⟩, Nat.le_of_ble_eq_true rfl, Nat.le_of_ble_eq_true rfl⟩ (a_recv (y := yX2_layTrial) X hC.1 (ci := 2) (q0 := 3) rfl rfl rfl) rfl hl.1 rfl (Nat.le_of_ble_eq_true rfl) ⟨Nat.zero_le _, Nat.zero_le _⟩ dX2_goOnFrom_56 (fun H locs hC => ?_)
              have hYl : YI (lay G (gof G Y z v cb i) z i 0) := lay_YI hI hYi (hLi (by omega) (by omega)) (by omega) (by omega)
              have hwml := hYl.wmb i
              have hwm24 := hYl.wmb 24
              have hwl24 := hYl.wl 24
              refine lv_aload_n hx hb dX2_goOnFrom_59 rfl (lv_at hl 1 rfl) ?_
              refine agX2_minutes X hC iX2 (by decide +kernel) dX2_goOnFrom_60 ?_
              refine lv_iload hx hb dX2_goOnFrom_63 (lv_at hl 0 rfl) ?_
              refine alC_wm (k0 := i) (v := ((lay G (gof G Y z v cb i) z i 0).wm i)) X hC (by omega) (by omega) rfl dX2_goOnFrom_65 ?_
              refine li_c hx hb dX2_goOnFrom_66 ?_
              refine li_icmp_eq (tgt := 81) hx hb dX2_goOnFrom_67 (by decide) (by omega) (fun c_67 => ?_) (fun c_67 => ?_)
              · refine lv_aload_n hx hb dX2_goOnFrom_81 rfl (lv_at hl 1 rfl) ?_
                refine li_bi hx hb dX2_goOnFrom_82 (by decide) ?_
                refine lv_iload hx hb dX2_goOnFrom_84 (lv_at hl 0 rfl) ?_
                refine lv_aload_n hx hb dX2_goOnFrom_86 rfl (lv_at hl 1 rfl) ?_
                refine agX2_lengths X hC iX2 (by decide +kernel) dX2_goOnFrom_87 ?_
                refine li_bi hx hb dX2_goOnFrom_90 (by decide) ?_
                refine alC_wl (k0 := 24) (v := (((lay G (gof G Y z v cb i) z i 0).wl 24 : Nat) : Int)) X hC (by omega) (by omega) rfl dX2_goOnFrom_92 ?_
                refine c_callvx (n := 3) (As := [.int (iI 24), .int (iI (i : Int)), .int (iI (((lay G (gof G Y z v cb i) z i 0).wl 24 : Nat) : Int))]) (rest := []) X hC (mX2_copyRow l A G (lay G (gof G Y z v cb i) z i 0) (24 : Int) i ((lay G (gof G Y z v cb i) z i 0).wl 24) (show i < 25 by omega) (show ((lay G (gof G Y z v cb i) z i 0).wl 24) ≤ 24 from hYl.wl 24) (show -1 ≤ (24 : Int) ∧ (24 : Int) < 25 ∧ (((lay G (gof G Y z v cb i) z i 0).wl 24) = 0 ∨ 0 ≤ (24 : Int)) from ⟨by omega, by omega, Or.inr (by omega)⟩) (show (24 : Int) ≠ (i : Int) by omega) (show YI (lay G (gof G Y z v cb i) z i 0) from hYl)) ⟨gX2_goOnFrom_X2_copyRow, ⟨_, rfl⟩, rfl, rfl, ⟨by decide, by decide, by decide +kernel⟩, Nat.le_of_ble_eq_true rfl, Nat.le_of_ble_eq_true rfl⟩ (a_recv (y := yX2_copyRow) X hC.1 (ci := 2) (q0 := 3) rfl rfl rfl) rfl hl.1 rfl (Nat.le_of_ble_eq_true rfl) ⟨Nat.zero_le _, Nat.zero_le _⟩ dX2_goOnFrom_93 (fun H locs hC => ?_)
                have hC : aH A (cAdr A) (CW A G (mkY ((lay G (gof G Y z v cb i) z i 0).wm) ((lay G (gof G Y z v cb i) z i 0).wl) (up ((lay G (gof G Y z v cb i) z i 0).wr) i (cpr ((lay G (gof G Y z v cb i) z i 0).wr) ((24 : Int)).toNat i ((lay G (gof G Y z v cb i) z i 0).wl 24))) ((lay G (gof G Y z v cb i) z i 0).we) ((lay G (gof G Y z v cb i) z i 0).ws))) s H locs := hC
                refine lv_aload_n hx hb dX2_goOnFrom_96 rfl (lv_at hl 1 rfl) ?_
                refine agX2_minutes X hC iX2 (by decide +kernel) dX2_goOnFrom_97 ?_
                refine lv_iload hx hb dX2_goOnFrom_100 (lv_at hl 0 rfl) ?_
                refine lv_aload_n hx hb dX2_goOnFrom_102 rfl (lv_at hl 1 rfl) ?_
                refine agX2_minutes X hC iX2 (by decide +kernel) dX2_goOnFrom_103 ?_
                refine li_bi hx hb dX2_goOnFrom_106 (by decide) ?_
                refine alC_wm (k0 := 24) (v := ((lay G (gof G Y z v cb i) z i 0).wm 24)) X hC (by omega) (by omega) rfl dX2_goOnFrom_108 ?_
                refine asC_wm (k0 := i) (x := ((lay G (gof G Y z v cb i) z i 0).wm 24)) X hC (by omega) (by omega) rfl dX2_goOnFrom_109 (fun H locs hC => ?_)
                have hC : aH A (cAdr A) (CW A G (mkY (up (lay G (gof G Y z v cb i) z i 0).wm i ((lay G (gof G Y z v cb i) z i 0).wm 24)) ((lay G (gof G Y z v cb i) z i 0).wl) (up ((lay G (gof G Y z v cb i) z i 0).wr) i (cpr ((lay G (gof G Y z v cb i) z i 0).wr) ((24 : Int)).toNat i ((lay G (gof G Y z v cb i) z i 0).wl 24))) ((lay G (gof G Y z v cb i) z i 0).we) ((lay G (gof G Y z v cb i) z i 0).ws))) s H locs := hC
                refine lv_aload_n hx hb dX2_goOnFrom_110 rfl (lv_at hl 1 rfl) ?_
                refine agX2_lengths X hC iX2 (by decide +kernel) dX2_goOnFrom_111 ?_
                refine lv_iload hx hb dX2_goOnFrom_114 (lv_at hl 0 rfl) ?_
                refine lv_aload_n hx hb dX2_goOnFrom_116 rfl (lv_at hl 1 rfl) ?_
                refine agX2_lengths X hC iX2 (by decide +kernel) dX2_goOnFrom_117 ?_
                refine li_bi hx hb dX2_goOnFrom_120 (by decide) ?_
                refine alC_wl (k0 := 24) (v := (((lay G (gof G Y z v cb i) z i 0).wl 24 : Nat) : Int)) X hC (by omega) (by omega) rfl dX2_goOnFrom_122 ?_
                refine asC_wl (k0 := i) (x := (lay G (gof G Y z v cb i) z i 0).wl 24) X hC (by omega) (by omega) (by omega) dX2_goOnFrom_123 (fun H locs hC => ?_)
                have hC : aH A (cAdr A) (CW A G (mkY (up (lay G (gof G Y z v cb i) z i 0).wm i ((lay G (gof G Y z v cb i) z i 0).wm 24)) (up (lay G (gof G Y z v cb i) z i 0).wl i ((lay G (gof G Y z v cb i) z i 0).wl 24)) (up ((lay G (gof G Y z v cb i) z i 0).wr) i (cpr ((lay G (gof G Y z v cb i) z i 0).wr) ((24 : Int)).toNat i ((lay G (gof G Y z v cb i) z i 0).wl 24))) ((lay G (gof G Y z v cb i) z i 0).we) ((lay G (gof G Y z v cb i) z i 0).ws))) s H locs := hC
                refine li_incN (lv' := [(4, .int (iI ((i + 1 : Nat) : Int))), (0, .ref (A.a 3)), (1, .int (iI z)), (2, .int (iI (v : Int))), (3, .int (iI cb))]) (x := i) (d0 := 1) hx hb dX2_goOnFrom_124 hl (k := 0) rfl rfl rfl (by decide) rfl (fun ls hl => ?_)
                refine lv_goto (tgt := 3) hx hb dX2_goOnFrom_127 (by decide) ?_
                have e1 : (mkY (up (lay G (gof G Y z v cb i) z i 0).wm i ((lay G (gof G Y z v cb i) z i 0).wm 24)) (up (lay G (gof G Y z v cb i) z i 0).wl i ((lay G (gof G Y z v cb i) z i 0).wl 24)) (up ((lay G (gof G Y z v cb i) z i 0).wr) i (cpr ((lay G (gof G Y z v cb i) z i 0).wr) ((24 : Int)).toNat i ((lay G (gof G Y z v cb i) z i 0).wl 24))) ((lay G (gof G Y z v cb i) z i 0).we) ((lay G (gof G Y z v cb i) z i 0).ws)) = gof G Y z v cb (i + 1) := by
                  rw [gof_s]
                  unfold gst
                  rw [if_pos ⟨by omega, c_36⟩, show gsX i cb = 0 from if_neg (by omega)]
                  unfold gsL
                  first
                  | (rw [if_pos (Or.inl c_67)]; rfl)
                  | (rw [if_pos (Or.inr c_78)]; rfl)
                rw [e1] at hC
                exact ih_3 (i + 1) (by omega) (by omega) H locs hC ls (lv_sub hl [0, 1, 2, 3, 4] rfl)
              · refine lv_aload_n hx hb dX2_goOnFrom_70 rfl (lv_at hl 1 rfl) ?_
                refine li_bi hx hb dX2_goOnFrom_71 (by decide) ?_
                refine lv_iload hx hb dX2_goOnFrom_73 (lv_at hl 0 rfl) ?_
                refine c_callix (v := bP (shr (lay G (gof G Y z v cb i) z i 0) 24 i)) (n := 2) (As := [.int (iI 24), .int (iI (i : Int))]) (rest := []) X hC (mX2_isShorter l A G (lay G (gof G Y z v cb i) z i 0) 24 i (show 24 < 25 by omega) (show i < 25 by omega) (show YI (lay G (gof G Y z v cb i) z i 0) from hYl)) ⟨gX2_goOnFrom_X2_isShorter, ⟨_, rfl⟩, rfl, rfl, ⟨by decide, by decide, by decide +kernel⟩, Nat.le_of_ble_eq_true rfl, Nat.le_of_ble_eq_true rfl⟩ (a_recv (y := yX2_isShorter) X hC.1 (ci := 2) (q0 := 3) rfl rfl rfl) rfl hl.1 rfl (Nat.le_of_ble_eq_true rfl) ⟨Nat.zero_le _, Nat.zero_le _⟩ dX2_goOnFrom_75 (fun H locs hC => ?_)
                refine li_ifb_eq (tgt := 124) hx hb dX2_goOnFrom_78 (by decide) (fun c_78 => ?_) (fun c_78 => ?_)
                · refine li_incN (lv' := [(4, .int (iI ((i + 1 : Nat) : Int))), (0, .ref (A.a 3)), (1, .int (iI z)), (2, .int (iI (v : Int))), (3, .int (iI cb))]) (x := i) (d0 := 1) hx hb dX2_goOnFrom_124 hl (k := 0) rfl rfl rfl (by decide) rfl (fun ls hl => ?_)
                  refine lv_goto (tgt := 3) hx hb dX2_goOnFrom_127 (by decide) ?_
                  have e1 : (lay G (gof G Y z v cb i) z i 0) = gof G Y z v cb (i + 1) := by
                    rw [gof_s]
                    unfold gst
                    rw [if_pos ⟨by omega, c_36⟩, show gsX i cb = 0 from if_neg (by omega)]
                    unfold gsL
                    rw [if_neg (fun hq => by rcases hq with h | h; exact c_67 h; exact c_78 h)]
                  rw [e1] at hC
                  exact ih_3 (i + 1) (by omega) (by omega) H locs hC ls (lv_sub hl [0, 1, 2, 3, 4] rfl)
                · refine lv_aload_n hx hb dX2_goOnFrom_81 rfl (lv_at hl 1 rfl) ?_
                  refine li_bi hx hb dX2_goOnFrom_82 (by decide) ?_
                  refine lv_iload hx hb dX2_goOnFrom_84 (lv_at hl 0 rfl) ?_
                  refine lv_aload_n hx hb dX2_goOnFrom_86 rfl (lv_at hl 1 rfl) ?_
                  refine agX2_lengths X hC iX2 (by decide +kernel) dX2_goOnFrom_87 ?_
                  refine li_bi hx hb dX2_goOnFrom_90 (by decide) ?_
                  refine alC_wl (k0 := 24) (v := (((lay G (gof G Y z v cb i) z i 0).wl 24 : Nat) : Int)) X hC (by omega) (by omega) rfl dX2_goOnFrom_92 ?_
                  refine c_callvx (n := 3) (As := [.int (iI 24), .int (iI (i : Int)), .int (iI (((lay G (gof G Y z v cb i) z i 0).wl 24 : Nat) : Int))]) (rest := []) X hC (mX2_copyRow l A G (lay G (gof G Y z v cb i) z i 0) (24 : Int) i ((lay G (gof G Y z v cb i) z i 0).wl 24) (show i < 25 by omega) (show ((lay G (gof G Y z v cb i) z i 0).wl 24) ≤ 24 from hYl.wl 24) (show -1 ≤ (24 : Int) ∧ (24 : Int) < 25 ∧ (((lay G (gof G Y z v cb i) z i 0).wl 24) = 0 ∨ 0 ≤ (24 : Int)) from ⟨by omega, by omega, Or.inr (by omega)⟩) (show (24 : Int) ≠ (i : Int) by omega) (show YI (lay G (gof G Y z v cb i) z i 0) from hYl)) ⟨gX2_goOnFrom_X2_copyRow, ⟨_, rfl⟩, rfl, rfl, ⟨by decide, by decide, by decide +kernel⟩, Nat.le_of_ble_eq_true rfl, Nat.le_of_ble_eq_true rfl⟩ (a_recv (y := yX2_copyRow) X hC.1 (ci := 2) (q0 := 3) rfl rfl rfl) rfl hl.1 rfl (Nat.le_of_ble_eq_true rfl) ⟨Nat.zero_le _, Nat.zero_le _⟩ dX2_goOnFrom_93 (fun H locs hC => ?_)
                  have hC : aH A (cAdr A) (CW A G (mkY ((lay G (gof G Y z v cb i) z i 0).wm) ((lay G (gof G Y z v cb i) z i 0).wl) (up ((lay G (gof G Y z v cb i) z i 0).wr) i (cpr ((lay G (gof G Y z v cb i) z i 0).wr) ((24 : Int)).toNat i ((lay G (gof G Y z v cb i) z i 0).wl 24))) ((lay G (gof G Y z v cb i) z i 0).we) ((lay G (gof G Y z v cb i) z i 0).ws))) s H locs := hC
                  refine lv_aload_n hx hb dX2_goOnFrom_96 rfl (lv_at hl 1 rfl) ?_
                  refine agX2_minutes X hC iX2 (by decide +kernel) dX2_goOnFrom_97 ?_
                  refine lv_iload hx hb dX2_goOnFrom_100 (lv_at hl 0 rfl) ?_
                  refine lv_aload_n hx hb dX2_goOnFrom_102 rfl (lv_at hl 1 rfl) ?_
                  refine agX2_minutes X hC iX2 (by decide +kernel) dX2_goOnFrom_103 ?_
                  refine li_bi hx hb dX2_goOnFrom_106 (by decide) ?_
                  refine alC_wm (k0 := 24) (v := ((lay G (gof G Y z v cb i) z i 0).wm 24)) X hC (by omega) (by omega) rfl dX2_goOnFrom_108 ?_
                  refine asC_wm (k0 := i) (x := ((lay G (gof G Y z v cb i) z i 0).wm 24)) X hC (by omega) (by omega) rfl dX2_goOnFrom_109 (fun H locs hC => ?_)
                  have hC : aH A (cAdr A) (CW A G (mkY (up (lay G (gof G Y z v cb i) z i 0).wm i ((lay G (gof G Y z v cb i) z i 0).wm 24)) ((lay G (gof G Y z v cb i) z i 0).wl) (up ((lay G (gof G Y z v cb i) z i 0).wr) i (cpr ((lay G (gof G Y z v cb i) z i 0).wr) ((24 : Int)).toNat i ((lay G (gof G Y z v cb i) z i 0).wl 24))) ((lay G (gof G Y z v cb i) z i 0).we) ((lay G (gof G Y z v cb i) z i 0).ws))) s H locs := hC
                  refine lv_aload_n hx hb dX2_goOnFrom_110 rfl (lv_at hl 1 rfl) ?_
                  refine agX2_lengths X hC iX2 (by decide +kernel) dX2_goOnFrom_111 ?_
                  refine lv_iload hx hb dX2_goOnFrom_114 (lv_at hl 0 rfl) ?_
                  refine lv_aload_n hx hb dX2_goOnFrom_116 rfl (lv_at hl 1 rfl) ?_
                  refine agX2_lengths X hC iX2 (by decide +kernel) dX2_goOnFrom_117 ?_
                  refine li_bi hx hb dX2_goOnFrom_120 (by decide) ?_
                  refine alC_wl (k0 := 24) (v := (((lay G (gof G Y z v cb i) z i 0).wl 24 : Nat) : Int)) X hC (by omega) (by omega) rfl dX2_goOnFrom_122 ?_
                  refine asC_wl (k0 := i) (x := (lay G (gof G Y z v cb i) z i 0).wl 24) X hC (by omega) (by omega) (by omega) dX2_goOnFrom_123 (fun H locs hC => ?_)
                  have hC : aH A (cAdr A) (CW A G (mkY (up (lay G (gof G Y z v cb i) z i 0).wm i ((lay G (gof G Y z v cb i) z i 0).wm 24)) (up (lay G (gof G Y z v cb i) z i 0).wl i ((lay G (gof G Y z v cb i) z i 0).wl 24)) (up ((lay G (gof G Y z v cb i) z i 0).wr) i (cpr ((lay G (gof G Y z v cb i) z i 0).wr) ((24 : Int)).toNat i ((lay G (gof G Y z v cb i) z i 0).wl 24))) ((lay G (gof G Y z v cb i) z i 0).we) ((lay G (gof G Y z v cb i) z i 0).ws))) s H locs := hC
                  refine li_incN (lv' := [(4, .int (iI ((i + 1 : Nat) : Int))), (0, .ref (A.a 3)), (1, .int (iI z)), (2, .int (iI (v : Int))), (3, .int (iI cb))]) (x := i) (d0 := 1) hx hb dX2_goOnFrom_124 hl (k := 0) rfl rfl rfl (by decide) rfl (fun ls hl => ?_)
                  refine lv_goto (tgt := 3) hx hb dX2_goOnFrom_127 (by decide) ?_
                  have e1 : (mkY (up (lay G (gof G Y z v cb i) z i 0).wm i ((lay G (gof G Y z v cb i) z i 0).wm 24)) (up (lay G (gof G Y z v cb i) z i 0).wl i ((lay G (gof G Y z v cb i) z i 0).wl 24)) (up ((lay G (gof G Y z v cb i) z i 0).wr) i (cpr ((lay G (gof G Y z v cb i) z i 0).wr) ((24 : Int)).toNat i ((lay G (gof G Y z v cb i) z i 0).wl 24))) ((lay G (gof G Y z v cb i) z i 0).we) ((lay G (gof G Y z v cb i) z i 0).ws)) = gof G Y z v cb (i + 1) := by
                    rw [gof_s]
                    unfold gst
                    rw [if_pos ⟨by omega, c_36⟩, show gsX i cb = 0 from if_neg (by omega)]
                    unfold gsL
                    first
                    | (rw [if_pos (Or.inl c_67)]; rfl)
                    | (rw [if_pos (Or.inr c_78)]; rfl)
                  rw [e1] at hC
                  exact ih_3 (i + 1) (by omega) (by omega) H locs hC ls (lv_sub hl [0, 1, 2, 3, 4] rfl)
            · refine li_c hx hb dX2_goOnFrom_51 ?_
              refine lv_goto (tgt := 56) hx hb dX2_goOnFrom_52 (by decide) ?_
              refine c_callvx (n := 3) (As := [.int (iI z), .int (iI (i : Int)), .int (iI 2)]) (rest := []) X hC (mX2_layTrial l A G (gof G Y z v cb i) z i 2 hI (show YI (gof G Y z v cb i) from hYi) (show -1 ≤ z ∧ z < ((2 * G.rr : Nat) : Int) by omega) (show i < 2 * G.rr by omega) (show layL (gof G Y z v cb i) z < 24 from hLi (by omega) (by omega)) (show 2 ≤ 2 by omega)) ⟨gX2_goOnFrom_X2_layTrial, ⟨_, rfl⟩, rfl, rfl, ⟨by decide, by decide, by decide +kernel⟩, Nat.le_of_ble_eq_true rfl, Nat.le_of_ble_eq_true rfl⟩ (a_recv (y := yX2_layTrial) X hC.1 (ci := 2) (q0 := 3) rfl rfl rfl) rfl hl.1 rfl (Nat.le_of_ble_eq_true rfl) ⟨Nat.zero_le _, Nat.zero_le _⟩ dX2_goOnFrom_56 (fun H locs hC => ?_)
              have hYl : YI (lay G (gof G Y z v cb i) z i 2) := lay_YI hI hYi (hLi (by omega) (by omega)) (by omega) (by omega)
              have hwml := hYl.wmb i
              have hwm24 := hYl.wmb 24
              have hwl24 := hYl.wl 24
              refine lv_aload_n hx hb dX2_goOnFrom_59 rfl (lv_at hl 1 rfl) ?_
              refine agX2_minutes X hC iX2 (by decide +kernel) dX2_goOnFrom_60 ?_
              refine lv_iload hx hb dX2_goOnFrom_63 (lv_at hl 0 rfl) ?_
              refine alC_wm (k0 := i) (v := ((lay G (gof G Y z v cb i) z i 2).wm i)) X hC (by omega) (by omega) rfl dX2_goOnFrom_65 ?_
              refine li_c hx hb dX2_goOnFrom_66 ?_
              refine li_icmp_eq (tgt := 81) hx hb dX2_goOnFrom_67 (by decide) (by omega) (fun c_67 => ?_) (fun c_67 => ?_)
              · refine lv_aload_n hx hb dX2_goOnFrom_81 rfl (lv_at hl 1 rfl) ?_
                refine li_bi hx hb dX2_goOnFrom_82 (by decide) ?_
                refine lv_iload hx hb dX2_goOnFrom_84 (lv_at hl 0 rfl) ?_
                refine lv_aload_n hx hb dX2_goOnFrom_86 rfl (lv_at hl 1 rfl) ?_
                refine agX2_lengths X hC iX2 (by decide +kernel) dX2_goOnFrom_87 ?_
                refine li_bi hx hb dX2_goOnFrom_90 (by decide) ?_
                refine alC_wl (k0 := 24) (v := (((lay G (gof G Y z v cb i) z i 2).wl 24 : Nat) : Int)) X hC (by omega) (by omega) rfl dX2_goOnFrom_92 ?_
                refine c_callvx (n := 3) (As := [.int (iI 24), .int (iI (i : Int)), .int (iI (((lay G (gof G Y z v cb i) z i 2).wl 24 : Nat) : Int))]) (rest := []) X hC (mX2_copyRow l A G (lay G (gof G Y z v cb i) z i 2) (24 : Int) i ((lay G (gof G Y z v cb i) z i 2).wl 24) (show i < 25 by omega) (show ((lay G (gof G Y z v cb i) z i 2).wl 24) ≤ 24 from hYl.wl 24) (show -1 ≤ (24 : Int) ∧ (24 : Int) < 25 ∧ (((lay G (gof G Y z v cb i) z i 2).wl 24) = 0 ∨ 0 ≤ (24 : Int)) from ⟨by omega, by omega, Or.inr (by omega)⟩) (show (24 : Int) ≠ (i : Int) by omega) (show YI (lay G (gof G Y z v cb i) z i 2) from hYl)) ⟨gX2_goOnFrom_X2_copyRow, ⟨_, rfl⟩, rfl, rfl, ⟨by decide, by decide, by decide +kernel⟩, Nat.le_of_ble_eq_true rfl, Nat.le_of_ble_eq_true rfl⟩ (a_recv (y := yX2_copyRow) X hC.1 (ci := 2) (q0 := 3) rfl rfl rfl) rfl hl.1 rfl (Nat.le_of_ble_eq_true rfl) ⟨Nat.zero_le _, Nat.zero_le _⟩ dX2_goOnFrom_93 (fun H locs hC => ?_)
                have hC : aH A (cAdr A) (CW A G (mkY ((lay G (gof G Y z v cb i) z i 2).wm) ((lay G (gof G Y z v cb i) z i 2).wl) (up ((lay G (gof G Y z v cb i) z i 2).wr) i (cpr ((lay G (gof G Y z v cb i) z i 2).wr) ((24 : Int)).toNat i ((lay G (gof G Y z v cb i) z i 2).wl 24))) ((lay G (gof G Y z v cb i) z i 2).we) ((lay G (gof G Y z v cb i) z i 2).ws))) s H locs := hC
                refine lv_aload_n hx hb dX2_goOnFrom_96 rfl (lv_at hl 1 rfl) ?_
                refine agX2_minutes X hC iX2 (by decide +kernel) dX2_goOnFrom_97 ?_
                refine lv_iload hx hb dX2_goOnFrom_100 (lv_at hl 0 rfl) ?_
                refine lv_aload_n hx hb dX2_goOnFrom_102 rfl (lv_at hl 1 rfl) ?_
                refine agX2_minutes X hC iX2 (by decide +kernel) dX2_goOnFrom_103 ?_
                refine li_bi hx hb dX2_goOnFrom_106 (by decide) ?_
                refine alC_wm (k0 := 24) (v := ((lay G (gof G Y z v cb i) z i 2).wm 24)) X hC (by omega) (by omega) rfl dX2_goOnFrom_108 ?_
                refine asC_wm (k0 := i) (x := ((lay G (gof G Y z v cb i) z i 2).wm 24)) X hC (by omega) (by omega) rfl dX2_goOnFrom_109 (fun H locs hC => ?_)
                have hC : aH A (cAdr A) (CW A G (mkY (up (lay G (gof G Y z v cb i) z i 2).wm i ((lay G (gof G Y z v cb i) z i 2).wm 24)) ((lay G (gof G Y z v cb i) z i 2).wl) (up ((lay G (gof G Y z v cb i) z i 2).wr) i (cpr ((lay G (gof G Y z v cb i) z i 2).wr) ((24 : Int)).toNat i ((lay G (gof G Y z v cb i) z i 2).wl 24))) ((lay G (gof G Y z v cb i) z i 2).we) ((lay G (gof G Y z v cb i) z i 2).ws))) s H locs := hC
                refine lv_aload_n hx hb dX2_goOnFrom_110 rfl (lv_at hl 1 rfl) ?_
                refine agX2_lengths X hC iX2 (by decide +kernel) dX2_goOnFrom_111 ?_
                refine lv_iload hx hb dX2_goOnFrom_114 (lv_at hl 0 rfl) ?_
                refine lv_aload_n hx hb dX2_goOnFrom_116 rfl (lv_at hl 1 rfl) ?_
                refine agX2_lengths X hC iX2 (by decide +kernel) dX2_goOnFrom_117 ?_
                refine li_bi hx hb dX2_goOnFrom_120 (by decide) ?_
                refine alC_wl (k0 := 24) (v := (((lay G (gof G Y z v cb i) z i 2).wl 24 : Nat) : Int)) X hC (by omega) (by omega) rfl dX2_goOnFrom_122 ?_
                refine asC_wl (k0 := i) (x := (lay G (gof G Y z v cb i) z i 2).wl 24) X hC (by omega) (by omega) (by omega) dX2_goOnFrom_123 (fun H locs hC => ?_)
                have hC : aH A (cAdr A) (CW A G (mkY (up (lay G (gof G Y z v cb i) z i 2).wm i ((lay G (gof G Y z v cb i) z i 2).wm 24)) (up (lay G (gof G Y z v cb i) z i 2).wl i ((lay G (gof G Y z v cb i) z i 2).wl 24)) (up ((lay G (gof G Y z v cb i) z i 2).wr) i (cpr ((lay G (gof G Y z v cb i) z i 2).wr) ((24 : Int)).toNat i ((lay G (gof G Y z v cb i) z i 2).wl 24))) ((lay G (gof G Y z v cb i) z i 2).we) ((lay G (gof G Y z v cb i) z i 2).ws))) s H locs := hC
                refine li_incN (lv' := [(4, .int (iI ((i + 1 : Nat) : Int))), (0, .ref (A.a 3)), (1, .int (iI z)), (2, .int (iI (v : Int))), (3, .int (iI cb))]) (x := i) (d0 := 1) hx hb dX2_goOnFrom_124 hl (k := 0) rfl rfl rfl (by decide) rfl (fun ls hl => ?_)
                refine lv_goto (tgt := 3) hx hb dX2_goOnFrom_127 (by decide) ?_
                have e1 : (mkY (up (lay G (gof G Y z v cb i) z i 2).wm i ((lay G (gof G Y z v cb i) z i 2).wm 24)) (up (lay G (gof G Y z v cb i) z i 2).wl i ((lay G (gof G Y z v cb i) z i 2).wl 24)) (up ((lay G (gof G Y z v cb i) z i 2).wr) i (cpr ((lay G (gof G Y z v cb i) z i 2).wr) ((24 : Int)).toNat i ((lay G (gof G Y z v cb i) z i 2).wl 24))) ((lay G (gof G Y z v cb i) z i 2).we) ((lay G (gof G Y z v cb i) z i 2).ws)) = gof G Y z v cb (i + 1) := by
                  rw [gof_s]
                  unfold gst
                  rw [if_pos ⟨by omega, c_36⟩, show gsX i cb = 2 from if_pos (by omega)]
                  unfold gsL
                  first
                  | (rw [if_pos (Or.inl c_67)]; rfl)
                  | (rw [if_pos (Or.inr c_78)]; rfl)
                rw [e1] at hC
                exact ih_3 (i + 1) (by omega) (by omega) H locs hC ls (lv_sub hl [0, 1, 2, 3, 4] rfl)
              · refine lv_aload_n hx hb dX2_goOnFrom_70 rfl (lv_at hl 1 rfl) ?_
                refine li_bi hx hb dX2_goOnFrom_71 (by decide) ?_
                refine lv_iload hx hb dX2_goOnFrom_73 (lv_at hl 0 rfl) ?_
                refine c_callix (v := bP (shr (lay G (gof G Y z v cb i) z i 2) 24 i)) (n := 2) (As := [.int (iI 24), .int (iI (i : Int))]) (rest := []) X hC (mX2_isShorter l A G (lay G (gof G Y z v cb i) z i 2) 24 i (show 24 < 25 by omega) (show i < 25 by omega) (show YI (lay G (gof G Y z v cb i) z i 2) from hYl)) ⟨gX2_goOnFrom_X2_isShorter, ⟨_, rfl⟩, rfl, rfl, ⟨by decide, by decide, by decide +kernel⟩, Nat.le_of_ble_eq_true rfl, Nat.le_of_ble_eq_true rfl⟩ (a_recv (y := yX2_isShorter) X hC.1 (ci := 2) (q0 := 3) rfl rfl rfl) rfl hl.1 rfl (Nat.le_of_ble_eq_true rfl) ⟨Nat.zero_le _, Nat.zero_le _⟩ dX2_goOnFrom_75 (fun H locs hC => ?_)
                refine li_ifb_eq (tgt := 124) hx hb dX2_goOnFrom_78 (by decide) (fun c_78 => ?_) (fun c_78 => ?_)
                · refine li_incN (lv' := [(4, .int (iI ((i + 1 : Nat) : Int))), (0, .ref (A.a 3)), (1, .int (iI z)), (2, .int (iI (v : Int))), (3, .int (iI cb))]) (x := i) (d0 := 1) hx hb dX2_goOnFrom_124 hl (k := 0) rfl rfl rfl (by decide) rfl (fun ls hl => ?_)
                  refine lv_goto (tgt := 3) hx hb dX2_goOnFrom_127 (by decide) ?_
                  have e1 : (lay G (gof G Y z v cb i) z i 2) = gof G Y z v cb (i + 1) := by
                    rw [gof_s]
                    unfold gst
                    rw [if_pos ⟨by omega, c_36⟩, show gsX i cb = 2 from if_pos (by omega)]
                    unfold gsL
                    rw [if_neg (fun hq => by rcases hq with h | h; exact c_67 h; exact c_78 h)]
                  rw [e1] at hC
                  exact ih_3 (i + 1) (by omega) (by omega) H locs hC ls (lv_sub hl [0, 1, 2, 3, 4] rfl)
                · refine lv_aload_n hx hb dX2_goOnFrom_81 rfl (lv_at hl 1 rfl) ?_
                  refine li_bi hx hb dX2_goOnFrom_82 (by decide) ?_
                  refine lv_iload hx hb dX2_goOnFrom_84 (lv_at hl 0 rfl) ?_
                  refine lv_aload_n hx hb dX2_goOnFrom_86 rfl (lv_at hl 1 rfl) ?_
                  refine agX2_lengths X hC iX2 (by decide +kernel) dX2_goOnFrom_87 ?_
                  refine li_bi hx hb dX2_goOnFrom_90 (by decide) ?_
                  refine alC_wl (k0 := 24) (v := (((lay G (gof G Y z v cb i) z i 2).wl 24 : Nat) : Int)) X hC (by omega) (by omega) rfl dX2_goOnFrom_92 ?_
                  refine c_callvx (n := 3) (As := [.int (iI 24), .int (iI (i : Int)), .int (iI (((lay G (gof G Y z v cb i) z i 2).wl 24 : Nat) : Int))]) (rest := []) X hC (mX2_copyRow l A G (lay G (gof G Y z v cb i) z i 2) (24 : Int) i ((lay G (gof G Y z v cb i) z i 2).wl 24) (show i < 25 by omega) (show ((lay G (gof G Y z v cb i) z i 2).wl 24) ≤ 24 from hYl.wl 24) (show -1 ≤ (24 : Int) ∧ (24 : Int) < 25 ∧ (((lay G (gof G Y z v cb i) z i 2).wl 24) = 0 ∨ 0 ≤ (24 : Int)) from ⟨by omega, by omega, Or.inr (by omega)⟩) (show (24 : Int) ≠ (i : Int) by omega) (show YI (lay G (gof G Y z v cb i) z i 2) from hYl)) ⟨gX2_goOnFrom_X2_copyRow, ⟨_, rfl⟩, rfl, rfl, ⟨by decide, by decide, by decide +kernel⟩, Nat.le_of_ble_eq_true rfl, Nat.le_of_ble_eq_true rfl⟩ (a_recv (y := yX2_copyRow) X hC.1 (ci := 2) (q0 := 3) rfl rfl rfl) rfl hl.1 rfl (Nat.le_of_ble_eq_true rfl) ⟨Nat.zero_le _, Nat.zero_le _⟩ dX2_goOnFrom_93 (fun H locs hC => ?_)
                  have hC : aH A (cAdr A) (CW A G (mkY ((lay G (gof G Y z v cb i) z i 2).wm) ((lay G (gof G Y z v cb i) z i 2).wl) (up ((lay G (gof G Y z v cb i) z i 2).wr) i (cpr ((lay G (gof G Y z v cb i) z i 2).wr) ((24 : Int)).toNat i ((lay G (gof G Y z v cb i) z i 2).wl 24))) ((lay G (gof G Y z v cb i) z i 2).we) ((lay G (gof G Y z v cb i) z i 2).ws))) s H locs := hC
                  refine lv_aload_n hx hb dX2_goOnFrom_96 rfl (lv_at hl 1 rfl) ?_
                  refine agX2_minutes X hC iX2 (by decide +kernel) dX2_goOnFrom_97 ?_
                  refine lv_iload hx hb dX2_goOnFrom_100 (lv_at hl 0 rfl) ?_
                  refine lv_aload_n hx hb dX2_goOnFrom_102 rfl (lv_at hl 1 rfl) ?_
                  refine agX2_minutes X hC iX2 (by decide +kernel) dX2_goOnFrom_103 ?_
                  refine li_bi hx hb dX2_goOnFrom_106 (by decide) ?_
                  refine alC_wm (k0 := 24) (v := ((lay G (gof G Y z v cb i) z i 2).wm 24)) X hC (by omega) (by omega) rfl dX2_goOnFrom_108 ?_
                  refine asC_wm (k0 := i) (x := ((lay G (gof G Y z v cb i) z i 2).wm 24)) X hC (by omega) (by omega) rfl dX2_goOnFrom_109 (fun H locs hC => ?_)
                  have hC : aH A (cAdr A) (CW A G (mkY (up (lay G (gof G Y z v cb i) z i 2).wm i ((lay G (gof G Y z v cb i) z i 2).wm 24)) ((lay G (gof G Y z v cb i) z i 2).wl) (up ((lay G (gof G Y z v cb i) z i 2).wr) i (cpr ((lay G (gof G Y z v cb i) z i 2).wr) ((24 : Int)).toNat i ((lay G (gof G Y z v cb i) z i 2).wl 24))) ((lay G (gof G Y z v cb i) z i 2).we) ((lay G (gof G Y z v cb i) z i 2).ws))) s H locs := hC
                  refine lv_aload_n hx hb dX2_goOnFrom_110 rfl (lv_at hl 1 rfl) ?_
                  refine agX2_lengths X hC iX2 (by decide +kernel) dX2_goOnFrom_111 ?_
                  refine lv_iload hx hb dX2_goOnFrom_114 (lv_at hl 0 rfl) ?_
                  refine lv_aload_n hx hb dX2_goOnFrom_116 rfl (lv_at hl 1 rfl) ?_
                  refine agX2_lengths X hC iX2 (by decide +kernel) dX2_goOnFrom_117 ?_
                  refine li_bi hx hb dX2_goOnFrom_120 (by decide) ?_
                  refine alC_wl (k0 := 24) (v := (((lay G (gof G Y z v cb i) z i 2).wl 24 : Nat) : Int)) X hC (by omega) (by omega) rfl dX2_goOnFrom_122 ?_
                  refine asC_wl (k0 := i) (x := (lay G (gof G Y z v cb i) z i 2).wl 24) X hC (by omega) (by omega) (by omega) dX2_goOnFrom_123 (fun H locs hC => ?_)
                  have hC : aH A (cAdr A) (CW A G (mkY (up (lay G (gof G Y z v cb i) z i 2).wm i ((lay G (gof G Y z v cb i) z i 2).wm 24)) (up (lay G (gof G Y z v cb i) z i 2).wl i ((lay G (gof G Y z v cb i) z i 2).wl 24)) (up ((lay G (gof G Y z v cb i) z i 2).wr) i (cpr ((lay G (gof G Y z v cb i) z i 2).wr) ((24 : Int)).toNat i ((lay G (gof G Y z v cb i) z i 2).wl 24))) ((lay G (gof G Y z v cb i) z i 2).we) ((lay G (gof G Y z v cb i) z i 2).ws))) s H locs := hC
                  refine li_incN (lv' := [(4, .int (iI ((i + 1 : Nat) : Int))), (0, .ref (A.a 3)), (1, .int (iI z)), (2, .int (iI (v : Int))), (3, .int (iI cb))]) (x := i) (d0 := 1) hx hb dX2_goOnFrom_124 hl (k := 0) rfl rfl rfl (by decide) rfl (fun ls hl => ?_)
                  refine lv_goto (tgt := 3) hx hb dX2_goOnFrom_127 (by decide) ?_
                  have e1 : (mkY (up (lay G (gof G Y z v cb i) z i 2).wm i ((lay G (gof G Y z v cb i) z i 2).wm 24)) (up (lay G (gof G Y z v cb i) z i 2).wl i ((lay G (gof G Y z v cb i) z i 2).wl 24)) (up ((lay G (gof G Y z v cb i) z i 2).wr) i (cpr ((lay G (gof G Y z v cb i) z i 2).wr) ((24 : Int)).toNat i ((lay G (gof G Y z v cb i) z i 2).wl 24))) ((lay G (gof G Y z v cb i) z i 2).we) ((lay G (gof G Y z v cb i) z i 2).ws)) = gof G Y z v cb (i + 1) := by
                    rw [gof_s]
                    unfold gst
                    rw [if_pos ⟨by omega, c_36⟩, show gsX i cb = 2 from if_pos (by omega)]
                    unfold gsL
                    first
                    | (rw [if_pos (Or.inl c_67)]; rfl)
                    | (rw [if_pos (Or.inr c_78)]; rfl)
                  rw [e1] at hC
                  exact ih_3 (i + 1) (by omega) (by omega) H locs hC ls (lv_sub hl [0, 1, 2, 3, 4] rfl)
  exact loop_3 ((2 * G.rr) + 1) 0 (Nat.lt_succ_self _) (by omega) H locs hC ls (lv_sub hl [0, 1, 2, 3, 4] rfl)

set_option maxHeartbeats 4000000 in
set_option maxRecDepth 100000 in
theorem mX2_lookAround (l : Launch) (A : AD) (G : GS) (Y : YS) (hI : Inv G) (hY : YI Y) : cMv l yX2_lookAround wsX2_lookAround ({ frames := 4, cells := 0, slots := 0, locals := 90 }) A [.ref (A.a 3)] G Y (xV G (lka G Y)) := by
  intro sz
  refine c_start (cc := cX2_lookAround) (maxL := 3) (ret := none) (by decide) rfl rfl ?_
  intro p e s m args below meth c X hr hk hnm hsz ls hl H locs hC
  subst hsz
  obtain ⟨hx, hb, hml, hown, hts⟩ := id X.1
  have hl : lv_has ls 3 [(0, .ref (A.a 3))] := hl
  have iX2 : ∀ w ∈ u_ws RX2 TX2 7, w ∈ wsX2_lookAround := by decide +kernel
  have hrr := hI.rr
  have hnn := hI.nn
  have hvn := hI.vn
  have hvc := hI.vc
  refine lv_aload_n hx hb dX2_lookAround_0 rfl (lv_at hl 0 rfl) ?_
  refine lv_aload_n hx hb dX2_lookAround_1 rfl (lv_at hl 0 rfl) ?_
  refine agX2_vehicle X hC iX2 (by decide +kernel) dX2_lookAround_2 ?_
  refine c_callix (v := (G.vn : Int)) (n := 0) (As := []) (rest := [.ref (A.a 3)]) X hC (mX1_node l A G Y) ⟨gX2_lookAround_X1_node, ⟨_, rfl⟩, rfl, rfl, ⟨by decide, by decide, by decide +kernel⟩, Nat.le_of_ble_eq_true rfl, Nat.le_of_ble_eq_true rfl⟩ (a_recv (y := yX1_node) X hC.1 (ci := 1) (q0 := 2) rfl rfl rfl) rfl hl.1 rfl (Nat.le_of_ble_eq_true rfl) ⟨Nat.zero_le _, Nat.zero_le _⟩ dX2_lookAround_5 (fun H locs hC => ?_)
  refine apX2_start X hC iX2 (by decide +kernel) dX2_lookAround_8 (x := G.vn) (by omega) (fun H locs hC => ?_)
  have hC : aH A (cAdr A) (CW A G (mkY Y.wm Y.wl Y.wr Y.we G.vn)) s H locs := hC
  refine lv_aload_n hx hb dX2_lookAround_11 rfl (lv_at hl 0 rfl) ?_
  refine c_callvx (n := 0) (As := []) (rest := []) X hC (mX2_forgetAll l A G (mkY Y.wm Y.wl Y.wr Y.we G.vn)) ⟨gX2_lookAround_X2_forgetAll, ⟨_, rfl⟩, rfl, rfl, ⟨by decide, by decide, by decide +kernel⟩, Nat.le_of_ble_eq_true rfl, Nat.le_of_ble_eq_true rfl⟩ (a_recv (y := yX2_forgetAll) X hC.1 (ci := 2) (q0 := 3) rfl rfl rfl) rfl hl.1 rfl (Nat.le_of_ble_eq_true rfl) ⟨Nat.zero_le _, Nat.zero_le _⟩ dX2_lookAround_12 (fun H locs hC => ?_)
  refine lv_aload_n hx hb dX2_lookAround_15 rfl (lv_at hl 0 rfl) ?_
  refine li_c hx hb dX2_lookAround_16 ?_
  refine lv_aload_n hx hb dX2_lookAround_17 rfl (lv_at hl 0 rfl) ?_
  refine agX2_start X hC iX2 (by decide +kernel) dX2_lookAround_18 (v := (G.vn : Int)) rfl ?_
  refine lv_aload_n hx hb dX2_lookAround_21 rfl (lv_at hl 0 rfl) ?_
  refine agX2_vehicle X hC iX2 (by decide +kernel) dX2_lookAround_22 ?_
  refine c_callix (v := G.vc) (n := 0) (As := []) (rest := [.int (iI (G.vn : Int)), .int (iI (-1)), .ref (A.a 3)]) X hC (mX1_cameBy l A G (fgt (mkY Y.wm Y.wl Y.wr Y.we G.vn))) ⟨gX2_lookAround_X1_cameBy, ⟨_, rfl⟩, rfl, rfl, ⟨by decide, by decide, by decide +kernel⟩, Nat.le_of_ble_eq_true rfl, Nat.le_of_ble_eq_true rfl⟩ (a_recv (y := yX1_cameBy) X hC.1 (ci := 1) (q0 := 2) rfl rfl rfl) rfl hl.1 rfl (Nat.le_of_ble_eq_true rfl) ⟨Nat.zero_le _, Nat.zero_le _⟩ dX2_lookAround_25 (fun H locs hC => ?_)
  refine c_callvx (n := 3) (As := [.int (iI (-1)), .int (iI (G.vn : Int)), .int (iI G.vc)]) (rest := []) X hC (mX2_goOnFrom l A G (fgt (mkY Y.wm Y.wl Y.wr Y.we G.vn)) (-1 : Int) G.vn G.vc hI (show YI (fgt (mkY Y.wm Y.wl Y.wr Y.we G.vn)) from fgt_YI (ws_YI hY (by omega))) (show -1 ≤ (-1 : Int) ∧ (-1 : Int) < ((2 * G.rr : Nat) : Int) by omega) (show zOk (fgt (mkY Y.wm Y.wl Y.wr Y.we G.vn)) (-1 : Int) from Or.inl rfl) (show ∀ k, k < 2 * G.rr → (fgt (mkY Y.wm Y.wl Y.wr Y.we G.vn)).we k = 0 → layL (fgt (mkY Y.wm Y.wl Y.wr Y.we G.vn)) (-1 : Int) < 24 from fun _ _ _ => (show (0 : Nat) < 24 by decide)) (show G.vn < G.nn from hvn) (show -1 ≤ G.vc ∧ G.vc < 1000 by omega)) ⟨gX2_lookAround_X2_goOnFrom, ⟨_, rfl⟩, rfl, rfl, ⟨by decide, by decide, by decide +kernel⟩, Nat.le_of_ble_eq_true rfl, Nat.le_of_ble_eq_true rfl⟩ (a_recv (y := yX2_goOnFrom) X hC.1 (ci := 2) (q0 := 3) rfl rfl rfl) rfl hl.1 rfl (Nat.le_of_ble_eq_true rfl) ⟨Nat.zero_le _, Nat.zero_le _⟩ dX2_lookAround_28 (fun H locs hC => ?_)
  refine li_c hx hb dX2_lookAround_31 ?_
  refine lv_istore_n (lv' := [(1, .int (iI 0)), (0, .ref (A.a 3))]) hx hb dX2_lookAround_32 rfl hl (by decide) rfl (fun ls hl => ?_)
  have loop_33 : ∀ (n : Nat) (n0 : Nat) (hn : 2 * G.rr - n0 < n) (hn0 : n0 ≤ 2 * G.rr) (hlk : lkI G (lk G Y n0) n0) (H : Heap) (locs : List Loc) (hC : aH A (cAdr A) (CW A G (lk G Y n0)) s H locs) (ls : Array Slot) (hl : lv_has ls 3 [(1, .int (iI (n0 : Int))), (0, .ref (A.a 3))]), W p l e ({ frames := 4, cells := 0, slots := 0, locals := 90 }) s m args below meth c H locs 0 0 (aQv below (cEnd A) (cAdr A) args s (xV G (lka G Y))) (F0 m 33 ls []) := by
    intro n
    induction n with
    | zero => intro n0 hn; exact absurd hn (Nat.not_lt_zero _)
    | succ n ih_33 =>
      intro n0 hn hn0 hlk H locs hC ls hl
      have hnr := nos_rng (lk G Y n0) (2 * G.rr)
      refine lv_iload_n hx hb dX2_lookAround_33 rfl (lv_at hl 0 rfl) ?_
      refine lv_aload_n hx hb dX2_lookAround_34 rfl (lv_at hl 1 rfl) ?_
      refine agX2_town X hC iX2 (by decide +kernel) dX2_lookAround_35 ?_
      refine c_callix (v := ((2 * G.rr : Nat) : Int)) (n := 0) (As := []) (rest := [.int (iI (n0 : Int))]) X hC (mX0_sideCount l A G (lk G Y n0)) ⟨gX2_lookAround_X0_sideCount, ⟨_, rfl⟩, rfl, rfl, ⟨by decide, by decide, by decide +kernel⟩, Nat.le_of_ble_eq_true rfl, Nat.le_of_ble_eq_true rfl⟩ (a_recv (y := yX0_sideCount) X hC.1 (ci := 0) (q0 := 1) rfl rfl rfl) rfl hl.1 rfl (Nat.le_of_ble_eq_true rfl) ⟨Nat.zero_le _, Nat.zero_le _⟩ dX2_lookAround_38 (fun H locs hC => ?_)
      refine li_icmp_ge (tgt := 86) hx hb dX2_lookAround_41 (by decide) (by omega) (fun c_41 => ?_) (fun c_41 => ?_)
      · exact c_vret X hC hr hk (⟨rfl, by unfold lka; first | rw [show 2 * G.rr = n0 by omega] | (have hst := lk_stop (G := G) (Y := Y) (n := n0) (by omega) (2 * G.rr - n0); rw [show n0 + (2 * G.rr - n0) = 2 * G.rr by omega] at hst; exact hst.symm)⟩) dX2_lookAround_86
      · refine lv_aload_n hx hb dX2_lookAround_44 rfl (lv_at hl 1 rfl) ?_
        refine c_callix (v := (nos (lk G Y n0) (2 * G.rr))) (n := 0) (As := []) (rest := []) X hC (mX2_nearestOpenSide l A G (lk G Y n0)  hI (show YI (lk G Y n0) from hlk.1)) ⟨gX2_lookAround_X2_nearestOpenSide, ⟨_, rfl⟩, rfl, rfl, ⟨by decide, by decide, by decide +kernel⟩, Nat.le_of_ble_eq_true rfl, Nat.le_of_ble_eq_true rfl⟩ (a_recv (y := yX2_nearestOpenSide) X hC.1 (ci := 2) (q0 := 3) rfl rfl rfl) rfl hl.1 rfl (Nat.le_of_ble_eq_true rfl) ⟨Nat.zero_le _, Nat.zero_le _⟩ dX2_lookAround_45 (fun H locs hC => ?_)
        refine lv_istore_n (lv' := [(2, .int (iI (nos (lk G Y n0) (2 * G.rr)))), (1, .int (iI (n0 : Int))), (0, .ref (A.a 3))]) hx hb dX2_lookAround_48 rfl hl (by decide) rfl (fun ls hl => ?_)
        refine lv_iload_n hx hb dX2_lookAround_49 rfl (lv_at hl 0 rfl) ?_
        refine li_c hx hb dX2_lookAround_50 ?_
        refine li_icmp_ne (tgt := 57) hx hb dX2_lookAround_51 (by decide) (by omega) (fun c_51 => ?_) (fun c_51 => ?_)
        · obtain ⟨sd, hsd⟩ : ∃ sd : Nat, nos (lk G Y n0) (2 * G.rr) = (sd : Int) := ⟨(nos (lk G Y n0) (2 * G.rr)).toNat, by omega⟩
          have hsd0 := nos_open (lk G Y n0) (2 * G.rr) (by omega)
          rw [hsd] at hl hsd0
          have hsd1 : sd < 2 * G.rr := by omega
          obtain ⟨hp1, hp2, hp3, hp4, hp5⟩ := lkE_pre hI hlk hsd1 hsd0.1
          refine lv_aload_n hx hb dX2_lookAround_57 rfl (lv_at hl 2 rfl) ?_
          refine agX2_settled X hC iX2 (by decide +kernel) dX2_lookAround_58 ?_
          refine lv_iload_n hx hb dX2_lookAround_61 rfl (lv_at hl 0 rfl) ?_
          refine li_c hx hb dX2_lookAround_62 ?_
          refine asC_we (k0 := sd) (x := 1) X hC (by omega) (by omega) (by omega) (by omega) dX2_lookAround_63 (fun H locs hC => ?_)
          have hC : aH A (cAdr A) (CW A G (mkY ((lk G Y n0).wm) ((lk G Y n0).wl) ((lk G Y n0).wr) (up (lk G Y n0).we sd 1) ((lk G Y n0).ws))) s H locs := hC
          refine lv_aload_n hx hb dX2_lookAround_64 rfl (lv_at hl 2 rfl) ?_
          refine lv_iload_n hx hb dX2_lookAround_65 rfl (lv_at hl 0 rfl) ?_
          refine lv_aload_n hx hb dX2_lookAround_66 rfl (lv_at hl 2 rfl) ?_
          refine agX2_town X hC iX2 (by decide +kernel) dX2_lookAround_67 ?_
          refine lv_iload_n hx hb dX2_lookAround_70 rfl (lv_at hl 0 rfl) ?_
          refine c_callix (v := ((G.sm (op sd) : Nat) : Int)) (n := 1) (As := [.int (iI (sd : Int))]) (rest := [.int (iI (sd : Int)), .ref (A.a 3)]) X hC (mX0_endOf l A G (mkY ((lk G Y n0).wm) ((lk G Y n0).wl) ((lk G Y n0).wr) (up (lk G Y n0).we sd 1) ((lk G Y n0).ws)) sd (show sd < 2 * G.rr by omega) (show G.rr ≤ 12 by omega)) ⟨gX2_lookAround_X0_endOf, ⟨_, rfl⟩, rfl, rfl, ⟨by decide, by decide, by decide +kernel⟩, Nat.le_of_ble_eq_true rfl, Nat.le_of_ble_eq_true rfl⟩ (a_recv (y := yX0_endOf) X hC.1 (ci := 0) (q0 := 1) rfl rfl rfl) rfl hl.1 rfl (Nat.le_of_ble_eq_true rfl) ⟨Nat.zero_le _, Nat.zero_le _⟩ dX2_lookAround_71 (fun H locs hC => ?_)
          refine lv_iload_n hx hb dX2_lookAround_74 rfl (lv_at hl 0 rfl) ?_
          refine li_c hx hb dX2_lookAround_75 ?_
          refine li_divN (x := sd) (y := 2) hx hb dX2_lookAround_76 rfl rfl (by omega) ?_
          refine c_callvx (n := 3) (As := [.int (iI (sd : Int)), .int (iI ((G.sm (op sd) : Nat) : Int)), .int (iI ((sd / 2 : Nat) : Int))]) (rest := []) X hC (mX2_goOnFrom l A G (mkY ((lk G Y n0).wm) ((lk G Y n0).wl) ((lk G Y n0).wr) (up (lk G Y n0).we sd 1) ((lk G Y n0).ws)) (sd : Int) (G.sm (op sd)) ((sd / 2 : Nat) : Int) hI (show YI (mkY ((lk G Y n0).wm) ((lk G Y n0).wl) ((lk G Y n0).wr) (up (lk G Y n0).we sd 1) ((lk G Y n0).ws)) from hp1) (show -1 ≤ (sd : Int) ∧ (sd : Int) < ((2 * G.rr : Nat) : Int) by omega) (show zOk (mkY ((lk G Y n0).wm) ((lk G Y n0).wl) ((lk G Y n0).wr) (up (lk G Y n0).we sd 1) ((lk G Y n0).ws)) (sd : Int) from hp2) (show ∀ k, k < 2 * G.rr → (up (lk G Y n0).we sd 1) k = 0 → layL (mkY ((lk G Y n0).wm) ((lk G Y n0).wl) ((lk G Y n0).wr) (up (lk G Y n0).we sd 1) ((lk G Y n0).ws)) (sd : Int) < 24 from hp3) (show (G.sm (op sd)) < G.nn from hI.sm (op sd)) (show -1 ≤ ((sd / 2 : Nat) : Int) ∧ ((sd / 2 : Nat) : Int) < 1000 by omega)) ⟨gX2_lookAround_X2_goOnFrom, ⟨_, rfl⟩, rfl, rfl, ⟨by decide, by decide, by decide +kernel⟩, Nat.le_of_ble_eq_true rfl, Nat.le_of_ble_eq_true rfl⟩ (a_recv (y := yX2_goOnFrom) X hC.1 (ci := 2) (q0 := 3) rfl rfl rfl) rfl hl.1 rfl (Nat.le_of_ble_eq_true rfl) ⟨Nat.zero_le _, Nat.zero_le _⟩ dX2_lookAround_77 (fun H locs hC => ?_)
          refine li_incN (lv' := [(1, .int (iI ((n0 + 1 : Nat) : Int))), (2, .int (iI (sd : Int))), (0, .ref (A.a 3))]) (x := n0) (d0 := 1) hx hb dX2_lookAround_80 hl (k := 1) rfl rfl rfl (by decide) rfl (fun ls hl => ?_)
          refine lv_goto (tgt := 33) hx hb dX2_lookAround_83 (by decide) ?_
          have e1 : (gof G (mkY ((lk G Y n0).wm) ((lk G Y n0).wl) ((lk G Y n0).wr) (up (lk G Y n0).we sd 1) ((lk G Y n0).ws)) (sd : Int) (G.sm (op sd)) ((sd / 2 : Nat) : Int) (2 * G.rr)) = lk G Y (n0 + 1) := by rw [lk_go (by omega), hsd]; rfl
          rw [e1] at hC
          exact ih_33 (n0 + 1) (by omega) (by omega) (by rw [lk_go (by omega), hsd]; exact lkE_I hI hlk hsd1 hsd0.1) H locs hC ls (lv_sub hl [0, 2] rfl)
        · refine lv_goto (tgt := 86) hx hb dX2_lookAround_54 (by decide) ?_
          exact c_vret X hC hr hk (⟨rfl, by unfold lka; first | rw [show 2 * G.rr = n0 by omega] | (have hst := lk_stop (G := G) (Y := Y) (n := n0) (by omega) (2 * G.rr - n0); rw [show n0 + (2 * G.rr - n0) = 2 * G.rr by omega] at hst; exact hst.symm)⟩) dX2_lookAround_86
  have hC : aH A (cAdr A) (CW A G (lk G Y 0)) s H locs := hC
  exact loop_33 ((2 * G.rr) + 1) 0 (Nat.lt_succ_self _) (by omega) (lk0_I hI hY) H locs hC ls (lv_sub hl [0, 1] rfl)
