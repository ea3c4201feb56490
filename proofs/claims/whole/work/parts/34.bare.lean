/-! 34: bare, on both sides -/
set_option maxHeartbeats 4000000 in
set_option maxRecDepth 100000 in
theorem mX3_bare (l : Launch) (A : AD) (G : GS) (Y : YS) (hI : Inv G) : cMd l yX3_bare wsX3_bare ({ frames := 2, cells := 0, slots := 0, locals := 42 }) A [.ref (A.a 0)] G Y ((xD (bareV (cnt0 G.de (2 * G.rr)) G.rr) G Y)) := by
  intro sz
  refine c_start (cc := cX3_bare) (maxL := 2) (ret := (some .double)) (by decide) rfl rfl ?_
  intro p e s m args below meth c X hr hk hnm hsz ls hl H locs hC
  subst hsz
  obtain ⟨hx, hb, hml, hown, hts⟩ := id X.1
  have hl : lv_has ls 2 [(0, .ref (A.a 0))] := hl
  have iX3 : ∀ w ∈ u_ws RX3 TX3 3, w ∈ wsX3_bare := by decide +kernel
  have hrr := hI.rr
  have hcl := cnt0_le G.de (2 * G.rr)
  refine lv_aload_n hx hb dX3_bare_0 rfl (lv_at hl 0 rfl) ?_
  refine agX3_town X hC iX3 (by decide +kernel) dX3_bare_1 ?_
  refine c_callix (v := ((2 * G.rr : Nat) : Int)) (n := 0) (As := []) (rest := []) X hC (mX0_sideCount l A G Y) ⟨gX3_bare_X0_sideCount, ⟨_, rfl⟩, rfl, rfl, ⟨by decide, by decide, by decide +kernel⟩, Nat.le_of_ble_eq_true rfl, Nat.le_of_ble_eq_true rfl⟩ (a_recv (y := yX0_sideCount) X hC.1 (ci := 0) (q0 := 1) rfl rfl rfl) rfl hl.1 rfl (Nat.le_of_ble_eq_true rfl) ⟨Nat.le_of_ble_eq_true rfl, Nat.le_of_ble_eq_true rfl⟩ dX3_bare_4 (fun H locs hC => ?_)
  refine lv_istore_n (lv' := [(1, .int (iI ((2 * G.rr : Nat) : Int))), (0, .ref (A.a 0))]) hx hb dX3_bare_7 rfl hl (by decide) rfl (fun ls hl => ?_)
  refine lv_iload_n hx hb dX3_bare_8 rfl (lv_at hl 0 rfl) ?_
  refine li_if_ne (tgt := 14) hx hb dX3_bare_9 (by decide) (by omega) (fun c_9 => ?_) (fun c_9 => ?_)
  · refine lv_aload_n hx hb dX3_bare_14 rfl (lv_at hl 1 rfl) ?_
    refine agX3_town X hC iX3 (by decide +kernel) dX3_bare_15 ?_
    refine c_callix (v := ((cnt0 G.de (2 * G.rr) : Nat) : Int)) (n := 0) (As := []) (rest := []) X hC (mX0_sidesWithoutSnow l A G Y  hI) ⟨gX3_bare_X0_sidesWithoutSnow, ⟨_, rfl⟩, rfl, rfl, ⟨by decide, by decide, by decide +kernel⟩, Nat.le_of_ble_eq_true rfl, Nat.le_of_ble_eq_true rfl⟩ (a_recv (y := yX0_sidesWithoutSnow) X hC.1 (ci := 0) (q0 := 1) rfl rfl rfl) rfl hl.1 rfl (Nat.le_of_ble_eq_true rfl) ⟨Nat.le_of_ble_eq_true rfl, Nat.le_of_ble_eq_true rfl⟩ dX3_bare_18 (fun H locs hC => ?_)
    refine lv_i2d hx hb dX3_bare_21 ?_
    refine lv_iload_n hx hb dX3_bare_22 rfl (lv_at hl 0 rfl) ?_
    refine lv_i2d hx hb dX3_bare_23 ?_
    refine lv_ddiv hx hb dX3_bare_24 (bareV_n (by omega) hrr (by omega)) ?_
    exact c_dret X hC hr hk (⟨by unfold bareV; rw [if_neg (by omega)], rfl, rfl⟩) dX3_bare_25
  · refine lv_dconst1 hx hb dX3_bare_12 ?_
    exact c_dret X hC hr hk (⟨by unfold bareV; rw [if_pos (by omega)], rfl, rfl⟩) dX3_bare_13

set_option maxHeartbeats 4000000 in
set_option maxRecDepth 100000 in
theorem mX4_bare (l : Launch) (A : AD) (G : GS) (Z : ZS) (hI : Inv G) : dMd l yX4_bare wsX4_bare ({ frames := 0, cells := 0, slots := 0, locals := 0 }) A [.ref (A.a 0)] G Z ((xD (bareV (cnt0 G.de (2 * G.rr)) G.rr) G (Z.th' 0))) := by
  intro sz
  refine c_start (cc := cX4_bare) (maxL := 3) (ret := (some .double)) (by decide) rfl rfl ?_
  intro p e s m args below meth c X hr hk hnm hsz ls hl H locs hC
  subst hsz
  obtain ⟨hx, hb, hml, hown, hts⟩ := id X.1
  have hl : lv_has ls 3 [(0, .ref (A.a 0))] := hl
  have iX4 : ∀ w ∈ u_ws RX4 TX4 18, w ∈ wsX4_bare := by decide +kernel
  have hrr := hI.rr
  refine lv_aload_n hx hb dX4_bare_0 rfl (lv_at hl 0 rfl) ?_
  refine li_c hx hb dX4_bare_1 ?_
  refine apX4_thrown X hC iX4 (by decide +kernel) dX4_bare_2 (x := 0) (by omega) (fun H locs hC => ?_)
  have hC : aH A (dAdr A) (DW A G (mkZ 0 Z.wt Z.gn Z.gs)) s H locs := hC
  refine li_c hx hb dX4_bare_5 ?_
  refine lv_istore_n (lv' := [(1, .int (iI 0)), (0, .ref (A.a 0))]) hx hb dX4_bare_6 rfl hl (by decide) rfl (fun ls hl => ?_)
  refine li_c hx hb dX4_bare_7 ?_
  refine lv_istore_n (lv' := [(2, .int (iI 0)), (1, .int (iI 0)), (0, .ref (A.a 0))]) hx hb dX4_bare_8 rfl hl (by decide) rfl (fun ls hl => ?_)
  have loop_9 : ∀ (n : Nat) (i : Nat) (hn : 2 * G.rr - i < n) (hi : i ≤ 2 * G.rr) (H : Heap) (locs : List Loc) (hC : aH A (dAdr A) (DW A G (mkZ 0 Z.wt Z.gn Z.gs)) s H locs) (ls : Array Slot) (hl : lv_has ls 3 [(2, .int (iI (i : Int))), (1, .int (iI ((cnt0 G.de i : Nat) : Int))), (0, .ref (A.a 0))]), W p l e ({ frames := 0, cells := 0, slots := 0, locals := 0 }) s m args below meth c H locs 0 0 (aQd below (dEnd A) (dAdr A) args s ((xD (bareV (cnt0 G.de (2 * G.rr)) G.rr) G (Z.th' 0)))) (F0 m 9 ls []) := by
    intro n
    induction n with
    | zero => intro i hn; exact absurd hn (Nat.not_lt_zero _)
    | succ n ih_9 =>
      intro i hn hi H locs hC ls hl
      have hdm := cnt0_le G.de i
      refine lv_iload_n hx hb dX4_bare_9 rfl (lv_at hl 0 rfl) ?_
      refine li_c hx hb dX4_bare_10 ?_
      refine lv_aload_n hx hb dX4_bare_11 rfl (lv_at hl 2 rfl) ?_
      refine agX4_roads X hC iX4 (by decide +kernel) dX4_bare_12 (v := (G.rr : Int)) rfl ?_
      refine li_mulN (x := 2) (y := G.rr) hx hb dX4_bare_15 rfl rfl ?_
      refine li_icmp_ge (tgt := 42) hx hb dX4_bare_16 (by decide) (by omega) (fun c_16 => ?_) (fun c_16 => ?_)
      · refine lv_aload_n hx hb dX4_bare_42 rfl (lv_at hl 2 rfl) ?_
        refine agX4_roads X hC iX4 (by decide +kernel) dX4_bare_43 (v := (G.rr : Int)) rfl ?_
        refine li_if_ne (tgt := 53) hx hb dX4_bare_46 (by decide) (by omega) (fun c_46 => ?_) (fun c_46 => ?_)
        · refine lv_iload_n hx hb dX4_bare_53 rfl (lv_at hl 1 rfl) ?_
          refine lv_i2d hx hb dX4_bare_54 ?_
          refine li_c hx hb dX4_bare_55 ?_
          refine lv_aload_n hx hb dX4_bare_56 rfl (lv_at hl 2 rfl) ?_
          refine agX4_roads X hC iX4 (by decide +kernel) dX4_bare_57 (v := (G.rr : Int)) rfl ?_
          refine li_mulN (x := 2) (y := G.rr) hx hb dX4_bare_60 rfl rfl ?_
          refine lv_i2d hx hb dX4_bare_61 ?_
          refine lv_ddiv hx hb dX4_bare_62 (bareV_n (by omega) hrr (by omega)) ?_
          exact d_dret X hC hr hk (⟨by unfold bareV; rw [if_neg (by omega), show i = 2 * G.rr by omega], rfl, rfl⟩) dX4_bare_63
        · refine lv_dconst1 hx hb dX4_bare_49 ?_
          refine lv_goto (tgt := 63) hx hb dX4_bare_50 (by decide) ?_
          exact d_dret X hC hr hk (⟨by unfold bareV; rw [if_pos (by omega)], rfl, rfl⟩) dX4_bare_63
      · refine lv_iload_n hx hb dX4_bare_19 rfl (lv_at hl 1 rfl) ?_
        refine lv_aload_n hx hb dX4_bare_20 rfl (lv_at hl 2 rfl) ?_
        refine agX4_depths X hC iX4 (by decide +kernel) dX4_bare_21 ?_
        refine lv_iload_n hx hb dX4_bare_24 rfl (lv_at hl 0 rfl) ?_
        refine alD_de (k0 := i) (v := ((G.de i : Nat) : Int)) X hC (by omega) (by omega) rfl dX4_bare_25 ?_
        have hb1 := hI.de i
        refine li_if_ne (tgt := 33) hx hb dX4_bare_26 (by decide) (by omega) (fun c_26 => ?_) (fun c_26 => ?_)
        · refine li_c hx hb dX4_bare_33 ?_
          refine li_addN (x := cnt0 G.de i) (y := 0) hx hb dX4_bare_34 rfl rfl ?_
          refine lv_istore_n (lv' := [(1, .int (iI (((cnt0 G.de i) + 0 : Nat) : Int))), (2, .int (iI (i : Int))), (0, .ref (A.a 0))]) hx hb dX4_bare_35 rfl hl (by decide) rfl (fun ls hl => ?_)
          refine li_incN (lv' := [(2, .int (iI ((i + 1 : Nat) : Int))), (1, .int (iI (((cnt0 G.de i) + 0 : Nat) : Int))), (0, .ref (A.a 0))]) (x := i) (d0 := 1) hx hb dX4_bare_36 hl (k := 1) rfl rfl rfl (by decide) rfl (fun ls hl => ?_)
          refine lv_goto (tgt := 9) hx hb dX4_bare_39 (by decide) ?_
          have e1 : (cnt0 G.de i) + 0 = cnt0 G.de (i + 1) := by rw [cnt0_s]; first | (rw [if_pos (by omega)]; done) | (rw [if_neg (by omega)]; done) | (rw [if_neg (by omega)]; rfl)
          rw [e1] at hl
          exact ih_9 (i + 1) (by omega) (by omega) H locs hC ls (lv_sub hl [0, 1, 2] rfl)
        · refine li_c hx hb dX4_bare_29 ?_
          refine lv_goto (tgt := 34) hx hb dX4_bare_30 (by decide) ?_
          refine li_addN (x := cnt0 G.de i) (y := 1) hx hb dX4_bare_34 rfl rfl ?_
          refine lv_istore_n (lv' := [(1, .int (iI (((cnt0 G.de i) + 1 : Nat) : Int))), (2, .int (iI (i : Int))), (0, .ref (A.a 0))]) hx hb dX4_bare_35 rfl hl (by decide) rfl (fun ls hl => ?_)
          refine li_incN (lv' := [(2, .int (iI ((i + 1 : Nat) : Int))), (1, .int (iI (((cnt0 G.de i) + 1 : Nat) : Int))), (0, .ref (A.a 0))]) (x := i) (d0 := 1) hx hb dX4_bare_36 hl (k := 1) rfl rfl rfl (by decide) rfl (fun ls hl => ?_)
          refine lv_goto (tgt := 9) hx hb dX4_bare_39 (by decide) ?_
          have e1 : (cnt0 G.de i) + 1 = cnt0 G.de (i + 1) := by rw [cnt0_s]; first | (rw [if_pos (by omega)]; done) | (rw [if_neg (by omega)]; done) | (rw [if_neg (by omega)]; rfl)
          rw [e1] at hl
          exact ih_9 (i + 1) (by omega) (by omega) H locs hC ls (lv_sub hl [0, 1, 2] rfl)
  exact loop_9 ((2 * G.rr) + 1) 0 (Nat.lt_succ_self _) (by omega) H locs hC ls (lv_sub hl [0, 1, 2] rfl)
