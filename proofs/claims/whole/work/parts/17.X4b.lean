/-! 17: the reference: public methods -/
set_option maxHeartbeats 4000000 in
set_option maxRecDepth 100000 in
theorem mX4_addNode (l : Launch) (A : AD) (G : GS) (Z : ZS) (t : Nat) (u : Nat) (hI : Inv G) (ht : t ≤ 1) (hu : u ≤ 1) : dMi l yX4_addNode wsX4_addNode ({ frames := 1, cells := 0, slots := 0, locals := 21 }) A [.ref (A.a 0), .int (iI (t : Int)), .int (iI (u : Int))] G Z (yKI (if G.nn < 8 then 0 else 1) (G.nn : Int) G (((G.tu' (up G.tu G.nn t)).st' (up G.st G.nn u)).nn' (G.nn + 1)) Z Z) := by
  intro sz
  refine c_start (cc := cX4_addNode) (maxL := 3) (ret := (some .int)) (by decide) rfl rfl ?_
  intro p e s m args below meth c X hr hk hnm hsz ls hl H locs hC
  subst hsz
  obtain ⟨hx, hb, hml, hown, hts⟩ := id X.1
  have hl : lv_has ls 3 [(0, .ref (A.a 0)), (1, .int (iI (t : Int))), (2, .int (iI (u : Int)))] := hl
  have iX4 : ∀ w ∈ u_ws RX4 TX4 18, w ∈ wsX4_addNode := by decide +kernel
  have hnn := hI.nn
  refine lv_aload_n hx hb dX4_addNode_0 rfl (lv_at hl 0 rfl) ?_
  refine li_c hx hb dX4_addNode_1 ?_
  refine apX4_thrown X hC iX4 (by decide +kernel) dX4_addNode_2 (x := 0) (by omega) (fun H locs hC => ?_)
  have hC : aH A (dAdr A) (DW A G (mkZ 0 Z.wt Z.gn Z.gs)) s H locs := hC
  refine lv_aload_n hx hb dX4_addNode_5 rfl (lv_at hl 0 rfl) ?_
  refine agX4_nodes X hC iX4 (by decide +kernel) dX4_addNode_6 (v := (G.nn : Int)) rfl ?_
  refine li_bi hx hb dX4_addNode_9 (by decide) ?_
  refine li_icmp_ne (tgt := 20) hx hb dX4_addNode_11 (by decide) (by omega) (fun c_11 => ?_) (fun c_11 => ?_)
  · refine lv_aload_n hx hb dX4_addNode_20 rfl (lv_at hl 0 rfl) ?_
    refine agX4_areTurning X hC iX4 (by decide +kernel) dX4_addNode_21 ?_
    refine lv_aload_n hx hb dX4_addNode_24 rfl (lv_at hl 0 rfl) ?_
    refine agX4_nodes X hC iX4 (by decide +kernel) dX4_addNode_25 (v := (G.nn : Int)) rfl ?_
    refine lv_iload_n hx hb dX4_addNode_28 rfl (lv_at hl 1 rfl) ?_
    refine asD_tu (k0 := G.nn) (x := t) X hC (by omega) (by omega) (by omega) (by omega) dX4_addNode_29 (fun H locs hC => ?_)
    have hC : aH A (dAdr A) (DW A (mkG (up G.tu G.nn t) G.st G.sm G.mi G.pr G.de G.sa G.nn G.rr G.vn G.vc G.vs G.vw G.tt) (mkZ 0 Z.wt Z.gn Z.gs)) s H locs := hC
    refine lv_aload_n hx hb dX4_addNode_30 rfl (lv_at hl 0 rfl) ?_
    refine agX4_areStores X hC iX4 (by decide +kernel) dX4_addNode_31 ?_
    refine lv_aload_n hx hb dX4_addNode_34 rfl (lv_at hl 0 rfl) ?_
    refine agX4_nodes X hC iX4 (by decide +kernel) dX4_addNode_35 (v := (G.nn : Int)) rfl ?_
    refine lv_iload_n hx hb dX4_addNode_38 rfl (lv_at hl 2 rfl) ?_
    refine asD_st (k0 := G.nn) (x := u) X hC (by omega) (by omega) (by omega) (by omega) dX4_addNode_39 (fun H locs hC => ?_)
    have hC : aH A (dAdr A) (DW A (mkG (up G.tu G.nn t) (up G.st G.nn u) G.sm G.mi G.pr G.de G.sa G.nn G.rr G.vn G.vc G.vs G.vw G.tt) (mkZ 0 Z.wt Z.gn Z.gs)) s H locs := hC
    refine lv_aload_n hx hb dX4_addNode_40 rfl (lv_at hl 0 rfl) ?_
    refine lv_dup hx hb dX4_addNode_41 rfl ?_
    refine agX4_nodes X hC iX4 (by decide +kernel) dX4_addNode_42 (v := (G.nn : Int)) rfl ?_
    refine li_c hx hb dX4_addNode_45 ?_
    refine li_addN (x := G.nn) (y := 1) hx hb dX4_addNode_46 rfl rfl ?_
    refine apX4_nodes X hC iX4 (by decide +kernel) dX4_addNode_47 (x := G.nn + 1) (by omega) (fun H locs hC => ?_)
    have hC : aH A (dAdr A) (DW A (mkG (up G.tu G.nn t) (up G.st G.nn u) G.sm G.mi G.pr G.de G.sa (G.nn + 1) G.rr G.vn G.vc G.vs G.vw G.tt) (mkZ 0 Z.wt Z.gn Z.gs)) s H locs := hC
    refine lv_aload_n hx hb dX4_addNode_50 rfl (lv_at hl 0 rfl) ?_
    refine agX4_nodes X hC iX4 (by decide +kernel) dX4_addNode_51 (v := ((G.nn + 1 : Nat) : Int)) rfl ?_
    refine li_c hx hb dX4_addNode_54 ?_
    refine li_subN (x := G.nn + 1) (y := 1) hx hb dX4_addNode_55 rfl rfl (by omega) ?_
    exact d_iret X hC hr hk (Or.inl ⟨by first | rfl | (rw [if_pos (by omega)]; done) | omega, by omega, rfl, rfl⟩) dX4_addNode_56
  · refine lv_aload_n hx hb dX4_addNode_14 rfl (lv_at hl 0 rfl) ?_
    refine li_c hx hb dX4_addNode_15 ?_
    refine d_callix (v := 0) (n := 1) (As := [.int (iI 1)]) (rest := []) X hC (mX4_fail l A G (mkZ 0 Z.wt Z.gn Z.gs) 1) ⟨gX4_addNode_X4_fail, ⟨_, rfl⟩, rfl, rfl, ⟨by decide, by decide, by decide +kernel⟩, Nat.le_of_ble_eq_true rfl, Nat.le_of_ble_eq_true rfl⟩ (a_recv (y := yX4_fail) X hC.1 (ci := 4) (q0 := 0) rfl rfl rfl) rfl hl.1 rfl (Nat.le_of_ble_eq_true rfl) ⟨Nat.le_of_ble_eq_true rfl, Nat.le_of_ble_eq_true rfl⟩ dX4_addNode_16 (fun H locs hC => ?_)
    have hC : aH A (dAdr A) (DW A G (mkZ 1 Z.wt Z.gn Z.gs)) s H locs := hC
    exact d_iret X hC hr hk (Or.inr ⟨by first | decide | (rw [if_neg (by omega)]; decide) | omega, rfl, rfl, by first | rfl | (rw [if_neg (by omega)]; rfl)⟩) dX4_addNode_19

set_option maxHeartbeats 4000000 in
set_option maxRecDepth 100000 in
theorem mX4_setNode (l : Launch) (A : AD) (G : GS) (Z : ZS) (z : Int) (b : Nat) (x : Nat) (hI : Inv G) (hz : -2147483648 ≤ z ∧ z < 2147483648) (hb1 : b ≤ 1) (hx1 : x ≤ 1) : dMi l yX4_setNode wsX4_setNode ({ frames := 2, cells := 0, slots := 0, locals := 43 }) A [.ref (A.a 0), .int (iI z), .int (iI (b : Int)), .int (iI (x : Int))] G Z (yKI (if 0 ≤ z ∧ z < (G.nn : Int) then 0 else 1) (if b ≠ 0 then ((G.st (z).toNat : Nat) : Int) else ((G.tu (z).toNat : Nat) : Int)) G ((G.tu' (if b ≠ 0 then G.tu else up G.tu (z).toNat x)).st' (if b ≠ 0 then up G.st (z).toNat x else G.st)) Z Z) := by
  intro sz
  refine c_start (cc := cX4_setNode) (maxL := 6) (ret := (some .boolean)) (by decide) rfl rfl ?_
  intro p e s m args below meth c X hr hk hnm hsz ls hl H locs hC
  subst hsz
  obtain ⟨hx, hb, hml, hown, hts⟩ := id X.1
  have hl : lv_has ls 6 [(0, .ref (A.a 0)), (1, .int (iI z)), (2, .int (iI (b : Int))), (3, .int (iI (x : Int)))] := hl
  have iX4 : ∀ w ∈ u_ws RX4 TX4 18, w ∈ wsX4_setNode := by decide +kernel
  have hnn := hI.nn
  refine lv_aload_n hx hb dX4_setNode_0 rfl (lv_at hl 0 rfl) ?_
  refine lv_aload_n hx hb dX4_setNode_1 rfl (lv_at hl 0 rfl) ?_
  refine lv_iload_n hx hb dX4_setNode_2 rfl (lv_at hl 1 rfl) ?_
  refine d_callix (v := bP (0 ≤ z ∧ z < (G.nn : Int))) (n := 1) (As := [.int (iI z)]) (rest := [.ref (A.a 0)]) X hC (mX4_isNode l A G Z z (show -2147483648 ≤ z ∧ z < 2147483648 by omega) (show 1 ≤ G.nn ∧ G.nn ≤ 12 by omega)) ⟨gX4_setNode_X4_isNode, ⟨_, rfl⟩, rfl, rfl, ⟨by decide, by decide, by decide +kernel⟩, Nat.le_of_ble_eq_true rfl, Nat.le_of_ble_eq_true rfl⟩ (a_recv (y := yX4_isNode) X hC.1 (ci := 4) (q0 := 0) rfl rfl rfl) rfl hl.1 rfl (Nat.le_of_ble_eq_true rfl) ⟨Nat.le_of_ble_eq_true rfl, Nat.le_of_ble_eq_true rfl⟩ dX4_setNode_3 (fun H locs hC => ?_)
  refine li_ifb_eq (tgt := 13) hx hb dX4_setNode_6 (by decide) (fun c_6 => ?_) (fun c_6 => ?_)
  · refine li_c hx hb dX4_setNode_13 ?_
    refine apX4_thrown X hC iX4 (by decide +kernel) dX4_setNode_14 (x := 1) (by omega) (fun H locs hC => ?_)
    have hC : aH A (dAdr A) (DW A G (mkZ 1 Z.wt Z.gn Z.gs)) s H locs := hC
    refine lv_aload_n hx hb dX4_setNode_17 rfl (lv_at hl 0 rfl) ?_
    refine agX4_thrown X hC iX4 (by decide +kernel) dX4_setNode_18 (v := 1) rfl ?_
    refine li_if_eq (tgt := 26) hx hb dX4_setNode_21 (by decide) (by omega) (fun c_21 => ?_) (fun c_21 => ?_)
    · exact absurd c_21 (by decide)
    · refine li_c hx hb dX4_setNode_24 ?_
      exact d_zret X hC hr hk (by omega) (Or.inr ⟨by first | decide | (rw [if_neg (by omega)]; decide) | omega, rfl, rfl, by first | rfl | (rw [if_neg (by omega)]; rfl)⟩) dX4_setNode_25
  · refine li_c hx hb dX4_setNode_9 ?_
    refine lv_goto (tgt := 14) hx hb dX4_setNode_10 (by decide) ?_
    refine apX4_thrown X hC iX4 (by decide +kernel) dX4_setNode_14 (x := 0) (by omega) (fun H locs hC => ?_)
    have hC : aH A (dAdr A) (DW A G (mkZ 0 Z.wt Z.gn Z.gs)) s H locs := hC
    refine lv_aload_n hx hb dX4_setNode_17 rfl (lv_at hl 0 rfl) ?_
    refine agX4_thrown X hC iX4 (by decide +kernel) dX4_setNode_18 (v := 0) rfl ?_
    refine li_if_eq (tgt := 26) hx hb dX4_setNode_21 (by decide) (by omega) (fun c_21 => ?_) (fun c_21 => ?_)
    · refine lv_iload_n hx hb dX4_setNode_26 rfl (lv_at hl 2 rfl) ?_
      refine li_if_eq (tgt := 37) hx hb dX4_setNode_27 (by decide) (by omega) (fun c_27 => ?_) (fun c_27 => ?_)
      · refine lv_aload_n hx hb dX4_setNode_37 rfl (lv_at hl 0 rfl) ?_
        refine agX4_areTurning X hC iX4 (by decide +kernel) dX4_setNode_38 ?_
        refine lv_astore (lv' := [(4, .ref (A.a 1)), (0, .ref (A.a 0)), (1, .int (iI z)), (2, .int (iI (b : Int))), (3, .int (iI (x : Int)))]) hx hb dX4_setNode_41 hl (by decide) rfl (fun ls hl => ?_)
        refine lv_aload hx hb dX4_setNode_43 (lv_at hl 0 rfl) ?_
        refine lv_iload_n hx hb dX4_setNode_45 rfl (lv_at hl 2 rfl) ?_
        refine alD_tu (k0 := (z).toNat) (v := ((G.tu ((z).toNat) : Nat) : Int)) X hC (by omega) (by omega) rfl dX4_setNode_46 ?_
        have hb1 := hI.tu ((z).toNat)
        refine lv_istore (lv' := [(5, .int (iI ((G.tu ((z).toNat) : Nat) : Int))), (4, .ref (A.a 1)), (0, .ref (A.a 0)), (1, .int (iI z)), (2, .int (iI (b : Int))), (3, .int (iI (x : Int)))]) hx hb dX4_setNode_47 hl (by decide) rfl (fun ls hl => ?_)
        refine lv_aload hx hb dX4_setNode_49 (lv_at hl 1 rfl) ?_
        refine lv_iload_n hx hb dX4_setNode_51 rfl (lv_at hl 3 rfl) ?_
        refine lv_iload_n hx hb dX4_setNode_52 rfl (lv_at hl 5 rfl) ?_
        refine asD_tu (k0 := (z).toNat) (x := x) X hC (by omega) (by omega) (by omega) (by omega) dX4_setNode_53 (fun H locs hC => ?_)
        have hC : aH A (dAdr A) (DW A (mkG (up G.tu ((z).toNat) x) G.st G.sm G.mi G.pr G.de G.sa G.nn G.rr G.vn G.vc G.vs G.vw G.tt) (mkZ 0 Z.wt Z.gn Z.gs)) s H locs := hC
        refine lv_iload hx hb dX4_setNode_54 (lv_at hl 0 rfl) ?_
        exact d_zret X hC hr hk (by omega) (Or.inl ⟨if_pos (by omega), by first | rw [if_pos (by omega)] | rw [if_neg (by omega)], by first | (rw [if_pos (by omega), if_pos (by omega)]; rfl) | (rw [if_neg (by omega), if_neg (by omega)]; rfl), rfl⟩) dX4_setNode_56
      · refine lv_aload_n hx hb dX4_setNode_30 rfl (lv_at hl 0 rfl) ?_
        refine agX4_areStores X hC iX4 (by decide +kernel) dX4_setNode_31 ?_
        refine lv_goto (tgt := 41) hx hb dX4_setNode_34 (by decide) ?_
        refine lv_astore (lv' := [(4, .ref (A.a 2)), (0, .ref (A.a 0)), (1, .int (iI z)), (2, .int (iI (b : Int))), (3, .int (iI (x : Int)))]) hx hb dX4_setNode_41 hl (by decide) rfl (fun ls hl => ?_)
        refine lv_aload hx hb dX4_setNode_43 (lv_at hl 0 rfl) ?_
        refine lv_iload_n hx hb dX4_setNode_45 rfl (lv_at hl 2 rfl) ?_
        refine alD_st (k0 := (z).toNat) (v := ((G.st ((z).toNat) : Nat) : Int)) X hC (by omega) (by omega) rfl dX4_setNode_46 ?_
        have hb2 := hI.st ((z).toNat)
        refine lv_istore (lv' := [(5, .int (iI ((G.st ((z).toNat) : Nat) : Int))), (4, .ref (A.a 2)), (0, .ref (A.a 0)), (1, .int (iI z)), (2, .int (iI (b : Int))), (3, .int (iI (x : Int)))]) hx hb dX4_setNode_47 hl (by decide) rfl (fun ls hl => ?_)
        refine lv_aload hx hb dX4_setNode_49 (lv_at hl 1 rfl) ?_
        refine lv_iload_n hx hb dX4_setNode_51 rfl (lv_at hl 3 rfl) ?_
        refine lv_iload_n hx hb dX4_setNode_52 rfl (lv_at hl 5 rfl) ?_
        refine asD_st (k0 := (z).toNat) (x := x) X hC (by omega) (by omega) (by omega) (by omega) dX4_setNode_53 (fun H locs hC => ?_)
        have hC : aH A (dAdr A) (DW A (mkG G.tu (up G.st ((z).toNat) x) G.sm G.mi G.pr G.de G.sa G.nn G.rr G.vn G.vc G.vs G.vw G.tt) (mkZ 0 Z.wt Z.gn Z.gs)) s H locs := hC
        refine lv_iload hx hb dX4_setNode_54 (lv_at hl 0 rfl) ?_
        exact d_zret X hC hr hk (by omega) (Or.inl ⟨if_pos (by omega), by first | rw [if_pos (by omega)] | rw [if_neg (by omega)], by first | (rw [if_pos (by omega), if_pos (by omega)]; rfl) | (rw [if_neg (by omega), if_neg (by omega)]; rfl), rfl⟩) dX4_setNode_56
    · exact absurd c_21 (by decide)

set_option maxHeartbeats 4000000 in
set_option maxRecDepth 100000 in
theorem mX4_snow (l : Launch) (A : AD) (G : GS) (Z : ZS) (z : Int) (hI : Inv G) (hz : -2147483648 ≤ z ∧ z < 2147483648) : dMi l yX4_snow wsX4_snow ({ frames := 2, cells := 0, slots := 0, locals := 44 }) A [.ref (A.a 0), .int (iI z)] G Z (yKI (if 1 ≤ z ∧ z ≤ 300 then 0 else 1) ((dmax (snD G (z).toNat (2 * G.rr)) (2 * G.rr) : Nat) : Int) G ((G.de' (snD G (z).toNat (2 * G.rr))).sa' (snS G (2 * G.rr))) Z Z) := by
  intro sz
  refine c_start (cc := cX4_snow) (maxL := 3) (ret := (some .int)) (by decide) rfl rfl ?_
  intro p e s m args below meth c X hr hk hnm hsz ls hl H locs hC
  subst hsz
  obtain ⟨hx, hb, hml, hown, hts⟩ := id X.1
  have hl : lv_has ls 3 [(0, .ref (A.a 0)), (1, .int (iI z))] := hl
  have iX4 : ∀ w ∈ u_ws RX4 TX4 18, w ∈ wsX4_snow := by decide +kernel
  have hrr := hI.rr
  refine lv_aload_n hx hb dX4_snow_0 rfl (lv_at hl 0 rfl) ?_
  refine li_c hx hb dX4_snow_1 ?_
  refine apX4_thrown X hC iX4 (by decide +kernel) dX4_snow_2 (x := 0) (by omega) (fun H locs hC => ?_)
  have hC : aH A (dAdr A) (DW A G (mkZ 0 Z.wt Z.gn Z.gs)) s H locs := hC
  refine lv_iload_n hx hb dX4_snow_5 rfl (lv_at hl 1 rfl) ?_
  refine li_c hx hb dX4_snow_6 ?_
  refine li_si hx hb dX4_snow_7 (by decide) ?_
  refine d_callisx (v := bP ((1 : Int) ≤ z ∧ z ≤ (300 : Int))) (n := 3) (As := [.int (iI z), .int (iI 1), .int (iI 300)]) (rest := []) X hC (mX4_isIn l A G (mkZ 0 Z.wt Z.gn Z.gs) z (1 : Int) (300 : Int) (show -2147483648 ≤ z ∧ z < 2147483648 by omega) (show -2147483648 ≤ (1 : Int) ∧ (1 : Int) < 2147483648 by omega) (show -2147483648 ≤ (300 : Int) ∧ (300 : Int) < 2147483648 by omega)) ⟨gX4_snow_X4_isIn, ⟨_, rfl⟩, rfl, rfl, ⟨by decide, by decide, by decide +kernel⟩, Nat.le_of_ble_eq_true rfl, Nat.le_of_ble_eq_true rfl⟩ rfl hl.1 rfl (Nat.le_of_ble_eq_true rfl) ⟨Nat.le_of_ble_eq_true rfl, Nat.le_of_ble_eq_true rfl⟩ dX4_snow_10 (fun H locs hC => ?_)
  refine li_ifb_ne (tgt := 22) hx hb dX4_snow_13 (by decide) (fun c_13 => ?_) (fun c_13 => ?_)
  · obtain ⟨zn, hzn⟩ : ∃ zn : Nat, z = (zn : Int) := ⟨z.toNat, by omega⟩
    rw [hzn] at hl
    refine li_c hx hb dX4_snow_22 ?_
    refine lv_istore_n (lv' := [(2, .int (iI 0)), (0, .ref (A.a 0)), (1, .int (iI (zn : Int)))]) hx hb dX4_snow_23 rfl hl (by decide) rfl (fun ls hl => ?_)
    have loop_24 : ∀ (n : Nat) (i : Nat) (hn : 2 * G.rr - i < n) (hi : i ≤ 2 * G.rr) (H : Heap) (locs : List Loc) (hC : aH A (dAdr A) (DW A ((G.de' (snD G zn i)).sa' (snS G i)) (mkZ 0 Z.wt Z.gn Z.gs)) s H locs) (ls : Array Slot) (hl : lv_has ls 3 [(2, .int (iI (i : Int))), (0, .ref (A.a 0)), (1, .int (iI (zn : Int)))]), W p l e ({ frames := 2, cells := 0, slots := 0, locals := 44 }) s m args below meth c H locs 0 0 (aQi below (dEnd A) (dAdr A) args s (yKI (if 1 ≤ z ∧ z ≤ 300 then 0 else 1) ((dmax (snD G (z).toNat (2 * G.rr)) (2 * G.rr) : Nat) : Int) G ((G.de' (snD G (z).toNat (2 * G.rr))).sa' (snS G (2 * G.rr))) Z Z)) (F0 m 24 ls []) := by
      intro n
      induction n with
      | zero => intro i hn; exact absurd hn (Nat.not_lt_zero _)
      | succ n ih_24 =>
        intro i hn hi H locs hC ls hl
        have hds : snD G zn i i ≤ 999 := by rw [show snD G zn i i = G.de i from if_neg (Nat.lt_irrefl i)]; exact hI.de i
        have hss : snS G i i ≤ 1 := by rw [show snS G i i = G.sa i from if_neg (Nat.lt_irrefl i)]; exact hI.sa i
        refine lv_iload_n hx hb dX4_snow_24 rfl (lv_at hl 0 rfl) ?_
        refine li_c hx hb dX4_snow_25 ?_
        refine lv_aload_n hx hb dX4_snow_26 rfl (lv_at hl 1 rfl) ?_
        refine agX4_roads X hC iX4 (by decide +kernel) dX4_snow_27 (v := (G.rr : Int)) rfl ?_
        refine li_mulN (x := 2) (y := G.rr) hx hb dX4_snow_30 rfl rfl ?_
        refine li_icmp_ge (tgt := 82) hx hb dX4_snow_31 (by decide) (by omega) (fun c_31 => ?_) (fun c_31 => ?_)
        · have hsI : Inv ((G.de' (snD G zn i)).sa' (snS G i)) := by rw [show i = 2 * G.rr by omega]; exact sn_Inv hI zn
          have hdp := dpA_rng (pr := G.pr) (q := -1) (de := snD G zn i) hsI.de (2 * G.rr)
          refine li_c hx hb dX4_snow_82 ?_
          refine lv_aload_n hx hb dX4_snow_83 rfl (lv_at hl 1 rfl) ?_
          refine li_c hx hb dX4_snow_84 ?_
          refine d_callix (v := (dpA G.pr (snD G zn i) (-1 : Int) (2 * G.rr))) (n := 1) (As := [.int (iI (-1))]) (rest := [.int (iI 0)]) X hC (mX4_deepest l A ((G.de' (snD G zn i)).sa' (snS G i)) (mkZ 0 Z.wt Z.gn Z.gs) (-1 : Int) hsI (show -2147483648 ≤ (-1 : Int) ∧ (-1 : Int) < 2147483648 by omega)) ⟨gX4_snow_X4_deepest, ⟨_, rfl⟩, rfl, rfl, ⟨by decide, by decide, by decide +kernel⟩, Nat.le_of_ble_eq_true rfl, Nat.le_of_ble_eq_true rfl⟩ (a_recv (y := yX4_deepest) X hC.1 (ci := 4) (q0 := 0) rfl rfl rfl) rfl hl.1 rfl (Nat.le_of_ble_eq_true rfl) ⟨Nat.le_of_ble_eq_true rfl, Nat.le_of_ble_eq_true rfl⟩ dX4_snow_85 (fun H locs hC => ?_)
          refine li_max hx hb (hml.trans hl.1.symm) hown (hts _ (by decide +kernel)) (hts _ (by decide +kernel)) (hts _ (by decide +kernel)) (hts _ (by decide +kernel)) (Nat.le_of_ble_eq_true rfl) (Nat.le_of_ble_eq_true rfl) (Nat.zero_le _) (Nat.zero_le _) (by omega) dX4_snow_88 ?_
          rw [show (if 0 < (dpA G.pr (snD G zn i) (-1 : Int) (2 * G.rr)) then (dpA G.pr (snD G zn i) (-1 : Int) (2 * G.rr)) else 0) = (max 0 (dpA G.pr (snD G zn i) (-1 : Int) (2 * G.rr))) by split <;> omega]
          exact d_iret X hC hr hk (by rw [show i = 2 * G.rr by omega, show z.toNat = zn by omega]; exact Or.inl ⟨if_pos (by omega), dpA_max _ _ _, rfl, rfl⟩) dX4_snow_91
        · refine lv_aload_n hx hb dX4_snow_34 rfl (lv_at hl 1 rfl) ?_
          refine agX4_depths X hC iX4 (by decide +kernel) dX4_snow_35 ?_
          refine lv_iload_n hx hb dX4_snow_38 rfl (lv_at hl 0 rfl) ?_
          refine li_si hx hb dX4_snow_39 (by decide) ?_
          refine lv_aload_n hx hb dX4_snow_42 rfl (lv_at hl 1 rfl) ?_
          refine agX4_depths X hC iX4 (by decide +kernel) dX4_snow_43 ?_
          refine lv_iload_n hx hb dX4_snow_46 rfl (lv_at hl 0 rfl) ?_
          refine alD_de (k0 := i) (v := (((snD G zn i) i : Nat) : Int)) X hC (by omega) (by omega) rfl dX4_snow_47 ?_
          refine lv_aload_n hx hb dX4_snow_48 rfl (lv_at hl 1 rfl) ?_
          refine agX4_areSalted X hC iX4 (by decide +kernel) dX4_snow_49 ?_
          refine lv_iload_n hx hb dX4_snow_52 rfl (lv_at hl 0 rfl) ?_
          refine alD_sa (k0 := i) (v := (((snS G i) i : Nat) : Int)) X hC (by omega) (by omega) rfl dX4_snow_53 ?_
          refine li_if_eq (tgt := 63) hx hb dX4_snow_54 (by decide) (by omega) (fun c_54 => ?_) (fun c_54 => ?_)
          · refine lv_iload_n hx hb dX4_snow_63 rfl (lv_at hl 2 rfl) ?_
            refine li_addN (x := (snD G zn i) i) (y := zn) hx hb dX4_snow_64 rfl rfl ?_
            refine li_min hx hb (hml.trans hl.1.symm) hown (hts _ (by decide +kernel)) (hts _ (by decide +kernel)) (hts _ (by decide +kernel)) (hts _ (by decide +kernel)) (Nat.le_of_ble_eq_true rfl) (Nat.le_of_ble_eq_true rfl) (Nat.zero_le _) (Nat.zero_le _) (by omega) dX4_snow_65 ?_
            rw [show (if ((((snD G zn i) i) + zn : Nat) : Int) < 999 then ((((snD G zn i) i) + zn : Nat) : Int) else 999) = (((min 999 (((snD G zn i) i) + zn)) : Nat) : Int) by split <;> omega]
            refine asD_de (k0 := i) (x := (min 999 (((snD G zn i) i) + zn))) X hC (by omega) (by omega) (by omega) dX4_snow_68 (fun H locs hC => ?_)
            have hC : aH A (dAdr A) (DW A (mkG G.tu G.st G.sm G.mi G.pr (up (snD G zn i) i (min 999 (((snD G zn i) i) + zn))) (snS G i) G.nn G.rr G.vn G.vc G.vs G.vw G.tt) (mkZ 0 Z.wt Z.gn Z.gs)) s H locs := hC
            refine lv_aload_n hx hb dX4_snow_69 rfl (lv_at hl 1 rfl) ?_
            refine agX4_areSalted X hC iX4 (by decide +kernel) dX4_snow_70 ?_
            refine lv_iload_n hx hb dX4_snow_73 rfl (lv_at hl 0 rfl) ?_
            refine li_c hx hb dX4_snow_74 ?_
            refine asD_sa (k0 := i) (x := 0) X hC (by omega) (by omega) (by omega) (by omega) dX4_snow_75 (fun H locs hC => ?_)
            have hC : aH A (dAdr A) (DW A (mkG G.tu G.st G.sm G.mi G.pr (up (snD G zn i) i (min 999 (((snD G zn i) i) + zn))) (up (snS G i) i 0) G.nn G.rr G.vn G.vc G.vs G.vw G.tt) (mkZ 0 Z.wt Z.gn Z.gs)) s H locs := hC
            refine li_incN (lv' := [(2, .int (iI ((i + 1 : Nat) : Int))), (0, .ref (A.a 0)), (1, .int (iI (zn : Int)))]) (x := i) (d0 := 1) hx hb dX4_snow_76 hl (k := 0) rfl rfl rfl (by decide) rfl (fun ls hl => ?_)
            refine lv_goto (tgt := 24) hx hb dX4_snow_79 (by decide) ?_
            have e1 : (up (snD G zn i) i (min 999 (((snD G zn i) i) + zn))) = snD G zn (i + 1) := by rw [← snD_s]; first | rw [if_pos (by omega)] | rw [if_neg (by omega)]
            have hC : aH A (dAdr A) (DW A ((G.de' (snD G zn (i + 1))).sa' (snS G (i + 1))) (mkZ 0 Z.wt Z.gn Z.gs)) s H locs := by rw [← e1, ← snS_s]; exact hC
            exact ih_24 (i + 1) (by omega) (by omega) H locs hC ls (lv_sub hl [0, 1, 2] rfl)
          · refine lv_iload_n hx hb dX4_snow_57 rfl (lv_at hl 2 rfl) ?_
            refine li_c hx hb dX4_snow_58 ?_
            refine li_divN (x := zn) (y := 2) hx hb dX4_snow_59 rfl rfl (by omega) ?_
            refine lv_goto (tgt := 64) hx hb dX4_snow_60 (by decide) ?_
            refine li_addN (x := (snD G zn i) i) (y := zn / 2) hx hb dX4_snow_64 rfl rfl ?_
            refine li_min hx hb (hml.trans hl.1.symm) hown (hts _ (by decide +kernel)) (hts _ (by decide +kernel)) (hts _ (by decide +kernel)) (hts _ (by decide +kernel)) (Nat.le_of_ble_eq_true rfl) (Nat.le_of_ble_eq_true rfl) (Nat.zero_le _) (Nat.zero_le _) (by omega) dX4_snow_65 ?_
            rw [show (if ((((snD G zn i) i) + (zn / 2) : Nat) : Int) < 999 then ((((snD G zn i) i) + (zn / 2) : Nat) : Int) else 999) = (((min 999 (((snD G zn i) i) + (zn / 2))) : Nat) : Int) by split <;> omega]
            refine asD_de (k0 := i) (x := (min 999 (((snD G zn i) i) + (zn / 2)))) X hC (by omega) (by omega) (by omega) dX4_snow_68 (fun H locs hC => ?_)
            have hC : aH A (dAdr A) (DW A (mkG G.tu G.st G.sm G.mi G.pr (up (snD G zn i) i (min 999 (((snD G zn i) i) + (zn / 2)))) (snS G i) G.nn G.rr G.vn G.vc G.vs G.vw G.tt) (mkZ 0 Z.wt Z.gn Z.gs)) s H locs := hC
            refine lv_aload_n hx hb dX4_snow_69 rfl (lv_at hl 1 rfl) ?_
            refine agX4_areSalted X hC iX4 (by decide +kernel) dX4_snow_70 ?_
            refine lv_iload_n hx hb dX4_snow_73 rfl (lv_at hl 0 rfl) ?_
            refine li_c hx hb dX4_snow_74 ?_
            refine asD_sa (k0 := i) (x := 0) X hC (by omega) (by omega) (by omega) (by omega) dX4_snow_75 (fun H locs hC => ?_)
            have hC : aH A (dAdr A) (DW A (mkG G.tu G.st G.sm G.mi G.pr (up (snD G zn i) i (min 999 (((snD G zn i) i) + (zn / 2)))) (up (snS G i) i 0) G.nn G.rr G.vn G.vc G.vs G.vw G.tt) (mkZ 0 Z.wt Z.gn Z.gs)) s H locs := hC
            refine li_incN (lv' := [(2, .int (iI ((i + 1 : Nat) : Int))), (0, .ref (A.a 0)), (1, .int (iI (zn : Int)))]) (x := i) (d0 := 1) hx hb dX4_snow_76 hl (k := 0) rfl rfl rfl (by decide) rfl (fun ls hl => ?_)
            refine lv_goto (tgt := 24) hx hb dX4_snow_79 (by decide) ?_
            have e1 : (up (snD G zn i) i (min 999 (((snD G zn i) i) + (zn / 2)))) = snD G zn (i + 1) := by rw [← snD_s]; first | rw [if_pos (by omega)] | rw [if_neg (by omega)]
            have hC : aH A (dAdr A) (DW A ((G.de' (snD G zn (i + 1))).sa' (snS G (i + 1))) (mkZ 0 Z.wt Z.gn Z.gs)) s H locs := by rw [← e1, ← snS_s]; exact hC
            exact ih_24 (i + 1) (by omega) (by omega) H locs hC ls (lv_sub hl [0, 1, 2] rfl)
    have hC : aH A (dAdr A) (DW A ((G.de' (snD G zn 0)).sa' (snS G 0)) (mkZ 0 Z.wt Z.gn Z.gs)) s H locs := by rw [snD_0, snS_0]; exact hC
    exact loop_24 ((2 * G.rr) + 1) 0 (Nat.lt_succ_self _) (by omega) H locs hC ls (lv_sub hl [0, 1, 2] rfl)
  · refine lv_aload_n hx hb dX4_snow_16 rfl (lv_at hl 0 rfl) ?_
    refine li_c hx hb dX4_snow_17 ?_
    refine d_callix (v := 0) (n := 1) (As := [.int (iI 1)]) (rest := []) X hC (mX4_fail l A G (mkZ 0 Z.wt Z.gn Z.gs) 1) ⟨gX4_snow_X4_fail, ⟨_, rfl⟩, rfl, rfl, ⟨by decide, by decide, by decide +kernel⟩, Nat.le_of_ble_eq_true rfl, Nat.le_of_ble_eq_true rfl⟩ (a_recv (y := yX4_fail) X hC.1 (ci := 4) (q0 := 0) rfl rfl rfl) rfl hl.1 rfl (Nat.le_of_ble_eq_true rfl) ⟨Nat.le_of_ble_eq_true rfl, Nat.le_of_ble_eq_true rfl⟩ dX4_snow_18 (fun H locs hC => ?_)
    have hC : aH A (dAdr A) (DW A G (mkZ 1 Z.wt Z.gn Z.gs)) s H locs := hC
    exact d_iret X hC hr hk (Or.inr ⟨by first | decide | (rw [if_neg (by omega)]; decide) | omega, rfl, rfl, by first | rfl | (rw [if_neg (by omega)]; rfl)⟩) dX4_snow_21

set_option maxHeartbeats 4000000 in
set_option maxRecDepth 100000 in
theorem mX4_depth (l : Launch) (A : AD) (G : GS) (Z : ZS) (r : Int) (k : Int) (hI : Inv G) (hr1 : -2147483648 ≤ r ∧ r < 2147483648) (hk1 : -2147483648 ≤ k ∧ k < 2147483648) : dMi l yX4_depth wsX4_depth ({ frames := 2, cells := 0, slots := 0, locals := 44 }) A [.ref (A.a 0), .int (iI r), .int (iI k)] G Z (yKI (if (0 ≤ r ∧ r < (G.rr : Int)) ∧ (0 ≤ k ∧ k ≤ 1) then 0 else 1) ((G.de (2 * r + k).toNat : Nat) : Int) G G Z Z) := by
  intro sz
  refine c_start (cc := cX4_depth) (maxL := 3) (ret := (some .int)) (by decide) rfl rfl ?_
  intro p e s m args below meth c X hr hk hnm hsz ls hl H locs hC
  subst hsz
  obtain ⟨hx, hb, hml, hown, hts⟩ := id X.1
  have hl : lv_has ls 3 [(0, .ref (A.a 0)), (1, .int (iI r)), (2, .int (iI k))] := hl
  have iX4 : ∀ w ∈ u_ws RX4 TX4 18, w ∈ wsX4_depth := by decide +kernel
  have hrr := hI.rr
  refine lv_aload_n hx hb dX4_depth_0 rfl (lv_at hl 0 rfl) ?_
  refine li_c hx hb dX4_depth_1 ?_
  refine apX4_thrown X hC iX4 (by decide +kernel) dX4_depth_2 (x := 0) (by omega) (fun H locs hC => ?_)
  have hC : aH A (dAdr A) (DW A G (mkZ 0 Z.wt Z.gn Z.gs)) s H locs := hC
  refine lv_aload_n hx hb dX4_depth_5 rfl (lv_at hl 0 rfl) ?_
  refine lv_iload_n hx hb dX4_depth_6 rfl (lv_at hl 1 rfl) ?_
  refine lv_iload_n hx hb dX4_depth_7 rfl (lv_at hl 2 rfl) ?_
  refine d_callix (v := bP ((0 ≤ r ∧ r < (G.rr : Int)) ∧ (0 ≤ k ∧ k ≤ 1))) (n := 2) (As := [.int (iI r), .int (iI k)]) (rest := []) X hC (mX4_isSide l A G (mkZ 0 Z.wt Z.gn Z.gs) r k (show -2147483648 ≤ r ∧ r < 2147483648 by omega) (show -2147483648 ≤ k ∧ k < 2147483648 by omega) (show G.rr ≤ 12 by omega)) ⟨gX4_depth_X4_isSide, ⟨_, rfl⟩, rfl, rfl, ⟨by decide, by decide, by decide +kernel⟩, Nat.le_of_ble_eq_true rfl, Nat.le_of_ble_eq_true rfl⟩ (a_recv (y := yX4_isSide) X hC.1 (ci := 4) (q0 := 0) rfl rfl rfl) rfl hl.1 rfl (Nat.le_of_ble_eq_true rfl) ⟨Nat.le_of_ble_eq_true rfl, Nat.le_of_ble_eq_true rfl⟩ dX4_depth_8 (fun H locs hC => ?_)
  refine li_ifb_eq (tgt := 27) hx hb dX4_depth_11 (by decide) (fun c_11 => ?_) (fun c_11 => ?_)
  · refine lv_aload_n hx hb dX4_depth_27 rfl (lv_at hl 0 rfl) ?_
    refine li_c hx hb dX4_depth_28 ?_
    refine d_callix (v := 0) (n := 1) (As := [.int (iI 1)]) (rest := []) X hC (mX4_fail l A G (mkZ 0 Z.wt Z.gn Z.gs) 1) ⟨gX4_depth_X4_fail, ⟨_, rfl⟩, rfl, rfl, ⟨by decide, by decide, by decide +kernel⟩, Nat.le_of_ble_eq_true rfl, Nat.le_of_ble_eq_true rfl⟩ (a_recv (y := yX4_fail) X hC.1 (ci := 4) (q0 := 0) rfl rfl rfl) rfl hl.1 rfl (Nat.le_of_ble_eq_true rfl) ⟨Nat.le_of_ble_eq_true rfl, Nat.le_of_ble_eq_true rfl⟩ dX4_depth_29 (fun H locs hC => ?_)
    have hC : aH A (dAdr A) (DW A G (mkZ 1 Z.wt Z.gn Z.gs)) s H locs := hC
    exact d_iret X hC hr hk (Or.inr ⟨by first | decide | (rw [if_neg (by omega)]; decide) | omega, rfl, rfl, by first | rfl | (rw [if_neg (by omega)]; rfl)⟩) dX4_depth_32
  · refine lv_aload_n hx hb dX4_depth_14 rfl (lv_at hl 0 rfl) ?_
    refine agX4_depths X hC iX4 (by decide +kernel) dX4_depth_15 ?_
    refine li_c hx hb dX4_depth_18 ?_
    refine lv_iload_n hx hb dX4_depth_19 rfl (lv_at hl 1 rfl) ?_
    refine li_mul hx hb dX4_depth_20 ?_
    refine lv_iload_n hx hb dX4_depth_21 rfl (lv_at hl 2 rfl) ?_
    refine li_add hx hb dX4_depth_22 ?_
    refine alD_de (k0 := (((2 * r) + k)).toNat) (v := ((G.de ((((2 * r) + k)).toNat) : Nat) : Int)) X hC (by omega) (by omega) rfl dX4_depth_23 ?_
    have hb1 := hI.de ((((2 * r) + k)).toNat)
    refine lv_goto (tgt := 32) hx hb dX4_depth_24 (by decide) ?_
    exact d_iret X hC hr hk (Or.inl ⟨by first | rfl | (rw [if_pos (by omega)]; done) | omega, rfl, rfl, rfl⟩) dX4_depth_32

set_option maxHeartbeats 4000000 in
set_option maxRecDepth 100000 in
theorem mX4_isSalted (l : Launch) (A : AD) (G : GS) (Z : ZS) (r : Int) (k : Int) (hI : Inv G) (hr1 : -2147483648 ≤ r ∧ r < 2147483648) (hk1 : -2147483648 ≤ k ∧ k < 2147483648) : dMi l yX4_isSalted wsX4_isSalted ({ frames := 2, cells := 0, slots := 0, locals := 44 }) A [.ref (A.a 0), .int (iI r), .int (iI k)] G Z (yKI (if (0 ≤ r ∧ r < (G.rr : Int)) ∧ (0 ≤ k ∧ k ≤ 1) then 0 else 1) ((G.sa (2 * r + k).toNat : Nat) : Int) G G Z Z) := by
  intro sz
  refine c_start (cc := cX4_isSalted) (maxL := 3) (ret := (some .boolean)) (by decide) rfl rfl ?_
  intro p e s m args below meth c X hr hk hnm hsz ls hl H locs hC
  subst hsz
  obtain ⟨hx, hb, hml, hown, hts⟩ := id X.1
  have hl : lv_has ls 3 [(0, .ref (A.a 0)), (1, .int (iI r)), (2, .int (iI k))] := hl
  have iX4 : ∀ w ∈ u_ws RX4 TX4 18, w ∈ wsX4_isSalted := by decide +kernel
  have hrr := hI.rr
  have hs1 := hI.sa (2 * r + k).toNat
  refine lv_aload_n hx hb dX4_isSalted_0 rfl (lv_at hl 0 rfl) ?_
  refine lv_aload_n hx hb dX4_isSalted_1 rfl (lv_at hl 0 rfl) ?_
  refine lv_iload_n hx hb dX4_isSalted_2 rfl (lv_at hl 1 rfl) ?_
  refine lv_iload_n hx hb dX4_isSalted_3 rfl (lv_at hl 2 rfl) ?_
  refine d_callix (v := bP ((0 ≤ r ∧ r < (G.rr : Int)) ∧ (0 ≤ k ∧ k ≤ 1))) (n := 2) (As := [.int (iI r), .int (iI k)]) (rest := [.ref (A.a 0)]) X hC (mX4_isSide l A G Z r k (show -2147483648 ≤ r ∧ r < 2147483648 by omega) (show -2147483648 ≤ k ∧ k < 2147483648 by omega) (show G.rr ≤ 12 by omega)) ⟨gX4_isSalted_X4_isSide, ⟨_, rfl⟩, rfl, rfl, ⟨by decide, by decide, by decide +kernel⟩, Nat.le_of_ble_eq_true rfl, Nat.le_of_ble_eq_true rfl⟩ (a_recv (y := yX4_isSide) X hC.1 (ci := 4) (q0 := 0) rfl rfl rfl) rfl hl.1 rfl (Nat.le_of_ble_eq_true rfl) ⟨Nat.le_of_ble_eq_true rfl, Nat.le_of_ble_eq_true rfl⟩ dX4_isSalted_4 (fun H locs hC => ?_)
  refine li_ifb_eq (tgt := 14) hx hb dX4_isSalted_7 (by decide) (fun c_7 => ?_) (fun c_7 => ?_)
  · refine li_c hx hb dX4_isSalted_14 ?_
    refine apX4_thrown X hC iX4 (by decide +kernel) dX4_isSalted_15 (x := 1) (by omega) (fun H locs hC => ?_)
    have hC : aH A (dAdr A) (DW A G (mkZ 1 Z.wt Z.gn Z.gs)) s H locs := hC
    refine lv_aload_n hx hb dX4_isSalted_18 rfl (lv_at hl 0 rfl) ?_
    refine agX4_thrown X hC iX4 (by decide +kernel) dX4_isSalted_19 (v := 1) rfl ?_
    refine li_if_ne (tgt := 42) hx hb dX4_isSalted_22 (by decide) (by omega) (fun c_22 => ?_) (fun c_22 => ?_)
    · refine li_c hx hb dX4_isSalted_42 ?_
      exact d_zret X hC hr hk (by omega) (Or.inr ⟨by first | decide | (rw [if_neg (by omega)]; decide) | omega, rfl, rfl, by first | rfl | (rw [if_neg (by omega)]; rfl)⟩) dX4_isSalted_43
    · exact absurd c_22 (by decide)
  · refine li_c hx hb dX4_isSalted_10 ?_
    refine lv_goto (tgt := 15) hx hb dX4_isSalted_11 (by decide) ?_
    refine apX4_thrown X hC iX4 (by decide +kernel) dX4_isSalted_15 (x := 0) (by omega) (fun H locs hC => ?_)
    have hC : aH A (dAdr A) (DW A G (mkZ 0 Z.wt Z.gn Z.gs)) s H locs := hC
    refine lv_aload_n hx hb dX4_isSalted_18 rfl (lv_at hl 0 rfl) ?_
    refine agX4_thrown X hC iX4 (by decide +kernel) dX4_isSalted_19 (v := 0) rfl ?_
    refine li_if_ne (tgt := 42) hx hb dX4_isSalted_22 (by decide) (by omega) (fun c_22 => ?_) (fun c_22 => ?_)
    · exact absurd c_22 (by decide)
    · refine lv_aload_n hx hb dX4_isSalted_25 rfl (lv_at hl 0 rfl) ?_
      refine agX4_areSalted X hC iX4 (by decide +kernel) dX4_isSalted_26 ?_
      refine li_c hx hb dX4_isSalted_29 ?_
      refine lv_iload_n hx hb dX4_isSalted_30 rfl (lv_at hl 1 rfl) ?_
      refine li_mul hx hb dX4_isSalted_31 ?_
      refine lv_iload_n hx hb dX4_isSalted_32 rfl (lv_at hl 2 rfl) ?_
      refine li_add hx hb dX4_isSalted_33 ?_
      refine alD_sa (k0 := (((2 * r) + k)).toNat) (v := ((G.sa ((((2 * r) + k)).toNat) : Nat) : Int)) X hC (by omega) (by omega) rfl dX4_isSalted_34 ?_
      have hb1 := hI.sa ((((2 * r) + k)).toNat)
      refine li_if_eq (tgt := 42) hx hb dX4_isSalted_35 (by decide) (by omega) (fun c_35 => ?_) (fun c_35 => ?_)
      · refine li_c hx hb dX4_isSalted_42 ?_
        exact d_zret X hC hr hk (by omega) (Or.inl ⟨by first | rfl | (rw [if_pos (by omega)]; done) | omega, by omega, rfl, rfl⟩) dX4_isSalted_43
      · refine li_c hx hb dX4_isSalted_38 ?_
        refine lv_goto (tgt := 43) hx hb dX4_isSalted_39 (by decide) ?_
        exact d_zret X hC hr hk (by omega) (Or.inl ⟨by first | rfl | (rw [if_pos (by omega)]; done) | omega, by omega, rfl, rfl⟩) dX4_isSalted_43

set_option maxHeartbeats 4000000 in
set_option maxRecDepth 100000 in
theorem mX4_worst (l : Launch) (A : AD) (G : GS) (Z : ZS) (z : Int) (hI : Inv G) (hz : -2147483648 ≤ z ∧ z < 2147483648) : dMi l yX4_worst wsX4_worst ({ frames := 2, cells := 0, slots := 0, locals := 44 }) A [.ref (A.a 0), .int (iI z)] G Z (yKI (if 0 ≤ z ∧ z ≤ 2 then 0 else 1) (dmaxP G.pr G.de z (2 * G.rr)) G G Z Z) := by
  intro sz
  refine c_start (cc := cX4_worst) (maxL := 2) (ret := (some .int)) (by decide) rfl rfl ?_
  intro p e s m args below meth c X hr hk hnm hsz ls hl H locs hC
  subst hsz
  obtain ⟨hx, hb, hml, hown, hts⟩ := id X.1
  have hl : lv_has ls 2 [(0, .ref (A.a 0)), (1, .int (iI z))] := hl
  have iX4 : ∀ w ∈ u_ws RX4 TX4 18, w ∈ wsX4_worst := by decide +kernel
  refine lv_aload_n hx hb dX4_worst_0 rfl (lv_at hl 0 rfl) ?_
  refine li_c hx hb dX4_worst_1 ?_
  refine apX4_thrown X hC iX4 (by decide +kernel) dX4_worst_2 (x := 0) (by omega) (fun H locs hC => ?_)
  have hC : aH A (dAdr A) (DW A G (mkZ 0 Z.wt Z.gn Z.gs)) s H locs := hC
  refine lv_iload_n hx hb dX4_worst_5 rfl (lv_at hl 1 rfl) ?_
  refine li_c hx hb dX4_worst_6 ?_
  refine li_c hx hb dX4_worst_7 ?_
  refine d_callisx (v := bP ((0 : Int) ≤ z ∧ z ≤ (2 : Int))) (n := 3) (As := [.int (iI z), .int (iI 0), .int (iI 2)]) (rest := []) X hC (mX4_isIn l A G (mkZ 0 Z.wt Z.gn Z.gs) z (0 : Int) (2 : Int) (show -2147483648 ≤ z ∧ z < 2147483648 by omega) (show -2147483648 ≤ (0 : Int) ∧ (0 : Int) < 2147483648 by omega) (show -2147483648 ≤ (2 : Int) ∧ (2 : Int) < 2147483648 by omega)) ⟨gX4_worst_X4_isIn, ⟨_, rfl⟩, rfl, rfl, ⟨by decide, by decide, by decide +kernel⟩, Nat.le_of_ble_eq_true rfl, Nat.le_of_ble_eq_true rfl⟩ rfl hl.1 rfl (Nat.le_of_ble_eq_true rfl) ⟨Nat.le_of_ble_eq_true rfl, Nat.le_of_ble_eq_true rfl⟩ dX4_worst_8 (fun H locs hC => ?_)
  refine li_ifb_eq (tgt := 22) hx hb dX4_worst_11 (by decide) (fun c_11 => ?_) (fun c_11 => ?_)
  · refine lv_aload_n hx hb dX4_worst_22 rfl (lv_at hl 0 rfl) ?_
    refine li_c hx hb dX4_worst_23 ?_
    refine d_callix (v := 0) (n := 1) (As := [.int (iI 1)]) (rest := []) X hC (mX4_fail l A G (mkZ 0 Z.wt Z.gn Z.gs) 1) ⟨gX4_worst_X4_fail, ⟨_, rfl⟩, rfl, rfl, ⟨by decide, by decide, by decide +kernel⟩, Nat.le_of_ble_eq_true rfl, Nat.le_of_ble_eq_true rfl⟩ (a_recv (y := yX4_fail) X hC.1 (ci := 4) (q0 := 0) rfl rfl rfl) rfl hl.1 rfl (Nat.le_of_ble_eq_true rfl) ⟨Nat.le_of_ble_eq_true rfl, Nat.le_of_ble_eq_true rfl⟩ dX4_worst_24 (fun H locs hC => ?_)
    have hC : aH A (dAdr A) (DW A G (mkZ 1 Z.wt Z.gn Z.gs)) s H locs := hC
    exact d_iret X hC hr hk (Or.inr ⟨by first | decide | (rw [if_neg (by omega)]; decide) | omega, rfl, rfl, by first | rfl | (rw [if_neg (by omega)]; rfl)⟩) dX4_worst_27
  · refine lv_aload_n hx hb dX4_worst_14 rfl (lv_at hl 0 rfl) ?_
    refine lv_iload_n hx hb dX4_worst_15 rfl (lv_at hl 1 rfl) ?_
    refine d_callix (v := (dpA G.pr G.de z (2 * G.rr))) (n := 1) (As := [.int (iI z)]) (rest := []) X hC (mX4_deepest l A G (mkZ 0 Z.wt Z.gn Z.gs) z hI (show -2147483648 ≤ z ∧ z < 2147483648 by omega)) ⟨gX4_worst_X4_deepest, ⟨_, rfl⟩, rfl, rfl, ⟨by decide, by decide, by decide +kernel⟩, Nat.le_of_ble_eq_true rfl, Nat.le_of_ble_eq_true rfl⟩ (a_recv (y := yX4_deepest) X hC.1 (ci := 4) (q0 := 0) rfl rfl rfl) rfl hl.1 rfl (Nat.le_of_ble_eq_true rfl) ⟨Nat.le_of_ble_eq_true rfl, Nat.le_of_ble_eq_true rfl⟩ dX4_worst_16 (fun H locs hC => ?_)
    refine lv_goto (tgt := 27) hx hb dX4_worst_19 (by decide) ?_
    exact d_iret X hC hr hk (Or.inl ⟨by first | rfl | (rw [if_pos (by omega)]; done) | omega, dpA_P _ _ (by omega) _, rfl, rfl⟩) dX4_worst_27

set_option maxHeartbeats 4000000 in
set_option maxRecDepth 100000 in
theorem mX4_fill (l : Launch) (A : AD) (G : GS) (Z : ZS) (hI : Inv G) : dMi l yX4_fill wsX4_fill ({ frames := 1, cells := 0, slots := 0, locals := 21 }) A [.ref (A.a 0)] G Z (yKI (if G.st G.vn ≠ 0 then 0 else 1) ((120 - G.vs : Nat) : Int) G ((G.vs' 120).tt' (up G.tt 0 (G.tt 0 + 4))) Z Z) := by
  intro sz
  refine c_start (cc := cX4_fill) (maxL := 1) (ret := (some .int)) (by decide) rfl rfl ?_
  intro p e s m args below meth c X hr hk hnm hsz ls hl H locs hC
  subst hsz
  obtain ⟨hx, hb, hml, hown, hts⟩ := id X.1
  have hl : lv_has ls 1 [(0, .ref (A.a 0))] := hl
  have iX4 : ∀ w ∈ u_ws RX4 TX4 18, w ∈ wsX4_fill := by decide +kernel
  have hnn := hI.nn
  have hvn := hI.vn
  have hvs := hI.vs
  have hs1 := hI.st G.vn
  refine lv_aload_n hx hb dX4_fill_0 rfl (lv_at hl 0 rfl) ?_
  refine li_c hx hb dX4_fill_1 ?_
  refine apX4_thrown X hC iX4 (by decide +kernel) dX4_fill_2 (x := 0) (by omega) (fun H locs hC => ?_)
  have hC : aH A (dAdr A) (DW A G (mkZ 0 Z.wt Z.gn Z.gs)) s H locs := hC
  refine lv_aload_n hx hb dX4_fill_5 rfl (lv_at hl 0 rfl) ?_
  refine agX4_areStores X hC iX4 (by decide +kernel) dX4_fill_6 ?_
  refine lv_aload_n hx hb dX4_fill_9 rfl (lv_at hl 0 rfl) ?_
  refine agX4_at X hC iX4 (by decide +kernel) dX4_fill_10 (v := (G.vn : Int)) rfl ?_
  refine alD_st (k0 := G.vn) (v := ((G.st G.vn : Nat) : Int)) X hC (by omega) (by omega) rfl dX4_fill_13 ?_
  have hb1 := hI.st G.vn
  refine li_if_eq (tgt := 24) hx hb dX4_fill_14 (by decide) (by omega) (fun c_14 => ?_) (fun c_14 => ?_)
  · refine lv_aload_n hx hb dX4_fill_24 rfl (lv_at hl 0 rfl) ?_
    refine li_c hx hb dX4_fill_25 ?_
    refine d_callix (v := 0) (n := 1) (As := [.int (iI 1)]) (rest := []) X hC (mX4_fail l A G (mkZ 0 Z.wt Z.gn Z.gs) 1) ⟨gX4_fill_X4_fail, ⟨_, rfl⟩, rfl, rfl, ⟨by decide, by decide, by decide +kernel⟩, Nat.le_of_ble_eq_true rfl, Nat.le_of_ble_eq_true rfl⟩ (a_recv (y := yX4_fail) X hC.1 (ci := 4) (q0 := 0) rfl rfl rfl) rfl hl.1 rfl (Nat.le_of_ble_eq_true rfl) ⟨Nat.le_of_ble_eq_true rfl, Nat.le_of_ble_eq_true rfl⟩ dX4_fill_26 (fun H locs hC => ?_)
    have hC : aH A (dAdr A) (DW A G (mkZ 1 Z.wt Z.gn Z.gs)) s H locs := hC
    exact d_iret X hC hr hk (Or.inr ⟨by first | decide | (rw [if_neg (by omega)]; decide) | omega, rfl, rfl, by first | rfl | (rw [if_neg (by omega)]; rfl)⟩) dX4_fill_29
  · refine lv_aload_n hx hb dX4_fill_17 rfl (lv_at hl 0 rfl) ?_
    refine d_callix (v := ((120 - G.vs : Nat) : Int)) (n := 0) (As := []) (rest := []) X hC (mX4_fillUp l A G (mkZ 0 Z.wt Z.gn Z.gs)  (show G.vs ≤ 120 by omega)) ⟨gX4_fill_X4_fillUp, ⟨_, rfl⟩, rfl, rfl, ⟨by decide, by decide, by decide +kernel⟩, Nat.le_of_ble_eq_true rfl, Nat.le_of_ble_eq_true rfl⟩ (a_recv (y := yX4_fillUp) X hC.1 (ci := 4) (q0 := 0) rfl rfl rfl) rfl hl.1 rfl (Nat.le_of_ble_eq_true rfl) ⟨Nat.le_of_ble_eq_true rfl, Nat.le_of_ble_eq_true rfl⟩ dX4_fill_18 (fun H locs hC => ?_)
    have hC : aH A (dAdr A) (DW A (mkG G.tu G.st G.sm G.mi G.pr G.de G.sa G.nn G.rr G.vn G.vc 120 G.vw (up G.tt 0 (G.tt 0 + 4))) (mkZ 0 Z.wt Z.gn Z.gs)) s H locs := hC
    refine lv_goto (tgt := 29) hx hb dX4_fill_21 (by decide) ?_
    exact d_iret X hC hr hk (Or.inl ⟨by first | rfl | (rw [if_pos (by omega)]; done) | omega, rfl, rfl, rfl⟩) dX4_fill_29

set_option maxHeartbeats 4000000 in
set_option maxRecDepth 100000 in
theorem mX4_plough (l : Launch) (A : AD) (G : GS) (Z : ZS) (z : Int) (hI : Inv G) (hz : -2147483648 ≤ z ∧ z < 2147483648) : dMi l yX4_plough wsX4_plough ({ frames := 1, cells := 0, slots := 0, locals := 22 }) A [.ref (A.a 0), .int (iI z)] G Z (yKI (if 0 ≤ z ∧ z ≤ 3 then 0 else 1) (stf G z) G G Z Z) := by
  intro sz
  refine c_start (cc := cX4_plough) (maxL := 2) (ret := (some .int)) (by decide) rfl rfl ?_
  intro p e s m args below meth c X hr hk hnm hsz ls hl H locs hC
  subst hsz
  obtain ⟨hx, hb, hml, hown, hts⟩ := id X.1
  have hl : lv_has ls 2 [(0, .ref (A.a 0)), (1, .int (iI z))] := hl
  have iX4 : ∀ w ∈ u_ws RX4 TX4 18, w ∈ wsX4_plough := by decide +kernel
  have hw := hI.vw
  refine lv_aload_n hx hb dX4_plough_0 rfl (lv_at hl 0 rfl) ?_
  refine li_c hx hb dX4_plough_1 ?_
  refine apX4_thrown X hC iX4 (by decide +kernel) dX4_plough_2 (x := 0) (by omega) (fun H locs hC => ?_)
  have hC : aH A (dAdr A) (DW A G (mkZ 0 Z.wt Z.gn Z.gs)) s H locs := hC
  refine lv_iload_n hx hb dX4_plough_5 rfl (lv_at hl 1 rfl) ?_
  refine li_c hx hb dX4_plough_6 ?_
  refine li_c hx hb dX4_plough_7 ?_
  refine d_callisx (v := bP ((0 : Int) ≤ z ∧ z ≤ (3 : Int))) (n := 3) (As := [.int (iI z), .int (iI 0), .int (iI 3)]) (rest := []) X hC (mX4_isIn l A G (mkZ 0 Z.wt Z.gn Z.gs) z (0 : Int) (3 : Int) (show -2147483648 ≤ z ∧ z < 2147483648 by omega) (show -2147483648 ≤ (0 : Int) ∧ (0 : Int) < 2147483648 by omega) (show -2147483648 ≤ (3 : Int) ∧ (3 : Int) < 2147483648 by omega)) ⟨gX4_plough_X4_isIn, ⟨_, rfl⟩, rfl, rfl, ⟨by decide, by decide, by decide +kernel⟩, Nat.le_of_ble_eq_true rfl, Nat.le_of_ble_eq_true rfl⟩ rfl hl.1 rfl (Nat.le_of_ble_eq_true rfl) ⟨Nat.le_of_ble_eq_true rfl, Nat.le_of_ble_eq_true rfl⟩ dX4_plough_8 (fun H locs hC => ?_)
  refine li_ifb_eq (tgt := 22) hx hb dX4_plough_11 (by decide) (fun c_11 => ?_) (fun c_11 => ?_)
  · refine lv_aload_n hx hb dX4_plough_22 rfl (lv_at hl 0 rfl) ?_
    refine li_c hx hb dX4_plough_23 ?_
    refine d_callix (v := 0) (n := 1) (As := [.int (iI 1)]) (rest := []) X hC (mX4_fail l A G (mkZ 0 Z.wt Z.gn Z.gs) 1) ⟨gX4_plough_X4_fail, ⟨_, rfl⟩, rfl, rfl, ⟨by decide, by decide, by decide +kernel⟩, Nat.le_of_ble_eq_true rfl, Nat.le_of_ble_eq_true rfl⟩ (a_recv (y := yX4_fail) X hC.1 (ci := 4) (q0 := 0) rfl rfl rfl) rfl hl.1 rfl (Nat.le_of_ble_eq_true rfl) ⟨Nat.le_of_ble_eq_true rfl, Nat.le_of_ble_eq_true rfl⟩ dX4_plough_24 (fun H locs hC => ?_)
    have hC : aH A (dAdr A) (DW A G (mkZ 1 Z.wt Z.gn Z.gs)) s H locs := hC
    exact d_iret X hC hr hk (Or.inr ⟨by first | decide | (rw [if_neg (by omega)]; decide) | omega, rfl, rfl, by first | rfl | (rw [if_neg (by omega)]; rfl)⟩) dX4_plough_27
  · refine lv_aload_n hx hb dX4_plough_14 rfl (lv_at hl 0 rfl) ?_
    refine lv_iload_n hx hb dX4_plough_15 rfl (lv_at hl 1 rfl) ?_
    refine d_callix (v := (stf G z)) (n := 1) (As := [.int (iI z)]) (rest := []) X hC (mX4_told l A G (mkZ 0 Z.wt Z.gn Z.gs) z (show -2147483648 ≤ z ∧ z < 2147483648 by omega) (show G.vw ≤ 1 by omega)) ⟨gX4_plough_X4_told, ⟨_, rfl⟩, rfl, rfl, ⟨by decide, by decide, by decide +kernel⟩, Nat.le_of_ble_eq_true rfl, Nat.le_of_ble_eq_true rfl⟩ (a_recv (y := yX4_told) X hC.1 (ci := 4) (q0 := 0) rfl rfl rfl) rfl hl.1 rfl (Nat.le_of_ble_eq_true rfl) ⟨Nat.le_of_ble_eq_true rfl, Nat.le_of_ble_eq_true rfl⟩ dX4_plough_16 (fun H locs hC => ?_)
    refine lv_goto (tgt := 27) hx hb dX4_plough_19 (by decide) ?_
    exact d_iret X hC hr hk (Or.inl ⟨by first | rfl | (rw [if_pos (by omega)]; done) | omega, rfl, rfl, rfl⟩) dX4_plough_27

set_option maxHeartbeats 4000000 in
set_option maxRecDepth 100000 in
theorem mX4_total (l : Launch) (A : AD) (G : GS) (Z : ZS) (z : Int) (hI : Inv G) (hz : -2147483648 ≤ z ∧ z < 2147483648) : dMl l yX4_total wsX4_total ({ frames := 1, cells := 0, slots := 0, locals := 22 }) A [.ref (A.a 0), .int (iI z)] G Z (yKL (if 0 ≤ z ∧ z ≤ 3 then 0 else 1) (ttf G z) G G Z Z) := by
  intro sz
  refine c_start (cc := cX4_total) (maxL := 2) (ret := (some .long)) (by decide) rfl rfl ?_
  intro p e s m args below meth c X hr hk hnm hsz ls hl H locs hC
  subst hsz
  obtain ⟨hx, hb, hml, hown, hts⟩ := id X.1
  have hl : lv_has ls 2 [(0, .ref (A.a 0)), (1, .int (iI z))] := hl
  have iX4 : ∀ w ∈ u_ws RX4 TX4 18, w ∈ wsX4_total := by decide +kernel
  refine lv_aload_n hx hb dX4_total_0 rfl (lv_at hl 0 rfl) ?_
  refine lv_iload_n hx hb dX4_total_1 rfl (lv_at hl 1 rfl) ?_
  refine li_c hx hb dX4_total_2 ?_
  refine li_c hx hb dX4_total_3 ?_
  refine d_callisx (v := bP ((0 : Int) ≤ z ∧ z ≤ (3 : Int))) (n := 3) (As := [.int (iI z), .int (iI 0), .int (iI 3)]) (rest := [.ref (A.a 0)]) X hC (mX4_isIn l A G Z z (0 : Int) (3 : Int) (show -2147483648 ≤ z ∧ z < 2147483648 by omega) (show -2147483648 ≤ (0 : Int) ∧ (0 : Int) < 2147483648 by omega) (show -2147483648 ≤ (3 : Int) ∧ (3 : Int) < 2147483648 by omega)) ⟨gX4_total_X4_isIn, ⟨_, rfl⟩, rfl, rfl, ⟨by decide, by decide, by decide +kernel⟩, Nat.le_of_ble_eq_true rfl, Nat.le_of_ble_eq_true rfl⟩ rfl hl.1 rfl (Nat.le_of_ble_eq_true rfl) ⟨Nat.le_of_ble_eq_true rfl, Nat.le_of_ble_eq_true rfl⟩ dX4_total_4 (fun H locs hC => ?_)
  refine li_ifb_eq (tgt := 14) hx hb dX4_total_7 (by decide) (fun c_7 => ?_) (fun c_7 => ?_)
  · refine li_c hx hb dX4_total_14 ?_
    refine apX4_thrown X hC iX4 (by decide +kernel) dX4_total_15 (x := 1) (by omega) (fun H locs hC => ?_)
    have hC : aH A (dAdr A) (DW A G (mkZ 1 Z.wt Z.gn Z.gs)) s H locs := hC
    refine lv_aload_n hx hb dX4_total_18 rfl (lv_at hl 0 rfl) ?_
    refine agX4_thrown X hC iX4 (by decide +kernel) dX4_total_19 (v := 1) rfl ?_
    refine li_if_ne (tgt := 34) hx hb dX4_total_22 (by decide) (by omega) (fun c_22 => ?_) (fun c_22 => ?_)
    · refine lv_lconst (v := 0) hx hb dX4_total_34 rfl ?_
      exact d_lret X hC hr hk (Or.inr ⟨by first | decide | (rw [if_neg (by omega)]; decide) | omega, rfl, rfl, by first | rfl | (rw [if_neg (by omega)]; rfl)⟩) dX4_total_35
    · exact absurd c_22 (by decide)
  · refine li_c hx hb dX4_total_10 ?_
    refine lv_goto (tgt := 15) hx hb dX4_total_11 (by decide) ?_
    refine apX4_thrown X hC iX4 (by decide +kernel) dX4_total_15 (x := 0) (by omega) (fun H locs hC => ?_)
    have hC : aH A (dAdr A) (DW A G (mkZ 0 Z.wt Z.gn Z.gs)) s H locs := hC
    refine lv_aload_n hx hb dX4_total_18 rfl (lv_at hl 0 rfl) ?_
    refine agX4_thrown X hC iX4 (by decide +kernel) dX4_total_19 (v := 0) rfl ?_
    refine li_if_ne (tgt := 34) hx hb dX4_total_22 (by decide) (by omega) (fun c_22 => ?_) (fun c_22 => ?_)
    · exact absurd c_22 (by decide)
    · refine lv_aload_n hx hb dX4_total_25 rfl (lv_at hl 0 rfl) ?_
      refine agX4_totals X hC iX4 (by decide +kernel) dX4_total_26 ?_
      refine lv_iload_n hx hb dX4_total_29 rfl (lv_at hl 1 rfl) ?_
      refine alD_tt (k0 := (z).toNat) (v := G.tt ((z).toNat)) X hC (by omega) (by omega) rfl dX4_total_30 ?_
      refine lv_goto (tgt := 35) hx hb dX4_total_31 (by decide) ?_
      exact d_lret X hC hr hk (Or.inl ⟨by first | rfl | (rw [if_pos (by omega)]; done) | omega, by rw [show z = ((z.toNat : Nat) : Int) by omega, ttf_n G (by omega)]; rfl, rfl, rfl⟩) dX4_total_35

set_option maxHeartbeats 4000000 in
set_option maxRecDepth 100000 in
theorem mX4_reach (l : Launch) (A : AD) (G : GS) (Z : ZS) (z : Int) (hI : Inv G) (hz : -2147483648 ≤ z ∧ z < 2147483648) : dMi l yX4_reach wsX4_reach ({ frames := 2, cells := 0, slots := 0, locals := 43 }) A [.ref (A.a 0), .int (iI z)] G Z (yKI (if 0 ≤ z ∧ z < (G.nn : Int) then 0 else 1) ((itw G (2 ^ (z).toNat) 8 : Nat) : Int) G G Z Z) := by
  intro sz
  refine c_start (cc := cX4_reach) (maxL := 5) (ret := (some .int)) (by decide) rfl rfl ?_
  intro p e s m args below meth c X hr hk hnm hsz ls hl H locs hC
  subst hsz
  obtain ⟨hx, hb, hml, hown, hts⟩ := id X.1
  have hl : lv_has ls 5 [(0, .ref (A.a 0)), (1, .int (iI z))] := hl
  have iX4 : ∀ w ∈ u_ws RX4 TX4 18, w ∈ wsX4_reach := by decide +kernel
  have hrr := hI.rr
  have hnn := hI.nn
  refine lv_aload_n hx hb dX4_reach_0 rfl (lv_at hl 0 rfl) ?_
  refine li_c hx hb dX4_reach_1 ?_
  refine apX4_thrown X hC iX4 (by decide +kernel) dX4_reach_2 (x := 0) (by omega) (fun H locs hC => ?_)
  have hC : aH A (dAdr A) (DW A G (mkZ 0 Z.wt Z.gn Z.gs)) s H locs := hC
  refine lv_aload_n hx hb dX4_reach_5 rfl (lv_at hl 0 rfl) ?_
  refine lv_iload_n hx hb dX4_reach_6 rfl (lv_at hl 1 rfl) ?_
  refine d_callix (v := bP (0 ≤ z ∧ z < (G.nn : Int))) (n := 1) (As := [.int (iI z)]) (rest := []) X hC (mX4_isNode l A G (mkZ 0 Z.wt Z.gn Z.gs) z (show -2147483648 ≤ z ∧ z < 2147483648 by omega) (show 1 ≤ G.nn ∧ G.nn ≤ 12 by omega)) ⟨gX4_reach_X4_isNode, ⟨_, rfl⟩, rfl, rfl, ⟨by decide, by decide, by decide +kernel⟩, Nat.le_of_ble_eq_true rfl, Nat.le_of_ble_eq_true rfl⟩ (a_recv (y := yX4_isNode) X hC.1 (ci := 4) (q0 := 0) rfl rfl rfl) rfl hl.1 rfl (Nat.le_of_ble_eq_true rfl) ⟨Nat.le_of_ble_eq_true rfl, Nat.le_of_ble_eq_true rfl⟩ dX4_reach_7 (fun H locs hC => ?_)
  refine li_ifb_ne (tgt := 19) hx hb dX4_reach_10 (by decide) (fun c_10 => ?_) (fun c_10 => ?_)
  · obtain ⟨zn, hzn⟩ : ∃ zn : Nat, z = (zn : Int) := ⟨z.toNat, by omega⟩
    rw [hzn] at hl
    have hp : 2 ^ zn < 256 := Nat.pow_lt_pow_right (n := 8) (by decide) (by omega)
    refine li_c hx hb dX4_reach_19 ?_
    refine lv_iload_n hx hb dX4_reach_20 rfl (lv_at hl 1 rfl) ?_
    refine li_shl1 (k0 := zn) hx hb dX4_reach_21 (by omega) (by omega) ?_
    refine lv_istore_n (lv' := [(2, .int (iI ((2 ^ zn : Nat) : Int))), (0, .ref (A.a 0)), (1, .int (iI (zn : Int)))]) hx hb dX4_reach_22 rfl hl (by decide) rfl (fun ls hl => ?_)
    refine li_c hx hb dX4_reach_23 ?_
    refine lv_istore_n (lv' := [(3, .int (iI 0)), (2, .int (iI ((2 ^ zn : Nat) : Int))), (0, .ref (A.a 0)), (1, .int (iI (zn : Int)))]) hx hb dX4_reach_24 rfl hl (by decide) rfl (fun ls hl => ?_)
    have loop_25 : ∀ (n : Nat) (i : Nat) (hn : 8 - i < n) (hi : i ≤ 8) (H : Heap) (locs : List Loc) (hC : aH A (dAdr A) (DW A G (mkZ 0 Z.wt Z.gn Z.gs)) s H locs) (ls : Array Slot) (hl : lv_has ls 5 [(3, .int (iI (i : Int))), (2, .int (iI ((itw G (2 ^ zn) i : Nat) : Int))), (0, .ref (A.a 0))]), W p l e ({ frames := 2, cells := 0, slots := 0, locals := 43 }) s m args below meth c H locs 0 0 (aQi below (dEnd A) (dAdr A) args s (yKI (if 0 ≤ z ∧ z < (G.nn : Int) then 0 else 1) ((itw G (2 ^ (z).toNat) 8 : Nat) : Int) G G Z Z)) (F0 m 25 ls []) := by
      intro n
      induction n with
      | zero => intro i hn; exact absurd hn (Nat.not_lt_zero _)
      | succ n ih_25 =>
        intro i hn hi H locs hC ls hl
        have hw0 := itw_lt hI hp i
        refine lv_iload_n hx hb dX4_reach_25 rfl (lv_at hl 0 rfl) ?_
        refine li_bi hx hb dX4_reach_26 (by decide) ?_
        refine li_icmp_ge (tgt := 95) hx hb dX4_reach_28 (by decide) (by omega) (fun c_28 => ?_) (fun c_28 => ?_)
        · refine lv_iload_n hx hb dX4_reach_95 rfl (lv_at hl 1 rfl) ?_
          exact d_iret X hC hr hk (by rw [show z.toNat = zn by omega]; exact Or.inl ⟨if_pos (by omega), by rw [show i = 8 by omega], rfl, rfl⟩) dX4_reach_96
        · refine li_c hx hb dX4_reach_31 ?_
          refine lv_istore (lv' := [(4, .int (iI 0)), (3, .int (iI (i : Int))), (2, .int (iI ((itw G (2 ^ zn) i : Nat) : Int))), (0, .ref (A.a 0))]) hx hb dX4_reach_32 hl (by decide) rfl (fun ls hl => ?_)
          have loop_34 : ∀ (n : Nat) (j : Nat) (hn : 2 * G.rr - j < n) (hj : j ≤ 2 * G.rr) (H : Heap) (locs : List Loc) (hC : aH A (dAdr A) (DW A G (mkZ 0 Z.wt Z.gn Z.gs)) s H locs) (ls : Array Slot) (hl : lv_has ls 5 [(4, .int (iI (j : Int))), (3, .int (iI (i : Int))), (2, .int (iI ((wnb G (itw G (2 ^ zn) i) j : Nat) : Int))), (0, .ref (A.a 0))]), W p l e ({ frames := 2, cells := 0, slots := 0, locals := 43 }) s m args below meth c H locs 0 0 (aQi below (dEnd A) (dAdr A) args s (yKI (if 0 ≤ z ∧ z < (G.nn : Int) then 0 else 1) ((itw G (2 ^ (z).toNat) 8 : Nat) : Int) G G Z Z)) (F0 m 34 ls []) := by
            intro n
            induction n with
            | zero => intro j hn; exact absurd hn (Nat.not_lt_zero _)
            | succ n ih_34 =>
              intro j hn hj H locs hC ls hl
              have hw := wnb_lt hI hw0 j
              have hs1 := hI.sm j
              have hs2 := hI.sm (op j)
              have h9 : (wnb G (itw G (2 ^ zn) i) j / 2 ^ G.sm j) &&& 1 ≤ 1 := Nat.and_le_right
              have hd9 := hI.de j
              refine lv_iload hx hb dX4_reach_34 (lv_at hl 0 rfl) ?_
              refine li_c hx hb dX4_reach_36 ?_
              refine lv_aload_n hx hb dX4_reach_37 rfl (lv_at hl 3 rfl) ?_
              refine agX4_roads X hC iX4 (by decide +kernel) dX4_reach_38 (v := (G.rr : Int)) rfl ?_
              refine li_mulN (x := 2) (y := G.rr) hx hb dX4_reach_41 rfl rfl ?_
              refine li_icmp_ge (tgt := 89) hx hb dX4_reach_42 (by decide) (by omega) (fun c_42 => ?_) (fun c_42 => ?_)
              · refine li_incN (lv' := [(3, .int (iI ((i + 1 : Nat) : Int))), (4, .int (iI (j : Int))), (2, .int (iI ((wnb G (itw G (2 ^ zn) i) j : Nat) : Int))), (0, .ref (A.a 0))]) (x := i) (d0 := 1) hx hb dX4_reach_89 hl (k := 1) rfl rfl rfl (by decide) rfl (fun ls hl => ?_)
                refine lv_goto (tgt := 25) hx hb dX4_reach_92 (by decide) ?_
                rw [show wnb G (itw G (2 ^ zn) i) j = itw G (2 ^ zn) (i + 1) by rw [show j = 2 * G.rr by omega]; rfl] at hl
                exact ih_25 (i + 1) (by omega) (by omega) H locs hC ls (lv_sub hl [0, 2, 3] rfl)
              · refine lv_iload_n hx hb dX4_reach_45 rfl (lv_at hl 2 rfl) ?_
                refine lv_aload_n hx hb dX4_reach_46 rfl (lv_at hl 3 rfl) ?_
                refine lv_iload hx hb dX4_reach_47 (lv_at hl 0 rfl) ?_
                refine d_callix (v := ((G.sm j : Nat) : Int)) (n := 1) (As := [.int (iI (j : Int))]) (rest := [.int (iI ((wnb G (itw G (2 ^ zn) i) j : Nat) : Int))]) X hC (mX4_tail l A G (mkZ 0 Z.wt Z.gn Z.gs) j (show j < 24 by omega)) ⟨gX4_reach_X4_tail, ⟨_, rfl⟩, rfl, rfl, ⟨by decide, by decide, by decide +kernel⟩, Nat.le_of_ble_eq_true rfl, Nat.le_of_ble_eq_true rfl⟩ (a_recv (y := yX4_tail) X hC.1 (ci := 4) (q0 := 0) rfl rfl rfl) rfl hl.1 rfl (Nat.le_of_ble_eq_true rfl) ⟨Nat.le_of_ble_eq_true rfl, Nat.le_of_ble_eq_true rfl⟩ dX4_reach_49 (fun H locs hC => ?_)
                refine li_shr (a0 := wnb G (itw G (2 ^ zn) i) j) (k0 := G.sm j) hx hb dX4_reach_52 (by omega) (by omega) (by omega) ?_
                refine li_c hx hb dX4_reach_53 ?_
                refine li_and (a0 := (wnb G (itw G (2 ^ zn) i) j) / 2 ^ (G.sm j)) (b0 := 1) hx hb dX4_reach_54 (by omega) (by omega) ?_
                refine li_c hx hb dX4_reach_55 ?_
                refine li_icmp_ne (tgt := 83) hx hb dX4_reach_56 (by decide) (by omega) (fun c_56 => ?_) (fun c_56 => ?_)
                · refine li_incN (lv' := [(4, .int (iI ((j + 1 : Nat) : Int))), (3, .int (iI (i : Int))), (2, .int (iI ((wnb G (itw G (2 ^ zn) i) j : Nat) : Int))), (0, .ref (A.a 0))]) (x := j) (d0 := 1) hx hb dX4_reach_83 hl (k := 0) rfl rfl rfl (by decide) rfl (fun ls hl => ?_)
                  refine lv_goto (tgt := 34) hx hb dX4_reach_86 (by decide) ?_
                  have e1 : wnb G (itw G (2 ^ zn) i) j = wnb G (itw G (2 ^ zn) i) (j + 1) := by rw [wnb_s]; first | rw [if_pos ⟨by omega, by omega⟩] | rw [if_neg (fun hq => by obtain ⟨h1, h2⟩ := hq; omega)]
                  rw [e1] at hl
                  exact ih_34 (j + 1) (by omega) (by omega) H locs hC ls (lv_sub hl [0, 1, 2, 3] rfl)
                · refine lv_aload_n hx hb dX4_reach_59 rfl (lv_at hl 3 rfl) ?_
                  refine agX4_depths X hC iX4 (by decide +kernel) dX4_reach_60 ?_
                  refine lv_iload hx hb dX4_reach_63 (lv_at hl 0 rfl) ?_
                  refine alD_de (k0 := j) (v := ((G.de j : Nat) : Int)) X hC (by omega) (by omega) rfl dX4_reach_65 ?_
                  have hb1 := hI.de j
                  refine li_si hx hb dX4_reach_66 (by decide) ?_
                  refine li_icmp_ge (tgt := 83) hx hb dX4_reach_69 (by decide) (by omega) (fun c_69 => ?_) (fun c_69 => ?_)
                  · refine li_incN (lv' := [(4, .int (iI ((j + 1 : Nat) : Int))), (3, .int (iI (i : Int))), (2, .int (iI ((wnb G (itw G (2 ^ zn) i) j : Nat) : Int))), (0, .ref (A.a 0))]) (x := j) (d0 := 1) hx hb dX4_reach_83 hl (k := 0) rfl rfl rfl (by decide) rfl (fun ls hl => ?_)
                    refine lv_goto (tgt := 34) hx hb dX4_reach_86 (by decide) ?_
                    have e1 : wnb G (itw G (2 ^ zn) i) j = wnb G (itw G (2 ^ zn) i) (j + 1) := by rw [wnb_s]; first | rw [if_pos ⟨by omega, by omega⟩] | rw [if_neg (fun hq => by obtain ⟨h1, h2⟩ := hq; omega)]
                    rw [e1] at hl
                    exact ih_34 (j + 1) (by omega) (by omega) H locs hC ls (lv_sub hl [0, 1, 2, 3] rfl)
                  · refine lv_iload_n hx hb dX4_reach_72 rfl (lv_at hl 2 rfl) ?_
                    refine li_c hx hb dX4_reach_73 ?_
                    refine lv_aload_n hx hb dX4_reach_74 rfl (lv_at hl 3 rfl) ?_
                    refine lv_iload hx hb dX4_reach_75 (lv_at hl 0 rfl) ?_
                    refine d_callix (v := ((G.sm (op j) : Nat) : Int)) (n := 1) (As := [.int (iI (j : Int))]) (rest := [.int (iI 1), .int (iI ((wnb G (itw G (2 ^ zn) i) j : Nat) : Int))]) X hC (mX4_head l A G (mkZ 0 Z.wt Z.gn Z.gs) j (show j < 24 by omega)) ⟨gX4_reach_X4_head, ⟨_, rfl⟩, rfl, rfl, ⟨by decide, by decide, by decide +kernel⟩, Nat.le_of_ble_eq_true rfl, Nat.le_of_ble_eq_true rfl⟩ (a_recv (y := yX4_head) X hC.1 (ci := 4) (q0 := 0) rfl rfl rfl) rfl hl.1 rfl (Nat.le_of_ble_eq_true rfl) ⟨Nat.le_of_ble_eq_true rfl, Nat.le_of_ble_eq_true rfl⟩ dX4_reach_77 (fun H locs hC => ?_)
                    refine li_shl1 (k0 := G.sm (op j)) hx hb dX4_reach_80 (by omega) (by omega) ?_
                    refine li_or (a0 := wnb G (itw G (2 ^ zn) i) j) (b0 := 2 ^ (G.sm (op j))) hx hb dX4_reach_81 (by omega) (by omega) ?_
                    refine lv_istore_n (lv' := [(2, .int (iI (((wnb G (itw G (2 ^ zn) i) j) ||| (2 ^ (G.sm (op j))) : Nat) : Int))), (4, .int (iI (j : Int))), (3, .int (iI (i : Int))), (0, .ref (A.a 0))]) hx hb dX4_reach_82 rfl hl (by decide) rfl (fun ls hl => ?_)
                    refine li_incN (lv' := [(4, .int (iI ((j + 1 : Nat) : Int))), (2, .int (iI (((wnb G (itw G (2 ^ zn) i) j) ||| (2 ^ (G.sm (op j))) : Nat) : Int))), (3, .int (iI (i : Int))), (0, .ref (A.a 0))]) (x := j) (d0 := 1) hx hb dX4_reach_83 hl (k := 1) rfl rfl rfl (by decide) rfl (fun ls hl => ?_)
                    refine lv_goto (tgt := 34) hx hb dX4_reach_86 (by decide) ?_
                    have e1 : (wnb G (itw G (2 ^ zn) i) j) ||| (2 ^ (G.sm (op j))) = wnb G (itw G (2 ^ zn) i) (j + 1) := by rw [wnb_s]; first | rw [if_pos ⟨by omega, by omega⟩] | rw [if_neg (fun hq => by obtain ⟨h1, h2⟩ := hq; omega)]
                    rw [e1] at hl
                    exact ih_34 (j + 1) (by omega) (by omega) H locs hC ls (lv_sub hl [0, 2, 1, 3] rfl)
          exact loop_34 ((2 * G.rr) + 1) 0 (Nat.lt_succ_self _) (by omega) H locs hC ls (lv_sub hl [0, 1, 2, 3] rfl)
    exact loop_25 (8 + 1) 0 (Nat.lt_succ_self _) (by omega) H locs hC ls (lv_sub hl [0, 1, 2] rfl)
  · refine lv_aload_n hx hb dX4_reach_13 rfl (lv_at hl 0 rfl) ?_
    refine li_c hx hb dX4_reach_14 ?_
    refine d_callix (v := 0) (n := 1) (As := [.int (iI 1)]) (rest := []) X hC (mX4_fail l A G (mkZ 0 Z.wt Z.gn Z.gs) 1) ⟨gX4_reach_X4_fail, ⟨_, rfl⟩, rfl, rfl, ⟨by decide, by decide, by decide +kernel⟩, Nat.le_of_ble_eq_true rfl, Nat.le_of_ble_eq_true rfl⟩ (a_recv (y := yX4_fail) X hC.1 (ci := 4) (q0 := 0) rfl rfl rfl) rfl hl.1 rfl (Nat.le_of_ble_eq_true rfl) ⟨Nat.le_of_ble_eq_true rfl, Nat.le_of_ble_eq_true rfl⟩ dX4_reach_15 (fun H locs hC => ?_)
    have hC : aH A (dAdr A) (DW A G (mkZ 1 Z.wt Z.gn Z.gs)) s H locs := hC
    exact d_iret X hC hr hk (Or.inr ⟨by first | decide | (rw [if_neg (by omega)]; decide) | omega, rfl, rfl, by first | rfl | (rw [if_neg (by omega)]; rfl)⟩) dX4_reach_18

set_option maxHeartbeats 4000000 in
set_option maxRecDepth 100000 in
theorem mX4_addRoad (l : Launch) (A : AD) (G : GS) (Z : ZS) (a : Int) (b : Int) (mm : Int) (q : Int) (hI : Inv G) (ha : -2147483648 ≤ a ∧ a < 2147483648) (hb1 : -2147483648 ≤ b ∧ b < 2147483648) (hm : -2147483648 ≤ mm ∧ mm < 2147483648) (hq : -2147483648 ≤ q ∧ q < 2147483648) : dMi l yX4_addRoad wsX4_addRoad ({ frames := 2, cells := 0, slots := 0, locals := 43 }) A [.ref (A.a 0), .int (iI a), .int (iI b), .int (iI mm), .int (iI q)] G Z (yKI (kRoad G a b mm q) (G.rr : Int) G ((((G.sm' (up (up G.sm (2 * G.rr) (a).toNat) (2 * G.rr + 1) (b).toNat)).mi' (up G.mi G.rr (mm).toNat)).pr' (up G.pr G.rr (q).toNat)).rr' (G.rr + 1)) Z Z) := by
  intro sz
  refine c_start (cc := cX4_addRoad) (maxL := 5) (ret := (some .int)) (by decide) rfl rfl ?_
  intro p e s m args below meth c X hr hk hnm hsz ls hl H locs hC
  subst hsz
  obtain ⟨hx, hb, hml, hown, hts⟩ := id X.1
  have hl : lv_has ls 5 [(0, .ref (A.a 0)), (1, .int (iI a)), (2, .int (iI b)), (3, .int (iI mm)), (4, .int (iI q))] := hl
  have iX4 : ∀ w ∈ u_ws RX4 TX4 18, w ∈ wsX4_addRoad := by decide +kernel
  have hrr := hI.rr
  have hnn := hI.nn
  refine lv_aload_n hx hb dX4_addRoad_0 rfl (lv_at hl 0 rfl) ?_
  refine li_c hx hb dX4_addRoad_1 ?_
  refine apX4_thrown X hC iX4 (by decide +kernel) dX4_addRoad_2 (x := 0) (by omega) (fun H locs hC => ?_)
  have hC : aH A (dAdr A) (DW A G (mkZ 0 Z.wt Z.gn Z.gs)) s H locs := hC
  refine lv_aload_n hx hb dX4_addRoad_5 rfl (lv_at hl 0 rfl) ?_
  refine lv_iload_n hx hb dX4_addRoad_6 rfl (lv_at hl 1 rfl) ?_
  refine d_callix (v := bP (0 ≤ a ∧ a < (G.nn : Int))) (n := 1) (As := [.int (iI a)]) (rest := []) X hC (mX4_isNode l A G (mkZ 0 Z.wt Z.gn Z.gs) a (show -2147483648 ≤ a ∧ a < 2147483648 by omega) (show 1 ≤ G.nn ∧ G.nn ≤ 12 by omega)) ⟨gX4_addRoad_X4_isNode, ⟨_, rfl⟩, rfl, rfl, ⟨by decide, by decide, by decide +kernel⟩, Nat.le_of_ble_eq_true rfl, Nat.le_of_ble_eq_true rfl⟩ (a_recv (y := yX4_isNode) X hC.1 (ci := 4) (q0 := 0) rfl rfl rfl) rfl hl.1 rfl (Nat.le_of_ble_eq_true rfl) ⟨Nat.le_of_ble_eq_true rfl, Nat.le_of_ble_eq_true rfl⟩ dX4_addRoad_7 (fun H locs hC => ?_)
  refine li_ifb_eq (tgt := 21) hx hb dX4_addRoad_10 (by decide) (fun c_10 => ?_) (fun c_10 => ?_)
  · refine lv_aload_n hx hb dX4_addRoad_21 rfl (lv_at hl 0 rfl) ?_
    refine li_c hx hb dX4_addRoad_22 ?_
    refine d_callix (v := 0) (n := 1) (As := [.int (iI 1)]) (rest := []) X hC (mX4_fail l A G (mkZ 0 Z.wt Z.gn Z.gs) 1) ⟨gX4_addRoad_X4_fail, ⟨_, rfl⟩, rfl, rfl, ⟨by decide, by decide, by decide +kernel⟩, Nat.le_of_ble_eq_true rfl, Nat.le_of_ble_eq_true rfl⟩ (a_recv (y := yX4_fail) X hC.1 (ci := 4) (q0 := 0) rfl rfl rfl) rfl hl.1 rfl (Nat.le_of_ble_eq_true rfl) ⟨Nat.le_of_ble_eq_true rfl, Nat.le_of_ble_eq_true rfl⟩ dX4_addRoad_23 (fun H locs hC => ?_)
    have hC : aH A (dAdr A) (DW A G (mkZ 1 Z.wt Z.gn Z.gs)) s H locs := hC
    exact d_iret X hC hr hk (Or.inr ⟨by unfold kRoad; rw [if_neg (by omega)]; decide, rfl, rfl, by unfold kRoad; rw [if_neg (by omega)]; rfl⟩) dX4_addRoad_26
  · refine lv_aload_n hx hb dX4_addRoad_13 rfl (lv_at hl 0 rfl) ?_
    refine lv_iload_n hx hb dX4_addRoad_14 rfl (lv_at hl 2 rfl) ?_
    refine d_callix (v := bP (0 ≤ b ∧ b < (G.nn : Int))) (n := 1) (As := [.int (iI b)]) (rest := []) X hC (mX4_isNode l A G (mkZ 0 Z.wt Z.gn Z.gs) b (show -2147483648 ≤ b ∧ b < 2147483648 by omega) (show 1 ≤ G.nn ∧ G.nn ≤ 12 by omega)) ⟨gX4_addRoad_X4_isNode, ⟨_, rfl⟩, rfl, rfl, ⟨by decide, by decide, by decide +kernel⟩, Nat.le_of_ble_eq_true rfl, Nat.le_of_ble_eq_true rfl⟩ (a_recv (y := yX4_isNode) X hC.1 (ci := 4) (q0 := 0) rfl rfl rfl) rfl hl.1 rfl (Nat.le_of_ble_eq_true rfl) ⟨Nat.le_of_ble_eq_true rfl, Nat.le_of_ble_eq_true rfl⟩ dX4_addRoad_15 (fun H locs hC => ?_)
    refine li_ifb_ne (tgt := 27) hx hb dX4_addRoad_18 (by decide) (fun c_18 => ?_) (fun c_18 => ?_)
    · refine lv_iload_n hx hb dX4_addRoad_27 rfl (lv_at hl 1 rfl) ?_
      refine lv_iload_n hx hb dX4_addRoad_28 rfl (lv_at hl 2 rfl) ?_
      refine li_icmp_eq (tgt := 52) hx hb dX4_addRoad_29 (by decide) (by omega) (fun c_29 => ?_) (fun c_29 => ?_)
      · refine lv_aload_n hx hb dX4_addRoad_52 rfl (lv_at hl 0 rfl) ?_
        refine li_c hx hb dX4_addRoad_53 ?_
        refine d_callix (v := 0) (n := 1) (As := [.int (iI 2)]) (rest := []) X hC (mX4_fail l A G (mkZ 0 Z.wt Z.gn Z.gs) 2) ⟨gX4_addRoad_X4_fail, ⟨_, rfl⟩, rfl, rfl, ⟨by decide, by decide, by decide +kernel⟩, Nat.le_of_ble_eq_true rfl, Nat.le_of_ble_eq_true rfl⟩ (a_recv (y := yX4_fail) X hC.1 (ci := 4) (q0 := 0) rfl rfl rfl) rfl hl.1 rfl (Nat.le_of_ble_eq_true rfl) ⟨Nat.le_of_ble_eq_true rfl, Nat.le_of_ble_eq_true rfl⟩ dX4_addRoad_54 (fun H locs hC => ?_)
        have hC : aH A (dAdr A) (DW A G (mkZ 2 Z.wt Z.gn Z.gs)) s H locs := hC
        exact d_iret X hC hr hk (Or.inr ⟨by unfold kRoad; rw [if_pos (by omega), if_neg (by omega)]; decide, rfl, rfl, by unfold kRoad; rw [if_pos (by omega), if_neg (by omega)]; rfl⟩) dX4_addRoad_57
      · refine lv_iload_n hx hb dX4_addRoad_32 rfl (lv_at hl 3 rfl) ?_
        refine li_c hx hb dX4_addRoad_33 ?_
        refine li_bi hx hb dX4_addRoad_34 (by decide) ?_
        refine d_callisx (v := bP ((1 : Int) ≤ mm ∧ mm ≤ (30 : Int))) (n := 3) (As := [.int (iI mm), .int (iI 1), .int (iI 30)]) (rest := []) X hC (mX4_isIn l A G (mkZ 0 Z.wt Z.gn Z.gs) mm (1 : Int) (30 : Int) (show -2147483648 ≤ mm ∧ mm < 2147483648 by omega) (show -2147483648 ≤ (1 : Int) ∧ (1 : Int) < 2147483648 by omega) (show -2147483648 ≤ (30 : Int) ∧ (30 : Int) < 2147483648 by omega)) ⟨gX4_addRoad_X4_isIn, ⟨_, rfl⟩, rfl, rfl, ⟨by decide, by decide, by decide +kernel⟩, Nat.le_of_ble_eq_true rfl, Nat.le_of_ble_eq_true rfl⟩ rfl hl.1 rfl (Nat.le_of_ble_eq_true rfl) ⟨Nat.le_of_ble_eq_true rfl, Nat.le_of_ble_eq_true rfl⟩ dX4_addRoad_36 (fun H locs hC => ?_)
        refine li_ifb_eq (tgt := 52) hx hb dX4_addRoad_39 (by decide) (fun c_39 => ?_) (fun c_39 => ?_)
        · refine lv_aload_n hx hb dX4_addRoad_52 rfl (lv_at hl 0 rfl) ?_
          refine li_c hx hb dX4_addRoad_53 ?_
          refine d_callix (v := 0) (n := 1) (As := [.int (iI 2)]) (rest := []) X hC (mX4_fail l A G (mkZ 0 Z.wt Z.gn Z.gs) 2) ⟨gX4_addRoad_X4_fail, ⟨_, rfl⟩, rfl, rfl, ⟨by decide, by decide, by decide +kernel⟩, Nat.le_of_ble_eq_true rfl, Nat.le_of_ble_eq_true rfl⟩ (a_recv (y := yX4_fail) X hC.1 (ci := 4) (q0 := 0) rfl rfl rfl) rfl hl.1 rfl (Nat.le_of_ble_eq_true rfl) ⟨Nat.le_of_ble_eq_true rfl, Nat.le_of_ble_eq_true rfl⟩ dX4_addRoad_54 (fun H locs hC => ?_)
          have hC : aH A (dAdr A) (DW A G (mkZ 2 Z.wt Z.gn Z.gs)) s H locs := hC
          exact d_iret X hC hr hk (Or.inr ⟨by unfold kRoad; rw [if_pos (by omega), if_neg (by omega)]; decide, rfl, rfl, by unfold kRoad; rw [if_pos (by omega), if_neg (by omega)]; rfl⟩) dX4_addRoad_57
        · refine lv_iload hx hb dX4_addRoad_42 (lv_at hl 4 rfl) ?_
          refine li_c hx hb dX4_addRoad_44 ?_
          refine li_c hx hb dX4_addRoad_45 ?_
          refine d_callisx (v := bP ((0 : Int) ≤ q ∧ q ≤ (2 : Int))) (n := 3) (As := [.int (iI q), .int (iI 0), .int (iI 2)]) (rest := []) X hC (mX4_isIn l A G (mkZ 0 Z.wt Z.gn Z.gs) q (0 : Int) (2 : Int) (show -2147483648 ≤ q ∧ q < 2147483648 by omega) (show -2147483648 ≤ (0 : Int) ∧ (0 : Int) < 2147483648 by omega) (show -2147483648 ≤ (2 : Int) ∧ (2 : Int) < 2147483648 by omega)) ⟨gX4_addRoad_X4_isIn, ⟨_, rfl⟩, rfl, rfl, ⟨by decide, by decide, by decide +kernel⟩, Nat.le_of_ble_eq_true rfl, Nat.le_of_ble_eq_true rfl⟩ rfl hl.1 rfl (Nat.le_of_ble_eq_true rfl) ⟨Nat.le_of_ble_eq_true rfl, Nat.le_of_ble_eq_true rfl⟩ dX4_addRoad_46 (fun H locs hC => ?_)
          refine li_ifb_ne (tgt := 58) hx hb dX4_addRoad_49 (by decide) (fun c_49 => ?_) (fun c_49 => ?_)
          · refine lv_aload_n hx hb dX4_addRoad_58 rfl (lv_at hl 0 rfl) ?_
            refine agX4_roads X hC iX4 (by decide +kernel) dX4_addRoad_59 (v := (G.rr : Int)) rfl ?_
            refine li_bi hx hb dX4_addRoad_62 (by decide) ?_
            refine li_icmp_ne (tgt := 73) hx hb dX4_addRoad_64 (by decide) (by omega) (fun c_64 => ?_) (fun c_64 => ?_)
            · refine lv_aload_n hx hb dX4_addRoad_73 rfl (lv_at hl 0 rfl) ?_
              refine agX4_ends X hC iX4 (by decide +kernel) dX4_addRoad_74 ?_
              refine li_c hx hb dX4_addRoad_77 ?_
              refine lv_aload_n hx hb dX4_addRoad_78 rfl (lv_at hl 0 rfl) ?_
              refine agX4_roads X hC iX4 (by decide +kernel) dX4_addRoad_79 (v := (G.rr : Int)) rfl ?_
              refine li_mulN (x := 2) (y := G.rr) hx hb dX4_addRoad_82 rfl rfl ?_
              refine lv_iload_n hx hb dX4_addRoad_83 rfl (lv_at hl 1 rfl) ?_
              refine asD_sm (k0 := 2 * G.rr) (x := (a).toNat) X hC (by omega) (by omega) (by omega) dX4_addRoad_84 (fun H locs hC => ?_)
              have hC : aH A (dAdr A) (DW A (mkG G.tu G.st (up G.sm (2 * G.rr) ((a).toNat)) G.mi G.pr G.de G.sa G.nn G.rr G.vn G.vc G.vs G.vw G.tt) (mkZ 0 Z.wt Z.gn Z.gs)) s H locs := hC
              refine lv_aload_n hx hb dX4_addRoad_85 rfl (lv_at hl 0 rfl) ?_
              refine agX4_ends X hC iX4 (by decide +kernel) dX4_addRoad_86 ?_
              refine li_c hx hb dX4_addRoad_89 ?_
              refine lv_aload_n hx hb dX4_addRoad_90 rfl (lv_at hl 0 rfl) ?_
              refine agX4_roads X hC iX4 (by decide +kernel) dX4_addRoad_91 (v := (G.rr : Int)) rfl ?_
              refine li_mulN (x := 2) (y := G.rr) hx hb dX4_addRoad_94 rfl rfl ?_
              refine li_c hx hb dX4_addRoad_95 ?_
              refine li_addN (x := 2 * G.rr) (y := 1) hx hb dX4_addRoad_96 rfl rfl ?_
              refine lv_iload_n hx hb dX4_addRoad_97 rfl (lv_at hl 2 rfl) ?_
              refine asD_sm (k0 := (2 * G.rr) + 1) (x := (b).toNat) X hC (by omega) (by omega) (by omega) dX4_addRoad_98 (fun H locs hC => ?_)
              have hC : aH A (dAdr A) (DW A (mkG G.tu G.st (up (up G.sm (2 * G.rr) ((a).toNat)) ((2 * G.rr) + 1) ((b).toNat)) G.mi G.pr G.de G.sa G.nn G.rr G.vn G.vc G.vs G.vw G.tt) (mkZ 0 Z.wt Z.gn Z.gs)) s H locs := hC
              refine lv_aload_n hx hb dX4_addRoad_99 rfl (lv_at hl 0 rfl) ?_
              refine agX4_lengths X hC iX4 (by decide +kernel) dX4_addRoad_100 ?_
              refine lv_aload_n hx hb dX4_addRoad_103 rfl (lv_at hl 0 rfl) ?_
              refine agX4_roads X hC iX4 (by decide +kernel) dX4_addRoad_104 (v := (G.rr : Int)) rfl ?_
              refine lv_iload_n hx hb dX4_addRoad_107 rfl (lv_at hl 3 rfl) ?_
              refine asD_mi (k0 := G.rr) (x := (mm).toNat) X hC (by omega) (by omega) (by omega) dX4_addRoad_108 (fun H locs hC => ?_)
              have hC : aH A (dAdr A) (DW A (mkG G.tu G.st (up (up G.sm (2 * G.rr) ((a).toNat)) ((2 * G.rr) + 1) ((b).toNat)) (up G.mi G.rr ((mm).toNat)) G.pr G.de G.sa G.nn G.rr G.vn G.vc G.vs G.vw G.tt) (mkZ 0 Z.wt Z.gn Z.gs)) s H locs := hC
              refine lv_aload_n hx hb dX4_addRoad_109 rfl (lv_at hl 0 rfl) ?_
              refine agX4_priorities X hC iX4 (by decide +kernel) dX4_addRoad_110 ?_
              refine lv_aload_n hx hb dX4_addRoad_113 rfl (lv_at hl 0 rfl) ?_
              refine agX4_roads X hC iX4 (by decide +kernel) dX4_addRoad_114 (v := (G.rr : Int)) rfl ?_
              refine lv_iload hx hb dX4_addRoad_117 (lv_at hl 4 rfl) ?_
              refine asD_pr (k0 := G.rr) (x := (q).toNat) X hC (by omega) (by omega) (by omega) dX4_addRoad_119 (fun H locs hC => ?_)
              have hC : aH A (dAdr A) (DW A (mkG G.tu G.st (up (up G.sm (2 * G.rr) ((a).toNat)) ((2 * G.rr) + 1) ((b).toNat)) (up G.mi G.rr ((mm).toNat)) (up G.pr G.rr ((q).toNat)) G.de G.sa G.nn G.rr G.vn G.vc G.vs G.vw G.tt) (mkZ 0 Z.wt Z.gn Z.gs)) s H locs := hC
              refine lv_aload_n hx hb dX4_addRoad_120 rfl (lv_at hl 0 rfl) ?_
              refine lv_dup hx hb dX4_addRoad_121 rfl ?_
              refine agX4_roads X hC iX4 (by decide +kernel) dX4_addRoad_122 (v := (G.rr : Int)) rfl ?_
              refine li_c hx hb dX4_addRoad_125 ?_
              refine li_addN (x := G.rr) (y := 1) hx hb dX4_addRoad_126 rfl rfl ?_
              refine apX4_roads X hC iX4 (by decide +kernel) dX4_addRoad_127 (x := G.rr + 1) (by omega) (fun H locs hC => ?_)
              have hC : aH A (dAdr A) (DW A (mkG G.tu G.st (up (up G.sm (2 * G.rr) ((a).toNat)) ((2 * G.rr) + 1) ((b).toNat)) (up G.mi G.rr ((mm).toNat)) (up G.pr G.rr ((q).toNat)) G.de G.sa G.nn (G.rr + 1) G.vn G.vc G.vs G.vw G.tt) (mkZ 0 Z.wt Z.gn Z.gs)) s H locs := hC
              refine lv_aload_n hx hb dX4_addRoad_130 rfl (lv_at hl 0 rfl) ?_
              refine agX4_roads X hC iX4 (by decide +kernel) dX4_addRoad_131 (v := ((G.rr + 1 : Nat) : Int)) rfl ?_
              refine li_c hx hb dX4_addRoad_134 ?_
              refine li_subN (x := G.rr + 1) (y := 1) hx hb dX4_addRoad_135 rfl rfl (by omega) ?_
              exact d_iret X hC hr hk (Or.inl ⟨by unfold kRoad; rw [if_pos (by omega), if_pos (by omega), if_pos (by omega)], by omega, rfl, rfl⟩) dX4_addRoad_136
            · refine lv_aload_n hx hb dX4_addRoad_67 rfl (lv_at hl 0 rfl) ?_
              refine li_c hx hb dX4_addRoad_68 ?_
              refine d_callix (v := 0) (n := 1) (As := [.int (iI 3)]) (rest := []) X hC (mX4_fail l A G (mkZ 0 Z.wt Z.gn Z.gs) 3) ⟨gX4_addRoad_X4_fail, ⟨_, rfl⟩, rfl, rfl, ⟨by decide, by decide, by decide +kernel⟩, Nat.le_of_ble_eq_true rfl, Nat.le_of_ble_eq_true rfl⟩ (a_recv (y := yX4_fail) X hC.1 (ci := 4) (q0 := 0) rfl rfl rfl) rfl hl.1 rfl (Nat.le_of_ble_eq_true rfl) ⟨Nat.le_of_ble_eq_true rfl, Nat.le_of_ble_eq_true rfl⟩ dX4_addRoad_69 (fun H locs hC => ?_)
              have hC : aH A (dAdr A) (DW A G (mkZ 3 Z.wt Z.gn Z.gs)) s H locs := hC
              exact d_iret X hC hr hk (Or.inr ⟨by unfold kRoad; rw [if_pos (by omega), if_pos (by omega), if_neg (by omega)]; decide, rfl, rfl, by unfold kRoad; rw [if_pos (by omega), if_pos (by omega), if_neg (by omega)]; rfl⟩) dX4_addRoad_72
          · refine lv_aload_n hx hb dX4_addRoad_52 rfl (lv_at hl 0 rfl) ?_
            refine li_c hx hb dX4_addRoad_53 ?_
            refine d_callix (v := 0) (n := 1) (As := [.int (iI 2)]) (rest := []) X hC (mX4_fail l A G (mkZ 0 Z.wt Z.gn Z.gs) 2) ⟨gX4_addRoad_X4_fail, ⟨_, rfl⟩, rfl, rfl, ⟨by decide, by decide, by decide +kernel⟩, Nat.le_of_ble_eq_true rfl, Nat.le_of_ble_eq_true rfl⟩ (a_recv (y := yX4_fail) X hC.1 (ci := 4) (q0 := 0) rfl rfl rfl) rfl hl.1 rfl (Nat.le_of_ble_eq_true rfl) ⟨Nat.le_of_ble_eq_true rfl, Nat.le_of_ble_eq_true rfl⟩ dX4_addRoad_54 (fun H locs hC => ?_)
            have hC : aH A (dAdr A) (DW A G (mkZ 2 Z.wt Z.gn Z.gs)) s H locs := hC
            exact d_iret X hC hr hk (Or.inr ⟨by unfold kRoad; rw [if_pos (by omega), if_neg (by omega)]; decide, rfl, rfl, by unfold kRoad; rw [if_pos (by omega), if_neg (by omega)]; rfl⟩) dX4_addRoad_57
    · refine lv_aload_n hx hb dX4_addRoad_21 rfl (lv_at hl 0 rfl) ?_
      refine li_c hx hb dX4_addRoad_22 ?_
      refine d_callix (v := 0) (n := 1) (As := [.int (iI 1)]) (rest := []) X hC (mX4_fail l A G (mkZ 0 Z.wt Z.gn Z.gs) 1) ⟨gX4_addRoad_X4_fail, ⟨_, rfl⟩, rfl, rfl, ⟨by decide, by decide, by decide +kernel⟩, Nat.le_of_ble_eq_true rfl, Nat.le_of_ble_eq_true rfl⟩ (a_recv (y := yX4_fail) X hC.1 (ci := 4) (q0 := 0) rfl rfl rfl) rfl hl.1 rfl (Nat.le_of_ble_eq_true rfl) ⟨Nat.le_of_ble_eq_true rfl, Nat.le_of_ble_eq_true rfl⟩ dX4_addRoad_23 (fun H locs hC => ?_)
      have hC : aH A (dAdr A) (DW A G (mkZ 1 Z.wt Z.gn Z.gs)) s H locs := hC
      exact d_iret X hC hr hk (Or.inr ⟨by unfold kRoad; rw [if_neg (by omega)]; decide, rfl, rfl, by unfold kRoad; rw [if_neg (by omega)]; rfl⟩) dX4_addRoad_26

set_option maxHeartbeats 4000000 in
set_option maxRecDepth 100000 in
theorem mX4_go (l : Launch) (A : AD) (G : GS) (Z : ZS) (z : Int) (hI : Inv G) (hz : -2147483648 ≤ z ∧ z < 2147483648) : dMi l yX4_go wsX4_go ({ frames := 2, cells := 0, slots := 0, locals := 47 }) A [.ref (A.a 0), .int (iI z)] G Z (yKI (kGo G z) (dMin G (z).toNat (sF G G.vn (z).toNat).toNat) G (drv G (z).toNat (sF G G.vn (z).toNat).toNat) Z Z) := by
  intro sz
  refine c_start (cc := cX4_go) (maxL := 2) (ret := (some .int)) (by decide) rfl rfl ?_
  intro p e s m args below meth c X hr hk hnm hsz ls hl H locs hC
  subst hsz
  obtain ⟨hx, hb, hml, hown, hts⟩ := id X.1
  have hl : lv_has ls 2 [(0, .ref (A.a 0)), (1, .int (iI z))] := hl
  have iX4 : ∀ w ∈ u_ws RX4 TX4 18, w ∈ wsX4_go := by decide +kernel
  have hrr := hI.rr
  have hvn := hI.vn
  have hvc := hI.vc
  refine lv_aload_n hx hb dX4_go_0 rfl (lv_at hl 0 rfl) ?_
  refine li_c hx hb dX4_go_1 ?_
  refine apX4_thrown X hC iX4 (by decide +kernel) dX4_go_2 (x := 0) (by omega) (fun H locs hC => ?_)
  have hC : aH A (dAdr A) (DW A G (mkZ 0 Z.wt Z.gn Z.gs)) s H locs := hC
  refine lv_iload_n hx hb dX4_go_5 rfl (lv_at hl 1 rfl) ?_
  refine li_c hx hb dX4_go_6 ?_
  refine lv_aload_n hx hb dX4_go_7 rfl (lv_at hl 0 rfl) ?_
  refine agX4_roads X hC iX4 (by decide +kernel) dX4_go_8 (v := (G.rr : Int)) rfl ?_
  refine li_c hx hb dX4_go_11 ?_
  refine li_sub hx hb dX4_go_12 ?_
  refine d_callisx (v := bP ((0 : Int) ≤ z ∧ z ≤ ((G.rr : Int) - 1))) (n := 3) (As := [.int (iI z), .int (iI 0), .int (iI ((G.rr : Int) - 1))]) (rest := []) X hC (mX4_isIn l A G (mkZ 0 Z.wt Z.gn Z.gs) z (0 : Int) ((G.rr : Int) - 1) (show -2147483648 ≤ z ∧ z < 2147483648 by omega) (show -2147483648 ≤ (0 : Int) ∧ (0 : Int) < 2147483648 by omega) (show -2147483648 ≤ ((G.rr : Int) - 1) ∧ ((G.rr : Int) - 1) < 2147483648 by omega)) ⟨gX4_go_X4_isIn, ⟨_, rfl⟩, rfl, rfl, ⟨by decide, by decide, by decide +kernel⟩, Nat.le_of_ble_eq_true rfl, Nat.le_of_ble_eq_true rfl⟩ rfl hl.1 rfl (Nat.le_of_ble_eq_true rfl) ⟨Nat.le_of_ble_eq_true rfl, Nat.le_of_ble_eq_true rfl⟩ dX4_go_13 (fun H locs hC => ?_)
  refine li_ifb_ne (tgt := 25) hx hb dX4_go_16 (by decide) (fun c_16 => ?_) (fun c_16 => ?_)
  · obtain ⟨zn, hzn⟩ : ∃ zn : Nat, z = (zn : Int) := ⟨z.toNat, by omega⟩
    rw [hzn] at hl
    have hznt : z.toNat = zn := by omega
    have hzr : zn < G.rr := by omega
    have hso := sO_rng (v := G.vn) (c := G.vc) hzr
    refine lv_aload_n hx hb dX4_go_25 rfl (lv_at hl 0 rfl) ?_
    refine lv_iload_n hx hb dX4_go_26 rfl (lv_at hl 1 rfl) ?_
    refine lv_aload_n hx hb dX4_go_27 rfl (lv_at hl 0 rfl) ?_
    refine agX4_at X hC iX4 (by decide +kernel) dX4_go_28 (v := (G.vn : Int)) rfl ?_
    refine lv_aload_n hx hb dX4_go_31 rfl (lv_at hl 0 rfl) ?_
    refine agX4_came X hC iX4 (by decide +kernel) dX4_go_32 (v := G.vc) rfl ?_
    refine d_callix (v := (sO G zn G.vn G.vc)) (n := 3) (As := [.int (iI (zn : Int)), .int (iI (G.vn : Int)), .int (iI G.vc)]) (rest := []) X hC (mX4_sideOf l A G (mkZ 0 Z.wt Z.gn Z.gs) zn G.vn G.vc hI (show zn < G.rr by omega) (show G.vn < G.nn by omega) (show -2147483648 ≤ G.vc ∧ G.vc < 2147483648 by omega)) ⟨gX4_go_X4_sideOf, ⟨_, rfl⟩, rfl, rfl, ⟨by decide, by decide, by decide +kernel⟩, Nat.le_of_ble_eq_true rfl, Nat.le_of_ble_eq_true rfl⟩ (a_recv (y := yX4_sideOf) X hC.1 (ci := 4) (q0 := 0) rfl rfl rfl) rfl hl.1 rfl (Nat.le_of_ble_eq_true rfl) ⟨Nat.le_of_ble_eq_true rfl, Nat.le_of_ble_eq_true rfl⟩ dX4_go_35 (fun H locs hC => ?_)
    refine li_c hx hb dX4_go_38 ?_
    refine li_icmp_ne (tgt := 50) hx hb dX4_go_39 (by decide) (by omega) (fun c_39 => ?_) (fun c_39 => ?_)
    · refine lv_aload_n hx hb dX4_go_50 rfl (lv_at hl 0 rfl) ?_
      refine lv_iload_n hx hb dX4_go_51 rfl (lv_at hl 1 rfl) ?_
      refine d_callix (v := (dMin G zn ((sO G zn G.vn G.vc).toNat))) (n := 1) (As := [.int (iI (zn : Int))]) (rest := []) X hC (mX4_drive l A G (mkZ 0 Z.wt Z.gn Z.gs) zn ((sO G zn G.vn G.vc).toNat) hI (show zn < G.rr by omega) (show ((sO G zn G.vn G.vc).toNat) < 2 * G.rr by omega) (show sO G zn G.vn G.vc = (((sO G zn G.vn G.vc).toNat) : Int) by omega)) ⟨gX4_go_X4_drive, ⟨_, rfl⟩, rfl, rfl, ⟨by decide, by decide, by decide +kernel⟩, Nat.le_of_ble_eq_true rfl, Nat.le_of_ble_eq_true rfl⟩ (a_recv (y := yX4_drive) X hC.1 (ci := 4) (q0 := 0) rfl rfl rfl) rfl hl.1 rfl (Nat.le_of_ble_eq_true rfl) ⟨Nat.le_of_ble_eq_true rfl, Nat.le_of_ble_eq_true rfl⟩ dX4_go_52 (fun H locs hC => ?_)
      exact d_iret X hC hr hk (by have hso2 := sO_ok hzr (show sO G zn G.vn G.vc ≠ -1 by omega); have hk : kGo G z = 0 := (by unfold kGo; rw [if_pos (by omega), hznt]; exact if_pos (by rw [← hso2.2.2]; exact hso2.1)); rw [hk, hznt, ← hso2.2.2]; exact Or.inl ⟨rfl, rfl, rfl, rfl⟩) dX4_go_55
    · refine lv_aload_n hx hb dX4_go_42 rfl (lv_at hl 0 rfl) ?_
      refine li_c hx hb dX4_go_43 ?_
      refine d_callix (v := 0) (n := 1) (As := [.int (iI 2)]) (rest := []) X hC (mX4_fail l A G (mkZ 0 Z.wt Z.gn Z.gs) 2) ⟨gX4_go_X4_fail, ⟨_, rfl⟩, rfl, rfl, ⟨by decide, by decide, by decide +kernel⟩, Nat.le_of_ble_eq_true rfl, Nat.le_of_ble_eq_true rfl⟩ (a_recv (y := yX4_fail) X hC.1 (ci := 4) (q0 := 0) rfl rfl rfl) rfl hl.1 rfl (Nat.le_of_ble_eq_true rfl) ⟨Nat.le_of_ble_eq_true rfl, Nat.le_of_ble_eq_true rfl⟩ dX4_go_44 (fun H locs hC => ?_)
      have hC : aH A (dAdr A) (DW A G (mkZ 2 Z.wt Z.gn Z.gs)) s H locs := hC
      refine lv_goto (tgt := 55) hx hb dX4_go_47 (by decide) ?_
      exact d_iret X hC hr hk (by have hk : kGo G z = 2 := (by unfold kGo; rw [if_pos (by omega), hznt]; exact if_neg (fun q => by have := sO_cG hzr q; have := q.1; omega)); rw [hk]; exact Or.inr ⟨by decide, rfl, rfl, rfl⟩) dX4_go_55
  · refine lv_aload_n hx hb dX4_go_19 rfl (lv_at hl 0 rfl) ?_
    refine li_c hx hb dX4_go_20 ?_
    refine d_callix (v := 0) (n := 1) (As := [.int (iI 1)]) (rest := []) X hC (mX4_fail l A G (mkZ 0 Z.wt Z.gn Z.gs) 1) ⟨gX4_go_X4_fail, ⟨_, rfl⟩, rfl, rfl, ⟨by decide, by decide, by decide +kernel⟩, Nat.le_of_ble_eq_true rfl, Nat.le_of_ble_eq_true rfl⟩ (a_recv (y := yX4_fail) X hC.1 (ci := 4) (q0 := 0) rfl rfl rfl) rfl hl.1 rfl (Nat.le_of_ble_eq_true rfl) ⟨Nat.le_of_ble_eq_true rfl, Nat.le_of_ble_eq_true rfl⟩ dX4_go_21 (fun H locs hC => ?_)
    have hC : aH A (dAdr A) (DW A G (mkZ 1 Z.wt Z.gn Z.gs)) s H locs := hC
    exact d_iret X hC hr hk (Or.inr ⟨by unfold kGo; rw [if_neg (by omega)]; decide, rfl, rfl, by unfold kGo; rw [if_neg (by omega)]; rfl⟩) dX4_go_24

set_option maxHeartbeats 4000000 in
set_option maxRecDepth 100000 in
theorem mX4_digest (l : Launch) (A : AD) (G : GS) (Z : ZS) (hI : Inv G) : dMl l yX4_digest wsX4_digest ({ frames := 1, cells := 0, slots := 0, locals := 21 }) A [.ref (A.a 0)] G Z (yKL 0 (dgT G (dgS G (dgR G 223 G.rr) 4) 4) G G Z Z) := by
  intro sz
  refine c_start (cc := cX4_digest) (maxL := 8) (ret := (some .long)) (by decide) rfl rfl ?_
  intro p e s m args below meth c X hr hk hnm hsz ls hl H locs hC
  subst hsz
  obtain ⟨hx, hb, hml, hown, hts⟩ := id X.1
  have hl : lv_has ls 8 [(0, .ref (A.a 0))] := hl
  have iX4 : ∀ w ∈ u_ws RX4 TX4 18, w ∈ wsX4_digest := by decide +kernel
  have hw := hI.vw
  have hrr := hI.rr
  have hnn := hI.nn
  refine lv_aload_n hx hb dX4_digest_0 rfl (lv_at hl 0 rfl) ?_
  refine li_c hx hb dX4_digest_1 ?_
  refine apX4_thrown X hC iX4 (by decide +kernel) dX4_digest_2 (x := 0) (by omega) (fun H locs hC => ?_)
  have hC : aH A (dAdr A) (DW A G (mkZ 0 Z.wt Z.gn Z.gs)) s H locs := hC
  refine lv_ldc2 (v := 6913) hx hb hown (hts _ (by decide +kernel)) dX4_digest_5 ?_
  refine lv_aload_n hx hb dX4_digest_8 rfl (lv_at hl 0 rfl) ?_
  refine agX4_nodes X hC iX4 (by decide +kernel) dX4_digest_9 (v := (G.nn : Int)) rfl ?_
  refine lv_i2l hx hb dX4_digest_12 rfl ?_
  refine lv_ladd hx hb dX4_digest_13 ?_
  refine lv_lstore_n (lv' := [(1, .long (6913 + (iI (G.nn : Int)).toInt64)), (0, .ref (A.a 0))]) hx hb dX4_digest_14 rfl hl (by decide) rfl (fun ls hl => ?_)
  refine li_c hx hb dX4_digest_15 ?_
  refine lv_istore_n (lv' := [(3, .int (iI 0)), (1, .long (6913 + (iI (G.nn : Int)).toInt64)), (0, .ref (A.a 0))]) hx hb dX4_digest_16 rfl hl (by decide) rfl (fun ls hl => ?_)
  have loop_17 : ∀ (n : Nat) (i : Nat) (hn : G.nn - i < n) (hi : i ≤ G.nn) (H : Heap) (locs : List Loc) (hC : aH A (dAdr A) (DW A G (mkZ 0 Z.wt Z.gn Z.gs)) s H locs) (ls : Array Slot) (hl : lv_has ls 8 [(3, .int (iI (i : Int))), (1, .long (dgN G 223 i)), (0, .ref (A.a 0))]), W p l e ({ frames := 1, cells := 0, slots := 0, locals := 21 }) s m args below meth c H locs 0 0 (aQl below (dEnd A) (dAdr A) args s (yKL 0 (dgT G (dgS G (dgR G 223 G.rr) 4) 4) G G Z Z)) (F0 m 17 ls []) := by
    intro n
    induction n with
    | zero => intro i hn; exact absurd hn (Nat.not_lt_zero _)
    | succ n ih_17 =>
      intro i hn hi H locs hC ls hl
      have ht9 := hI.tu i
      have hs9 := hI.st i
      refine lv_iload_n hx hb dX4_digest_17 rfl (lv_at hl 0 rfl) ?_
      refine lv_aload_n hx hb dX4_digest_18 rfl (lv_at hl 2 rfl) ?_
      refine agX4_nodes X hC iX4 (by decide +kernel) dX4_digest_19 (v := (G.nn : Int)) rfl ?_
      refine li_icmp_ge (tgt := 69) hx hb dX4_digest_22 (by decide) (by omega) (fun c_22 => ?_) (fun c_22 => ?_)
      · refine lv_lload_n hx hb dX4_digest_69 rfl (lv_at hl 1 rfl) ?_
        refine lv_ldc2 (v := 31) hx hb hown (hts _ (by decide +kernel)) dX4_digest_70 ?_
        refine lv_lmul hx hb dX4_digest_73 ?_
        refine lv_aload_n hx hb dX4_digest_74 rfl (lv_at hl 2 rfl) ?_
        refine agX4_roads X hC iX4 (by decide +kernel) dX4_digest_75 (v := (G.rr : Int)) rfl ?_
        refine lv_i2l hx hb dX4_digest_78 rfl ?_
        refine lv_ladd hx hb dX4_digest_79 ?_
        refine lv_lstore_n (lv' := [(1, .long (((dgN G 223 i) * 31) + (iI (G.rr : Int)).toInt64)), (3, .int (iI (i : Int))), (0, .ref (A.a 0))]) hx hb dX4_digest_80 rfl hl (by decide) rfl (fun ls hl => ?_)
        refine li_c hx hb dX4_digest_81 ?_
        refine lv_istore_n (lv' := [(3, .int (iI 0)), (1, .long (((dgN G 223 i) * 31) + (iI (G.rr : Int)).toInt64)), (0, .ref (A.a 0))]) hx hb dX4_digest_82 rfl hl (by decide) rfl (fun ls hl => ?_)
        have loop_83 : ∀ (n : Nat) (j : Nat) (hn : G.rr - j < n) (hj : j ≤ G.rr) (H : Heap) (locs : List Loc) (hC : aH A (dAdr A) (DW A G (mkZ 0 Z.wt Z.gn Z.gs)) s H locs) (ls : Array Slot) (hl : lv_has ls 8 [(3, .int (iI (j : Int))), (1, .long (dgR G 223 j)), (0, .ref (A.a 0))]), W p l e ({ frames := 1, cells := 0, slots := 0, locals := 21 }) s m args below meth c H locs 0 0 (aQl below (dEnd A) (dAdr A) args s (yKL 0 (dgT G (dgS G (dgR G 223 G.rr) 4) 4) G G Z Z)) (F0 m 83 ls []) := by
          intro n
          induction n with
          | zero => intro j hn; exact absurd hn (Nat.not_lt_zero _)
          | succ n ih_83 =>
            intro j hn hj H locs hC ls hl
            have hs1 := hI.sa (2 * j)
            have hs2 := hI.sa (2 * j + 1)
            have hd1 := hI.de (2 * j)
            have hd2 := hI.de (2 * j + 1)
            refine lv_iload_n hx hb dX4_digest_83 rfl (lv_at hl 0 rfl) ?_
            refine lv_aload_n hx hb dX4_digest_84 rfl (lv_at hl 2 rfl) ?_
            refine agX4_roads X hC iX4 (by decide +kernel) dX4_digest_85 (v := (G.rr : Int)) rfl ?_
            refine li_icmp_ge (tgt := 173) hx hb dX4_digest_88 (by decide) (by omega) (fun c_88 => ?_) (fun c_88 => ?_)
            · refine li_c hx hb dX4_digest_173 ?_
              refine lv_istore_n (lv' := [(3, .int (iI 0)), (1, .long (dgR G 223 j)), (0, .ref (A.a 0))]) hx hb dX4_digest_174 rfl hl (by decide) rfl (fun ls hl => ?_)
              have loop_175 : ∀ (n : Nat) (u : Nat) (hn : 4 - u < n) (hu : u ≤ 4) (H : Heap) (locs : List Loc) (hC : aH A (dAdr A) (DW A G (mkZ 0 Z.wt Z.gn Z.gs)) s H locs) (ls : Array Slot) (hl : lv_has ls 8 [(3, .int (iI (u : Int))), (1, .long (dgS G (dgR G 223 G.rr) u)), (0, .ref (A.a 0))]), W p l e ({ frames := 1, cells := 0, slots := 0, locals := 21 }) s m args below meth c H locs 0 0 (aQl below (dEnd A) (dAdr A) args s (yKL 0 (dgT G (dgS G (dgR G 223 G.rr) 4) 4) G G Z Z)) (F0 m 175 ls []) := by
                intro n
                induction n with
                | zero => intro u hn; exact absurd hn (Nat.not_lt_zero _)
                | succ n ih_175 =>
                  intro u hn hu H locs hC ls hl
                  refine lv_iload_n hx hb dX4_digest_175 rfl (lv_at hl 0 rfl) ?_
                  refine li_c hx hb dX4_digest_176 ?_
                  refine li_icmp_ge (tgt := 199) hx hb dX4_digest_177 (by decide) (by omega) (fun c_177 => ?_) (fun c_177 => ?_)
                  · refine lv_aload_n hx hb dX4_digest_199 rfl (lv_at hl 2 rfl) ?_
                    refine agX4_totals X hC iX4 (by decide +kernel) dX4_digest_200 ?_
                    refine lv_astore_n (lv' := [(3, .ref (A.a 8)), (1, .long (dgS G (dgR G 223 G.rr) u)), (0, .ref (A.a 0))]) hx hb dX4_digest_203 rfl hl (by decide) rfl (fun ls hl => ?_)
                    refine lv_aload_n hx hb dX4_digest_204 rfl (lv_at hl 0 rfl) ?_
                    refine anD_tt X hC dX4_digest_205 ?_
                    refine lv_istore (lv' := [(4, .int (iI 4)), (3, .ref (A.a 8)), (1, .long (dgS G (dgR G 223 G.rr) u)), (0, .ref (A.a 0))]) hx hb dX4_digest_206 hl (by decide) rfl (fun ls hl => ?_)
                    refine li_c hx hb dX4_digest_208 ?_
                    refine lv_istore (lv' := [(5, .int (iI 0)), (4, .int (iI 4)), (3, .ref (A.a 8)), (1, .long (dgS G (dgR G 223 G.rr) u)), (0, .ref (A.a 0))]) hx hb dX4_digest_209 hl (by decide) rfl (fun ls hl => ?_)
                    have loop_211 : ∀ (n : Nat) (x : Nat) (hn : 4 - x < n) (hx4 : x ≤ 4) (H : Heap) (locs : List Loc) (hC : aH A (dAdr A) (DW A G (mkZ 0 Z.wt Z.gn Z.gs)) s H locs) (ls : Array Slot) (hl : lv_has ls 8 [(5, .int (iI (x : Int))), (1, .long (dgT G (dgS G (dgR G 223 G.rr) 4) x)), (3, .ref (A.a 8)), (4, .int (iI 4)), (0, .ref (A.a 0))]), W p l e ({ frames := 1, cells := 0, slots := 0, locals := 21 }) s m args below meth c H locs 0 0 (aQl below (dEnd A) (dAdr A) args s (yKL 0 (dgT G (dgS G (dgR G 223 G.rr) 4) 4) G G Z Z)) (F0 m 211 ls []) := by
                      intro n
                      induction n with
                      | zero => intro x hn; exact absurd hn (Nat.not_lt_zero _)
                      | succ n ih_211 =>
                        intro x hn hx4 H locs hC ls hl
                        refine lv_iload hx hb dX4_digest_211 (lv_at hl 0 rfl) ?_
                        refine lv_iload hx hb dX4_digest_213 (lv_at hl 3 rfl) ?_
                        refine li_icmp_ge (tgt := 239) hx hb dX4_digest_215 (by decide) (by omega) (fun c_215 => ?_) (fun c_215 => ?_)
                        · refine lv_lload_n hx hb dX4_digest_239 rfl (lv_at hl 1 rfl) ?_
                          exact d_lret X hC hr hk (Or.inl ⟨rfl, by rw [show x = 4 by omega], rfl, rfl⟩) dX4_digest_240
                        · refine lv_aload_n hx hb dX4_digest_218 rfl (lv_at hl 2 rfl) ?_
                          refine lv_iload hx hb dX4_digest_219 (lv_at hl 0 rfl) ?_
                          refine alD_tt (k0 := x) (v := G.tt x) X hC (by omega) (by omega) rfl dX4_digest_221 ?_
                          refine lv_lstore (lv' := [(6, .long (G.tt x)), (5, .int (iI (x : Int))), (1, .long (dgT G (dgS G (dgR G 223 G.rr) 4) x)), (3, .ref (A.a 8)), (4, .int (iI 4)), (0, .ref (A.a 0))]) hx hb dX4_digest_222 hl (by decide) rfl (fun ls hl => ?_)
                          refine lv_lload_n hx hb dX4_digest_224 rfl (lv_at hl 2 rfl) ?_
                          refine lv_ldc2 (v := 31) hx hb hown (hts _ (by decide +kernel)) dX4_digest_225 ?_
                          refine lv_lmul hx hb dX4_digest_228 ?_
                          refine lv_lload hx hb dX4_digest_229 (lv_at hl 0 rfl) ?_
                          refine lv_ladd hx hb dX4_digest_231 ?_
                          refine lv_lstore_n (lv' := [(1, .long (((dgT G (dgS G (dgR G 223 G.rr) 4) x) * 31) + G.tt x)), (6, .long (G.tt x)), (5, .int (iI (x : Int))), (3, .ref (A.a 8)), (4, .int (iI 4)), (0, .ref (A.a 0))]) hx hb dX4_digest_232 rfl hl (by decide) rfl (fun ls hl => ?_)
                          refine li_incN (lv' := [(5, .int (iI ((x + 1 : Nat) : Int))), (1, .long (((dgT G (dgS G (dgR G 223 G.rr) 4) x) * 31) + G.tt x)), (6, .long (G.tt x)), (3, .ref (A.a 8)), (4, .int (iI 4)), (0, .ref (A.a 0))]) (x := x) (d0 := 1) hx hb dX4_digest_233 hl (k := 2) rfl rfl rfl (by decide) rfl (fun ls hl => ?_)
                          refine lv_goto (tgt := 211) hx hb dX4_digest_236 (by decide) ?_
                          have e1 : (((dgT G (dgS G (dgR G 223 G.rr) 4) x) * 31) + G.tt x) = dgT G (dgS G (dgR G 223 G.rr) 4) (x + 1) := by show _ = _ * 31 + ttf G (x : Int); rw [ttf_n G (by omega)]
                          rw [e1] at hl
                          exact ih_211 (x + 1) (by omega) (by omega) H locs hC ls (lv_sub hl [0, 1, 3, 4, 5] rfl)
                    rw [show dgS G (dgR G 223 G.rr) u = dgT G (dgS G (dgR G 223 G.rr) 4) 0 by rw [show u = 4 by omega]; rfl] at hl
                    exact loop_211 (4 + 1) 0 (Nat.lt_succ_self _) (by omega) H locs hC ls (lv_sub hl [0, 3, 2, 1, 4] rfl)
                  · refine lv_lload_n hx hb dX4_digest_180 rfl (lv_at hl 1 rfl) ?_
                    refine lv_ldc2 (v := 31) hx hb hown (hts _ (by decide +kernel)) dX4_digest_181 ?_
                    refine lv_lmul hx hb dX4_digest_184 ?_
                    refine lv_aload_n hx hb dX4_digest_185 rfl (lv_at hl 2 rfl) ?_
                    refine lv_iload_n hx hb dX4_digest_186 rfl (lv_at hl 0 rfl) ?_
                    refine d_callix (v := (stf G (u : Int))) (n := 1) (As := [.int (iI (u : Int))]) (rest := [.long ((dgS G (dgR G 223 G.rr) u) * 31)]) X hC (mX4_told l A G (mkZ 0 Z.wt Z.gn Z.gs) (u : Int) (show -2147483648 ≤ (u : Int) ∧ (u : Int) < 2147483648 by omega) (show G.vw ≤ 1 by omega)) ⟨gX4_digest_X4_told, ⟨_, rfl⟩, rfl, rfl, ⟨by decide, by decide, by decide +kernel⟩, Nat.le_of_ble_eq_true rfl, Nat.le_of_ble_eq_true rfl⟩ (a_recv (y := yX4_told) X hC.1 (ci := 4) (q0 := 0) rfl rfl rfl) rfl hl.1 rfl (Nat.le_of_ble_eq_true rfl) ⟨Nat.le_of_ble_eq_true rfl, Nat.le_of_ble_eq_true rfl⟩ dX4_digest_187 (fun H locs hC => ?_)
                    refine lv_i2l hx hb dX4_digest_190 rfl ?_
                    refine lv_ladd hx hb dX4_digest_191 ?_
                    refine lv_lstore_n (lv' := [(1, .long (((dgS G (dgR G 223 G.rr) u) * 31) + (iI (stf G (u : Int))).toInt64)), (3, .int (iI (u : Int))), (0, .ref (A.a 0))]) hx hb dX4_digest_192 rfl hl (by decide) rfl (fun ls hl => ?_)
                    refine li_incN (lv' := [(3, .int (iI ((u + 1 : Nat) : Int))), (1, .long (((dgS G (dgR G 223 G.rr) u) * 31) + (iI (stf G (u : Int))).toInt64)), (0, .ref (A.a 0))]) (x := u) (d0 := 1) hx hb dX4_digest_193 hl (k := 1) rfl rfl rfl (by decide) rfl (fun ls hl => ?_)
                    refine lv_goto (tgt := 175) hx hb dX4_digest_196 (by decide) ?_
                    exact ih_175 (u + 1) (by omega) (by omega) H locs hC ls (lv_sub hl [0, 1, 2] rfl)
              rw [show dgR G 223 j = dgS G (dgR G 223 G.rr) 0 by rw [show j = G.rr by omega]; rfl] at hl
              exact loop_175 (4 + 1) 0 (Nat.lt_succ_self _) (by omega) H locs hC ls (lv_sub hl [0, 1, 2] rfl)
            · refine lv_lload_n hx hb dX4_digest_91 rfl (lv_at hl 1 rfl) ?_
              refine lv_ldc2 (v := 31) hx hb hown (hts _ (by decide +kernel)) dX4_digest_92 ?_
              refine lv_lmul hx hb dX4_digest_95 ?_
              refine lv_aload_n hx hb dX4_digest_96 rfl (lv_at hl 2 rfl) ?_
              refine agX4_depths X hC iX4 (by decide +kernel) dX4_digest_97 ?_
              refine li_c hx hb dX4_digest_100 ?_
              refine lv_iload_n hx hb dX4_digest_101 rfl (lv_at hl 0 rfl) ?_
              refine li_mulN (x := 2) (y := j) hx hb dX4_digest_102 rfl rfl ?_
              refine alD_de (k0 := 2 * j) (v := ((G.de (2 * j) : Nat) : Int)) X hC (by omega) (by omega) rfl dX4_digest_103 ?_
              have hb1 := hI.de (2 * j)
              refine lv_i2l hx hb dX4_digest_104 rfl ?_
              refine lv_ladd hx hb dX4_digest_105 ?_
              refine lv_ldc2 (v := 31) hx hb hown (hts _ (by decide +kernel)) dX4_digest_106 ?_
              refine lv_lmul hx hb dX4_digest_109 ?_
              refine lv_aload_n hx hb dX4_digest_110 rfl (lv_at hl 2 rfl) ?_
              refine agX4_depths X hC iX4 (by decide +kernel) dX4_digest_111 ?_
              refine li_c hx hb dX4_digest_114 ?_
              refine lv_iload_n hx hb dX4_digest_115 rfl (lv_at hl 0 rfl) ?_
              refine li_mulN (x := 2) (y := j) hx hb dX4_digest_116 rfl rfl ?_
              refine li_c hx hb dX4_digest_117 ?_
              refine li_addN (x := 2 * j) (y := 1) hx hb dX4_digest_118 rfl rfl ?_
              refine alD_de (k0 := (2 * j) + 1) (v := ((G.de ((2 * j) + 1) : Nat) : Int)) X hC (by omega) (by omega) rfl dX4_digest_119 ?_
              have hb2 := hI.de ((2 * j) + 1)
              refine lv_i2l hx hb dX4_digest_120 rfl ?_
              refine lv_ladd hx hb dX4_digest_121 ?_
              refine lv_lstore_n (lv' := [(1, .long (((((dgR G 223 j) * 31) + (iI ((G.de (2 * j) : Nat) : Int)).toInt64) * 31) + (iI ((G.de ((2 * j) + 1) : Nat) : Int)).toInt64)), (3, .int (iI (j : Int))), (0, .ref (A.a 0))]) hx hb dX4_digest_122 rfl hl (by decide) rfl (fun ls hl => ?_)
              refine lv_lload_n hx hb dX4_digest_123 rfl (lv_at hl 0 rfl) ?_
              refine lv_ldc2 (v := 31) hx hb hown (hts _ (by decide +kernel)) dX4_digest_124 ?_
              refine lv_lmul hx hb dX4_digest_127 ?_
              refine lv_aload_n hx hb dX4_digest_128 rfl (lv_at hl 2 rfl) ?_
              refine agX4_areSalted X hC iX4 (by decide +kernel) dX4_digest_129 ?_
              refine li_c hx hb dX4_digest_132 ?_
              refine lv_iload_n hx hb dX4_digest_133 rfl (lv_at hl 1 rfl) ?_
              refine li_mulN (x := 2) (y := j) hx hb dX4_digest_134 rfl rfl ?_
              refine alD_sa (k0 := 2 * j) (v := ((G.sa (2 * j) : Nat) : Int)) X hC (by omega) (by omega) rfl dX4_digest_135 ?_
              have hb3 := hI.sa (2 * j)
              refine li_if_eq (tgt := 143) hx hb dX4_digest_136 (by decide) (by omega) (fun c_136 => ?_) (fun c_136 => ?_)
              · refine lv_lconst (v := 0) hx hb dX4_digest_143 rfl ?_
                refine lv_ladd hx hb dX4_digest_144 ?_
                refine lv_aload_n hx hb dX4_digest_145 rfl (lv_at hl 2 rfl) ?_
                refine agX4_areSalted X hC iX4 (by decide +kernel) dX4_digest_146 ?_
                refine li_c hx hb dX4_digest_149 ?_
                refine lv_iload_n hx hb dX4_digest_150 rfl (lv_at hl 1 rfl) ?_
                refine li_mulN (x := 2) (y := j) hx hb dX4_digest_151 rfl rfl ?_
                refine li_c hx hb dX4_digest_152 ?_
                refine li_addN (x := 2 * j) (y := 1) hx hb dX4_digest_153 rfl rfl ?_
                refine alD_sa (k0 := (2 * j) + 1) (v := ((G.sa ((2 * j) + 1) : Nat) : Int)) X hC (by omega) (by omega) rfl dX4_digest_154 ?_
                have hb4 := hI.sa ((2 * j) + 1)
                refine li_if_eq (tgt := 164) hx hb dX4_digest_155 (by decide) (by omega) (fun c_155 => ?_) (fun c_155 => ?_)
                · refine lv_lconst (v := 0) hx hb dX4_digest_164 rfl ?_
                  refine lv_ladd hx hb dX4_digest_165 ?_
                  refine lv_lstore_n (lv' := [(1, .long ((((((((dgR G 223 j) * 31) + (iI ((G.de (2 * j) : Nat) : Int)).toInt64) * 31) + (iI ((G.de ((2 * j) + 1) : Nat) : Int)).toInt64) * 31) + 0) + 0)), (3, .int (iI (j : Int))), (0, .ref (A.a 0))]) hx hb dX4_digest_166 rfl hl (by decide) rfl (fun ls hl => ?_)
                  refine li_incN (lv' := [(3, .int (iI ((j + 1 : Nat) : Int))), (1, .long ((((((((dgR G 223 j) * 31) + (iI ((G.de (2 * j) : Nat) : Int)).toInt64) * 31) + (iI ((G.de ((2 * j) + 1) : Nat) : Int)).toInt64) * 31) + 0) + 0)), (0, .ref (A.a 0))]) (x := j) (d0 := 1) hx hb dX4_digest_167 hl (k := 1) rfl rfl rfl (by decide) rfl (fun ls hl => ?_)
                  refine lv_goto (tgt := 83) hx hb dX4_digest_170 (by decide) ?_
                  have e1 : ((((((((dgR G 223 j) * 31) + (iI ((G.de (2 * j) : Nat) : Int)).toInt64) * 31) + (iI ((G.de ((2 * j) + 1) : Nat) : Int)).toInt64) * 31) + 0) + 0) = dgR G 223 (j + 1) := by rw [dgR_s]; first | (rw [if_pos (by omega), if_pos (by omega)]; rfl) | (rw [if_pos (by omega), if_neg (by omega)]; rfl) | (rw [if_neg (by omega), if_pos (by omega)]; rfl) | (rw [if_neg (by omega), if_neg (by omega)]; rfl)
                  rw [e1] at hl
                  exact ih_83 (j + 1) (by omega) (by omega) H locs hC ls (lv_sub hl [0, 1, 2] rfl)
                · refine lv_ldc2 (v := 2) hx hb hown (hts _ (by decide +kernel)) dX4_digest_158 ?_
                  refine lv_goto (tgt := 165) hx hb dX4_digest_161 (by decide) ?_
                  refine lv_ladd hx hb dX4_digest_165 ?_
                  refine lv_lstore_n (lv' := [(1, .long ((((((((dgR G 223 j) * 31) + (iI ((G.de (2 * j) : Nat) : Int)).toInt64) * 31) + (iI ((G.de ((2 * j) + 1) : Nat) : Int)).toInt64) * 31) + 0) + 2)), (3, .int (iI (j : Int))), (0, .ref (A.a 0))]) hx hb dX4_digest_166 rfl hl (by decide) rfl (fun ls hl => ?_)
                  refine li_incN (lv' := [(3, .int (iI ((j + 1 : Nat) : Int))), (1, .long ((((((((dgR G 223 j) * 31) + (iI ((G.de (2 * j) : Nat) : Int)).toInt64) * 31) + (iI ((G.de ((2 * j) + 1) : Nat) : Int)).toInt64) * 31) + 0) + 2)), (0, .ref (A.a 0))]) (x := j) (d0 := 1) hx hb dX4_digest_167 hl (k := 1) rfl rfl rfl (by decide) rfl (fun ls hl => ?_)
                  refine lv_goto (tgt := 83) hx hb dX4_digest_170 (by decide) ?_
                  have e1 : ((((((((dgR G 223 j) * 31) + (iI ((G.de (2 * j) : Nat) : Int)).toInt64) * 31) + (iI ((G.de ((2 * j) + 1) : Nat) : Int)).toInt64) * 31) + 0) + 2) = dgR G 223 (j + 1) := by rw [dgR_s]; first | (rw [if_pos (by omega), if_pos (by omega)]; rfl) | (rw [if_pos (by omega), if_neg (by omega)]; rfl) | (rw [if_neg (by omega), if_pos (by omega)]; rfl) | (rw [if_neg (by omega), if_neg (by omega)]; rfl)
                  rw [e1] at hl
                  exact ih_83 (j + 1) (by omega) (by omega) H locs hC ls (lv_sub hl [0, 1, 2] rfl)
              · refine lv_lconst (v := 1) hx hb dX4_digest_139 rfl ?_
                refine lv_goto (tgt := 144) hx hb dX4_digest_140 (by decide) ?_
                refine lv_ladd hx hb dX4_digest_144 ?_
                refine lv_aload_n hx hb dX4_digest_145 rfl (lv_at hl 2 rfl) ?_
                refine agX4_areSalted X hC iX4 (by decide +kernel) dX4_digest_146 ?_
                refine li_c hx hb dX4_digest_149 ?_
                refine lv_iload_n hx hb dX4_digest_150 rfl (lv_at hl 1 rfl) ?_
                refine li_mulN (x := 2) (y := j) hx hb dX4_digest_151 rfl rfl ?_
                refine li_c hx hb dX4_digest_152 ?_
                refine li_addN (x := 2 * j) (y := 1) hx hb dX4_digest_153 rfl rfl ?_
                refine alD_sa (k0 := (2 * j) + 1) (v := ((G.sa ((2 * j) + 1) : Nat) : Int)) X hC (by omega) (by omega) rfl dX4_digest_154 ?_
                have hb5 := hI.sa ((2 * j) + 1)
                refine li_if_eq (tgt := 164) hx hb dX4_digest_155 (by decide) (by omega) (fun c_155 => ?_) (fun c_155 => ?_)
                · refine lv_lconst (v := 0) hx hb dX4_digest_164 rfl ?_
                  refine lv_ladd hx hb dX4_digest_165 ?_
                  refine lv_lstore_n (lv' := [(1, .long ((((((((dgR G 223 j) * 31) + (iI ((G.de (2 * j) : Nat) : Int)).toInt64) * 31) + (iI ((G.de ((2 * j) + 1) : Nat) : Int)).toInt64) * 31) + 1) + 0)), (3, .int (iI (j : Int))), (0, .ref (A.a 0))]) hx hb dX4_digest_166 rfl hl (by decide) rfl (fun ls hl => ?_)
                  refine li_incN (lv' := [(3, .int (iI ((j + 1 : Nat) : Int))), (1, .long ((((((((dgR G 223 j) * 31) + (iI ((G.de (2 * j) : Nat) : Int)).toInt64) * 31) + (iI ((G.de ((2 * j) + 1) : Nat) : Int)).toInt64) * 31) + 1) + 0)), (0, .ref (A.a 0))]) (x := j) (d0 := 1) hx hb dX4_digest_167 hl (k := 1) rfl rfl rfl (by decide) rfl (fun ls hl => ?_)
                  refine lv_goto (tgt := 83) hx hb dX4_digest_170 (by decide) ?_
                  have e1 : ((((((((dgR G 223 j) * 31) + (iI ((G.de (2 * j) : Nat) : Int)).toInt64) * 31) + (iI ((G.de ((2 * j) + 1) : Nat) : Int)).toInt64) * 31) + 1) + 0) = dgR G 223 (j + 1) := by rw [dgR_s]; first | (rw [if_pos (by omega), if_pos (by omega)]; rfl) | (rw [if_pos (by omega), if_neg (by omega)]; rfl) | (rw [if_neg (by omega), if_pos (by omega)]; rfl) | (rw [if_neg (by omega), if_neg (by omega)]; rfl)
                  rw [e1] at hl
                  exact ih_83 (j + 1) (by omega) (by omega) H locs hC ls (lv_sub hl [0, 1, 2] rfl)
                · refine lv_ldc2 (v := 2) hx hb hown (hts _ (by decide +kernel)) dX4_digest_158 ?_
                  refine lv_goto (tgt := 165) hx hb dX4_digest_161 (by decide) ?_
                  refine lv_ladd hx hb dX4_digest_165 ?_
                  refine lv_lstore_n (lv' := [(1, .long ((((((((dgR G 223 j) * 31) + (iI ((G.de (2 * j) : Nat) : Int)).toInt64) * 31) + (iI ((G.de ((2 * j) + 1) : Nat) : Int)).toInt64) * 31) + 1) + 2)), (3, .int (iI (j : Int))), (0, .ref (A.a 0))]) hx hb dX4_digest_166 rfl hl (by decide) rfl (fun ls hl => ?_)
                  refine li_incN (lv' := [(3, .int (iI ((j + 1 : Nat) : Int))), (1, .long ((((((((dgR G 223 j) * 31) + (iI ((G.de (2 * j) : Nat) : Int)).toInt64) * 31) + (iI ((G.de ((2 * j) + 1) : Nat) : Int)).toInt64) * 31) + 1) + 2)), (0, .ref (A.a 0))]) (x := j) (d0 := 1) hx hb dX4_digest_167 hl (k := 1) rfl rfl rfl (by decide) rfl (fun ls hl => ?_)
                  refine lv_goto (tgt := 83) hx hb dX4_digest_170 (by decide) ?_
                  have e1 : ((((((((dgR G 223 j) * 31) + (iI ((G.de (2 * j) : Nat) : Int)).toInt64) * 31) + (iI ((G.de ((2 * j) + 1) : Nat) : Int)).toInt64) * 31) + 1) + 2) = dgR G 223 (j + 1) := by rw [dgR_s]; first | (rw [if_pos (by omega), if_pos (by omega)]; rfl) | (rw [if_pos (by omega), if_neg (by omega)]; rfl) | (rw [if_neg (by omega), if_pos (by omega)]; rfl) | (rw [if_neg (by omega), if_neg (by omega)]; rfl)
                  rw [e1] at hl
                  exact ih_83 (j + 1) (by omega) (by omega) H locs hC ls (lv_sub hl [0, 1, 2] rfl)
        have e0 : dgN G 223 i * 31 + (iI (G.rr : Int)).toInt64 = dgR G 223 0 := by rw [show i = G.nn by omega]; rfl
        rw [e0] at hl
        exact loop_83 (G.rr + 1) 0 (Nat.lt_succ_self _) (by omega) H locs hC ls (lv_sub hl [0, 1, 2] rfl)
      · refine lv_lload_n hx hb dX4_digest_25 rfl (lv_at hl 1 rfl) ?_
        refine lv_ldc2 (v := 31) hx hb hown (hts _ (by decide +kernel)) dX4_digest_26 ?_
        refine lv_lmul hx hb dX4_digest_29 ?_
        refine lv_aload_n hx hb dX4_digest_30 rfl (lv_at hl 2 rfl) ?_
        refine agX4_areTurning X hC iX4 (by decide +kernel) dX4_digest_31 ?_
        refine lv_iload_n hx hb dX4_digest_34 rfl (lv_at hl 0 rfl) ?_
        refine alD_tu (k0 := i) (v := ((G.tu i : Nat) : Int)) X hC (by omega) (by omega) rfl dX4_digest_35 ?_
        have hb6 := hI.tu i
        refine li_if_eq (tgt := 43) hx hb dX4_digest_36 (by decide) (by omega) (fun c_36 => ?_) (fun c_36 => ?_)
        · refine lv_lconst (v := 0) hx hb dX4_digest_43 rfl ?_
          refine lv_ladd hx hb dX4_digest_44 ?_
          refine lv_aload_n hx hb dX4_digest_45 rfl (lv_at hl 2 rfl) ?_
          refine agX4_areStores X hC iX4 (by decide +kernel) dX4_digest_46 ?_
          refine lv_iload_n hx hb dX4_digest_49 rfl (lv_at hl 0 rfl) ?_
          refine alD_st (k0 := i) (v := ((G.st i : Nat) : Int)) X hC (by omega) (by omega) rfl dX4_digest_50 ?_
          have hb7 := hI.st i
          refine li_if_eq (tgt := 60) hx hb dX4_digest_51 (by decide) (by omega) (fun c_51 => ?_) (fun c_51 => ?_)
          · refine lv_lconst (v := 0) hx hb dX4_digest_60 rfl ?_
            refine lv_ladd hx hb dX4_digest_61 ?_
            refine lv_lstore_n (lv' := [(1, .long ((((dgN G 223 i) * 31) + 0) + 0)), (3, .int (iI (i : Int))), (0, .ref (A.a 0))]) hx hb dX4_digest_62 rfl hl (by decide) rfl (fun ls hl => ?_)
            refine li_incN (lv' := [(3, .int (iI ((i + 1 : Nat) : Int))), (1, .long ((((dgN G 223 i) * 31) + 0) + 0)), (0, .ref (A.a 0))]) (x := i) (d0 := 1) hx hb dX4_digest_63 hl (k := 1) rfl rfl rfl (by decide) rfl (fun ls hl => ?_)
            refine lv_goto (tgt := 17) hx hb dX4_digest_66 (by decide) ?_
            have e1 : ((((dgN G 223 i) * 31) + 0) + 0) = dgN G 223 (i + 1) := by rw [dgN_s]; first | (rw [if_pos (by omega), if_pos (by omega)]; rfl) | (rw [if_pos (by omega), if_neg (by omega)]; rfl) | (rw [if_neg (by omega), if_pos (by omega)]; rfl) | (rw [if_neg (by omega), if_neg (by omega)]; rfl)
            rw [e1] at hl
            exact ih_17 (i + 1) (by omega) (by omega) H locs hC ls (lv_sub hl [0, 1, 2] rfl)
          · refine lv_ldc2 (v := 2) hx hb hown (hts _ (by decide +kernel)) dX4_digest_54 ?_
            refine lv_goto (tgt := 61) hx hb dX4_digest_57 (by decide) ?_
            refine lv_ladd hx hb dX4_digest_61 ?_
            refine lv_lstore_n (lv' := [(1, .long ((((dgN G 223 i) * 31) + 0) + 2)), (3, .int (iI (i : Int))), (0, .ref (A.a 0))]) hx hb dX4_digest_62 rfl hl (by decide) rfl (fun ls hl => ?_)
            refine li_incN (lv' := [(3, .int (iI ((i + 1 : Nat) : Int))), (1, .long ((((dgN G 223 i) * 31) + 0) + 2)), (0, .ref (A.a 0))]) (x := i) (d0 := 1) hx hb dX4_digest_63 hl (k := 1) rfl rfl rfl (by decide) rfl (fun ls hl => ?_)
            refine lv_goto (tgt := 17) hx hb dX4_digest_66 (by decide) ?_
            have e1 : ((((dgN G 223 i) * 31) + 0) + 2) = dgN G 223 (i + 1) := by rw [dgN_s]; first | (rw [if_pos (by omega), if_pos (by omega)]; rfl) | (rw [if_pos (by omega), if_neg (by omega)]; rfl) | (rw [if_neg (by omega), if_pos (by omega)]; rfl) | (rw [if_neg (by omega), if_neg (by omega)]; rfl)
            rw [e1] at hl
            exact ih_17 (i + 1) (by omega) (by omega) H locs hC ls (lv_sub hl [0, 1, 2] rfl)
        · refine lv_lconst (v := 1) hx hb dX4_digest_39 rfl ?_
          refine lv_goto (tgt := 44) hx hb dX4_digest_40 (by decide) ?_
          refine lv_ladd hx hb dX4_digest_44 ?_
          refine lv_aload_n hx hb dX4_digest_45 rfl (lv_at hl 2 rfl) ?_
          refine agX4_areStores X hC iX4 (by decide +kernel) dX4_digest_46 ?_
          refine lv_iload_n hx hb dX4_digest_49 rfl (lv_at hl 0 rfl) ?_
          refine alD_st (k0 := i) (v := ((G.st i : Nat) : Int)) X hC (by omega) (by omega) rfl dX4_digest_50 ?_
          have hb8 := hI.st i
          refine li_if_eq (tgt := 60) hx hb dX4_digest_51 (by decide) (by omega) (fun c_51 => ?_) (fun c_51 => ?_)
          · refine lv_lconst (v := 0) hx hb dX4_digest_60 rfl ?_
            refine lv_ladd hx hb dX4_digest_61 ?_
            refine lv_lstore_n (lv' := [(1, .long ((((dgN G 223 i) * 31) + 1) + 0)), (3, .int (iI (i : Int))), (0, .ref (A.a 0))]) hx hb dX4_digest_62 rfl hl (by decide) rfl (fun ls hl => ?_)
            refine li_incN (lv' := [(3, .int (iI ((i + 1 : Nat) : Int))), (1, .long ((((dgN G 223 i) * 31) + 1) + 0)), (0, .ref (A.a 0))]) (x := i) (d0 := 1) hx hb dX4_digest_63 hl (k := 1) rfl rfl rfl (by decide) rfl (fun ls hl => ?_)
            refine lv_goto (tgt := 17) hx hb dX4_digest_66 (by decide) ?_
            have e1 : ((((dgN G 223 i) * 31) + 1) + 0) = dgN G 223 (i + 1) := by rw [dgN_s]; first | (rw [if_pos (by omega), if_pos (by omega)]; rfl) | (rw [if_pos (by omega), if_neg (by omega)]; rfl) | (rw [if_neg (by omega), if_pos (by omega)]; rfl) | (rw [if_neg (by omega), if_neg (by omega)]; rfl)
            rw [e1] at hl
            exact ih_17 (i + 1) (by omega) (by omega) H locs hC ls (lv_sub hl [0, 1, 2] rfl)
          · refine lv_ldc2 (v := 2) hx hb hown (hts _ (by decide +kernel)) dX4_digest_54 ?_
            refine lv_goto (tgt := 61) hx hb dX4_digest_57 (by decide) ?_
            refine lv_ladd hx hb dX4_digest_61 ?_
            refine lv_lstore_n (lv' := [(1, .long ((((dgN G 223 i) * 31) + 1) + 2)), (3, .int (iI (i : Int))), (0, .ref (A.a 0))]) hx hb dX4_digest_62 rfl hl (by decide) rfl (fun ls hl => ?_)
            refine li_incN (lv' := [(3, .int (iI ((i + 1 : Nat) : Int))), (1, .long ((((dgN G 223 i) * 31) + 1) + 2)), (0, .ref (A.a 0))]) (x := i) (d0 := 1) hx hb dX4_digest_63 hl (k := 1) rfl rfl rfl (by decide) rfl (fun ls hl => ?_)
            refine lv_goto (tgt := 17) hx hb dX4_digest_66 (by decide) ?_
            have e1 : ((((dgN G 223 i) * 31) + 1) + 2) = dgN G 223 (i + 1) := by rw [dgN_s]; first | (rw [if_pos (by omega), if_pos (by omega)]; rfl) | (rw [if_pos (by omega), if_neg (by omega)]; rfl) | (rw [if_neg (by omega), if_pos (by omega)]; rfl) | (rw [if_neg (by omega), if_neg (by omega)]; rfl)
            rw [e1] at hl
            exact ih_17 (i + 1) (by omega) (by omega) H locs hC ls (lv_sub hl [0, 1, 2] rfl)
  rw [show (6913 + (iI (G.nn : Int)).toInt64 : Int64) = dgN G 223 0 from rfl] at hl
  exact loop_17 (G.nn + 1) 0 (Nat.lt_succ_self _) (by omega) H locs hC ls (lv_sub hl [0, 1, 2] rfl)
