/-! 26: the reference: ways, next side, nearest store, clearing -/
set_option maxHeartbeats 4000000 in
set_option maxRecDepth 100000 in
theorem mX4_way (l : Launch) (A : AD) (G : GS) (Z : ZS) (z : Int) (hI : Inv G) (hz : -2147483648 ≤ z ∧ z < 2147483648) : dMi l yX4_way wsX4_way ({ frames := 3, cells := 0, slots := 0, locals := 75 }) A [.ref (A.a 0), .int (iI z)] G Z (yKJ (if 0 ≤ z ∧ z < (G.nn : Int) then 0 else 1) (spM G z (-1)) G G) := by
  intro sz
  refine c_start (cc := cX4_way) (maxL := 2) (ret := (some .int)) (by decide) rfl rfl ?_
  intro p e s m args below meth c X hr hk hnm hsz ls hl H locs hC
  subst hsz
  obtain ⟨hx, hb, hml, hown, hts⟩ := id X.1
  have hl : lv_has ls 2 [(0, .ref (A.a 0)), (1, .int (iI z))] := hl
  have iX4 : ∀ w ∈ u_ws RX4 TX4 18, w ∈ wsX4_way := by decide +kernel
  have hnn := hI.nn
  refine lv_aload_n hx hb dX4_way_0 rfl (lv_at hl 0 rfl) ?_
  refine li_c hx hb dX4_way_1 ?_
  refine apX4_thrown X hC iX4 (by decide +kernel) dX4_way_2 (x := 0) (by omega) (fun H locs hC => ?_)
  have hC : aH A (dAdr A) (DW A G (mkZ 0 Z.wt Z.gn Z.gs)) s H locs := hC
  refine lv_aload_n hx hb dX4_way_5 rfl (lv_at hl 0 rfl) ?_
  refine lv_iload_n hx hb dX4_way_6 rfl (lv_at hl 1 rfl) ?_
  refine d_callix (v := bP (0 ≤ z ∧ z < (G.nn : Int))) (n := 1) (As := [.int (iI z)]) (rest := []) X hC (mX4_isNode l A G (mkZ 0 Z.wt Z.gn Z.gs) z (show -2147483648 ≤ z ∧ z < 2147483648 by omega) (show 1 ≤ G.nn ∧ G.nn ≤ 12 by omega)) ⟨gX4_way_X4_isNode, ⟨_, rfl⟩, rfl, rfl, ⟨by decide, by decide, by decide +kernel⟩, Nat.le_of_ble_eq_true rfl, Nat.le_of_ble_eq_true rfl⟩ (a_recv (y := yX4_isNode) X hC.1 (ci := 4) (q0 := 0) rfl rfl rfl) rfl hl.1 rfl (Nat.le_of_ble_eq_true rfl) ⟨Nat.le_of_ble_eq_true rfl, Nat.le_of_ble_eq_true rfl⟩ dX4_way_7 (fun H locs hC => ?_)
  refine li_ifb_ne (tgt := 19) hx hb dX4_way_10 (by decide) (fun c_10 => ?_) (fun c_10 => ?_)
  · refine lv_aload_n hx hb dX4_way_19 rfl (lv_at hl 0 rfl) ?_
    refine lv_iload_n hx hb dX4_way_20 rfl (lv_at hl 1 rfl) ?_
    refine li_c hx hb dX4_way_21 ?_
    refine d_callv (n := 2) (As := [.int (iI z), .int (iI (-1))]) (rest := []) X hC (mX4_weigh l A G (mkZ 0 Z.wt Z.gn Z.gs) z (-1 : Int) hI (show -1 ≤ z ∧ z < 8 by omega) (show -1 ≤ (-1 : Int) ∧ (-1 : Int) < 24 by omega)) ⟨gX4_way_X4_weigh, ⟨_, rfl⟩, rfl, rfl, ⟨by decide, by decide, by decide +kernel⟩, Nat.le_of_ble_eq_true rfl, Nat.le_of_ble_eq_true rfl⟩ (a_recv (y := yX4_weigh) X hC.1 (ci := 4) (q0 := 0) rfl rfl rfl) rfl hl.1 rfl (Nat.le_of_ble_eq_true rfl) ⟨Nat.le_of_ble_eq_true rfl, Nat.le_of_ble_eq_true rfl⟩ dX4_way_22 (fun Gq22 Tq22 H locs hqq22 hC => ?_)
    obtain ⟨hgq22, thq22, gnq22, gsq22, okq22⟩ := hqq22
    have thq22 : Tq22.th = 0 := thq22
    have gnq22 : Tq22.gn = z := gnq22
    have gsq22 : Tq22.gs = (-1 : Int) := gsq22
    have okq22 : WOK G z (-1 : Int) Tq22.wt := okq22
    rw [hgq22] at hC
    refine lv_aload_n hx hb dX4_way_25 rfl (lv_at hl 0 rfl) ?_
    refine d_callix (v := (mlf G Tq22.wt)) (n := 0) (As := []) (rest := []) X hC (mX4_minutesLeft l A G Tq22  hI (show ∀ j, j < 104 → Tq22.wt j ≤ 1000000000 from okq22.1.1)) ⟨gX4_way_X4_minutesLeft, ⟨_, rfl⟩, rfl, rfl, ⟨by decide, by decide, by decide +kernel⟩, Nat.le_of_ble_eq_true rfl, Nat.le_of_ble_eq_true rfl⟩ (a_recv (y := yX4_minutesLeft) X hC.1 (ci := 4) (q0 := 0) rfl rfl rfl) rfl hl.1 rfl (Nat.le_of_ble_eq_true rfl) ⟨Nat.le_of_ble_eq_true rfl, Nat.le_of_ble_eq_true rfl⟩ dX4_way_26 (fun H locs hC => ?_)
    exact d_iret X hC hr hk (Or.inl ⟨if_pos (by omega), mlf_sp hI (by decide) (Or.inl ⟨rfl, by omega⟩) okq22, rfl, thq22⟩) dX4_way_29
  · refine lv_aload_n hx hb dX4_way_13 rfl (lv_at hl 0 rfl) ?_
    refine li_c hx hb dX4_way_14 ?_
    refine d_callix (v := 0) (n := 1) (As := [.int (iI 1)]) (rest := []) X hC (mX4_fail l A G (mkZ 0 Z.wt Z.gn Z.gs) 1) ⟨gX4_way_X4_fail, ⟨_, rfl⟩, rfl, rfl, ⟨by decide, by decide, by decide +kernel⟩, Nat.le_of_ble_eq_true rfl, Nat.le_of_ble_eq_true rfl⟩ (a_recv (y := yX4_fail) X hC.1 (ci := 4) (q0 := 0) rfl rfl rfl) rfl hl.1 rfl (Nat.le_of_ble_eq_true rfl) ⟨Nat.le_of_ble_eq_true rfl, Nat.le_of_ble_eq_true rfl⟩ dX4_way_15 (fun H locs hC => ?_)
    have hC : aH A (dAdr A) (DW A G (mkZ 1 Z.wt Z.gn Z.gs)) s H locs := hC
    exact d_iret X hC hr hk (Or.inr ⟨by first | decide | (rw [if_neg (by omega)]; decide), rfl, rfl, by first | rfl | (rw [if_neg (by omega)]; rfl)⟩) dX4_way_18

set_option maxHeartbeats 4000000 in
set_option maxRecDepth 100000 in
theorem mX4_first (l : Launch) (A : AD) (G : GS) (Z : ZS) (z : Int) (hI : Inv G) (hz : -2147483648 ≤ z ∧ z < 2147483648) : dMi l yX4_first wsX4_first ({ frames := 3, cells := 0, slots := 0, locals := 75 }) A [.ref (A.a 0), .int (iI z)] G Z (yKJ (if 0 ≤ z ∧ z < (G.nn : Int) then 0 else 1) (hd1 (spW G z (-1))) G G) := by
  intro sz
  refine c_start (cc := cX4_first) (maxL := 2) (ret := (some .int)) (by decide) rfl rfl ?_
  intro p e s m args below meth c X hr hk hnm hsz ls hl H locs hC
  subst hsz
  obtain ⟨hx, hb, hml, hown, hts⟩ := id X.1
  have hl : lv_has ls 2 [(0, .ref (A.a 0)), (1, .int (iI z))] := hl
  have iX4 : ∀ w ∈ u_ws RX4 TX4 18, w ∈ wsX4_first := by decide +kernel
  have hnn := hI.nn
  refine lv_aload_n hx hb dX4_first_0 rfl (lv_at hl 0 rfl) ?_
  refine li_c hx hb dX4_first_1 ?_
  refine apX4_thrown X hC iX4 (by decide +kernel) dX4_first_2 (x := 0) (by omega) (fun H locs hC => ?_)
  have hC : aH A (dAdr A) (DW A G (mkZ 0 Z.wt Z.gn Z.gs)) s H locs := hC
  refine lv_aload_n hx hb dX4_first_5 rfl (lv_at hl 0 rfl) ?_
  refine lv_iload_n hx hb dX4_first_6 rfl (lv_at hl 1 rfl) ?_
  refine d_callix (v := bP (0 ≤ z ∧ z < (G.nn : Int))) (n := 1) (As := [.int (iI z)]) (rest := []) X hC (mX4_isNode l A G (mkZ 0 Z.wt Z.gn Z.gs) z (show -2147483648 ≤ z ∧ z < 2147483648 by omega) (show 1 ≤ G.nn ∧ G.nn ≤ 12 by omega)) ⟨gX4_first_X4_isNode, ⟨_, rfl⟩, rfl, rfl, ⟨by decide, by decide, by decide +kernel⟩, Nat.le_of_ble_eq_true rfl, Nat.le_of_ble_eq_true rfl⟩ (a_recv (y := yX4_isNode) X hC.1 (ci := 4) (q0 := 0) rfl rfl rfl) rfl hl.1 rfl (Nat.le_of_ble_eq_true rfl) ⟨Nat.le_of_ble_eq_true rfl, Nat.le_of_ble_eq_true rfl⟩ dX4_first_7 (fun H locs hC => ?_)
  refine li_ifb_ne (tgt := 19) hx hb dX4_first_10 (by decide) (fun c_10 => ?_) (fun c_10 => ?_)
  · refine lv_aload_n hx hb dX4_first_19 rfl (lv_at hl 0 rfl) ?_
    refine lv_iload_n hx hb dX4_first_20 rfl (lv_at hl 1 rfl) ?_
    refine li_c hx hb dX4_first_21 ?_
    refine d_callv (n := 2) (As := [.int (iI z), .int (iI (-1))]) (rest := []) X hC (mX4_weigh l A G (mkZ 0 Z.wt Z.gn Z.gs) z (-1 : Int) hI (show -1 ≤ z ∧ z < 8 by omega) (show -1 ≤ (-1 : Int) ∧ (-1 : Int) < 24 by omega)) ⟨gX4_first_X4_weigh, ⟨_, rfl⟩, rfl, rfl, ⟨by decide, by decide, by decide +kernel⟩, Nat.le_of_ble_eq_true rfl, Nat.le_of_ble_eq_true rfl⟩ (a_recv (y := yX4_weigh) X hC.1 (ci := 4) (q0 := 0) rfl rfl rfl) rfl hl.1 rfl (Nat.le_of_ble_eq_true rfl) ⟨Nat.le_of_ble_eq_true rfl, Nat.le_of_ble_eq_true rfl⟩ dX4_first_22 (fun Gq22 Tq22 H locs hqq22 hC => ?_)
    obtain ⟨hgq22, thq22, gnq22, gsq22, okq22⟩ := hqq22
    have thq22 : Tq22.th = 0 := thq22
    have gnq22 : Tq22.gn = z := gnq22
    have gsq22 : Tq22.gs = (-1 : Int) := gsq22
    have okq22 : WOK G z (-1 : Int) Tq22.wt := okq22
    rw [hgq22] at hC
    refine lv_aload_n hx hb dX4_first_25 rfl (lv_at hl 0 rfl) ?_
    refine d_callix (v := (if Tq22.wt (wI G.vn G.vc) = 0 ∨ Tq22.wt (wI G.vn G.vc) = 1000000000 then -1 else (((hd1 (spW G z (-1))).toNat) : Int))) (n := 0) (As := []) (rest := []) X hC (mX4_nextRoad l A G Tq22 ((hd1 (spW G z (-1))).toNat) hI (show ∀ j, j < 104 → Tq22.wt j ≤ 1000000000 from okq22.1.1) (show -1 ≤ Tq22.gs ∧ Tq22.gs < 24 by rw [gsq22]; omega) (show Tq22.wt (wI G.vn G.vc) = 0 ∨ Tq22.wt (wI G.vn G.vc) = 1000000000 ∨ (((hd1 (spW G z (-1))).toNat) < G.rr ∧ wBy G Tq22.wt Tq22.gs ((hd1 (spW G z (-1))).toNat) G.vn G.vc = Tq22.wt (wI G.vn G.vc) ∧ ∀ j, j < ((hd1 (spW G z (-1))).toNat) → wBy G Tq22.wt Tq22.gs j G.vn G.vc ≠ Tq22.wt (wI G.vn G.vc)) by rw [gsq22]; exact (nx_sp hI (by decide) (Or.inl ⟨rfl, by omega⟩) okq22).1)) ⟨gX4_first_X4_nextRoad, ⟨_, rfl⟩, rfl, rfl, ⟨by decide, by decide, by decide +kernel⟩, Nat.le_of_ble_eq_true rfl, Nat.le_of_ble_eq_true rfl⟩ (a_recv (y := yX4_nextRoad) X hC.1 (ci := 4) (q0 := 0) rfl rfl rfl) rfl hl.1 rfl (Nat.le_of_ble_eq_true rfl) ⟨Nat.le_of_ble_eq_true rfl, Nat.le_of_ble_eq_true rfl⟩ dX4_first_26 (fun H locs hC => ?_)
    exact d_iret X hC hr hk (Or.inl ⟨if_pos (by omega), (nx_sp hI (by decide) (Or.inl ⟨rfl, by omega⟩) okq22).2, rfl, thq22⟩) dX4_first_29
  · refine lv_aload_n hx hb dX4_first_13 rfl (lv_at hl 0 rfl) ?_
    refine li_c hx hb dX4_first_14 ?_
    refine d_callix (v := 0) (n := 1) (As := [.int (iI 1)]) (rest := []) X hC (mX4_fail l A G (mkZ 0 Z.wt Z.gn Z.gs) 1) ⟨gX4_first_X4_fail, ⟨_, rfl⟩, rfl, rfl, ⟨by decide, by decide, by decide +kernel⟩, Nat.le_of_ble_eq_true rfl, Nat.le_of_ble_eq_true rfl⟩ (a_recv (y := yX4_fail) X hC.1 (ci := 4) (q0 := 0) rfl rfl rfl) rfl hl.1 rfl (Nat.le_of_ble_eq_true rfl) ⟨Nat.le_of_ble_eq_true rfl, Nat.le_of_ble_eq_true rfl⟩ dX4_first_15 (fun H locs hC => ?_)
    have hC : aH A (dAdr A) (DW A G (mkZ 1 Z.wt Z.gn Z.gs)) s H locs := hC
    exact d_iret X hC hr hk (Or.inr ⟨by first | decide | (rw [if_neg (by omega)]; decide), rfl, rfl, by first | rfl | (rw [if_neg (by omega)]; rfl)⟩) dX4_first_18

set_option maxHeartbeats 4000000 in
set_option maxRecDepth 100000 in
theorem mX4_wayToSide (l : Launch) (A : AD) (G : GS) (Z : ZS) (r : Int) (k : Int) (hI : Inv G) (hr1 : -2147483648 ≤ r ∧ r < 2147483648) (hk1 : -2147483648 ≤ k ∧ k < 2147483648) : dMi l yX4_wayToSide wsX4_wayToSide ({ frames := 3, cells := 0, slots := 0, locals := 75 }) A [.ref (A.a 0), .int (iI r), .int (iI k)] G Z (yKJ (if (0 ≤ r ∧ r < (G.rr : Int)) ∧ (0 ≤ k ∧ k ≤ 1) then 0 else 1) (spM G (-1) (2 * r + k)) G G) := by
  intro sz
  refine c_start (cc := cX4_wayToSide) (maxL := 3) (ret := (some .int)) (by decide) rfl rfl ?_
  intro p e s m args below meth c X hr hk hnm hsz ls hl H locs hC
  subst hsz
  obtain ⟨hx, hb, hml, hown, hts⟩ := id X.1
  have hl : lv_has ls 3 [(0, .ref (A.a 0)), (1, .int (iI r)), (2, .int (iI k))] := hl
  have iX4 : ∀ w ∈ u_ws RX4 TX4 18, w ∈ wsX4_wayToSide := by decide +kernel
  have hrr := hI.rr
  refine lv_aload_n hx hb dX4_wayToSide_0 rfl (lv_at hl 0 rfl) ?_
  refine li_c hx hb dX4_wayToSide_1 ?_
  refine apX4_thrown X hC iX4 (by decide +kernel) dX4_wayToSide_2 (x := 0) (by omega) (fun H locs hC => ?_)
  have hC : aH A (dAdr A) (DW A G (mkZ 0 Z.wt Z.gn Z.gs)) s H locs := hC
  refine lv_aload_n hx hb dX4_wayToSide_5 rfl (lv_at hl 0 rfl) ?_
  refine lv_iload_n hx hb dX4_wayToSide_6 rfl (lv_at hl 1 rfl) ?_
  refine lv_iload_n hx hb dX4_wayToSide_7 rfl (lv_at hl 2 rfl) ?_
  refine d_callix (v := bP ((0 ≤ r ∧ r < (G.rr : Int)) ∧ (0 ≤ k ∧ k ≤ 1))) (n := 2) (As := [.int (iI r), .int (iI k)]) (rest := []) X hC (mX4_isSide l A G (mkZ 0 Z.wt Z.gn Z.gs) r k (show -2147483648 ≤ r ∧ r < 2147483648 by omega) (show -2147483648 ≤ k ∧ k < 2147483648 by omega) (show G.rr ≤ 12 by omega)) ⟨gX4_wayToSide_X4_isSide, ⟨_, rfl⟩, rfl, rfl, ⟨by decide, by decide, by decide +kernel⟩, Nat.le_of_ble_eq_true rfl, Nat.le_of_ble_eq_true rfl⟩ (a_recv (y := yX4_isSide) X hC.1 (ci := 4) (q0 := 0) rfl rfl rfl) rfl hl.1 rfl (Nat.le_of_ble_eq_true rfl) ⟨Nat.le_of_ble_eq_true rfl, Nat.le_of_ble_eq_true rfl⟩ dX4_wayToSide_8 (fun H locs hC => ?_)
  refine li_ifb_ne (tgt := 20) hx hb dX4_wayToSide_11 (by decide) (fun c_11 => ?_) (fun c_11 => ?_)
  · refine lv_aload_n hx hb dX4_wayToSide_20 rfl (lv_at hl 0 rfl) ?_
    refine li_c hx hb dX4_wayToSide_21 ?_
    refine li_c hx hb dX4_wayToSide_22 ?_
    refine lv_iload_n hx hb dX4_wayToSide_23 rfl (lv_at hl 1 rfl) ?_
    refine li_mul hx hb dX4_wayToSide_24 ?_
    refine lv_iload_n hx hb dX4_wayToSide_25 rfl (lv_at hl 2 rfl) ?_
    refine li_add hx hb dX4_wayToSide_26 ?_
    refine d_callv (n := 2) (As := [.int (iI (-1)), .int (iI ((2 * r) + k))]) (rest := []) X hC (mX4_weigh l A G (mkZ 0 Z.wt Z.gn Z.gs) (-1 : Int) ((2 * r) + k) hI (show -1 ≤ (-1 : Int) ∧ (-1 : Int) < 8 by omega) (show -1 ≤ ((2 * r) + k) ∧ ((2 * r) + k) < 24 by omega)) ⟨gX4_wayToSide_X4_weigh, ⟨_, rfl⟩, rfl, rfl, ⟨by decide, by decide, by decide +kernel⟩, Nat.le_of_ble_eq_true rfl, Nat.le_of_ble_eq_true rfl⟩ (a_recv (y := yX4_weigh) X hC.1 (ci := 4) (q0 := 0) rfl rfl rfl) rfl hl.1 rfl (Nat.le_of_ble_eq_true rfl) ⟨Nat.le_of_ble_eq_true rfl, Nat.le_of_ble_eq_true rfl⟩ dX4_wayToSide_27 (fun Gq27 Tq27 H locs hqq27 hC => ?_)
    obtain ⟨hgq27, thq27, gnq27, gsq27, okq27⟩ := hqq27
    have thq27 : Tq27.th = 0 := thq27
    have gnq27 : Tq27.gn = (-1 : Int) := gnq27
    have gsq27 : Tq27.gs = ((2 * r) + k) := gsq27
    have okq27 : WOK G (-1 : Int) ((2 * r) + k) Tq27.wt := okq27
    rw [hgq27] at hC
    refine lv_aload_n hx hb dX4_wayToSide_30 rfl (lv_at hl 0 rfl) ?_
    refine d_callix (v := (mlf G Tq27.wt)) (n := 0) (As := []) (rest := []) X hC (mX4_minutesLeft l A G Tq27  hI (show ∀ j, j < 104 → Tq27.wt j ≤ 1000000000 from okq27.1.1)) ⟨gX4_wayToSide_X4_minutesLeft, ⟨_, rfl⟩, rfl, rfl, ⟨by decide, by decide, by decide +kernel⟩, Nat.le_of_ble_eq_true rfl, Nat.le_of_ble_eq_true rfl⟩ (a_recv (y := yX4_minutesLeft) X hC.1 (ci := 4) (q0 := 0) rfl rfl rfl) rfl hl.1 rfl (Nat.le_of_ble_eq_true rfl) ⟨Nat.le_of_ble_eq_true rfl, Nat.le_of_ble_eq_true rfl⟩ dX4_wayToSide_31 (fun H locs hC => ?_)
    exact d_iret X hC hr hk (Or.inl ⟨if_pos (by omega), mlf_sp hI (by omega) (Or.inr ⟨rfl, by omega, by omega⟩) okq27, rfl, thq27⟩) dX4_wayToSide_34
  · refine lv_aload_n hx hb dX4_wayToSide_14 rfl (lv_at hl 0 rfl) ?_
    refine li_c hx hb dX4_wayToSide_15 ?_
    refine d_callix (v := 0) (n := 1) (As := [.int (iI 1)]) (rest := []) X hC (mX4_fail l A G (mkZ 0 Z.wt Z.gn Z.gs) 1) ⟨gX4_wayToSide_X4_fail, ⟨_, rfl⟩, rfl, rfl, ⟨by decide, by decide, by decide +kernel⟩, Nat.le_of_ble_eq_true rfl, Nat.le_of_ble_eq_true rfl⟩ (a_recv (y := yX4_fail) X hC.1 (ci := 4) (q0 := 0) rfl rfl rfl) rfl hl.1 rfl (Nat.le_of_ble_eq_true rfl) ⟨Nat.le_of_ble_eq_true rfl, Nat.le_of_ble_eq_true rfl⟩ dX4_wayToSide_16 (fun H locs hC => ?_)
    have hC : aH A (dAdr A) (DW A G (mkZ 1 Z.wt Z.gn Z.gs)) s H locs := hC
    exact d_iret X hC hr hk (Or.inr ⟨by first | decide | (rw [if_neg (by omega)]; decide), rfl, rfl, by first | rfl | (rw [if_neg (by omega)]; rfl)⟩) dX4_wayToSide_19

set_option maxHeartbeats 4000000 in
set_option maxRecDepth 100000 in
theorem mX4_firstToSide (l : Launch) (A : AD) (G : GS) (Z : ZS) (r : Int) (k : Int) (hI : Inv G) (hr1 : -2147483648 ≤ r ∧ r < 2147483648) (hk1 : -2147483648 ≤ k ∧ k < 2147483648) : dMi l yX4_firstToSide wsX4_firstToSide ({ frames := 3, cells := 0, slots := 0, locals := 75 }) A [.ref (A.a 0), .int (iI r), .int (iI k)] G Z (yKJ (if (0 ≤ r ∧ r < (G.rr : Int)) ∧ (0 ≤ k ∧ k ≤ 1) then 0 else 1) (hd1 (spW G (-1) (2 * r + k))) G G) := by
  intro sz
  refine c_start (cc := cX4_firstToSide) (maxL := 3) (ret := (some .int)) (by decide) rfl rfl ?_
  intro p e s m args below meth c X hr hk hnm hsz ls hl H locs hC
  subst hsz
  obtain ⟨hx, hb, hml, hown, hts⟩ := id X.1
  have hl : lv_has ls 3 [(0, .ref (A.a 0)), (1, .int (iI r)), (2, .int (iI k))] := hl
  have iX4 : ∀ w ∈ u_ws RX4 TX4 18, w ∈ wsX4_firstToSide := by decide +kernel
  have hrr := hI.rr
  refine lv_aload_n hx hb dX4_firstToSide_0 rfl (lv_at hl 0 rfl) ?_
  refine li_c hx hb dX4_firstToSide_1 ?_
  refine apX4_thrown X hC iX4 (by decide +kernel) dX4_firstToSide_2 (x := 0) (by omega) (fun H locs hC => ?_)
  have hC : aH A (dAdr A) (DW A G (mkZ 0 Z.wt Z.gn Z.gs)) s H locs := hC
  refine lv_aload_n hx hb dX4_firstToSide_5 rfl (lv_at hl 0 rfl) ?_
  refine lv_iload_n hx hb dX4_firstToSide_6 rfl (lv_at hl 1 rfl) ?_
  refine lv_iload_n hx hb dX4_firstToSide_7 rfl (lv_at hl 2 rfl) ?_
  refine d_callix (v := bP ((0 ≤ r ∧ r < (G.rr : Int)) ∧ (0 ≤ k ∧ k ≤ 1))) (n := 2) (As := [.int (iI r), .int (iI k)]) (rest := []) X hC (mX4_isSide l A G (mkZ 0 Z.wt Z.gn Z.gs) r k (show -2147483648 ≤ r ∧ r < 2147483648 by omega) (show -2147483648 ≤ k ∧ k < 2147483648 by omega) (show G.rr ≤ 12 by omega)) ⟨gX4_firstToSide_X4_isSide, ⟨_, rfl⟩, rfl, rfl, ⟨by decide, by decide, by decide +kernel⟩, Nat.le_of_ble_eq_true rfl, Nat.le_of_ble_eq_true rfl⟩ (a_recv (y := yX4_isSide) X hC.1 (ci := 4) (q0 := 0) rfl rfl rfl) rfl hl.1 rfl (Nat.le_of_ble_eq_true rfl) ⟨Nat.le_of_ble_eq_true rfl, Nat.le_of_ble_eq_true rfl⟩ dX4_firstToSide_8 (fun H locs hC => ?_)
  refine li_ifb_ne (tgt := 20) hx hb dX4_firstToSide_11 (by decide) (fun c_11 => ?_) (fun c_11 => ?_)
  · refine lv_aload_n hx hb dX4_firstToSide_20 rfl (lv_at hl 0 rfl) ?_
    refine li_c hx hb dX4_firstToSide_21 ?_
    refine li_c hx hb dX4_firstToSide_22 ?_
    refine lv_iload_n hx hb dX4_firstToSide_23 rfl (lv_at hl 1 rfl) ?_
    refine li_mul hx hb dX4_firstToSide_24 ?_
    refine lv_iload_n hx hb dX4_firstToSide_25 rfl (lv_at hl 2 rfl) ?_
    refine li_add hx hb dX4_firstToSide_26 ?_
    refine d_callv (n := 2) (As := [.int (iI (-1)), .int (iI ((2 * r) + k))]) (rest := []) X hC (mX4_weigh l A G (mkZ 0 Z.wt Z.gn Z.gs) (-1 : Int) ((2 * r) + k) hI (show -1 ≤ (-1 : Int) ∧ (-1 : Int) < 8 by omega) (show -1 ≤ ((2 * r) + k) ∧ ((2 * r) + k) < 24 by omega)) ⟨gX4_firstToSide_X4_weigh, ⟨_, rfl⟩, rfl, rfl, ⟨by decide, by decide, by decide +kernel⟩, Nat.le_of_ble_eq_true rfl, Nat.le_of_ble_eq_true rfl⟩ (a_recv (y := yX4_weigh) X hC.1 (ci := 4) (q0 := 0) rfl rfl rfl) rfl hl.1 rfl (Nat.le_of_ble_eq_true rfl) ⟨Nat.le_of_ble_eq_true rfl, Nat.le_of_ble_eq_true rfl⟩ dX4_firstToSide_27 (fun Gq27 Tq27 H locs hqq27 hC => ?_)
    obtain ⟨hgq27, thq27, gnq27, gsq27, okq27⟩ := hqq27
    have thq27 : Tq27.th = 0 := thq27
    have gnq27 : Tq27.gn = (-1 : Int) := gnq27
    have gsq27 : Tq27.gs = ((2 * r) + k) := gsq27
    have okq27 : WOK G (-1 : Int) ((2 * r) + k) Tq27.wt := okq27
    rw [hgq27] at hC
    refine lv_aload_n hx hb dX4_firstToSide_30 rfl (lv_at hl 0 rfl) ?_
    refine d_callix (v := (if Tq27.wt (wI G.vn G.vc) = 0 ∨ Tq27.wt (wI G.vn G.vc) = 1000000000 then -1 else (((hd1 (spW G (-1) (2 * r + k))).toNat) : Int))) (n := 0) (As := []) (rest := []) X hC (mX4_nextRoad l A G Tq27 ((hd1 (spW G (-1) (2 * r + k))).toNat) hI (show ∀ j, j < 104 → Tq27.wt j ≤ 1000000000 from okq27.1.1) (show -1 ≤ Tq27.gs ∧ Tq27.gs < 24 by rw [gsq27]; omega) (show Tq27.wt (wI G.vn G.vc) = 0 ∨ Tq27.wt (wI G.vn G.vc) = 1000000000 ∨ (((hd1 (spW G (-1) (2 * r + k))).toNat) < G.rr ∧ wBy G Tq27.wt Tq27.gs ((hd1 (spW G (-1) (2 * r + k))).toNat) G.vn G.vc = Tq27.wt (wI G.vn G.vc) ∧ ∀ j, j < ((hd1 (spW G (-1) (2 * r + k))).toNat) → wBy G Tq27.wt Tq27.gs j G.vn G.vc ≠ Tq27.wt (wI G.vn G.vc)) by rw [gsq27]; exact (nx_sp hI (by omega) (Or.inr ⟨rfl, by omega, by omega⟩) okq27).1)) ⟨gX4_firstToSide_X4_nextRoad, ⟨_, rfl⟩, rfl, rfl, ⟨by decide, by decide, by decide +kernel⟩, Nat.le_of_ble_eq_true rfl, Nat.le_of_ble_eq_true rfl⟩ (a_recv (y := yX4_nextRoad) X hC.1 (ci := 4) (q0 := 0) rfl rfl rfl) rfl hl.1 rfl (Nat.le_of_ble_eq_true rfl) ⟨Nat.le_of_ble_eq_true rfl, Nat.le_of_ble_eq_true rfl⟩ dX4_firstToSide_31 (fun H locs hC => ?_)
    exact d_iret X hC hr hk (Or.inl ⟨if_pos (by omega), (nx_sp hI (by omega) (Or.inr ⟨rfl, by omega, by omega⟩) okq27).2, rfl, thq27⟩) dX4_firstToSide_34
  · refine lv_aload_n hx hb dX4_firstToSide_14 rfl (lv_at hl 0 rfl) ?_
    refine li_c hx hb dX4_firstToSide_15 ?_
    refine d_callix (v := 0) (n := 1) (As := [.int (iI 1)]) (rest := []) X hC (mX4_fail l A G (mkZ 0 Z.wt Z.gn Z.gs) 1) ⟨gX4_firstToSide_X4_fail, ⟨_, rfl⟩, rfl, rfl, ⟨by decide, by decide, by decide +kernel⟩, Nat.le_of_ble_eq_true rfl, Nat.le_of_ble_eq_true rfl⟩ (a_recv (y := yX4_fail) X hC.1 (ci := 4) (q0 := 0) rfl rfl rfl) rfl hl.1 rfl (Nat.le_of_ble_eq_true rfl) ⟨Nat.le_of_ble_eq_true rfl, Nat.le_of_ble_eq_true rfl⟩ dX4_firstToSide_16 (fun H locs hC => ?_)
    have hC : aH A (dAdr A) (DW A G (mkZ 1 Z.wt Z.gn Z.gs)) s H locs := hC
    exact d_iret X hC hr hk (Or.inr ⟨by first | decide | (rw [if_neg (by omega)]; decide), rfl, rfl, by first | rfl | (rw [if_neg (by omega)]; rfl)⟩) dX4_firstToSide_19

set_option maxHeartbeats 4000000 in
set_option maxRecDepth 100000 in
theorem mX4_nextSide (l : Launch) (A : AD) (G : GS) (Z : ZS) (hI : Inv G) : dMi l yX4_nextSide wsX4_nextSide ({ frames := 3, cells := 0, slots := 0, locals := 75 }) A [.ref (A.a 0)] G Z ((fun z9 g9 t9 => z9 = (nxt G) ∧ g9 = G ∧ (t9.th = Z.th))) := by
  intro sz
  refine c_start (cc := cX4_nextSide) (maxL := 5) (ret := (some .int)) (by decide) rfl rfl ?_
  intro p e s m args below meth c X hr hk hnm hsz ls hl H locs hC
  subst hsz
  obtain ⟨hx, hb, hml, hown, hts⟩ := id X.1
  have hl : lv_has ls 5 [(0, .ref (A.a 0))] := hl
  have iX4 : ∀ w ∈ u_ws RX4 TX4 18, w ∈ wsX4_nextSide := by decide +kernel
  have hrr := hI.rr
  refine li_c hx hb dX4_nextSide_0 ?_
  refine lv_istore_n (lv' := [(1, .int (iI (-1))), (0, .ref (A.a 0))]) hx hb dX4_nextSide_1 rfl hl (by decide) rfl (fun ls hl => ?_)
  refine li_c hx hb dX4_nextSide_2 ?_
  refine lv_istore_n (lv' := [(2, .int (iI 0)), (1, .int (iI (-1))), (0, .ref (A.a 0))]) hx hb dX4_nextSide_3 rfl hl (by decide) rfl (fun ls hl => ?_)
  refine li_c hx hb dX4_nextSide_4 ?_
  refine lv_istore_n (lv' := [(3, .int (iI 0)), (2, .int (iI 0)), (1, .int (iI (-1))), (0, .ref (A.a 0))]) hx hb dX4_nextSide_5 rfl hl (by decide) rfl (fun ls hl => ?_)
  have loop_6 : ∀ (n : Nat) (i : Nat) (T9 : ZS) (hn : 2 * G.rr - i < n) (hi : i ≤ 2 * G.rr) (hT : T9.th = Z.th) (H : Heap) (locs : List Loc) (hC : aH A (dAdr A) (DW A G T9) s H locs) (ls : Array Slot) (hl : lv_has ls 5 [(3, .int (iI (i : Int))), (2, .int (iI (bmS G i))), (1, .int (iI (fnS G i))), (0, .ref (A.a 0))]), W p l e ({ frames := 3, cells := 0, slots := 0, locals := 75 }) s m args below meth c H locs 0 0 (aQi below (dEnd A) (dAdr A) args s ((fun z9 g9 t9 => z9 = (nxt G) ∧ g9 = G ∧ (t9.th = Z.th)))) (F0 m 6 ls []) := by
    intro n
    induction n with
    | zero => intro i T9 hn; exact absurd hn (Nat.not_lt_zero _)
    | succ n ih_6 =>
      intro i T9 hn hi hT H locs hC ls hl
      have hfr := fnS_rng G i
      have hbm := bmS_or G i
      have hbr := bmS_rng hI hi
      have hde := hI.de i
      have hp9 := hI.pr (i / 2)
      have hp8 := hI.pr ((fnS G i).toNat / 2)
      refine lv_iload_n hx hb dX4_nextSide_6 rfl (lv_at hl 0 rfl) ?_
      refine li_c hx hb dX4_nextSide_7 ?_
      refine lv_aload_n hx hb dX4_nextSide_8 rfl (lv_at hl 3 rfl) ?_
      refine agX4_roads X hC iX4 (by decide +kernel) dX4_nextSide_9 (v := (G.rr : Int)) rfl ?_
      refine li_mulN (x := 2) (y := G.rr) hx hb dX4_nextSide_12 rfl rfl ?_
      refine li_icmp_ge (tgt := 116) hx hb dX4_nextSide_13 (by decide) (by omega) (fun c_13 => ?_) (fun c_13 => ?_)
      · refine lv_iload_n hx hb dX4_nextSide_116 rfl (lv_at hl 2 rfl) ?_
        exact d_iret X hC hr hk (⟨by unfold nxt; rw [show 2 * G.rr = i by omega], rfl, hT⟩) dX4_nextSide_117
      · refine lv_aload_n hx hb dX4_nextSide_16 rfl (lv_at hl 3 rfl) ?_
        refine agX4_depths X hC iX4 (by decide +kernel) dX4_nextSide_17 ?_
        refine lv_iload_n hx hb dX4_nextSide_20 rfl (lv_at hl 0 rfl) ?_
        refine alD_de (k0 := i) (v := ((G.de i : Nat) : Int)) X hC (by omega) (by omega) rfl dX4_nextSide_21 ?_
        have hb1 := hI.de i
        refine li_bi hx hb dX4_nextSide_22 (by decide) ?_
        refine li_icmp_lt (tgt := 110) hx hb dX4_nextSide_24 (by decide) (by omega) (fun c_24 => ?_) (fun c_24 => ?_)
        · refine li_incN (lv' := [(3, .int (iI ((i + 1 : Nat) : Int))), (2, .int (iI (bmS G i))), (1, .int (iI (fnS G i))), (0, .ref (A.a 0))]) (x := i) (d0 := 1) hx hb dX4_nextSide_110 hl (k := 0) rfl rfl rfl (by decide) rfl (fun ls hl => ?_)
          refine lv_goto (tgt := 6) hx hb dX4_nextSide_113 (by decide) ?_
          have e1 : fnS G (i + 1) = fnS G i := by
            rw [fnS_s]
            refine if_neg (fun hq => ?_)
            obtain ⟨h1, h2, h3⟩ := hq
            omega
          have e2 : bmS G (i + 1) = bmS G i := by unfold bmS; rw [e1]
          rw [← e1, ← e2] at hl
          exact ih_6 (i + 1) T9 (by omega) (by omega) (hT) H locs hC ls (lv_sub hl [0, 1, 2, 3] rfl)
        · refine lv_iload_n hx hb dX4_nextSide_27 rfl (lv_at hl 2 rfl) ?_
          refine li_c hx hb dX4_nextSide_28 ?_
          refine li_icmp_eq (tgt := 54) hx hb dX4_nextSide_29 (by decide) (by omega) (fun c_29 => ?_) (fun c_29 => ?_)
          · have hsr := spM_rng hI (n := -1) (k := (i : Int)) (Or.inr ⟨rfl, by omega, by omega⟩)
            refine lv_aload_n hx hb dX4_nextSide_54 rfl (lv_at hl 3 rfl) ?_
            refine li_c hx hb dX4_nextSide_55 ?_
            refine lv_iload_n hx hb dX4_nextSide_56 rfl (lv_at hl 0 rfl) ?_
            refine d_callv (n := 2) (As := [.int (iI (-1)), .int (iI (i : Int))]) (rest := []) X hC (mX4_weigh l A G T9 (-1 : Int) (i : Int) hI (show -1 ≤ (-1 : Int) ∧ (-1 : Int) < 8 by omega) (show -1 ≤ (i : Int) ∧ (i : Int) < 24 by omega)) ⟨gX4_nextSide_X4_weigh, ⟨_, rfl⟩, rfl, rfl, ⟨by decide, by decide, by decide +kernel⟩, Nat.le_of_ble_eq_true rfl, Nat.le_of_ble_eq_true rfl⟩ (a_recv (y := yX4_weigh) X hC.1 (ci := 4) (q0 := 0) rfl rfl rfl) rfl hl.1 rfl (Nat.le_of_ble_eq_true rfl) ⟨Nat.le_of_ble_eq_true rfl, Nat.le_of_ble_eq_true rfl⟩ dX4_nextSide_57 (fun Gq57 Tq57 H locs hqq57 hC => ?_)
            obtain ⟨hgq57, thq57, gnq57, gsq57, okq57⟩ := hqq57
            have thq57 : Tq57.th = T9.th := thq57
            have gnq57 : Tq57.gn = (-1 : Int) := gnq57
            have gsq57 : Tq57.gs = (i : Int) := gsq57
            have okq57 : WOK G (-1 : Int) (i : Int) Tq57.wt := okq57
            rw [hgq57] at hC
            refine lv_aload_n hx hb dX4_nextSide_60 rfl (lv_at hl 3 rfl) ?_
            refine d_callix (v := (mlf G Tq57.wt)) (n := 0) (As := []) (rest := []) X hC (mX4_minutesLeft l A G Tq57  hI (show ∀ j, j < 104 → Tq57.wt j ≤ 1000000000 from okq57.1.1)) ⟨gX4_nextSide_X4_minutesLeft, ⟨_, rfl⟩, rfl, rfl, ⟨by decide, by decide, by decide +kernel⟩, Nat.le_of_ble_eq_true rfl, Nat.le_of_ble_eq_true rfl⟩ (a_recv (y := yX4_minutesLeft) X hC.1 (ci := 4) (q0 := 0) rfl rfl rfl) rfl hl.1 rfl (Nat.le_of_ble_eq_true rfl) ⟨Nat.le_of_ble_eq_true rfl, Nat.le_of_ble_eq_true rfl⟩ dX4_nextSide_61 (fun H locs hC => ?_)
            rw [show mlf G Tq57.wt = spM G (-1) (i : Int) from mlf_sp hI (by omega) (Or.inr ⟨rfl, by omega, by omega⟩) okq57]
            refine lv_istore (lv' := [(4, .int (iI (spM G (-1) (i : Int)))), (3, .int (iI (i : Int))), (2, .int (iI (bmS G i))), (1, .int (iI (fnS G i))), (0, .ref (A.a 0))]) hx hb dX4_nextSide_64 hl (by decide) rfl (fun ls hl => ?_)
            refine lv_iload hx hb dX4_nextSide_66 (lv_at hl 0 rfl) ?_
            refine li_c hx hb dX4_nextSide_68 ?_
            refine li_icmp_eq (tgt := 110) hx hb dX4_nextSide_69 (by decide) (by omega) (fun c_69 => ?_) (fun c_69 => ?_)
            · refine li_incN (lv' := [(3, .int (iI ((i + 1 : Nat) : Int))), (4, .int (iI (spM G (-1) (i : Int)))), (2, .int (iI (bmS G i))), (1, .int (iI (fnS G i))), (0, .ref (A.a 0))]) (x := i) (d0 := 1) hx hb dX4_nextSide_110 hl (k := 1) rfl rfl rfl (by decide) rfl (fun ls hl => ?_)
              refine lv_goto (tgt := 6) hx hb dX4_nextSide_113 (by decide) ?_
              have e1 : fnS G (i + 1) = fnS G i := by
                rw [fnS_s]
                refine if_neg (fun hq => ?_)
                obtain ⟨h1, h2, h3⟩ := hq
                omega
              have e2 : bmS G (i + 1) = bmS G i := by unfold bmS; rw [e1]
              rw [← e1, ← e2] at hl
              exact ih_6 (i + 1) Tq57 (by omega) (by omega) (thq57.trans hT) H locs hC ls (lv_sub hl [0, 2, 3, 4] rfl)
            · refine lv_iload_n hx hb dX4_nextSide_72 rfl (lv_at hl 3 rfl) ?_
              refine li_c hx hb dX4_nextSide_73 ?_
              refine li_icmp_eq (tgt := 105) hx hb dX4_nextSide_74 (by decide) (by omega) (fun c_74 => ?_) (fun c_74 => ?_)
              · refine lv_iload_n hx hb dX4_nextSide_105 rfl (lv_at hl 1 rfl) ?_
                refine lv_istore_n (lv' := [(1, .int (iI (i : Int))), (4, .int (iI (spM G (-1) (i : Int)))), (3, .int (iI (i : Int))), (2, .int (iI (bmS G i))), (0, .ref (A.a 0))]) hx hb dX4_nextSide_106 rfl hl (by decide) rfl (fun ls hl => ?_)
                refine lv_iload hx hb dX4_nextSide_107 (lv_at hl 1 rfl) ?_
                refine lv_istore_n (lv' := [(2, .int (iI (spM G (-1) (i : Int)))), (1, .int (iI (i : Int))), (4, .int (iI (spM G (-1) (i : Int)))), (3, .int (iI (i : Int))), (0, .ref (A.a 0))]) hx hb dX4_nextSide_109 rfl hl (by decide) rfl (fun ls hl => ?_)
                refine li_incN (lv' := [(3, .int (iI ((i + 1 : Nat) : Int))), (2, .int (iI (spM G (-1) (i : Int)))), (1, .int (iI (i : Int))), (4, .int (iI (spM G (-1) (i : Int)))), (0, .ref (A.a 0))]) (x := i) (d0 := 1) hx hb dX4_nextSide_110 hl (k := 3) rfl rfl rfl (by decide) rfl (fun ls hl => ?_)
                refine lv_goto (tgt := 6) hx hb dX4_nextSide_113 (by decide) ?_
                have e1 : fnS G (i + 1) = (i : Int) := by
                  rw [fnS_s]
                  refine if_pos ⟨by omega, by omega, by omega⟩
                have e2 : bmS G (i + 1) = (spM G (-1) (i : Int)) := by unfold bmS; rw [e1]; exact if_neg (by omega)
                rw [← e2, ← e1] at hl
                exact ih_6 (i + 1) Tq57 (by omega) (by omega) (thq57.trans hT) H locs hC ls (lv_sub hl [0, 1, 2, 4] rfl)
              · refine lv_aload_n hx hb dX4_nextSide_77 rfl (lv_at hl 4 rfl) ?_
                refine agX4_priorities X hC iX4 (by decide +kernel) dX4_nextSide_78 ?_
                refine lv_iload_n hx hb dX4_nextSide_81 rfl (lv_at hl 1 rfl) ?_
                refine li_c hx hb dX4_nextSide_82 ?_
                refine li_divN (x := i) (y := 2) hx hb dX4_nextSide_83 rfl rfl (by omega) ?_
                refine alD_pr (k0 := i / 2) (v := ((G.pr (i / 2) : Nat) : Int)) X hC (by omega) (by omega) rfl dX4_nextSide_84 ?_
                have hb2 := hI.pr (i / 2)
                refine lv_aload_n hx hb dX4_nextSide_85 rfl (lv_at hl 4 rfl) ?_
                refine agX4_priorities X hC iX4 (by decide +kernel) dX4_nextSide_86 ?_
                refine lv_iload_n hx hb dX4_nextSide_89 rfl (lv_at hl 3 rfl) ?_
                refine li_cast0 (z' := ((((fnS G i).toNat) : Nat) : Int)) hx hb (by omega) ?_
                refine li_c hx hb dX4_nextSide_90 ?_
                refine li_divN (x := (fnS G i).toNat) (y := 2) hx hb dX4_nextSide_91 rfl rfl (by omega) ?_
                refine alD_pr (k0 := ((fnS G i).toNat) / 2) (v := ((G.pr (((fnS G i).toNat) / 2) : Nat) : Int)) X hC (by omega) (by omega) rfl dX4_nextSide_92 ?_
                have hb3 := hI.pr (((fnS G i).toNat) / 2)
                refine li_icmp_ne (tgt := 105) hx hb dX4_nextSide_93 (by decide) (by omega) (fun c_93 => ?_) (fun c_93 => ?_)
                · refine lv_iload_n hx hb dX4_nextSide_105 rfl (lv_at hl 1 rfl) ?_
                  refine lv_istore_n (lv' := [(1, .int (iI (i : Int))), (4, .int (iI (spM G (-1) (i : Int)))), (3, .int (iI (i : Int))), (2, .int (iI (bmS G i))), (0, .ref (A.a 0))]) hx hb dX4_nextSide_106 rfl hl (by decide) rfl (fun ls hl => ?_)
                  refine lv_iload hx hb dX4_nextSide_107 (lv_at hl 1 rfl) ?_
                  refine lv_istore_n (lv' := [(2, .int (iI (spM G (-1) (i : Int)))), (1, .int (iI (i : Int))), (4, .int (iI (spM G (-1) (i : Int)))), (3, .int (iI (i : Int))), (0, .ref (A.a 0))]) hx hb dX4_nextSide_109 rfl hl (by decide) rfl (fun ls hl => ?_)
                  refine li_incN (lv' := [(3, .int (iI ((i + 1 : Nat) : Int))), (2, .int (iI (spM G (-1) (i : Int)))), (1, .int (iI (i : Int))), (4, .int (iI (spM G (-1) (i : Int)))), (0, .ref (A.a 0))]) (x := i) (d0 := 1) hx hb dX4_nextSide_110 hl (k := 3) rfl rfl rfl (by decide) rfl (fun ls hl => ?_)
                  refine lv_goto (tgt := 6) hx hb dX4_nextSide_113 (by decide) ?_
                  have e1 : fnS G (i + 1) = (i : Int) := by
                    rw [fnS_s]
                    refine if_pos ⟨by omega, by omega, by omega⟩
                  have e2 : bmS G (i + 1) = (spM G (-1) (i : Int)) := by unfold bmS; rw [e1]; exact if_neg (by omega)
                  rw [← e2, ← e1] at hl
                  exact ih_6 (i + 1) Tq57 (by omega) (by omega) (thq57.trans hT) H locs hC ls (lv_sub hl [0, 1, 2, 4] rfl)
                · refine lv_iload hx hb dX4_nextSide_96 (lv_at hl 0 rfl) ?_
                  refine lv_iload_n hx hb dX4_nextSide_98 rfl (lv_at hl 2 rfl) ?_
                  refine li_icmp_lt (tgt := 105) hx hb dX4_nextSide_99 (by decide) (by omega) (fun c_99 => ?_) (fun c_99 => ?_)
                  · refine lv_iload_n hx hb dX4_nextSide_105 rfl (lv_at hl 1 rfl) ?_
                    refine lv_istore_n (lv' := [(1, .int (iI (i : Int))), (4, .int (iI (spM G (-1) (i : Int)))), (3, .int (iI (i : Int))), (2, .int (iI (bmS G i))), (0, .ref (A.a 0))]) hx hb dX4_nextSide_106 rfl hl (by decide) rfl (fun ls hl => ?_)
                    refine lv_iload hx hb dX4_nextSide_107 (lv_at hl 1 rfl) ?_
                    refine lv_istore_n (lv' := [(2, .int (iI (spM G (-1) (i : Int)))), (1, .int (iI (i : Int))), (4, .int (iI (spM G (-1) (i : Int)))), (3, .int (iI (i : Int))), (0, .ref (A.a 0))]) hx hb dX4_nextSide_109 rfl hl (by decide) rfl (fun ls hl => ?_)
                    refine li_incN (lv' := [(3, .int (iI ((i + 1 : Nat) : Int))), (2, .int (iI (spM G (-1) (i : Int)))), (1, .int (iI (i : Int))), (4, .int (iI (spM G (-1) (i : Int)))), (0, .ref (A.a 0))]) (x := i) (d0 := 1) hx hb dX4_nextSide_110 hl (k := 3) rfl rfl rfl (by decide) rfl (fun ls hl => ?_)
                    refine lv_goto (tgt := 6) hx hb dX4_nextSide_113 (by decide) ?_
                    have e1 : fnS G (i + 1) = (i : Int) := by
                      rw [fnS_s]
                      refine if_pos ⟨by omega, by omega, by omega⟩
                    have e2 : bmS G (i + 1) = (spM G (-1) (i : Int)) := by unfold bmS; rw [e1]; exact if_neg (by omega)
                    rw [← e2, ← e1] at hl
                    exact ih_6 (i + 1) Tq57 (by omega) (by omega) (thq57.trans hT) H locs hC ls (lv_sub hl [0, 1, 2, 4] rfl)
                  · refine lv_goto (tgt := 110) hx hb dX4_nextSide_102 (by decide) ?_
                    refine li_incN (lv' := [(3, .int (iI ((i + 1 : Nat) : Int))), (4, .int (iI (spM G (-1) (i : Int)))), (2, .int (iI (bmS G i))), (1, .int (iI (fnS G i))), (0, .ref (A.a 0))]) (x := i) (d0 := 1) hx hb dX4_nextSide_110 hl (k := 1) rfl rfl rfl (by decide) rfl (fun ls hl => ?_)
                    refine lv_goto (tgt := 6) hx hb dX4_nextSide_113 (by decide) ?_
                    have e1 : fnS G (i + 1) = fnS G i := by
                      rw [fnS_s]
                      refine if_neg (fun hq => ?_)
                      obtain ⟨h1, h2, h3⟩ := hq
                      omega
                    have e2 : bmS G (i + 1) = bmS G i := by unfold bmS; rw [e1]
                    rw [← e1, ← e2] at hl
                    exact ih_6 (i + 1) Tq57 (by omega) (by omega) (thq57.trans hT) H locs hC ls (lv_sub hl [0, 2, 3, 4] rfl)
          · refine lv_aload_n hx hb dX4_nextSide_32 rfl (lv_at hl 3 rfl) ?_
            refine agX4_priorities X hC iX4 (by decide +kernel) dX4_nextSide_33 ?_
            refine lv_iload_n hx hb dX4_nextSide_36 rfl (lv_at hl 0 rfl) ?_
            refine li_c hx hb dX4_nextSide_37 ?_
            refine li_divN (x := i) (y := 2) hx hb dX4_nextSide_38 rfl rfl (by omega) ?_
            refine alD_pr (k0 := i / 2) (v := ((G.pr (i / 2) : Nat) : Int)) X hC (by omega) (by omega) rfl dX4_nextSide_39 ?_
            have hb4 := hI.pr (i / 2)
            refine lv_aload_n hx hb dX4_nextSide_40 rfl (lv_at hl 3 rfl) ?_
            refine agX4_priorities X hC iX4 (by decide +kernel) dX4_nextSide_41 ?_
            refine lv_iload_n hx hb dX4_nextSide_44 rfl (lv_at hl 2 rfl) ?_
            refine li_cast0 (z' := ((((fnS G i).toNat) : Nat) : Int)) hx hb (by omega) ?_
            refine li_c hx hb dX4_nextSide_45 ?_
            refine li_divN (x := (fnS G i).toNat) (y := 2) hx hb dX4_nextSide_46 rfl rfl (by omega) ?_
            refine alD_pr (k0 := ((fnS G i).toNat) / 2) (v := ((G.pr (((fnS G i).toNat) / 2) : Nat) : Int)) X hC (by omega) (by omega) rfl dX4_nextSide_47 ?_
            have hb5 := hI.pr (((fnS G i).toNat) / 2)
            refine li_icmp_le (tgt := 54) hx hb dX4_nextSide_48 (by decide) (by omega) (fun c_48 => ?_) (fun c_48 => ?_)
            · have hsr := spM_rng hI (n := -1) (k := (i : Int)) (Or.inr ⟨rfl, by omega, by omega⟩)
              refine lv_aload_n hx hb dX4_nextSide_54 rfl (lv_at hl 3 rfl) ?_
              refine li_c hx hb dX4_nextSide_55 ?_
              refine lv_iload_n hx hb dX4_nextSide_56 rfl (lv_at hl 0 rfl) ?_
              refine d_callv (n := 2) (As := [.int (iI (-1)), .int (iI (i : Int))]) (rest := []) X hC (mX4_weigh l A G T9 (-1 : Int) (i : Int) hI (show -1 ≤ (-1 : Int) ∧ (-1 : Int) < 8 by omega) (show -1 ≤ (i : Int) ∧ (i : Int) < 24 by omega)) ⟨gX4_nextSide_X4_weigh, ⟨_, rfl⟩, rfl, rfl, ⟨by decide, by decide, by decide +kernel⟩, Nat.le_of_ble_eq_true rfl, Nat.le_of_ble_eq_true rfl⟩ (a_recv (y := yX4_weigh) X hC.1 (ci := 4) (q0 := 0) rfl rfl rfl) rfl hl.1 rfl (Nat.le_of_ble_eq_true rfl) ⟨Nat.le_of_ble_eq_true rfl, Nat.le_of_ble_eq_true rfl⟩ dX4_nextSide_57 (fun Gq57 Tq57 H locs hqq57 hC => ?_)
              obtain ⟨hgq57, thq57, gnq57, gsq57, okq57⟩ := hqq57
              have thq57 : Tq57.th = T9.th := thq57
              have gnq57 : Tq57.gn = (-1 : Int) := gnq57
              have gsq57 : Tq57.gs = (i : Int) := gsq57
              have okq57 : WOK G (-1 : Int) (i : Int) Tq57.wt := okq57
              rw [hgq57] at hC
              refine lv_aload_n hx hb dX4_nextSide_60 rfl (lv_at hl 3 rfl) ?_
              refine d_callix (v := (mlf G Tq57.wt)) (n := 0) (As := []) (rest := []) X hC (mX4_minutesLeft l A G Tq57  hI (show ∀ j, j < 104 → Tq57.wt j ≤ 1000000000 from okq57.1.1)) ⟨gX4_nextSide_X4_minutesLeft, ⟨_, rfl⟩, rfl, rfl, ⟨by decide, by decide, by decide +kernel⟩, Nat.le_of_ble_eq_true rfl, Nat.le_of_ble_eq_true rfl⟩ (a_recv (y := yX4_minutesLeft) X hC.1 (ci := 4) (q0 := 0) rfl rfl rfl) rfl hl.1 rfl (Nat.le_of_ble_eq_true rfl) ⟨Nat.le_of_ble_eq_true rfl, Nat.le_of_ble_eq_true rfl⟩ dX4_nextSide_61 (fun H locs hC => ?_)
              rw [show mlf G Tq57.wt = spM G (-1) (i : Int) from mlf_sp hI (by omega) (Or.inr ⟨rfl, by omega, by omega⟩) okq57]
              refine lv_istore (lv' := [(4, .int (iI (spM G (-1) (i : Int)))), (3, .int (iI (i : Int))), (2, .int (iI (bmS G i))), (1, .int (iI (fnS G i))), (0, .ref (A.a 0))]) hx hb dX4_nextSide_64 hl (by decide) rfl (fun ls hl => ?_)
              refine lv_iload hx hb dX4_nextSide_66 (lv_at hl 0 rfl) ?_
              refine li_c hx hb dX4_nextSide_68 ?_
              refine li_icmp_eq (tgt := 110) hx hb dX4_nextSide_69 (by decide) (by omega) (fun c_69 => ?_) (fun c_69 => ?_)
              · refine li_incN (lv' := [(3, .int (iI ((i + 1 : Nat) : Int))), (4, .int (iI (spM G (-1) (i : Int)))), (2, .int (iI (bmS G i))), (1, .int (iI (fnS G i))), (0, .ref (A.a 0))]) (x := i) (d0 := 1) hx hb dX4_nextSide_110 hl (k := 1) rfl rfl rfl (by decide) rfl (fun ls hl => ?_)
                refine lv_goto (tgt := 6) hx hb dX4_nextSide_113 (by decide) ?_
                have e1 : fnS G (i + 1) = fnS G i := by
                  rw [fnS_s]
                  refine if_neg (fun hq => ?_)
                  obtain ⟨h1, h2, h3⟩ := hq
                  omega
                have e2 : bmS G (i + 1) = bmS G i := by unfold bmS; rw [e1]
                rw [← e1, ← e2] at hl
                exact ih_6 (i + 1) Tq57 (by omega) (by omega) (thq57.trans hT) H locs hC ls (lv_sub hl [0, 2, 3, 4] rfl)
              · refine lv_iload_n hx hb dX4_nextSide_72 rfl (lv_at hl 3 rfl) ?_
                refine li_c hx hb dX4_nextSide_73 ?_
                refine li_icmp_eq (tgt := 105) hx hb dX4_nextSide_74 (by decide) (by omega) (fun c_74 => ?_) (fun c_74 => ?_)
                · refine lv_iload_n hx hb dX4_nextSide_105 rfl (lv_at hl 1 rfl) ?_
                  refine lv_istore_n (lv' := [(1, .int (iI (i : Int))), (4, .int (iI (spM G (-1) (i : Int)))), (3, .int (iI (i : Int))), (2, .int (iI (bmS G i))), (0, .ref (A.a 0))]) hx hb dX4_nextSide_106 rfl hl (by decide) rfl (fun ls hl => ?_)
                  refine lv_iload hx hb dX4_nextSide_107 (lv_at hl 1 rfl) ?_
                  refine lv_istore_n (lv' := [(2, .int (iI (spM G (-1) (i : Int)))), (1, .int (iI (i : Int))), (4, .int (iI (spM G (-1) (i : Int)))), (3, .int (iI (i : Int))), (0, .ref (A.a 0))]) hx hb dX4_nextSide_109 rfl hl (by decide) rfl (fun ls hl => ?_)
                  refine li_incN (lv' := [(3, .int (iI ((i + 1 : Nat) : Int))), (2, .int (iI (spM G (-1) (i : Int)))), (1, .int (iI (i : Int))), (4, .int (iI (spM G (-1) (i : Int)))), (0, .ref (A.a 0))]) (x := i) (d0 := 1) hx hb dX4_nextSide_110 hl (k := 3) rfl rfl rfl (by decide) rfl (fun ls hl => ?_)
                  refine lv_goto (tgt := 6) hx hb dX4_nextSide_113 (by decide) ?_
                  have e1 : fnS G (i + 1) = (i : Int) := by
                    rw [fnS_s]
                    refine if_pos ⟨by omega, by omega, by omega⟩
                  have e2 : bmS G (i + 1) = (spM G (-1) (i : Int)) := by unfold bmS; rw [e1]; exact if_neg (by omega)
                  rw [← e2, ← e1] at hl
                  exact ih_6 (i + 1) Tq57 (by omega) (by omega) (thq57.trans hT) H locs hC ls (lv_sub hl [0, 1, 2, 4] rfl)
                · refine lv_aload_n hx hb dX4_nextSide_77 rfl (lv_at hl 4 rfl) ?_
                  refine agX4_priorities X hC iX4 (by decide +kernel) dX4_nextSide_78 ?_
                  refine lv_iload_n hx hb dX4_nextSide_81 rfl (lv_at hl 1 rfl) ?_
                  refine li_c hx hb dX4_nextSide_82 ?_
                  refine li_divN (x := i) (y := 2) hx hb dX4_nextSide_83 rfl rfl (by omega) ?_
                  refine alD_pr (k0 := i / 2) (v := ((G.pr (i / 2) : Nat) : Int)) X hC (by omega) (by omega) rfl dX4_nextSide_84 ?_
                  have hb6 := hI.pr (i / 2)
                  refine lv_aload_n hx hb dX4_nextSide_85 rfl (lv_at hl 4 rfl) ?_
                  refine agX4_priorities X hC iX4 (by decide +kernel) dX4_nextSide_86 ?_
                  refine lv_iload_n hx hb dX4_nextSide_89 rfl (lv_at hl 3 rfl) ?_
                  refine li_cast0 (z' := ((((fnS G i).toNat) : Nat) : Int)) hx hb (by omega) ?_
                  refine li_c hx hb dX4_nextSide_90 ?_
                  refine li_divN (x := (fnS G i).toNat) (y := 2) hx hb dX4_nextSide_91 rfl rfl (by omega) ?_
                  refine alD_pr (k0 := ((fnS G i).toNat) / 2) (v := ((G.pr (((fnS G i).toNat) / 2) : Nat) : Int)) X hC (by omega) (by omega) rfl dX4_nextSide_92 ?_
                  have hb7 := hI.pr (((fnS G i).toNat) / 2)
                  refine li_icmp_ne (tgt := 105) hx hb dX4_nextSide_93 (by decide) (by omega) (fun c_93 => ?_) (fun c_93 => ?_)
                  · refine lv_iload_n hx hb dX4_nextSide_105 rfl (lv_at hl 1 rfl) ?_
                    refine lv_istore_n (lv' := [(1, .int (iI (i : Int))), (4, .int (iI (spM G (-1) (i : Int)))), (3, .int (iI (i : Int))), (2, .int (iI (bmS G i))), (0, .ref (A.a 0))]) hx hb dX4_nextSide_106 rfl hl (by decide) rfl (fun ls hl => ?_)
                    refine lv_iload hx hb dX4_nextSide_107 (lv_at hl 1 rfl) ?_
                    refine lv_istore_n (lv' := [(2, .int (iI (spM G (-1) (i : Int)))), (1, .int (iI (i : Int))), (4, .int (iI (spM G (-1) (i : Int)))), (3, .int (iI (i : Int))), (0, .ref (A.a 0))]) hx hb dX4_nextSide_109 rfl hl (by decide) rfl (fun ls hl => ?_)
                    refine li_incN (lv' := [(3, .int (iI ((i + 1 : Nat) : Int))), (2, .int (iI (spM G (-1) (i : Int)))), (1, .int (iI (i : Int))), (4, .int (iI (spM G (-1) (i : Int)))), (0, .ref (A.a 0))]) (x := i) (d0 := 1) hx hb dX4_nextSide_110 hl (k := 3) rfl rfl rfl (by decide) rfl (fun ls hl => ?_)
                    refine lv_goto (tgt := 6) hx hb dX4_nextSide_113 (by decide) ?_
                    have e1 : fnS G (i + 1) = (i : Int) := by
                      rw [fnS_s]
                      refine if_pos ⟨by omega, by omega, by omega⟩
                    have e2 : bmS G (i + 1) = (spM G (-1) (i : Int)) := by unfold bmS; rw [e1]; exact if_neg (by omega)
                    rw [← e2, ← e1] at hl
                    exact ih_6 (i + 1) Tq57 (by omega) (by omega) (thq57.trans hT) H locs hC ls (lv_sub hl [0, 1, 2, 4] rfl)
                  · refine lv_iload hx hb dX4_nextSide_96 (lv_at hl 0 rfl) ?_
                    refine lv_iload_n hx hb dX4_nextSide_98 rfl (lv_at hl 2 rfl) ?_
                    refine li_icmp_lt (tgt := 105) hx hb dX4_nextSide_99 (by decide) (by omega) (fun c_99 => ?_) (fun c_99 => ?_)
                    · refine lv_iload_n hx hb dX4_nextSide_105 rfl (lv_at hl 1 rfl) ?_
                      refine lv_istore_n (lv' := [(1, .int (iI (i : Int))), (4, .int (iI (spM G (-1) (i : Int)))), (3, .int (iI (i : Int))), (2, .int (iI (bmS G i))), (0, .ref (A.a 0))]) hx hb dX4_nextSide_106 rfl hl (by decide) rfl (fun ls hl => ?_)
                      refine lv_iload hx hb dX4_nextSide_107 (lv_at hl 1 rfl) ?_
                      refine lv_istore_n (lv' := [(2, .int (iI (spM G (-1) (i : Int)))), (1, .int (iI (i : Int))), (4, .int (iI (spM G (-1) (i : Int)))), (3, .int (iI (i : Int))), (0, .ref (A.a 0))]) hx hb dX4_nextSide_109 rfl hl (by decide) rfl (fun ls hl => ?_)
                      refine li_incN (lv' := [(3, .int (iI ((i + 1 : Nat) : Int))), (2, .int (iI (spM G (-1) (i : Int)))), (1, .int (iI (i : Int))), (4, .int (iI (spM G (-1) (i : Int)))), (0, .ref (A.a 0))]) (x := i) (d0 := 1) hx hb dX4_nextSide_110 hl (k := 3) rfl rfl rfl (by decide) rfl (fun ls hl => ?_)
                      refine lv_goto (tgt := 6) hx hb dX4_nextSide_113 (by decide) ?_
                      have e1 : fnS G (i + 1) = (i : Int) := by
                        rw [fnS_s]
                        refine if_pos ⟨by omega, by omega, by omega⟩
                      have e2 : bmS G (i + 1) = (spM G (-1) (i : Int)) := by unfold bmS; rw [e1]; exact if_neg (by omega)
                      rw [← e2, ← e1] at hl
                      exact ih_6 (i + 1) Tq57 (by omega) (by omega) (thq57.trans hT) H locs hC ls (lv_sub hl [0, 1, 2, 4] rfl)
                    · refine lv_goto (tgt := 110) hx hb dX4_nextSide_102 (by decide) ?_
                      refine li_incN (lv' := [(3, .int (iI ((i + 1 : Nat) : Int))), (4, .int (iI (spM G (-1) (i : Int)))), (2, .int (iI (bmS G i))), (1, .int (iI (fnS G i))), (0, .ref (A.a 0))]) (x := i) (d0 := 1) hx hb dX4_nextSide_110 hl (k := 1) rfl rfl rfl (by decide) rfl (fun ls hl => ?_)
                      refine lv_goto (tgt := 6) hx hb dX4_nextSide_113 (by decide) ?_
                      have e1 : fnS G (i + 1) = fnS G i := by
                        rw [fnS_s]
                        refine if_neg (fun hq => ?_)
                        obtain ⟨h1, h2, h3⟩ := hq
                        omega
                      have e2 : bmS G (i + 1) = bmS G i := by unfold bmS; rw [e1]
                      rw [← e1, ← e2] at hl
                      exact ih_6 (i + 1) Tq57 (by omega) (by omega) (thq57.trans hT) H locs hC ls (lv_sub hl [0, 2, 3, 4] rfl)
            · refine lv_goto (tgt := 110) hx hb dX4_nextSide_51 (by decide) ?_
              refine li_incN (lv' := [(3, .int (iI ((i + 1 : Nat) : Int))), (2, .int (iI (bmS G i))), (1, .int (iI (fnS G i))), (0, .ref (A.a 0))]) (x := i) (d0 := 1) hx hb dX4_nextSide_110 hl (k := 0) rfl rfl rfl (by decide) rfl (fun ls hl => ?_)
              refine lv_goto (tgt := 6) hx hb dX4_nextSide_113 (by decide) ?_
              have e1 : fnS G (i + 1) = fnS G i := by
                rw [fnS_s]
                refine if_neg (fun hq => ?_)
                obtain ⟨h1, h2, h3⟩ := hq
                omega
              have e2 : bmS G (i + 1) = bmS G i := by unfold bmS; rw [e1]
              rw [← e1, ← e2] at hl
              exact ih_6 (i + 1) T9 (by omega) (by omega) (hT) H locs hC ls (lv_sub hl [0, 1, 2, 3] rfl)
  have hl : lv_has ls 5 [(3, .int (iI 0)), (2, .int (iI (bmS G 0))), (1, .int (iI (fnS G 0))), (0, .ref (A.a 0))] := lv_sub hl [0, 1, 2, 3] rfl
  exact loop_6 ((2 * G.rr) + 1) 0 Z (Nat.lt_succ_self _) (by omega) (rfl) H locs hC ls (lv_sub hl [0, 1, 2, 3] rfl)

set_option maxHeartbeats 4000000 in
set_option maxRecDepth 100000 in
theorem mX4_next (l : Launch) (A : AD) (G : GS) (Z : ZS) (hI : Inv G) : dMi l yX4_next wsX4_next ({ frames := 4, cells := 0, slots := 0, locals := 99 }) A [.ref (A.a 0)] G Z (yKJ 0 (nxt G) G G) := by
  intro sz
  refine c_start (cc := cX4_next) (maxL := 1) (ret := (some .int)) (by decide) rfl rfl ?_
  intro p e s m args below meth c X hr hk hnm hsz ls hl H locs hC
  subst hsz
  obtain ⟨hx, hb, hml, hown, hts⟩ := id X.1
  have hl : lv_has ls 1 [(0, .ref (A.a 0))] := hl
  have iX4 : ∀ w ∈ u_ws RX4 TX4 18, w ∈ wsX4_next := by decide +kernel
  refine lv_aload_n hx hb dX4_next_0 rfl (lv_at hl 0 rfl) ?_
  refine li_c hx hb dX4_next_1 ?_
  refine apX4_thrown X hC iX4 (by decide +kernel) dX4_next_2 (x := 0) (by omega) (fun H locs hC => ?_)
  have hC : aH A (dAdr A) (DW A G (mkZ 0 Z.wt Z.gn Z.gs)) s H locs := hC
  refine lv_aload_n hx hb dX4_next_5 rfl (lv_at hl 0 rfl) ?_
  refine d_calli (n := 0) (As := []) (rest := []) X hC (mX4_nextSide l A G (mkZ 0 Z.wt Z.gn Z.gs)  hI) ⟨gX4_next_X4_nextSide, ⟨_, rfl⟩, rfl, rfl, ⟨by decide, by decide, by decide +kernel⟩, Nat.le_of_ble_eq_true rfl, Nat.le_of_ble_eq_true rfl⟩ (a_recv (y := yX4_nextSide) X hC.1 (ci := 4) (q0 := 0) rfl rfl rfl) rfl hl.1 rfl (Nat.le_of_ble_eq_true rfl) ⟨Nat.le_of_ble_eq_true rfl, Nat.le_of_ble_eq_true rfl⟩ dX4_next_6 (fun zq6 Gq6 Tq6 H locs hqq6 hC => ?_)
  obtain ⟨hvq6, hgq6, thq6⟩ := hqq6
  have thq6 : Tq6.th = 0 := thq6
  rw [hgq6] at hC
  subst hvq6
  exact d_iret X hC hr hk (Or.inl ⟨rfl, rfl, rfl, thq6⟩) dX4_next_9

set_option maxHeartbeats 4000000 in
set_option maxRecDepth 100000 in
theorem mX4_nearestStore (l : Launch) (A : AD) (G : GS) (Z : ZS) (hI : Inv G) : dMi l yX4_nearestStore wsX4_nearestStore ({ frames := 3, cells := 0, slots := 0, locals := 75 }) A [.ref (A.a 0)] G Z ((fun z9 g9 t9 => z9 = (sto G) ∧ g9 = G ∧ (t9.th = Z.th))) := by
  intro sz
  refine c_start (cc := cX4_nearestStore) (maxL := 5) (ret := (some .int)) (by decide) rfl rfl ?_
  intro p e s m args below meth c X hr hk hnm hsz ls hl H locs hC
  subst hsz
  obtain ⟨hx, hb, hml, hown, hts⟩ := id X.1
  have hl : lv_has ls 5 [(0, .ref (A.a 0))] := hl
  have iX4 : ∀ w ∈ u_ws RX4 TX4 18, w ∈ wsX4_nearestStore := by decide +kernel
  have hrr := hI.rr
  have hnn := hI.nn
  refine li_c hx hb dX4_nearestStore_0 ?_
  refine lv_istore_n (lv' := [(1, .int (iI (-1))), (0, .ref (A.a 0))]) hx hb dX4_nearestStore_1 rfl hl (by decide) rfl (fun ls hl => ?_)
  refine li_c hx hb dX4_nearestStore_2 ?_
  refine lv_istore_n (lv' := [(2, .int (iI 0)), (1, .int (iI (-1))), (0, .ref (A.a 0))]) hx hb dX4_nearestStore_3 rfl hl (by decide) rfl (fun ls hl => ?_)
  refine li_c hx hb dX4_nearestStore_4 ?_
  refine lv_istore_n (lv' := [(3, .int (iI 0)), (2, .int (iI 0)), (1, .int (iI (-1))), (0, .ref (A.a 0))]) hx hb dX4_nearestStore_5 rfl hl (by decide) rfl (fun ls hl => ?_)
  have loop_6 : ∀ (n : Nat) (i : Nat) (T9 : ZS) (hn : G.nn - i < n) (hi : i ≤ G.nn) (hT : T9.th = Z.th) (H : Heap) (locs : List Loc) (hC : aH A (dAdr A) (DW A G T9) s H locs) (ls : Array Slot) (hl : lv_has ls 5 [(3, .int (iI (i : Int))), (2, .int (iI (bnS G i))), (1, .int (iI (nsS G i))), (0, .ref (A.a 0))]), W p l e ({ frames := 3, cells := 0, slots := 0, locals := 75 }) s m args below meth c H locs 0 0 (aQi below (dEnd A) (dAdr A) args s ((fun z9 g9 t9 => z9 = (sto G) ∧ g9 = G ∧ (t9.th = Z.th)))) (F0 m 6 ls []) := by
    intro n
    induction n with
    | zero => intro i T9 hn; exact absurd hn (Nat.not_lt_zero _)
    | succ n ih_6 =>
      intro i T9 hn hi hT H locs hC ls hl
      have hfr := nsS_rng G i
      have hbm := bnS_or G i
      have hbr := bnS_rng hI i
      have hst := hI.st i
      have hsr := spM_rng hI (n := (i : Int)) (k := -1) (Or.inl ⟨rfl, by omega⟩)
      refine lv_iload_n hx hb dX4_nearestStore_6 rfl (lv_at hl 0 rfl) ?_
      refine lv_aload_n hx hb dX4_nearestStore_7 rfl (lv_at hl 3 rfl) ?_
      refine agX4_nodes X hC iX4 (by decide +kernel) dX4_nearestStore_8 (v := (G.nn : Int)) rfl ?_
      refine li_icmp_ge (tgt := 69) hx hb dX4_nearestStore_11 (by decide) (by omega) (fun c_11 => ?_) (fun c_11 => ?_)
      · refine lv_iload_n hx hb dX4_nearestStore_69 rfl (lv_at hl 2 rfl) ?_
        exact d_iret X hC hr hk (⟨by unfold sto; rw [show G.nn = i by omega], rfl, hT⟩) dX4_nearestStore_70
      · refine lv_aload_n hx hb dX4_nearestStore_14 rfl (lv_at hl 3 rfl) ?_
        refine agX4_areStores X hC iX4 (by decide +kernel) dX4_nearestStore_15 ?_
        refine lv_iload_n hx hb dX4_nearestStore_18 rfl (lv_at hl 0 rfl) ?_
        refine alD_st (k0 := i) (v := ((G.st i : Nat) : Int)) X hC (by omega) (by omega) rfl dX4_nearestStore_19 ?_
        have hb1 := hI.st i
        refine li_if_ne (tgt := 26) hx hb dX4_nearestStore_20 (by decide) (by omega) (fun c_20 => ?_) (fun c_20 => ?_)
        · refine lv_aload_n hx hb dX4_nearestStore_26 rfl (lv_at hl 3 rfl) ?_
          refine lv_iload_n hx hb dX4_nearestStore_27 rfl (lv_at hl 0 rfl) ?_
          refine li_c hx hb dX4_nearestStore_28 ?_
          refine d_callv (n := 2) (As := [.int (iI (i : Int)), .int (iI (-1))]) (rest := []) X hC (mX4_weigh l A G T9 (i : Int) (-1 : Int) hI (show -1 ≤ (i : Int) ∧ (i : Int) < 8 by omega) (show -1 ≤ (-1 : Int) ∧ (-1 : Int) < 24 by omega)) ⟨gX4_nearestStore_X4_weigh, ⟨_, rfl⟩, rfl, rfl, ⟨by decide, by decide, by decide +kernel⟩, Nat.le_of_ble_eq_true rfl, Nat.le_of_ble_eq_true rfl⟩ (a_recv (y := yX4_weigh) X hC.1 (ci := 4) (q0 := 0) rfl rfl rfl) rfl hl.1 rfl (Nat.le_of_ble_eq_true rfl) ⟨Nat.le_of_ble_eq_true rfl, Nat.le_of_ble_eq_true rfl⟩ dX4_nearestStore_29 (fun Gq29 Tq29 H locs hqq29 hC => ?_)
          obtain ⟨hgq29, thq29, gnq29, gsq29, okq29⟩ := hqq29
          have thq29 : Tq29.th = T9.th := thq29
          have gnq29 : Tq29.gn = (i : Int) := gnq29
          have gsq29 : Tq29.gs = (-1 : Int) := gsq29
          have okq29 : WOK G (i : Int) (-1 : Int) Tq29.wt := okq29
          rw [hgq29] at hC
          refine lv_aload_n hx hb dX4_nearestStore_32 rfl (lv_at hl 3 rfl) ?_
          refine d_callix (v := (mlf G Tq29.wt)) (n := 0) (As := []) (rest := []) X hC (mX4_minutesLeft l A G Tq29  hI (show ∀ j, j < 104 → Tq29.wt j ≤ 1000000000 from okq29.1.1)) ⟨gX4_nearestStore_X4_minutesLeft, ⟨_, rfl⟩, rfl, rfl, ⟨by decide, by decide, by decide +kernel⟩, Nat.le_of_ble_eq_true rfl, Nat.le_of_ble_eq_true rfl⟩ (a_recv (y := yX4_minutesLeft) X hC.1 (ci := 4) (q0 := 0) rfl rfl rfl) rfl hl.1 rfl (Nat.le_of_ble_eq_true rfl) ⟨Nat.le_of_ble_eq_true rfl, Nat.le_of_ble_eq_true rfl⟩ dX4_nearestStore_33 (fun H locs hC => ?_)
          rw [show mlf G Tq29.wt = spM G (i : Int) (-1) from mlf_sp hI (by omega) (Or.inl ⟨rfl, by omega⟩) okq29]
          refine lv_istore (lv' := [(4, .int (iI (spM G (i : Int) (-1)))), (3, .int (iI (i : Int))), (2, .int (iI (bnS G i))), (1, .int (iI (nsS G i))), (0, .ref (A.a 0))]) hx hb dX4_nearestStore_36 hl (by decide) rfl (fun ls hl => ?_)
          refine lv_iload hx hb dX4_nearestStore_38 (lv_at hl 0 rfl) ?_
          refine li_c hx hb dX4_nearestStore_40 ?_
          refine li_icmp_eq (tgt := 63) hx hb dX4_nearestStore_41 (by decide) (by omega) (fun c_41 => ?_) (fun c_41 => ?_)
          · refine li_incN (lv' := [(3, .int (iI ((i + 1 : Nat) : Int))), (4, .int (iI (spM G (i : Int) (-1)))), (2, .int (iI (bnS G i))), (1, .int (iI (nsS G i))), (0, .ref (A.a 0))]) (x := i) (d0 := 1) hx hb dX4_nearestStore_63 hl (k := 1) rfl rfl rfl (by decide) rfl (fun ls hl => ?_)
            refine lv_goto (tgt := 6) hx hb dX4_nearestStore_66 (by decide) ?_
            have e1 : nsS G (i + 1) = nsS G i := by
              rw [nsS_s]
              refine if_neg (fun hq => ?_)
              obtain ⟨h1, h2, h3⟩ := hq
              omega
            have e2 : bnS G (i + 1) = bnS G i := by unfold bnS; rw [e1]
            rw [← e1, ← e2] at hl
            exact ih_6 (i + 1) Tq29 (by omega) (by omega) (thq29.trans hT) H locs hC ls (lv_sub hl [0, 2, 3, 4] rfl)
          · refine lv_iload_n hx hb dX4_nearestStore_44 rfl (lv_at hl 3 rfl) ?_
            refine li_c hx hb dX4_nearestStore_45 ?_
            refine li_icmp_eq (tgt := 58) hx hb dX4_nearestStore_46 (by decide) (by omega) (fun c_46 => ?_) (fun c_46 => ?_)
            · refine lv_iload_n hx hb dX4_nearestStore_58 rfl (lv_at hl 1 rfl) ?_
              refine lv_istore_n (lv' := [(1, .int (iI (i : Int))), (4, .int (iI (spM G (i : Int) (-1)))), (3, .int (iI (i : Int))), (2, .int (iI (bnS G i))), (0, .ref (A.a 0))]) hx hb dX4_nearestStore_59 rfl hl (by decide) rfl (fun ls hl => ?_)
              refine lv_iload hx hb dX4_nearestStore_60 (lv_at hl 1 rfl) ?_
              refine lv_istore_n (lv' := [(2, .int (iI (spM G (i : Int) (-1)))), (1, .int (iI (i : Int))), (4, .int (iI (spM G (i : Int) (-1)))), (3, .int (iI (i : Int))), (0, .ref (A.a 0))]) hx hb dX4_nearestStore_62 rfl hl (by decide) rfl (fun ls hl => ?_)
              refine li_incN (lv' := [(3, .int (iI ((i + 1 : Nat) : Int))), (2, .int (iI (spM G (i : Int) (-1)))), (1, .int (iI (i : Int))), (4, .int (iI (spM G (i : Int) (-1)))), (0, .ref (A.a 0))]) (x := i) (d0 := 1) hx hb dX4_nearestStore_63 hl (k := 3) rfl rfl rfl (by decide) rfl (fun ls hl => ?_)
              refine lv_goto (tgt := 6) hx hb dX4_nearestStore_66 (by decide) ?_
              have e1 : nsS G (i + 1) = (i : Int) := by
                rw [nsS_s]
                refine if_pos ⟨by omega, by omega, by omega⟩
              have e2 : bnS G (i + 1) = (spM G (i : Int) (-1)) := by unfold bnS; rw [e1]; exact if_neg (by omega)
              rw [← e2, ← e1] at hl
              exact ih_6 (i + 1) Tq29 (by omega) (by omega) (thq29.trans hT) H locs hC ls (lv_sub hl [0, 1, 2, 4] rfl)
            · refine lv_iload hx hb dX4_nearestStore_49 (lv_at hl 0 rfl) ?_
              refine lv_iload_n hx hb dX4_nearestStore_51 rfl (lv_at hl 2 rfl) ?_
              refine li_icmp_lt (tgt := 58) hx hb dX4_nearestStore_52 (by decide) (by omega) (fun c_52 => ?_) (fun c_52 => ?_)
              · refine lv_iload_n hx hb dX4_nearestStore_58 rfl (lv_at hl 1 rfl) ?_
                refine lv_istore_n (lv' := [(1, .int (iI (i : Int))), (4, .int (iI (spM G (i : Int) (-1)))), (3, .int (iI (i : Int))), (2, .int (iI (bnS G i))), (0, .ref (A.a 0))]) hx hb dX4_nearestStore_59 rfl hl (by decide) rfl (fun ls hl => ?_)
                refine lv_iload hx hb dX4_nearestStore_60 (lv_at hl 1 rfl) ?_
                refine lv_istore_n (lv' := [(2, .int (iI (spM G (i : Int) (-1)))), (1, .int (iI (i : Int))), (4, .int (iI (spM G (i : Int) (-1)))), (3, .int (iI (i : Int))), (0, .ref (A.a 0))]) hx hb dX4_nearestStore_62 rfl hl (by decide) rfl (fun ls hl => ?_)
                refine li_incN (lv' := [(3, .int (iI ((i + 1 : Nat) : Int))), (2, .int (iI (spM G (i : Int) (-1)))), (1, .int (iI (i : Int))), (4, .int (iI (spM G (i : Int) (-1)))), (0, .ref (A.a 0))]) (x := i) (d0 := 1) hx hb dX4_nearestStore_63 hl (k := 3) rfl rfl rfl (by decide) rfl (fun ls hl => ?_)
                refine lv_goto (tgt := 6) hx hb dX4_nearestStore_66 (by decide) ?_
                have e1 : nsS G (i + 1) = (i : Int) := by
                  rw [nsS_s]
                  refine if_pos ⟨by omega, by omega, by omega⟩
                have e2 : bnS G (i + 1) = (spM G (i : Int) (-1)) := by unfold bnS; rw [e1]; exact if_neg (by omega)
                rw [← e2, ← e1] at hl
                exact ih_6 (i + 1) Tq29 (by omega) (by omega) (thq29.trans hT) H locs hC ls (lv_sub hl [0, 1, 2, 4] rfl)
              · refine lv_goto (tgt := 63) hx hb dX4_nearestStore_55 (by decide) ?_
                refine li_incN (lv' := [(3, .int (iI ((i + 1 : Nat) : Int))), (4, .int (iI (spM G (i : Int) (-1)))), (2, .int (iI (bnS G i))), (1, .int (iI (nsS G i))), (0, .ref (A.a 0))]) (x := i) (d0 := 1) hx hb dX4_nearestStore_63 hl (k := 1) rfl rfl rfl (by decide) rfl (fun ls hl => ?_)
                refine lv_goto (tgt := 6) hx hb dX4_nearestStore_66 (by decide) ?_
                have e1 : nsS G (i + 1) = nsS G i := by
                  rw [nsS_s]
                  refine if_neg (fun hq => ?_)
                  obtain ⟨h1, h2, h3⟩ := hq
                  omega
                have e2 : bnS G (i + 1) = bnS G i := by unfold bnS; rw [e1]
                rw [← e1, ← e2] at hl
                exact ih_6 (i + 1) Tq29 (by omega) (by omega) (thq29.trans hT) H locs hC ls (lv_sub hl [0, 2, 3, 4] rfl)
        · refine lv_goto (tgt := 63) hx hb dX4_nearestStore_23 (by decide) ?_
          refine li_incN (lv' := [(3, .int (iI ((i + 1 : Nat) : Int))), (2, .int (iI (bnS G i))), (1, .int (iI (nsS G i))), (0, .ref (A.a 0))]) (x := i) (d0 := 1) hx hb dX4_nearestStore_63 hl (k := 0) rfl rfl rfl (by decide) rfl (fun ls hl => ?_)
          refine lv_goto (tgt := 6) hx hb dX4_nearestStore_66 (by decide) ?_
          have e1 : nsS G (i + 1) = nsS G i := by
            rw [nsS_s]
            refine if_neg (fun hq => ?_)
            obtain ⟨h1, h2, h3⟩ := hq
            omega
          have e2 : bnS G (i + 1) = bnS G i := by unfold bnS; rw [e1]
          rw [← e1, ← e2] at hl
          exact ih_6 (i + 1) T9 (by omega) (by omega) (hT) H locs hC ls (lv_sub hl [0, 1, 2, 3] rfl)
  have hl : lv_has ls 5 [(3, .int (iI 0)), (2, .int (iI (bnS G 0))), (1, .int (iI (nsS G 0))), (0, .ref (A.a 0))] := lv_sub hl [0, 1, 2, 3] rfl
  exact loop_6 (G.nn + 1) 0 Z (Nat.lt_succ_self _) (by omega) (rfl) H locs hC ls (lv_sub hl [0, 1, 2, 3] rfl)
