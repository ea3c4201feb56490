/-! 16: the reference: small methods -/
set_option maxHeartbeats 4000000 in
set_option maxRecDepth 100000 in
theorem mX4_thrown (l : Launch) (A : AD) (G : GS) (Z : ZS) : dMi l yX4_thrown wsX4_thrown ({ frames := 0, cells := 0, slots := 0, locals := 0 }) A [.ref (A.a 0)] G Z (xI ((Z.th : Int)) G Z) := by
  intro sz
  refine c_start (cc := cX4_thrown) (maxL := 1) (ret := (some .int)) (by decide) rfl rfl ?_
  intro p e s m args below meth c X hr hk hnm hsz ls hl H locs hC
  subst hsz
  obtain ⟨hx, hb, hml, hown, hts⟩ := id X.1
  have hl : lv_has ls 1 [(0, .ref (A.a 0))] := hl
  have iX4 : ∀ w ∈ u_ws RX4 TX4 18, w ∈ wsX4_thrown := by decide +kernel
  refine lv_aload_n hx hb dX4_thrown_0 rfl (lv_at hl 0 rfl) ?_
  refine agX4_thrown X hC iX4 (by decide +kernel) dX4_thrown_1 (v := (Z.th : Int)) rfl ?_
  exact d_iret X hC hr hk (⟨rfl, rfl, rfl⟩) dX4_thrown_4

set_option maxHeartbeats 4000000 in
set_option maxRecDepth 100000 in
theorem mX4_fail (l : Launch) (A : AD) (G : GS) (Z : ZS) (z : Nat) : dMi l yX4_fail wsX4_fail ({ frames := 0, cells := 0, slots := 0, locals := 0 }) A [.ref (A.a 0), .int (iI (z : Int))] G Z (xI (0) G (Z.th' z)) := by
  intro sz
  refine c_start (cc := cX4_fail) (maxL := 2) (ret := (some .int)) (by decide) rfl rfl ?_
  intro p e s m args below meth c X hr hk hnm hsz ls hl H locs hC
  subst hsz
  obtain ⟨hx, hb, hml, hown, hts⟩ := id X.1
  have hl : lv_has ls 2 [(0, .ref (A.a 0)), (1, .int (iI (z : Int)))] := hl
  have iX4 : ∀ w ∈ u_ws RX4 TX4 18, w ∈ wsX4_fail := by decide +kernel
  refine lv_aload_n hx hb dX4_fail_0 rfl (lv_at hl 0 rfl) ?_
  refine lv_iload_n hx hb dX4_fail_1 rfl (lv_at hl 1 rfl) ?_
  refine apX4_thrown X hC iX4 (by decide +kernel) dX4_fail_2 (x := z) (by omega) (fun H locs hC => ?_)
  have hC : aH A (dAdr A) (DW A G (mkZ z Z.wt Z.gn Z.gs)) s H locs := hC
  refine li_c hx hb dX4_fail_5 ?_
  exact d_iret X hC hr hk (⟨rfl, rfl, rfl⟩) dX4_fail_6

set_option maxHeartbeats 4000000 in
set_option maxRecDepth 100000 in
theorem mX4_isIn (l : Launch) (A : AD) (G : GS) (Z : ZS) (z : Int) (lo : Int) (up1 : Int) (hz : -2147483648 ≤ z ∧ z < 2147483648) (hlo : -2147483648 ≤ lo ∧ lo < 2147483648) (hup : -2147483648 ≤ up1 ∧ up1 < 2147483648) : dMi l yX4_isIn wsX4_isIn ({ frames := 0, cells := 0, slots := 0, locals := 0 }) A [.int (iI z), .int (iI lo), .int (iI up1)] G Z (xI (bP (lo ≤ z ∧ z ≤ up1)) G Z) := by
  intro sz
  refine c_start (cc := cX4_isIn) (maxL := 3) (ret := (some .boolean)) (by decide) rfl rfl ?_
  intro p e s m args below meth c X hr hk hnm hsz ls hl H locs hC
  subst hsz
  obtain ⟨hx, hb, hml, hown, hts⟩ := id X.1
  have hl : lv_has ls 3 [(0, .int (iI z)), (1, .int (iI lo)), (2, .int (iI up1))] := hl
  refine lv_iload_n hx hb dX4_isIn_0 rfl (lv_at hl 0 rfl) ?_
  refine lv_iload_n hx hb dX4_isIn_1 rfl (lv_at hl 1 rfl) ?_
  refine li_icmp_lt (tgt := 14) hx hb dX4_isIn_2 (by decide) (by omega) (fun c_2 => ?_) (fun c_2 => ?_)
  · refine li_c hx hb dX4_isIn_14 ?_
    exact d_zret X hC hr hk (by omega) (⟨(bP_f (by omega)).symm, rfl, rfl⟩) dX4_isIn_15
  · refine lv_iload_n hx hb dX4_isIn_5 rfl (lv_at hl 0 rfl) ?_
    refine lv_iload_n hx hb dX4_isIn_6 rfl (lv_at hl 2 rfl) ?_
    refine li_icmp_gt (tgt := 14) hx hb dX4_isIn_7 (by decide) (by omega) (fun c_7 => ?_) (fun c_7 => ?_)
    · refine li_c hx hb dX4_isIn_14 ?_
      exact d_zret X hC hr hk (by omega) (⟨(bP_f (by omega)).symm, rfl, rfl⟩) dX4_isIn_15
    · refine li_c hx hb dX4_isIn_10 ?_
      refine lv_goto (tgt := 15) hx hb dX4_isIn_11 (by decide) ?_
      exact d_zret X hC hr hk (by omega) (⟨(bP_t (by omega)).symm, rfl, rfl⟩) dX4_isIn_15

set_option maxHeartbeats 4000000 in
set_option maxRecDepth 100000 in
theorem mX4_isNode (l : Launch) (A : AD) (G : GS) (Z : ZS) (z : Int) (hz : -2147483648 ≤ z ∧ z < 2147483648) (hb1 : 1 ≤ G.nn ∧ G.nn ≤ 12) : dMi l yX4_isNode wsX4_isNode ({ frames := 1, cells := 0, slots := 0, locals := 22 }) A [.ref (A.a 0), .int (iI z)] G Z (xI (bP (0 ≤ z ∧ z < (G.nn : Int))) G Z) := by
  intro sz
  refine c_start (cc := cX4_isNode) (maxL := 2) (ret := (some .boolean)) (by decide) rfl rfl ?_
  intro p e s m args below meth c X hr hk hnm hsz ls hl H locs hC
  subst hsz
  obtain ⟨hx, hb, hml, hown, hts⟩ := id X.1
  have hl : lv_has ls 2 [(0, .ref (A.a 0)), (1, .int (iI z))] := hl
  have iX4 : ∀ w ∈ u_ws RX4 TX4 18, w ∈ wsX4_isNode := by decide +kernel
  refine lv_iload_n hx hb dX4_isNode_0 rfl (lv_at hl 1 rfl) ?_
  refine li_c hx hb dX4_isNode_1 ?_
  refine lv_aload_n hx hb dX4_isNode_2 rfl (lv_at hl 0 rfl) ?_
  refine agX4_nodes X hC iX4 (by decide +kernel) dX4_isNode_3 (v := (G.nn : Int)) rfl ?_
  refine li_c hx hb dX4_isNode_6 ?_
  refine li_subN (x := G.nn) (y := 1) hx hb dX4_isNode_7 rfl rfl (by omega) ?_
  refine d_callisx (v := bP ((0 : Int) ≤ z ∧ z ≤ ((G.nn - 1 : Nat) : Int))) (n := 3) (As := [.int (iI z), .int (iI 0), .int (iI ((G.nn - 1 : Nat) : Int))]) (rest := []) X hC (mX4_isIn l A G Z z (0 : Int) ((G.nn - 1 : Nat) : Int) (show -2147483648 ≤ z ∧ z < 2147483648 by omega) (show -2147483648 ≤ (0 : Int) ∧ (0 : Int) < 2147483648 by omega) (show -2147483648 ≤ ((G.nn - 1 : Nat) : Int) ∧ ((G.nn - 1 : Nat) : Int) < 2147483648 by omega)) ⟨gX4_isNode_X4_isIn, ⟨_, rfl⟩, rfl, rfl, ⟨by decide, by decide, by decide +kernel⟩, Nat.le_of_ble_eq_true rfl, Nat.le_of_ble_eq_true rfl⟩ rfl hl.1 rfl (Nat.le_of_ble_eq_true rfl) ⟨Nat.le_of_ble_eq_true rfl, Nat.le_of_ble_eq_true rfl⟩ dX4_isNode_8 (fun H locs hC => ?_)
  exact d_zret X hC hr hk (bP_01 _) (⟨bP_eq (by omega), rfl, rfl⟩) dX4_isNode_11

set_option maxHeartbeats 4000000 in
set_option maxRecDepth 100000 in
theorem mX4_isSide (l : Launch) (A : AD) (G : GS) (Z : ZS) (r : Int) (k : Int) (hr1 : -2147483648 ≤ r ∧ r < 2147483648) (hk1 : -2147483648 ≤ k ∧ k < 2147483648) (hb1 : G.rr ≤ 12) : dMi l yX4_isSide wsX4_isSide ({ frames := 1, cells := 0, slots := 0, locals := 22 }) A [.ref (A.a 0), .int (iI r), .int (iI k)] G Z (xI (bP ((0 ≤ r ∧ r < (G.rr : Int)) ∧ (0 ≤ k ∧ k ≤ 1))) G Z) := by
  intro sz
  refine c_start (cc := cX4_isSide) (maxL := 3) (ret := (some .boolean)) (by decide) rfl rfl ?_
  intro p e s m args below meth c X hr hk hnm hsz ls hl H locs hC
  subst hsz
  obtain ⟨hx, hb, hml, hown, hts⟩ := id X.1
  have hl : lv_has ls 3 [(0, .ref (A.a 0)), (1, .int (iI r)), (2, .int (iI k))] := hl
  have iX4 : ∀ w ∈ u_ws RX4 TX4 18, w ∈ wsX4_isSide := by decide +kernel
  refine lv_iload_n hx hb dX4_isSide_0 rfl (lv_at hl 1 rfl) ?_
  refine li_c hx hb dX4_isSide_1 ?_
  refine lv_aload_n hx hb dX4_isSide_2 rfl (lv_at hl 0 rfl) ?_
  refine agX4_roads X hC iX4 (by decide +kernel) dX4_isSide_3 (v := (G.rr : Int)) rfl ?_
  refine li_c hx hb dX4_isSide_6 ?_
  refine li_sub hx hb dX4_isSide_7 ?_
  refine d_callisx (v := bP ((0 : Int) ≤ r ∧ r ≤ ((G.rr : Int) - 1))) (n := 3) (As := [.int (iI r), .int (iI 0), .int (iI ((G.rr : Int) - 1))]) (rest := []) X hC (mX4_isIn l A G Z r (0 : Int) ((G.rr : Int) - 1) (show -2147483648 ≤ r ∧ r < 2147483648 by omega) (show -2147483648 ≤ (0 : Int) ∧ (0 : Int) < 2147483648 by omega) (show -2147483648 ≤ ((G.rr : Int) - 1) ∧ ((G.rr : Int) - 1) < 2147483648 by omega)) ⟨gX4_isSide_X4_isIn, ⟨_, rfl⟩, rfl, rfl, ⟨by decide, by decide, by decide +kernel⟩, Nat.le_of_ble_eq_true rfl, Nat.le_of_ble_eq_true rfl⟩ rfl hl.1 rfl (Nat.le_of_ble_eq_true rfl) ⟨Nat.le_of_ble_eq_true rfl, Nat.le_of_ble_eq_true rfl⟩ dX4_isSide_8 (fun H locs hC => ?_)
  refine li_ifb_eq (tgt := 27) hx hb dX4_isSide_11 (by decide) (fun c_11 => ?_) (fun c_11 => ?_)
  · refine li_c hx hb dX4_isSide_27 ?_
    exact d_zret X hC hr hk (by omega) (⟨(bP_f (by omega)).symm, rfl, rfl⟩) dX4_isSide_28
  · refine lv_iload_n hx hb dX4_isSide_14 rfl (lv_at hl 2 rfl) ?_
    refine li_c hx hb dX4_isSide_15 ?_
    refine li_c hx hb dX4_isSide_16 ?_
    refine d_callisx (v := bP ((0 : Int) ≤ k ∧ k ≤ (1 : Int))) (n := 3) (As := [.int (iI k), .int (iI 0), .int (iI 1)]) (rest := []) X hC (mX4_isIn l A G Z k (0 : Int) (1 : Int) (show -2147483648 ≤ k ∧ k < 2147483648 by omega) (show -2147483648 ≤ (0 : Int) ∧ (0 : Int) < 2147483648 by omega) (show -2147483648 ≤ (1 : Int) ∧ (1 : Int) < 2147483648 by omega)) ⟨gX4_isSide_X4_isIn, ⟨_, rfl⟩, rfl, rfl, ⟨by decide, by decide, by decide +kernel⟩, Nat.le_of_ble_eq_true rfl, Nat.le_of_ble_eq_true rfl⟩ rfl hl.1 rfl (Nat.le_of_ble_eq_true rfl) ⟨Nat.le_of_ble_eq_true rfl, Nat.le_of_ble_eq_true rfl⟩ dX4_isSide_17 (fun H locs hC => ?_)
    refine li_ifb_eq (tgt := 27) hx hb dX4_isSide_20 (by decide) (fun c_20 => ?_) (fun c_20 => ?_)
    · refine li_c hx hb dX4_isSide_27 ?_
      exact d_zret X hC hr hk (by omega) (⟨(bP_f (by omega)).symm, rfl, rfl⟩) dX4_isSide_28
    · refine li_c hx hb dX4_isSide_23 ?_
      refine lv_goto (tgt := 28) hx hb dX4_isSide_24 (by decide) ?_
      exact d_zret X hC hr hk (by omega) (⟨(bP_t (by omega)).symm, rfl, rfl⟩) dX4_isSide_28

set_option maxHeartbeats 4000000 in
set_option maxRecDepth 100000 in
theorem mX4_tail (l : Launch) (A : AD) (G : GS) (Z : ZS) (k : Nat) (hk1 : k < 24) : dMi l yX4_tail wsX4_tail ({ frames := 0, cells := 0, slots := 0, locals := 0 }) A [.ref (A.a 0), .int (iI (k : Int))] G Z (xI (((G.sm k : Nat) : Int)) G Z) := by
  intro sz
  refine c_start (cc := cX4_tail) (maxL := 2) (ret := (some .int)) (by decide) rfl rfl ?_
  intro p e s m args below meth c X hr hk hnm hsz ls hl H locs hC
  subst hsz
  obtain ⟨hx, hb, hml, hown, hts⟩ := id X.1
  have hl : lv_has ls 2 [(0, .ref (A.a 0)), (1, .int (iI (k : Int)))] := hl
  have iX4 : ∀ w ∈ u_ws RX4 TX4 18, w ∈ wsX4_tail := by decide +kernel
  refine lv_aload_n hx hb dX4_tail_0 rfl (lv_at hl 0 rfl) ?_
  refine agX4_ends X hC iX4 (by decide +kernel) dX4_tail_1 ?_
  refine lv_iload_n hx hb dX4_tail_4 rfl (lv_at hl 1 rfl) ?_
  refine alD_sm (k0 := k) (v := ((G.sm k : Nat) : Int)) X hC (by omega) (by omega) rfl dX4_tail_5 ?_
  exact d_iret X hC hr hk (⟨rfl, rfl, rfl⟩) dX4_tail_6

set_option maxHeartbeats 4000000 in
set_option maxRecDepth 100000 in
theorem mX4_head (l : Launch) (A : AD) (G : GS) (Z : ZS) (k : Nat) (hk1 : k < 24) : dMi l yX4_head wsX4_head ({ frames := 0, cells := 0, slots := 0, locals := 0 }) A [.ref (A.a 0), .int (iI (k : Int))] G Z (xI (((G.sm (op k) : Nat) : Int)) G Z) := by
  intro sz
  refine c_start (cc := cX4_head) (maxL := 2) (ret := (some .int)) (by decide) rfl rfl ?_
  intro p e s m args below meth c X hr hk hnm hsz ls hl H locs hC
  subst hsz
  obtain ⟨hx, hb, hml, hown, hts⟩ := id X.1
  have hl : lv_has ls 2 [(0, .ref (A.a 0)), (1, .int (iI (k : Int)))] := hl
  have iX4 : ∀ w ∈ u_ws RX4 TX4 18, w ∈ wsX4_head := by decide +kernel
  refine lv_aload_n hx hb dX4_head_0 rfl (lv_at hl 0 rfl) ?_
  refine agX4_ends X hC iX4 (by decide +kernel) dX4_head_1 ?_
  refine lv_iload_n hx hb dX4_head_4 rfl (lv_at hl 1 rfl) ?_
  refine li_c hx hb dX4_head_5 ?_
  refine li_op (k0 := k) hx hb dX4_head_6 (by omega) (by omega) ?_
  refine alD_sm (k0 := op k) (v := ((G.sm (op k) : Nat) : Int)) X hC (by omega) (by have := op_lt (r := 12) (by omega : k < 2 * 12); omega) rfl dX4_head_7 ?_
  exact d_iret X hC hr hk (⟨rfl, rfl, rfl⟩) dX4_head_8

set_option maxHeartbeats 4000000 in
set_option maxRecDepth 100000 in
theorem mX4_turnTime (l : Launch) (A : AD) (G : GS) (Z : ZS) (r : Nat) (cb : Int) (hr : r < 12) (hc : -2147483648 ≤ cb ∧ cb < 2147483648) : dMi l yX4_turnTime wsX4_turnTime ({ frames := 0, cells := 0, slots := 0, locals := 0 }) A [.ref (A.a 0), .int (iI (r : Int)), .int (iI cb)] G Z (xI ((((if (r : Int) = cb then 2 else 0) : Nat) : Int)) G Z) := by
  intro sz
  refine c_start (cc := cX4_turnTime) (maxL := 3) (ret := (some .int)) (by decide) rfl rfl ?_
  intro p e s m args below meth c X hr hk hnm hsz ls hl H locs hC
  subst hsz
  obtain ⟨hx, hb, hml, hown, hts⟩ := id X.1
  have hl : lv_has ls 3 [(0, .ref (A.a 0)), (1, .int (iI (r : Int))), (2, .int (iI cb))] := hl
  refine lv_iload_n hx hb dX4_turnTime_0 rfl (lv_at hl 1 rfl) ?_
  refine lv_iload_n hx hb dX4_turnTime_1 rfl (lv_at hl 2 rfl) ?_
  refine li_icmp_ne (tgt := 9) hx hb dX4_turnTime_2 (by decide) (by omega) (fun c_2 => ?_) (fun c_2 => ?_)
  · refine li_c hx hb dX4_turnTime_9 ?_
    exact d_iret X hC hr hk (⟨by first | rw [if_pos (by omega)]; rfl | rw [if_neg (by omega)]; rfl, rfl, rfl⟩) dX4_turnTime_10
  · refine li_c hx hb dX4_turnTime_5 ?_
    refine lv_goto (tgt := 10) hx hb dX4_turnTime_6 (by decide) ?_
    exact d_iret X hC hr hk (⟨by first | rw [if_pos (by omega)]; rfl | rw [if_neg (by omega)]; rfl, rfl, rfl⟩) dX4_turnTime_10

set_option maxHeartbeats 4000000 in
set_option maxRecDepth 100000 in
theorem mX4_sideOf (l : Launch) (A : AD) (G : GS) (Z : ZS) (r : Nat) (v : Nat) (cb : Int) (hI : Inv G) (hr : r < G.rr) (hv : v < G.nn) (hc : -2147483648 ≤ cb ∧ cb < 2147483648) : dMi l yX4_sideOf wsX4_sideOf ({ frames := 0, cells := 0, slots := 0, locals := 0 }) A [.ref (A.a 0), .int (iI (r : Int)), .int (iI (v : Int)), .int (iI cb)] G Z (xI ((sO G r v cb)) G Z) := by
  intro sz
  refine c_start (cc := cX4_sideOf) (maxL := 4) (ret := (some .int)) (by decide) rfl rfl ?_
  intro p e s m args below meth c X hr hk hnm hsz ls hl H locs hC
  subst hsz
  obtain ⟨hx, hb, hml, hown, hts⟩ := id X.1
  have hl : lv_has ls 4 [(0, .ref (A.a 0)), (1, .int (iI (r : Int))), (2, .int (iI (v : Int))), (3, .int (iI cb))] := hl
  have iX4 : ∀ w ∈ u_ws RX4 TX4 18, w ∈ wsX4_sideOf := by decide +kernel
  have hrr := hI.rr
  have hnn := hI.nn
  have ht1 := hI.tu v
  have hs1 := hI.sm (2 * r)
  have hs2 := hI.sm (2 * r + 1)
  refine lv_iload_n hx hb dX4_sideOf_0 rfl (lv_at hl 1 rfl) ?_
  refine lv_iload_n hx hb dX4_sideOf_1 rfl (lv_at hl 3 rfl) ?_
  refine li_icmp_ne (tgt := 16) hx hb dX4_sideOf_2 (by decide) (by omega) (fun c_2 => ?_) (fun c_2 => ?_)
  · refine lv_aload_n hx hb dX4_sideOf_16 rfl (lv_at hl 0 rfl) ?_
    refine agX4_ends X hC iX4 (by decide +kernel) dX4_sideOf_17 ?_
    refine li_c hx hb dX4_sideOf_20 ?_
    refine lv_iload_n hx hb dX4_sideOf_21 rfl (lv_at hl 1 rfl) ?_
    refine li_mulN (x := 2) (y := r) hx hb dX4_sideOf_22 rfl rfl ?_
    refine alD_sm (k0 := 2 * r) (v := ((G.sm (2 * r) : Nat) : Int)) X hC (by omega) (by omega) rfl dX4_sideOf_23 ?_
    have hb1 := hI.sm (2 * r)
    refine lv_iload_n hx hb dX4_sideOf_24 rfl (lv_at hl 2 rfl) ?_
    refine li_icmp_ne (tgt := 34) hx hb dX4_sideOf_25 (by decide) (by omega) (fun c_25 => ?_) (fun c_25 => ?_)
    · refine lv_aload_n hx hb dX4_sideOf_34 rfl (lv_at hl 0 rfl) ?_
      refine agX4_ends X hC iX4 (by decide +kernel) dX4_sideOf_35 ?_
      refine li_c hx hb dX4_sideOf_38 ?_
      refine lv_iload_n hx hb dX4_sideOf_39 rfl (lv_at hl 1 rfl) ?_
      refine li_mulN (x := 2) (y := r) hx hb dX4_sideOf_40 rfl rfl ?_
      refine li_c hx hb dX4_sideOf_41 ?_
      refine li_addN (x := 2 * r) (y := 1) hx hb dX4_sideOf_42 rfl rfl ?_
      refine alD_sm (k0 := (2 * r) + 1) (v := ((G.sm ((2 * r) + 1) : Nat) : Int)) X hC (by omega) (by omega) rfl dX4_sideOf_43 ?_
      have hb2 := hI.sm ((2 * r) + 1)
      refine lv_iload_n hx hb dX4_sideOf_44 rfl (lv_at hl 2 rfl) ?_
      refine li_icmp_ne (tgt := 56) hx hb dX4_sideOf_45 (by decide) (by omega) (fun c_45 => ?_) (fun c_45 => ?_)
      · refine li_c hx hb dX4_sideOf_56 ?_
        exact d_iret X hC hr hk (⟨by unfold sO sF; first | (rw [if_pos ⟨by omega, by omega⟩]; done) | (rw [if_neg (fun hq => by omega), if_pos (by omega)]; done) | (rw [if_neg (fun hq => by omega), if_neg (by omega), if_pos (by omega)]; done) | (rw [if_neg (fun hq => by omega), if_neg (by omega), if_neg (by omega)]; done), rfl, rfl⟩) dX4_sideOf_57
      · refine li_c hx hb dX4_sideOf_48 ?_
        refine lv_iload_n hx hb dX4_sideOf_49 rfl (lv_at hl 1 rfl) ?_
        refine li_mulN (x := 2) (y := r) hx hb dX4_sideOf_50 rfl rfl ?_
        refine li_c hx hb dX4_sideOf_51 ?_
        refine li_addN (x := 2 * r) (y := 1) hx hb dX4_sideOf_52 rfl rfl ?_
        refine lv_goto (tgt := 57) hx hb dX4_sideOf_53 (by decide) ?_
        exact d_iret X hC hr hk (⟨by unfold sO sF; first | (rw [if_pos ⟨by omega, by omega⟩]; done) | (rw [if_neg (fun hq => by omega), if_pos (by omega)]; done) | (rw [if_neg (fun hq => by omega), if_neg (by omega), if_pos (by omega)]; done) | (rw [if_neg (fun hq => by omega), if_neg (by omega), if_neg (by omega)]; done), rfl, rfl⟩) dX4_sideOf_57
    · refine li_c hx hb dX4_sideOf_28 ?_
      refine lv_iload_n hx hb dX4_sideOf_29 rfl (lv_at hl 1 rfl) ?_
      refine li_mulN (x := 2) (y := r) hx hb dX4_sideOf_30 rfl rfl ?_
      refine lv_goto (tgt := 57) hx hb dX4_sideOf_31 (by decide) ?_
      exact d_iret X hC hr hk (⟨by unfold sO sF; first | (rw [if_pos ⟨by omega, by omega⟩]; done) | (rw [if_neg (fun hq => by omega), if_pos (by omega)]; done) | (rw [if_neg (fun hq => by omega), if_neg (by omega), if_pos (by omega)]; done) | (rw [if_neg (fun hq => by omega), if_neg (by omega), if_neg (by omega)]; done), rfl, rfl⟩) dX4_sideOf_57
  · refine lv_aload_n hx hb dX4_sideOf_5 rfl (lv_at hl 0 rfl) ?_
    refine agX4_areTurning X hC iX4 (by decide +kernel) dX4_sideOf_6 ?_
    refine lv_iload_n hx hb dX4_sideOf_9 rfl (lv_at hl 2 rfl) ?_
    refine alD_tu (k0 := v) (v := ((G.tu v : Nat) : Int)) X hC (by omega) (by omega) rfl dX4_sideOf_10 ?_
    have hb3 := hI.tu v
    refine li_if_ne (tgt := 16) hx hb dX4_sideOf_11 (by decide) (by omega) (fun c_11 => ?_) (fun c_11 => ?_)
    · refine lv_aload_n hx hb dX4_sideOf_16 rfl (lv_at hl 0 rfl) ?_
      refine agX4_ends X hC iX4 (by decide +kernel) dX4_sideOf_17 ?_
      refine li_c hx hb dX4_sideOf_20 ?_
      refine lv_iload_n hx hb dX4_sideOf_21 rfl (lv_at hl 1 rfl) ?_
      refine li_mulN (x := 2) (y := r) hx hb dX4_sideOf_22 rfl rfl ?_
      refine alD_sm (k0 := 2 * r) (v := ((G.sm (2 * r) : Nat) : Int)) X hC (by omega) (by omega) rfl dX4_sideOf_23 ?_
      have hb4 := hI.sm (2 * r)
      refine lv_iload_n hx hb dX4_sideOf_24 rfl (lv_at hl 2 rfl) ?_
      refine li_icmp_ne (tgt := 34) hx hb dX4_sideOf_25 (by decide) (by omega) (fun c_25 => ?_) (fun c_25 => ?_)
      · refine lv_aload_n hx hb dX4_sideOf_34 rfl (lv_at hl 0 rfl) ?_
        refine agX4_ends X hC iX4 (by decide +kernel) dX4_sideOf_35 ?_
        refine li_c hx hb dX4_sideOf_38 ?_
        refine lv_iload_n hx hb dX4_sideOf_39 rfl (lv_at hl 1 rfl) ?_
        refine li_mulN (x := 2) (y := r) hx hb dX4_sideOf_40 rfl rfl ?_
        refine li_c hx hb dX4_sideOf_41 ?_
        refine li_addN (x := 2 * r) (y := 1) hx hb dX4_sideOf_42 rfl rfl ?_
        refine alD_sm (k0 := (2 * r) + 1) (v := ((G.sm ((2 * r) + 1) : Nat) : Int)) X hC (by omega) (by omega) rfl dX4_sideOf_43 ?_
        have hb5 := hI.sm ((2 * r) + 1)
        refine lv_iload_n hx hb dX4_sideOf_44 rfl (lv_at hl 2 rfl) ?_
        refine li_icmp_ne (tgt := 56) hx hb dX4_sideOf_45 (by decide) (by omega) (fun c_45 => ?_) (fun c_45 => ?_)
        · refine li_c hx hb dX4_sideOf_56 ?_
          exact d_iret X hC hr hk (⟨by unfold sO sF; first | (rw [if_pos ⟨by omega, by omega⟩]; done) | (rw [if_neg (fun hq => by omega), if_pos (by omega)]; done) | (rw [if_neg (fun hq => by omega), if_neg (by omega), if_pos (by omega)]; done) | (rw [if_neg (fun hq => by omega), if_neg (by omega), if_neg (by omega)]; done), rfl, rfl⟩) dX4_sideOf_57
        · refine li_c hx hb dX4_sideOf_48 ?_
          refine lv_iload_n hx hb dX4_sideOf_49 rfl (lv_at hl 1 rfl) ?_
          refine li_mulN (x := 2) (y := r) hx hb dX4_sideOf_50 rfl rfl ?_
          refine li_c hx hb dX4_sideOf_51 ?_
          refine li_addN (x := 2 * r) (y := 1) hx hb dX4_sideOf_52 rfl rfl ?_
          refine lv_goto (tgt := 57) hx hb dX4_sideOf_53 (by decide) ?_
          exact d_iret X hC hr hk (⟨by unfold sO sF; first | (rw [if_pos ⟨by omega, by omega⟩]; done) | (rw [if_neg (fun hq => by omega), if_pos (by omega)]; done) | (rw [if_neg (fun hq => by omega), if_neg (by omega), if_pos (by omega)]; done) | (rw [if_neg (fun hq => by omega), if_neg (by omega), if_neg (by omega)]; done), rfl, rfl⟩) dX4_sideOf_57
      · refine li_c hx hb dX4_sideOf_28 ?_
        refine lv_iload_n hx hb dX4_sideOf_29 rfl (lv_at hl 1 rfl) ?_
        refine li_mulN (x := 2) (y := r) hx hb dX4_sideOf_30 rfl rfl ?_
        refine lv_goto (tgt := 57) hx hb dX4_sideOf_31 (by decide) ?_
        exact d_iret X hC hr hk (⟨by unfold sO sF; first | (rw [if_pos ⟨by omega, by omega⟩]; done) | (rw [if_neg (fun hq => by omega), if_pos (by omega)]; done) | (rw [if_neg (fun hq => by omega), if_neg (by omega), if_pos (by omega)]; done) | (rw [if_neg (fun hq => by omega), if_neg (by omega), if_neg (by omega)]; done), rfl, rfl⟩) dX4_sideOf_57
    · refine li_c hx hb dX4_sideOf_14 ?_
      exact d_iret X hC hr hk (⟨by unfold sO sF; first | (rw [if_pos ⟨by omega, by omega⟩]; done) | (rw [if_neg (fun hq => by omega), if_pos (by omega)]; done) | (rw [if_neg (fun hq => by omega), if_neg (by omega), if_pos (by omega)]; done) | (rw [if_neg (fun hq => by omega), if_neg (by omega), if_neg (by omega)]; done), rfl, rfl⟩) dX4_sideOf_15

set_option maxHeartbeats 4000000 in
set_option maxRecDepth 100000 in
theorem mX4_strew (l : Launch) (A : AD) (G : GS) (Z : ZS) (b : Nat) (hb1 : b ≤ 1) (hw : G.vw ≤ 1) : dMi l yX4_strew wsX4_strew ({ frames := 0, cells := 0, slots := 0, locals := 0 }) A [.ref (A.a 0), .int (iI (b : Int))] G Z (xI ((G.vw : Int)) (G.vw' b) (Z.th' 0)) := by
  intro sz
  refine c_start (cc := cX4_strew) (maxL := 3) (ret := (some .boolean)) (by decide) rfl rfl ?_
  intro p e s m args below meth c X hr hk hnm hsz ls hl H locs hC
  subst hsz
  obtain ⟨hx, hb, hml, hown, hts⟩ := id X.1
  have hl : lv_has ls 3 [(0, .ref (A.a 0)), (1, .int (iI (b : Int)))] := hl
  have iX4 : ∀ w ∈ u_ws RX4 TX4 18, w ∈ wsX4_strew := by decide +kernel
  refine lv_aload_n hx hb dX4_strew_0 rfl (lv_at hl 0 rfl) ?_
  refine li_c hx hb dX4_strew_1 ?_
  refine apX4_thrown X hC iX4 (by decide +kernel) dX4_strew_2 (x := 0) (by omega) (fun H locs hC => ?_)
  have hC : aH A (dAdr A) (DW A G (mkZ 0 Z.wt Z.gn Z.gs)) s H locs := hC
  refine lv_aload_n hx hb dX4_strew_5 rfl (lv_at hl 0 rfl) ?_
  refine agX4_strews X hC iX4 (by decide +kernel) dX4_strew_6 (v := (G.vw : Int)) rfl ?_
  refine lv_istore_n (lv' := [(2, .int (iI (G.vw : Int))), (0, .ref (A.a 0)), (1, .int (iI (b : Int)))]) hx hb dX4_strew_9 rfl hl (by decide) rfl (fun ls hl => ?_)
  refine lv_aload_n hx hb dX4_strew_10 rfl (lv_at hl 1 rfl) ?_
  refine lv_iload_n hx hb dX4_strew_11 rfl (lv_at hl 2 rfl) ?_
  refine apX4_strews X hC iX4 (by decide +kernel) dX4_strew_12 (x := b) (by omega) (by omega) (fun H locs hC => ?_)
  have hC : aH A (dAdr A) (DW A (mkG G.tu G.st G.sm G.mi G.pr G.de G.sa G.nn G.rr G.vn G.vc G.vs b G.tt) (mkZ 0 Z.wt Z.gn Z.gs)) s H locs := hC
  refine lv_iload_n hx hb dX4_strew_15 rfl (lv_at hl 0 rfl) ?_
  exact d_zret X hC hr hk (by omega) (⟨rfl, rfl, rfl⟩) dX4_strew_16

set_option maxHeartbeats 4000000 in
set_option maxRecDepth 100000 in
theorem mX4_told (l : Launch) (A : AD) (G : GS) (Z : ZS) (z : Int) (hz : -2147483648 ≤ z ∧ z < 2147483648) (hw : G.vw ≤ 1) : dMi l yX4_told wsX4_told ({ frames := 0, cells := 0, slots := 0, locals := 0 }) A [.ref (A.a 0), .int (iI z)] G Z (xI ((stf G z)) G Z) := by
  intro sz
  refine c_start (cc := cX4_told) (maxL := 2) (ret := (some .int)) (by decide) rfl rfl ?_
  intro p e s m args below meth c X hr hk hnm hsz ls hl H locs hC
  subst hsz
  obtain ⟨hx, hb, hml, hown, hts⟩ := id X.1
  have hl : lv_has ls 2 [(0, .ref (A.a 0)), (1, .int (iI z))] := hl
  have iX4 : ∀ w ∈ u_ws RX4 TX4 18, w ∈ wsX4_told := by decide +kernel
  refine lv_iload_n hx hb dX4_told_0 rfl (lv_at hl 1 rfl) ?_
  refine li_if_ne (tgt := 11) hx hb dX4_told_1 (by decide) (by omega) (fun c_1 => ?_) (fun c_1 => ?_)
  · refine lv_iload_n hx hb dX4_told_11 rfl (lv_at hl 1 rfl) ?_
    refine li_c hx hb dX4_told_12 ?_
    refine li_icmp_ne (tgt := 23) hx hb dX4_told_13 (by decide) (by omega) (fun c_13 => ?_) (fun c_13 => ?_)
    · refine lv_iload_n hx hb dX4_told_23 rfl (lv_at hl 1 rfl) ?_
      refine li_c hx hb dX4_told_24 ?_
      refine li_icmp_ne (tgt := 35) hx hb dX4_told_25 (by decide) (by omega) (fun c_25 => ?_) (fun c_25 => ?_)
      · refine lv_aload_n hx hb dX4_told_35 rfl (lv_at hl 0 rfl) ?_
        refine agX4_strews X hC iX4 (by decide +kernel) dX4_told_36 (v := (G.vw : Int)) rfl ?_
        refine li_if_eq (tgt := 46) hx hb dX4_told_39 (by decide) (by omega) (fun c_39 => ?_) (fun c_39 => ?_)
        · refine li_c hx hb dX4_told_46 ?_
          exact d_iret X hC hr hk (⟨by unfold stf; first | (rw [if_pos (by omega)]; done) | (rw [if_neg (by omega), if_pos (by omega)]; done) | (rw [if_neg (by omega), if_neg (by omega), if_pos (by omega)]; done) | (rw [if_neg (by omega), if_neg (by omega), if_neg (by omega)]; omega), rfl, rfl⟩) dX4_told_47
        · refine li_c hx hb dX4_told_42 ?_
          refine lv_goto (tgt := 47) hx hb dX4_told_43 (by decide) ?_
          exact d_iret X hC hr hk (⟨by unfold stf; first | (rw [if_pos (by omega)]; done) | (rw [if_neg (by omega), if_pos (by omega)]; done) | (rw [if_neg (by omega), if_neg (by omega), if_pos (by omega)]; done) | (rw [if_neg (by omega), if_neg (by omega), if_neg (by omega)]; omega), rfl, rfl⟩) dX4_told_47
      · refine lv_aload_n hx hb dX4_told_28 rfl (lv_at hl 0 rfl) ?_
        refine agX4_salt X hC iX4 (by decide +kernel) dX4_told_29 (v := (G.vs : Int)) rfl ?_
        refine lv_goto (tgt := 47) hx hb dX4_told_32 (by decide) ?_
        exact d_iret X hC hr hk (⟨by unfold stf; first | (rw [if_pos (by omega)]; done) | (rw [if_neg (by omega), if_pos (by omega)]; done) | (rw [if_neg (by omega), if_neg (by omega), if_pos (by omega)]; done) | (rw [if_neg (by omega), if_neg (by omega), if_neg (by omega)]; omega), rfl, rfl⟩) dX4_told_47
    · refine lv_aload_n hx hb dX4_told_16 rfl (lv_at hl 0 rfl) ?_
      refine agX4_came X hC iX4 (by decide +kernel) dX4_told_17 (v := G.vc) rfl ?_
      refine lv_goto (tgt := 47) hx hb dX4_told_20 (by decide) ?_
      exact d_iret X hC hr hk (⟨by unfold stf; first | (rw [if_pos (by omega)]; done) | (rw [if_neg (by omega), if_pos (by omega)]; done) | (rw [if_neg (by omega), if_neg (by omega), if_pos (by omega)]; done) | (rw [if_neg (by omega), if_neg (by omega), if_neg (by omega)]; omega), rfl, rfl⟩) dX4_told_47
  · refine lv_aload_n hx hb dX4_told_4 rfl (lv_at hl 0 rfl) ?_
    refine agX4_at X hC iX4 (by decide +kernel) dX4_told_5 (v := (G.vn : Int)) rfl ?_
    refine lv_goto (tgt := 47) hx hb dX4_told_8 (by decide) ?_
    exact d_iret X hC hr hk (⟨by unfold stf; first | (rw [if_pos (by omega)]; done) | (rw [if_neg (by omega), if_pos (by omega)]; done) | (rw [if_neg (by omega), if_neg (by omega), if_pos (by omega)]; done) | (rw [if_neg (by omega), if_neg (by omega), if_neg (by omega)]; omega), rfl, rfl⟩) dX4_told_47

set_option maxHeartbeats 4000000 in
set_option maxRecDepth 100000 in
theorem mX4_fillUp (l : Launch) (A : AD) (G : GS) (Z : ZS) (hv : G.vs ≤ 120) : dMi l yX4_fillUp wsX4_fillUp ({ frames := 0, cells := 0, slots := 0, locals := 0 }) A [.ref (A.a 0)] G Z (xI (((120 - G.vs : Nat) : Int)) ((G.vs' 120).tt' (up G.tt 0 (G.tt 0 + 4))) Z) := by
  intro sz
  refine c_start (cc := cX4_fillUp) (maxL := 2) (ret := (some .int)) (by decide) rfl rfl ?_
  intro p e s m args below meth c X hr hk hnm hsz ls hl H locs hC
  subst hsz
  obtain ⟨hx, hb, hml, hown, hts⟩ := id X.1
  have hl : lv_has ls 2 [(0, .ref (A.a 0))] := hl
  have iX4 : ∀ w ∈ u_ws RX4 TX4 18, w ∈ wsX4_fillUp := by decide +kernel
  refine li_bi hx hb dX4_fillUp_0 (by decide) ?_
  refine lv_aload_n hx hb dX4_fillUp_2 rfl (lv_at hl 0 rfl) ?_
  refine agX4_salt X hC iX4 (by decide +kernel) dX4_fillUp_3 (v := (G.vs : Int)) rfl ?_
  refine li_subN (x := 120) (y := G.vs) hx hb dX4_fillUp_6 rfl rfl (by omega) ?_
  refine lv_istore_n (lv' := [(1, .int (iI ((120 - G.vs : Nat) : Int))), (0, .ref (A.a 0))]) hx hb dX4_fillUp_7 rfl hl (by decide) rfl (fun ls hl => ?_)
  refine lv_aload_n hx hb dX4_fillUp_8 rfl (lv_at hl 1 rfl) ?_
  refine li_bi hx hb dX4_fillUp_9 (by decide) ?_
  refine apX4_salt X hC iX4 (by decide +kernel) dX4_fillUp_11 (x := 120) (by omega) (fun H locs hC => ?_)
  have hC : aH A (dAdr A) (DW A (mkG G.tu G.st G.sm G.mi G.pr G.de G.sa G.nn G.rr G.vn G.vc 120 G.vw G.tt) Z) s H locs := hC
  refine lv_aload_n hx hb dX4_fillUp_14 rfl (lv_at hl 1 rfl) ?_
  refine agX4_totals X hC iX4 (by decide +kernel) dX4_fillUp_15 ?_
  refine li_c hx hb dX4_fillUp_18 ?_
  refine lv_dup2_11 hx hb dX4_fillUp_19 rfl rfl ?_
  refine alD_tt (k0 := 0) (v := G.tt 0) X hC (by omega) (by omega) rfl dX4_fillUp_20 ?_
  refine lv_ldc2 (v := 4) hx hb hown (hts _ (by decide +kernel)) dX4_fillUp_21 ?_
  refine lv_ladd hx hb dX4_fillUp_24 ?_
  refine asD_tt (k0 := 0) X hC (by omega) (by omega) dX4_fillUp_25 (fun H locs hC => ?_)
  have hC : aH A (dAdr A) (DW A (mkG G.tu G.st G.sm G.mi G.pr G.de G.sa G.nn G.rr G.vn G.vc 120 G.vw (up G.tt 0 (G.tt 0 + 4))) Z) s H locs := hC
  refine lv_iload_n hx hb dX4_fillUp_26 rfl (lv_at hl 0 rfl) ?_
  exact d_iret X hC hr hk (⟨rfl, rfl, rfl⟩) dX4_fillUp_27

set_option maxHeartbeats 4000000 in
set_option maxRecDepth 100000 in
theorem mX4_deepest (l : Launch) (A : AD) (G : GS) (Z : ZS) (q : Int) (hI : Inv G) (hq : -2147483648 ≤ q ∧ q < 2147483648) : dMi l yX4_deepest wsX4_deepest ({ frames := 1, cells := 0, slots := 0, locals := 21 }) A [.ref (A.a 0), .int (iI q)] G Z (xI ((dpA G.pr G.de q (2 * G.rr))) G Z) := by
  intro sz
  refine c_start (cc := cX4_deepest) (maxL := 4) (ret := (some .int)) (by decide) rfl rfl ?_
  intro p e s m args below meth c X hr hk hnm hsz ls hl H locs hC
  subst hsz
  obtain ⟨hx, hb, hml, hown, hts⟩ := id X.1
  have hl : lv_has ls 4 [(0, .ref (A.a 0)), (1, .int (iI q))] := hl
  have iX4 : ∀ w ∈ u_ws RX4 TX4 18, w ∈ wsX4_deepest := by decide +kernel
  have hrr := hI.rr
  refine li_c hx hb dX4_deepest_0 ?_
  refine lv_istore_n (lv' := [(2, .int (iI (-1))), (0, .ref (A.a 0)), (1, .int (iI q))]) hx hb dX4_deepest_1 rfl hl (by decide) rfl (fun ls hl => ?_)
  refine li_c hx hb dX4_deepest_2 ?_
  refine lv_istore_n (lv' := [(3, .int (iI 0)), (2, .int (iI (-1))), (0, .ref (A.a 0)), (1, .int (iI q))]) hx hb dX4_deepest_3 rfl hl (by decide) rfl (fun ls hl => ?_)
  have loop_4 : ∀ (n : Nat) (i : Nat) (hn : 2 * G.rr - i < n) (hi : i ≤ 2 * G.rr) (H : Heap) (locs : List Loc) (hC : aH A (dAdr A) (DW A G Z) s H locs) (ls : Array Slot) (hl : lv_has ls 4 [(3, .int (iI (i : Int))), (2, .int (iI (dpA G.pr G.de q i))), (0, .ref (A.a 0)), (1, .int (iI q))]), W p l e ({ frames := 1, cells := 0, slots := 0, locals := 21 }) s m args below meth c H locs 0 0 (aQi below (dEnd A) (dAdr A) args s (xI ((dpA G.pr G.de q (2 * G.rr))) G Z)) (F0 m 4 ls []) := by
    intro n
    induction n with
    | zero => intro i hn; exact absurd hn (Nat.not_lt_zero _)
    | succ n ih_4 =>
      intro i hn hi H locs hC ls hl
      have hdm := dpA_rng (pr := G.pr) (q := q) hI.de i
      have hpr9 := hI.pr (i / 2)
      have hde9 := hI.de i
      refine lv_iload_n hx hb dX4_deepest_4 rfl (lv_at hl 0 rfl) ?_
      refine li_c hx hb dX4_deepest_5 ?_
      refine lv_aload_n hx hb dX4_deepest_6 rfl (lv_at hl 2 rfl) ?_
      refine agX4_roads X hC iX4 (by decide +kernel) dX4_deepest_7 (v := (G.rr : Int)) rfl ?_
      refine li_mulN (x := 2) (y := G.rr) hx hb dX4_deepest_10 rfl rfl ?_
      refine li_icmp_ge (tgt := 48) hx hb dX4_deepest_11 (by decide) (by omega) (fun c_11 => ?_) (fun c_11 => ?_)
      · refine lv_iload_n hx hb dX4_deepest_48 rfl (lv_at hl 1 rfl) ?_
        exact d_iret X hC hr hk (⟨by rw [show 2 * G.rr = i by omega], rfl, rfl⟩) dX4_deepest_49
      · refine lv_iload_n hx hb dX4_deepest_14 rfl (lv_at hl 3 rfl) ?_
        refine li_c hx hb dX4_deepest_15 ?_
        refine li_icmp_eq (tgt := 31) hx hb dX4_deepest_16 (by decide) (by omega) (fun c_16 => ?_) (fun c_16 => ?_)
        · refine lv_iload_n hx hb dX4_deepest_31 rfl (lv_at hl 1 rfl) ?_
          refine lv_aload_n hx hb dX4_deepest_32 rfl (lv_at hl 2 rfl) ?_
          refine agX4_depths X hC iX4 (by decide +kernel) dX4_deepest_33 ?_
          refine lv_iload_n hx hb dX4_deepest_36 rfl (lv_at hl 0 rfl) ?_
          refine alD_de (k0 := i) (v := ((G.de i : Nat) : Int)) X hC (by omega) (by omega) rfl dX4_deepest_37 ?_
          have hb1 := hI.de i
          refine li_max hx hb (hml.trans hl.1.symm) hown (hts _ (by decide +kernel)) (hts _ (by decide +kernel)) (hts _ (by decide +kernel)) (hts _ (by decide +kernel)) (Nat.le_of_ble_eq_true rfl) (Nat.le_of_ble_eq_true rfl) (Nat.zero_le _) (Nat.zero_le _) (by omega) dX4_deepest_38 ?_
          rw [show (if (dpA G.pr G.de q i) < ((G.de i : Nat) : Int) then ((G.de i : Nat) : Int) else (dpA G.pr G.de q i)) = (max (dpA G.pr G.de q i) ((G.de i : Nat) : Int)) by split <;> omega]
          refine lv_istore_n (lv' := [(2, .int (iI (max (dpA G.pr G.de q i) ((G.de i : Nat) : Int)))), (3, .int (iI (i : Int))), (0, .ref (A.a 0)), (1, .int (iI q))]) hx hb dX4_deepest_41 rfl hl (by decide) rfl (fun ls hl => ?_)
          refine li_incN (lv' := [(3, .int (iI ((i + 1 : Nat) : Int))), (2, .int (iI (max (dpA G.pr G.de q i) ((G.de i : Nat) : Int)))), (0, .ref (A.a 0)), (1, .int (iI q))]) (x := i) (d0 := 1) hx hb dX4_deepest_42 hl (k := 1) rfl rfl rfl (by decide) rfl (fun ls hl => ?_)
          refine lv_goto (tgt := 4) hx hb dX4_deepest_45 (by decide) ?_
          have e1 : (max (dpA G.pr G.de q i) ((G.de i : Nat) : Int)) = dpA G.pr G.de q (i + 1) := by rw [dpA_s]; first | rw [if_pos (Or.inl (by omega))] | rw [if_pos (Or.inr (by omega))] | rw [if_neg (by omega)]
          rw [e1] at hl
          exact ih_4 (i + 1) (by omega) (by omega) H locs hC ls (lv_sub hl [0, 1, 2, 3] rfl)
        · refine lv_aload_n hx hb dX4_deepest_19 rfl (lv_at hl 2 rfl) ?_
          refine agX4_priorities X hC iX4 (by decide +kernel) dX4_deepest_20 ?_
          refine lv_iload_n hx hb dX4_deepest_23 rfl (lv_at hl 0 rfl) ?_
          refine li_c hx hb dX4_deepest_24 ?_
          refine li_divN (x := i) (y := 2) hx hb dX4_deepest_25 rfl rfl (by omega) ?_
          refine alD_pr (k0 := i / 2) (v := ((G.pr (i / 2) : Nat) : Int)) X hC (by omega) (by omega) rfl dX4_deepest_26 ?_
          have hb2 := hI.pr (i / 2)
          refine lv_iload_n hx hb dX4_deepest_27 rfl (lv_at hl 3 rfl) ?_
          refine li_icmp_ne (tgt := 42) hx hb dX4_deepest_28 (by decide) (by omega) (fun c_28 => ?_) (fun c_28 => ?_)
          · refine li_incN (lv' := [(3, .int (iI ((i + 1 : Nat) : Int))), (2, .int (iI (dpA G.pr G.de q i))), (0, .ref (A.a 0)), (1, .int (iI q))]) (x := i) (d0 := 1) hx hb dX4_deepest_42 hl (k := 0) rfl rfl rfl (by decide) rfl (fun ls hl => ?_)
            refine lv_goto (tgt := 4) hx hb dX4_deepest_45 (by decide) ?_
            have e1 : (dpA G.pr G.de q i) = dpA G.pr G.de q (i + 1) := by rw [dpA_s]; first | rw [if_pos (Or.inl (by omega))] | rw [if_pos (Or.inr (by omega))] | rw [if_neg (by omega)]
            rw [e1] at hl
            exact ih_4 (i + 1) (by omega) (by omega) H locs hC ls (lv_sub hl [0, 1, 2, 3] rfl)
          · refine lv_iload_n hx hb dX4_deepest_31 rfl (lv_at hl 1 rfl) ?_
            refine lv_aload_n hx hb dX4_deepest_32 rfl (lv_at hl 2 rfl) ?_
            refine agX4_depths X hC iX4 (by decide +kernel) dX4_deepest_33 ?_
            refine lv_iload_n hx hb dX4_deepest_36 rfl (lv_at hl 0 rfl) ?_
            refine alD_de (k0 := i) (v := ((G.de i : Nat) : Int)) X hC (by omega) (by omega) rfl dX4_deepest_37 ?_
            have hb3 := hI.de i
            refine li_max hx hb (hml.trans hl.1.symm) hown (hts _ (by decide +kernel)) (hts _ (by decide +kernel)) (hts _ (by decide +kernel)) (hts _ (by decide +kernel)) (Nat.le_of_ble_eq_true rfl) (Nat.le_of_ble_eq_true rfl) (Nat.zero_le _) (Nat.zero_le _) (by omega) dX4_deepest_38 ?_
            rw [show (if (dpA G.pr G.de q i) < ((G.de i : Nat) : Int) then ((G.de i : Nat) : Int) else (dpA G.pr G.de q i)) = (max (dpA G.pr G.de q i) ((G.de i : Nat) : Int)) by split <;> omega]
            refine lv_istore_n (lv' := [(2, .int (iI (max (dpA G.pr G.de q i) ((G.de i : Nat) : Int)))), (3, .int (iI (i : Int))), (0, .ref (A.a 0)), (1, .int (iI q))]) hx hb dX4_deepest_41 rfl hl (by decide) rfl (fun ls hl => ?_)
            refine li_incN (lv' := [(3, .int (iI ((i + 1 : Nat) : Int))), (2, .int (iI (max (dpA G.pr G.de q i) ((G.de i : Nat) : Int)))), (0, .ref (A.a 0)), (1, .int (iI q))]) (x := i) (d0 := 1) hx hb dX4_deepest_42 hl (k := 1) rfl rfl rfl (by decide) rfl (fun ls hl => ?_)
            refine lv_goto (tgt := 4) hx hb dX4_deepest_45 (by decide) ?_
            have e1 : (max (dpA G.pr G.de q i) ((G.de i : Nat) : Int)) = dpA G.pr G.de q (i + 1) := by rw [dpA_s]; first | rw [if_pos (Or.inl (by omega))] | rw [if_pos (Or.inr (by omega))] | rw [if_neg (by omega)]
            rw [e1] at hl
            exact ih_4 (i + 1) (by omega) (by omega) H locs hC ls (lv_sub hl [0, 1, 2, 3] rfl)
  exact loop_4 ((2 * G.rr) + 1) 0 (Nat.lt_succ_self _) (by omega) H locs hC ls (lv_sub hl [0, 1, 2, 3] rfl)

set_option maxHeartbeats 4000000 in
set_option maxRecDepth 100000 in
theorem mX4_weightAt (l : Launch) (A : AD) (G : GS) (Z : ZS) (v : Nat) (cb : Int) (hv : v < 8) (hc : -1 ≤ cb ∧ cb < 12) : dMi l yX4_weightAt wsX4_weightAt ({ frames := 0, cells := 0, slots := 0, locals := 0 }) A [.ref (A.a 0), .int (iI (v : Int)), .int (iI cb)] G Z (xI (((Z.wt (wI v cb) : Nat) : Int)) G Z) := by
  intro sz
  refine c_start (cc := cX4_weightAt) (maxL := 3) (ret := (some .int)) (by decide) rfl rfl ?_
  intro p e s m args below meth c X hr hk hnm hsz ls hl H locs hC
  subst hsz
  obtain ⟨hx, hb, hml, hown, hts⟩ := id X.1
  have hl : lv_has ls 3 [(0, .ref (A.a 0)), (1, .int (iI (v : Int))), (2, .int (iI cb))] := hl
  have iX4 : ∀ w ∈ u_ws RX4 TX4 18, w ∈ wsX4_weightAt := by decide +kernel
  refine lv_aload_n hx hb dX4_weightAt_0 rfl (lv_at hl 0 rfl) ?_
  refine agX4_weights X hC iX4 (by decide +kernel) dX4_weightAt_1 ?_
  refine li_bi hx hb dX4_weightAt_4 (by decide) ?_
  refine lv_iload_n hx hb dX4_weightAt_6 rfl (lv_at hl 1 rfl) ?_
  refine li_mulN (x := 13) (y := v) hx hb dX4_weightAt_7 rfl rfl ?_
  refine lv_iload_n hx hb dX4_weightAt_8 rfl (lv_at hl 2 rfl) ?_
  refine li_add hx hb dX4_weightAt_9 ?_
  refine li_c hx hb dX4_weightAt_10 ?_
  refine li_add hx hb dX4_weightAt_11 ?_
  refine alD_wt (k0 := (((((13 * v : Nat) : Int) + cb) + 1)).toNat) (v := ((Z.wt ((((((13 * v : Nat) : Int) + cb) + 1)).toNat) : Nat) : Int)) X hC (by omega) (by omega) rfl dX4_weightAt_12 ?_
  exact d_iret X hC hr hk (⟨rfl, rfl, rfl⟩) dX4_weightAt_13

set_option maxHeartbeats 4000000 in
set_option maxRecDepth 100000 in
theorem mX4_drive (l : Launch) (A : AD) (G : GS) (Z : ZS) (r : Nat) (k : Nat) (hI : Inv G) (hk1 : r < G.rr) (hk2 : k < 2 * G.rr) (hs : sO G r G.vn G.vc = (k : Int)) : dMi l yX4_drive wsX4_drive ({ frames := 1, cells := 0, slots := 0, locals := 23 }) A [.ref (A.a 0), .int (iI (r : Int))] G Z (xI ((dMin G r k)) (drv G r k) Z) := by
  intro sz
  refine c_start (cc := cX4_drive) (maxL := 5) (ret := (some .int)) (by decide) rfl rfl ?_
  intro p e s m args below meth c X hr hk hnm hsz ls hl H locs hC
  subst hsz
  obtain ⟨hx, hb, hml, hown, hts⟩ := id X.1
  have hl : lv_has ls 5 [(0, .ref (A.a 0)), (1, .int (iI (r : Int)))] := hl
  have iX4 : ∀ w ∈ u_ws RX4 TX4 18, w ∈ wsX4_drive := by decide +kernel
  have hrr := hI.rr
  have hnn := hI.nn
  have hv := hI.vn
  have hc := hI.vc
  have hm := hI.mi r
  have hd := hI.de k
  have hdo := hI.de (op k)
  have hop := op_lt hk2
  have hw := hI.vw
  have hvs := hI.vs
  refine lv_aload_n hx hb dX4_drive_0 rfl (lv_at hl 0 rfl) ?_
  refine lv_iload_n hx hb dX4_drive_1 rfl (lv_at hl 1 rfl) ?_
  refine lv_aload_n hx hb dX4_drive_2 rfl (lv_at hl 0 rfl) ?_
  refine agX4_at X hC iX4 (by decide +kernel) dX4_drive_3 (v := (G.vn : Int)) rfl ?_
  refine lv_aload_n hx hb dX4_drive_6 rfl (lv_at hl 0 rfl) ?_
  refine agX4_came X hC iX4 (by decide +kernel) dX4_drive_7 (v := G.vc) rfl ?_
  refine d_callix (v := (sO G r G.vn G.vc)) (n := 3) (As := [.int (iI (r : Int)), .int (iI (G.vn : Int)), .int (iI G.vc)]) (rest := []) X hC (mX4_sideOf l A G Z r G.vn G.vc hI (show r < G.rr by omega) (show G.vn < G.nn by omega) (show -2147483648 ≤ G.vc ∧ G.vc < 2147483648 by omega)) ⟨gX4_drive_X4_sideOf, ⟨_, rfl⟩, rfl, rfl, ⟨by decide, by decide, by decide +kernel⟩, Nat.le_of_ble_eq_true rfl, Nat.le_of_ble_eq_true rfl⟩ (a_recv (y := yX4_sideOf) X hC.1 (ci := 4) (q0 := 0) rfl rfl rfl) rfl hl.1 rfl (Nat.le_of_ble_eq_true rfl) ⟨Nat.le_of_ble_eq_true rfl, Nat.le_of_ble_eq_true rfl⟩ dX4_drive_10 (fun H locs hC => ?_)
  rw [hs]
  refine lv_istore_n (lv' := [(2, .int (iI (k : Int))), (0, .ref (A.a 0)), (1, .int (iI (r : Int)))]) hx hb dX4_drive_13 rfl hl (by decide) rfl (fun ls hl => ?_)
  refine lv_iload_n hx hb dX4_drive_14 rfl (lv_at hl 2 rfl) ?_
  refine lv_aload_n hx hb dX4_drive_15 rfl (lv_at hl 1 rfl) ?_
  refine agX4_came X hC iX4 (by decide +kernel) dX4_drive_16 (v := G.vc) rfl ?_
  refine li_icmp_ne (tgt := 26) hx hb dX4_drive_19 (by decide) (by omega) (fun c_19 => ?_) (fun c_19 => ?_)
  · refine li_c hx hb dX4_drive_26 ?_
    refine lv_istore_n (lv' := [(3, .int (iI 0)), (2, .int (iI (k : Int))), (0, .ref (A.a 0)), (1, .int (iI (r : Int)))]) hx hb dX4_drive_27 rfl hl (by decide) rfl (fun ls hl => ?_)
    refine lv_aload_n hx hb dX4_drive_28 rfl (lv_at hl 2 rfl) ?_
    refine agX4_lengths X hC iX4 (by decide +kernel) dX4_drive_29 ?_
    refine lv_iload_n hx hb dX4_drive_32 rfl (lv_at hl 3 rfl) ?_
    refine alD_mi (k0 := r) (v := ((G.mi r : Nat) : Int)) X hC (by omega) (by omega) rfl dX4_drive_33 ?_
    have hb1 := hI.mi r
    refine lv_aload_n hx hb dX4_drive_34 rfl (lv_at hl 2 rfl) ?_
    refine agX4_depths X hC iX4 (by decide +kernel) dX4_drive_35 ?_
    refine lv_iload_n hx hb dX4_drive_38 rfl (lv_at hl 1 rfl) ?_
    refine alD_de (k0 := k) (v := ((G.de k : Nat) : Int)) X hC (by omega) (by omega) rfl dX4_drive_39 ?_
    have hb2 := hI.de k
    refine li_bi hx hb dX4_drive_40 (by decide) ?_
    refine li_icmp_lt (tgt := 49) hx hb dX4_drive_42 (by decide) (by omega) (fun c_42 => ?_) (fun c_42 => ?_)
    · refine li_c hx hb dX4_drive_49 ?_
      refine li_mulN (x := G.mi r) (y := 1) hx hb dX4_drive_50 rfl rfl ?_
      refine lv_aload_n hx hb dX4_drive_51 rfl (lv_at hl 2 rfl) ?_
      refine lv_iload_n hx hb dX4_drive_52 rfl (lv_at hl 3 rfl) ?_
      refine lv_aload_n hx hb dX4_drive_53 rfl (lv_at hl 2 rfl) ?_
      refine agX4_came X hC iX4 (by decide +kernel) dX4_drive_54 (v := G.vc) rfl ?_
      refine d_callix (v := (((if (r : Int) = G.vc then 2 else 0) : Nat) : Int)) (n := 2) (As := [.int (iI (r : Int)), .int (iI G.vc)]) (rest := [.int (iI (((G.mi r) * 1 : Nat) : Int))]) X hC (mX4_turnTime l A G Z r G.vc (show r < 12 by omega) (show -2147483648 ≤ G.vc ∧ G.vc < 2147483648 by omega)) ⟨gX4_drive_X4_turnTime, ⟨_, rfl⟩, rfl, rfl, ⟨by decide, by decide, by decide +kernel⟩, Nat.le_of_ble_eq_true rfl, Nat.le_of_ble_eq_true rfl⟩ (a_recv (y := yX4_turnTime) X hC.1 (ci := 4) (q0 := 0) rfl rfl rfl) rfl hl.1 rfl (Nat.le_of_ble_eq_true rfl) ⟨Nat.le_of_ble_eq_true rfl, Nat.le_of_ble_eq_true rfl⟩ dX4_drive_57 (fun H locs hC => ?_)
      refine li_addN (x := (G.mi r) * 1) (y := (if (r : Int) = G.vc then 2 else 0)) hx hb dX4_drive_60 rfl rfl ?_
      have hM : ((((G.mi r) * 1) + (if (r : Int) = G.vc then 2 else 0) : Nat) : Int) = dMin G r k := by unfold dMin; first | (rw [if_pos (by omega), if_pos (by omega)] <;> omega) | (rw [if_pos (by omega), if_neg (by omega)] <;> omega) | (rw [if_neg (by omega), if_pos (by omega)] <;> omega) | (rw [if_neg (by omega), if_neg (by omega)] <;> omega)
      rw [hM]
      have hMr := dMin_rng (r := r) (k := k) hI
      refine lv_istore (lv' := [(4, .int (iI (dMin G r k))), (3, .int (iI 0)), (2, .int (iI (k : Int))), (0, .ref (A.a 0)), (1, .int (iI (r : Int)))]) hx hb dX4_drive_61 hl (by decide) rfl (fun ls hl => ?_)
      have join_130 : ∀ (H : Heap) (locs : List Loc) (hC : aH A (dAdr A) (DW A (mkG G.tu G.st G.sm G.mi G.pr G.de (if dSt G r k then up G.sa k 1 else G.sa) G.nn G.rr G.vn G.vc (if dSt G r k then G.vs - G.mi r else G.vs) G.vw (if dSt G r k then up G.tt 1 (G.tt 1 + (iI (G.mi r : Int)).toInt64) else G.tt)) Z) s H locs) (ls : Array Slot) (hl : lv_has ls 5 [(0, .ref (A.a 0)), (2, .int (iI (k : Int))), (3, .int (iI 0)), (4, .int (iI (dMin G r k))), (1, .int (iI (r : Int)))]), W p l e ({ frames := 1, cells := 0, slots := 0, locals := 23 }) s m args below meth c H locs 0 0 (aQi below (dEnd A) (dAdr A) args s (xI ((dMin G r k)) (drv G r k) Z)) (F0 m 130 ls []) := by
        intro   H locs hC ls hl
        refine lv_aload_n hx hb dX4_drive_130 rfl (lv_at hl 0 rfl) ?_
        refine agX4_depths X hC iX4 (by decide +kernel) dX4_drive_131 ?_
        refine lv_iload_n hx hb dX4_drive_134 rfl (lv_at hl 1 rfl) ?_
        refine li_c hx hb dX4_drive_135 ?_
        refine li_op (k0 := k) hx hb dX4_drive_136 (by omega) (by omega) ?_
        refine li_si hx hb dX4_drive_137 (by decide) ?_
        refine lv_aload_n hx hb dX4_drive_140 rfl (lv_at hl 0 rfl) ?_
        refine agX4_depths X hC iX4 (by decide +kernel) dX4_drive_141 ?_
        refine lv_iload_n hx hb dX4_drive_144 rfl (lv_at hl 1 rfl) ?_
        refine li_c hx hb dX4_drive_145 ?_
        refine li_op (k0 := k) hx hb dX4_drive_146 (by omega) (by omega) ?_
        refine alD_de (k0 := op k) (v := ((G.de (op k) : Nat) : Int)) X hC (by omega) (by omega) rfl dX4_drive_147 ?_
        have hb3 := hI.de (op k)
        refine lv_aload_n hx hb dX4_drive_148 rfl (lv_at hl 0 rfl) ?_
        refine agX4_depths X hC iX4 (by decide +kernel) dX4_drive_149 ?_
        refine lv_iload_n hx hb dX4_drive_152 rfl (lv_at hl 1 rfl) ?_
        refine alD_de (k0 := k) (v := ((G.de k : Nat) : Int)) X hC (by omega) (by omega) rfl dX4_drive_153 ?_
        have hb4 := hI.de k
        refine li_c hx hb dX4_drive_154 ?_
        refine li_divN (x := G.de k) (y := 2) hx hb dX4_drive_155 rfl rfl (by omega) ?_
        refine li_addN (x := G.de (op k)) (y := (G.de k) / 2) hx hb dX4_drive_156 rfl rfl ?_
        refine li_min hx hb (hml.trans hl.1.symm) hown (hts _ (by decide +kernel)) (hts _ (by decide +kernel)) (hts _ (by decide +kernel)) (hts _ (by decide +kernel)) (Nat.le_of_ble_eq_true rfl) (Nat.le_of_ble_eq_true rfl) (Nat.zero_le _) (Nat.zero_le _) (by omega) dX4_drive_157 ?_
        rw [show (if (((G.de (op k)) + ((G.de k) / 2) : Nat) : Int) < 999 then (((G.de (op k)) + ((G.de k) / 2) : Nat) : Int) else 999) = (((min 999 ((G.de (op k)) + ((G.de k) / 2))) : Nat) : Int) by split <;> omega]
        refine asD_de (k0 := op k) (x := (min 999 ((G.de (op k)) + ((G.de k) / 2)))) X hC (by omega) (by omega) (by omega) dX4_drive_160 (fun H locs hC => ?_)
        have hC : aH A (dAdr A) (DW A (mkG G.tu G.st G.sm G.mi G.pr (up G.de (op k) (min 999 ((G.de (op k)) + ((G.de k) / 2)))) (if dSt G r k then up G.sa k 1 else G.sa) G.nn G.rr G.vn G.vc (if dSt G r k then G.vs - G.mi r else G.vs) G.vw (if dSt G r k then up G.tt 1 (G.tt 1 + (iI (G.mi r : Int)).toInt64) else G.tt)) Z) s H locs := hC
        refine lv_aload_n hx hb dX4_drive_161 rfl (lv_at hl 0 rfl) ?_
        refine agX4_depths X hC iX4 (by decide +kernel) dX4_drive_162 ?_
        refine lv_iload_n hx hb dX4_drive_165 rfl (lv_at hl 1 rfl) ?_
        refine li_c hx hb dX4_drive_166 ?_
        refine asD_de (k0 := k) (x := 0) X hC (by omega) (by omega) (by omega) dX4_drive_167 (fun H locs hC => ?_)
        have hC : aH A (dAdr A) (DW A (mkG G.tu G.st G.sm G.mi G.pr (up (up G.de (op k) (min 999 ((G.de (op k)) + ((G.de k) / 2)))) k 0) (if dSt G r k then up G.sa k 1 else G.sa) G.nn G.rr G.vn G.vc (if dSt G r k then G.vs - G.mi r else G.vs) G.vw (if dSt G r k then up G.tt 1 (G.tt 1 + (iI (G.mi r : Int)).toInt64) else G.tt)) Z) s H locs := hC
        refine lv_aload_n hx hb dX4_drive_168 rfl (lv_at hl 0 rfl) ?_
        refine lv_aload_n hx hb dX4_drive_169 rfl (lv_at hl 0 rfl) ?_
        refine lv_iload_n hx hb dX4_drive_170 rfl (lv_at hl 1 rfl) ?_
        refine d_callix (v := ((G.sm (op k) : Nat) : Int)) (n := 1) (As := [.int (iI (k : Int))]) (rest := [.ref (A.a 0)]) X hC (mX4_head l A (mkG G.tu G.st G.sm G.mi G.pr (up (up G.de (op k) (min 999 ((G.de (op k)) + ((G.de k) / 2)))) k 0) (if dSt G r k then up G.sa k 1 else G.sa) G.nn G.rr G.vn G.vc (if dSt G r k then G.vs - G.mi r else G.vs) G.vw (if dSt G r k then up G.tt 1 (G.tt 1 + (iI (G.mi r : Int)).toInt64) else G.tt)) Z k (show k < 24 by omega)) ⟨gX4_drive_X4_head, ⟨_, rfl⟩, rfl, rfl, ⟨by decide, by decide, by decide +kernel⟩, Nat.le_of_ble_eq_true rfl, Nat.le_of_ble_eq_true rfl⟩ (a_recv (y := yX4_head) X hC.1 (ci := 4) (q0 := 0) rfl rfl rfl) rfl hl.1 rfl (Nat.le_of_ble_eq_true rfl) ⟨Nat.le_of_ble_eq_true rfl, Nat.le_of_ble_eq_true rfl⟩ dX4_drive_171 (fun H locs hC => ?_)
        refine apX4_at X hC iX4 (by decide +kernel) dX4_drive_174 (x := G.sm (op k)) (by omega) (fun H locs hC => ?_)
        have hC : aH A (dAdr A) (DW A (mkG G.tu G.st G.sm G.mi G.pr (up (up G.de (op k) (min 999 ((G.de (op k)) + ((G.de k) / 2)))) k 0) (if dSt G r k then up G.sa k 1 else G.sa) G.nn G.rr (G.sm (op k)) G.vc (if dSt G r k then G.vs - G.mi r else G.vs) G.vw (if dSt G r k then up G.tt 1 (G.tt 1 + (iI (G.mi r : Int)).toInt64) else G.tt)) Z) s H locs := hC
        refine lv_aload_n hx hb dX4_drive_177 rfl (lv_at hl 0 rfl) ?_
        refine lv_iload_n hx hb dX4_drive_178 rfl (lv_at hl 4 rfl) ?_
        refine apX4_came X hC iX4 (by decide +kernel) dX4_drive_179 rfl (fun H locs hC => ?_)
        have hC : aH A (dAdr A) (DW A (mkG G.tu G.st G.sm G.mi G.pr (up (up G.de (op k) (min 999 ((G.de (op k)) + ((G.de k) / 2)))) k 0) (if dSt G r k then up G.sa k 1 else G.sa) G.nn G.rr (G.sm (op k)) (r : Int) (if dSt G r k then G.vs - G.mi r else G.vs) G.vw (if dSt G r k then up G.tt 1 (G.tt 1 + (iI (G.mi r : Int)).toInt64) else G.tt)) Z) s H locs := hC
        refine lv_aload_n hx hb dX4_drive_182 rfl (lv_at hl 0 rfl) ?_
        refine agX4_totals X hC iX4 (by decide +kernel) dX4_drive_183 ?_
        refine li_c hx hb dX4_drive_186 ?_
        refine lv_dup2_11 hx hb dX4_drive_187 rfl rfl ?_
        refine alD_tt (k0 := 0) (v := (if dSt G r k then up G.tt 1 (G.tt 1 + (iI (G.mi r : Int)).toInt64) else G.tt) 0) X hC (by omega) (by omega) rfl dX4_drive_188 ?_
        refine lv_iload hx hb dX4_drive_189 (lv_at hl 3 rfl) ?_
        refine lv_i2l hx hb dX4_drive_191 rfl ?_
        refine lv_ladd hx hb dX4_drive_192 ?_
        refine asD_tt (k0 := 0) X hC (by omega) (by omega) dX4_drive_193 (fun H locs hC => ?_)
        have hC : aH A (dAdr A) (DW A (mkG G.tu G.st G.sm G.mi G.pr (up (up G.de (op k) (min 999 ((G.de (op k)) + ((G.de k) / 2)))) k 0) (if dSt G r k then up G.sa k 1 else G.sa) G.nn G.rr (G.sm (op k)) (r : Int) (if dSt G r k then G.vs - G.mi r else G.vs) G.vw (up (if dSt G r k then up G.tt 1 (G.tt 1 + (iI (G.mi r : Int)).toInt64) else G.tt) 0 ((if dSt G r k then up G.tt 1 (G.tt 1 + (iI (G.mi r : Int)).toInt64) else G.tt) 0 + (iI (dMin G r k)).toInt64))) Z) s H locs := hC
        refine lv_aload_n hx hb dX4_drive_194 rfl (lv_at hl 0 rfl) ?_
        refine agX4_totals X hC iX4 (by decide +kernel) dX4_drive_195 ?_
        refine li_c hx hb dX4_drive_198 ?_
        refine lv_dup2_11 hx hb dX4_drive_199 rfl rfl ?_
        refine alD_tt (k0 := 2) (v := (up (if dSt G r k then up G.tt 1 (G.tt 1 + (iI (G.mi r : Int)).toInt64) else G.tt) 0 ((if dSt G r k then up G.tt 1 (G.tt 1 + (iI (G.mi r : Int)).toInt64) else G.tt) 0 + (iI (dMin G r k)).toInt64)) 2) X hC (by omega) (by omega) rfl dX4_drive_200 ?_
        refine lv_iload_n hx hb dX4_drive_201 rfl (lv_at hl 2 rfl) ?_
        refine li_if_eq (tgt := 209) hx hb dX4_drive_202 (by decide) (by omega) (fun c_202 => ?_) (fun c_202 => ?_)
        · refine lv_lconst (v := 0) hx hb dX4_drive_209 rfl ?_
          refine lv_ladd hx hb dX4_drive_210 ?_
          refine asD_tt (k0 := 2) X hC (by omega) (by omega) dX4_drive_211 (fun H locs hC => ?_)
          have hC : aH A (dAdr A) (DW A (mkG G.tu G.st G.sm G.mi G.pr (up (up G.de (op k) (min 999 ((G.de (op k)) + ((G.de k) / 2)))) k 0) (if dSt G r k then up G.sa k 1 else G.sa) G.nn G.rr (G.sm (op k)) (r : Int) (if dSt G r k then G.vs - G.mi r else G.vs) G.vw (up (up (if dSt G r k then up G.tt 1 (G.tt 1 + (iI (G.mi r : Int)).toInt64) else G.tt) 0 ((if dSt G r k then up G.tt 1 (G.tt 1 + (iI (G.mi r : Int)).toInt64) else G.tt) 0 + (iI (dMin G r k)).toInt64)) 2 ((up (if dSt G r k then up G.tt 1 (G.tt 1 + (iI (G.mi r : Int)).toInt64) else G.tt) 0 ((if dSt G r k then up G.tt 1 (G.tt 1 + (iI (G.mi r : Int)).toInt64) else G.tt) 0 + (iI (dMin G r k)).toInt64)) 2 + 0))) Z) s H locs := hC
          refine lv_aload_n hx hb dX4_drive_212 rfl (lv_at hl 0 rfl) ?_
          refine agX4_totals X hC iX4 (by decide +kernel) dX4_drive_213 ?_
          refine li_c hx hb dX4_drive_216 ?_
          refine lv_dup2_11 hx hb dX4_drive_217 rfl rfl ?_
          refine alD_tt (k0 := 3) (v := (up (up (if dSt G r k then up G.tt 1 (G.tt 1 + (iI (G.mi r : Int)).toInt64) else G.tt) 0 ((if dSt G r k then up G.tt 1 (G.tt 1 + (iI (G.mi r : Int)).toInt64) else G.tt) 0 + (iI (dMin G r k)).toInt64)) 2 ((up (if dSt G r k then up G.tt 1 (G.tt 1 + (iI (G.mi r : Int)).toInt64) else G.tt) 0 ((if dSt G r k then up G.tt 1 (G.tt 1 + (iI (G.mi r : Int)).toInt64) else G.tt) 0 + (iI (dMin G r k)).toInt64)) 2 + 0)) 3) X hC (by omega) (by omega) rfl dX4_drive_218 ?_
          refine lv_lconst (v := 1) hx hb dX4_drive_219 rfl ?_
          refine lv_ladd hx hb dX4_drive_220 ?_
          refine asD_tt (k0 := 3) X hC (by omega) (by omega) dX4_drive_221 (fun H locs hC => ?_)
          have hC : aH A (dAdr A) (DW A (mkG G.tu G.st G.sm G.mi G.pr (up (up G.de (op k) (min 999 ((G.de (op k)) + ((G.de k) / 2)))) k 0) (if dSt G r k then up G.sa k 1 else G.sa) G.nn G.rr (G.sm (op k)) (r : Int) (if dSt G r k then G.vs - G.mi r else G.vs) G.vw (up (up (up (if dSt G r k then up G.tt 1 (G.tt 1 + (iI (G.mi r : Int)).toInt64) else G.tt) 0 ((if dSt G r k then up G.tt 1 (G.tt 1 + (iI (G.mi r : Int)).toInt64) else G.tt) 0 + (iI (dMin G r k)).toInt64)) 2 ((up (if dSt G r k then up G.tt 1 (G.tt 1 + (iI (G.mi r : Int)).toInt64) else G.tt) 0 ((if dSt G r k then up G.tt 1 (G.tt 1 + (iI (G.mi r : Int)).toInt64) else G.tt) 0 + (iI (dMin G r k)).toInt64)) 2 + 0)) 3 ((up (up (if dSt G r k then up G.tt 1 (G.tt 1 + (iI (G.mi r : Int)).toInt64) else G.tt) 0 ((if dSt G r k then up G.tt 1 (G.tt 1 + (iI (G.mi r : Int)).toInt64) else G.tt) 0 + (iI (dMin G r k)).toInt64)) 2 ((up (if dSt G r k then up G.tt 1 (G.tt 1 + (iI (G.mi r : Int)).toInt64) else G.tt) 0 ((if dSt G r k then up G.tt 1 (G.tt 1 + (iI (G.mi r : Int)).toInt64) else G.tt) 0 + (iI (dMin G r k)).toInt64)) 2 + 0)) 3 + 1))) Z) s H locs := hC
          refine lv_iload hx hb dX4_drive_222 (lv_at hl 3 rfl) ?_
          exact d_iret X hC hr hk (by refine ⟨rfl, ?_, rfl⟩; unfold drv; rw [← dTt_D G.tt (dSt G r k) ((r : Int) = G.vc) (G.mi r) (dMin G r k) _ (by first | (rw [if_pos (by omega)]; done) | (rw [if_neg (by omega)]; done))]; rfl) dX4_drive_224
        · exact absurd c_202 (by decide)
      refine lv_aload_n hx hb dX4_drive_63 rfl (lv_at hl 3 rfl) ?_
      refine agX4_depths X hC iX4 (by decide +kernel) dX4_drive_64 ?_
      refine lv_iload_n hx hb dX4_drive_67 rfl (lv_at hl 2 rfl) ?_
      refine alD_de (k0 := k) (v := ((G.de k : Nat) : Int)) X hC (by omega) (by omega) rfl dX4_drive_68 ?_
      have hb5 := hI.de k
      refine li_if_le (tgt := 130) hx hb dX4_drive_69 (by decide) (by omega) (fun c_69 => ?_) (fun c_69 => ?_)
      · have hC : aH A (dAdr A) (DW A (mkG G.tu G.st G.sm G.mi G.pr G.de (if dSt G r k then up G.sa k 1 else G.sa) G.nn G.rr G.vn G.vc (if dSt G r k then G.vs - G.mi r else G.vs) G.vw (if dSt G r k then up G.tt 1 (G.tt 1 + (iI (G.mi r : Int)).toInt64) else G.tt)) Z) s H locs := by rw [if_neg (fun hq : dSt G r k => by obtain ⟨h1, h2, h3⟩ := hq; omega), if_neg (fun hq : dSt G r k => by obtain ⟨h1, h2, h3⟩ := hq; omega), if_neg (fun hq : dSt G r k => by obtain ⟨h1, h2, h3⟩ := hq; omega)]; exact hC
        exact join_130   H locs hC ls (lv_sub hl [3, 2, 1, 0, 4] rfl)
      · refine lv_aload_n hx hb dX4_drive_72 rfl (lv_at hl 3 rfl) ?_
        refine agX4_strews X hC iX4 (by decide +kernel) dX4_drive_73 (v := (G.vw : Int)) rfl ?_
        refine li_if_eq (tgt := 130) hx hb dX4_drive_76 (by decide) (by omega) (fun c_76 => ?_) (fun c_76 => ?_)
        · have hC : aH A (dAdr A) (DW A (mkG G.tu G.st G.sm G.mi G.pr G.de (if dSt G r k then up G.sa k 1 else G.sa) G.nn G.rr G.vn G.vc (if dSt G r k then G.vs - G.mi r else G.vs) G.vw (if dSt G r k then up G.tt 1 (G.tt 1 + (iI (G.mi r : Int)).toInt64) else G.tt)) Z) s H locs := by rw [if_neg (fun hq : dSt G r k => by obtain ⟨h1, h2, h3⟩ := hq; omega), if_neg (fun hq : dSt G r k => by obtain ⟨h1, h2, h3⟩ := hq; omega), if_neg (fun hq : dSt G r k => by obtain ⟨h1, h2, h3⟩ := hq; omega)]; exact hC
          exact join_130   H locs hC ls (lv_sub hl [3, 2, 1, 0, 4] rfl)
        · refine lv_aload_n hx hb dX4_drive_79 rfl (lv_at hl 3 rfl) ?_
          refine agX4_salt X hC iX4 (by decide +kernel) dX4_drive_80 (v := (G.vs : Int)) rfl ?_
          refine lv_aload_n hx hb dX4_drive_83 rfl (lv_at hl 3 rfl) ?_
          refine agX4_lengths X hC iX4 (by decide +kernel) dX4_drive_84 ?_
          refine lv_iload_n hx hb dX4_drive_87 rfl (lv_at hl 4 rfl) ?_
          refine alD_mi (k0 := r) (v := ((G.mi r : Nat) : Int)) X hC (by omega) (by omega) rfl dX4_drive_88 ?_
          have hb6 := hI.mi r
          refine li_icmp_lt (tgt := 130) hx hb dX4_drive_89 (by decide) (by omega) (fun c_89 => ?_) (fun c_89 => ?_)
          · have hC : aH A (dAdr A) (DW A (mkG G.tu G.st G.sm G.mi G.pr G.de (if dSt G r k then up G.sa k 1 else G.sa) G.nn G.rr G.vn G.vc (if dSt G r k then G.vs - G.mi r else G.vs) G.vw (if dSt G r k then up G.tt 1 (G.tt 1 + (iI (G.mi r : Int)).toInt64) else G.tt)) Z) s H locs := by rw [if_neg (fun hq : dSt G r k => by obtain ⟨h1, h2, h3⟩ := hq; omega), if_neg (fun hq : dSt G r k => by obtain ⟨h1, h2, h3⟩ := hq; omega), if_neg (fun hq : dSt G r k => by obtain ⟨h1, h2, h3⟩ := hq; omega)]; exact hC
            exact join_130   H locs hC ls (lv_sub hl [3, 2, 1, 0, 4] rfl)
          · refine lv_aload_n hx hb dX4_drive_92 rfl (lv_at hl 3 rfl) ?_
            refine agX4_areSalted X hC iX4 (by decide +kernel) dX4_drive_93 ?_
            refine lv_iload_n hx hb dX4_drive_96 rfl (lv_at hl 2 rfl) ?_
            refine li_c hx hb dX4_drive_97 ?_
            refine asD_sa (k0 := k) (x := 1) X hC (by omega) (by omega) (by omega) (by omega) dX4_drive_98 (fun H locs hC => ?_)
            have hC : aH A (dAdr A) (DW A (mkG G.tu G.st G.sm G.mi G.pr G.de (up G.sa k 1) G.nn G.rr G.vn G.vc G.vs G.vw G.tt) Z) s H locs := hC
            refine lv_aload_n hx hb dX4_drive_99 rfl (lv_at hl 3 rfl) ?_
            refine lv_dup hx hb dX4_drive_100 rfl ?_
            refine agX4_salt X hC iX4 (by decide +kernel) dX4_drive_101 (v := (G.vs : Int)) rfl ?_
            refine lv_aload_n hx hb dX4_drive_104 rfl (lv_at hl 3 rfl) ?_
            refine agX4_lengths X hC iX4 (by decide +kernel) dX4_drive_105 ?_
            refine lv_iload_n hx hb dX4_drive_108 rfl (lv_at hl 4 rfl) ?_
            refine alD_mi (k0 := r) (v := ((G.mi r : Nat) : Int)) X hC (by omega) (by omega) rfl dX4_drive_109 ?_
            have hb7 := hI.mi r
            refine li_subN (x := G.vs) (y := G.mi r) hx hb dX4_drive_110 rfl rfl (by omega) ?_
            refine apX4_salt X hC iX4 (by decide +kernel) dX4_drive_111 (x := G.vs - (G.mi r)) (by omega) (fun H locs hC => ?_)
            have hC : aH A (dAdr A) (DW A (mkG G.tu G.st G.sm G.mi G.pr G.de (up G.sa k 1) G.nn G.rr G.vn G.vc (G.vs - (G.mi r)) G.vw G.tt) Z) s H locs := hC
            refine lv_aload_n hx hb dX4_drive_114 rfl (lv_at hl 3 rfl) ?_
            refine agX4_totals X hC iX4 (by decide +kernel) dX4_drive_115 ?_
            refine li_c hx hb dX4_drive_118 ?_
            refine lv_dup2_11 hx hb dX4_drive_119 rfl rfl ?_
            refine alD_tt (k0 := 1) (v := G.tt 1) X hC (by omega) (by omega) rfl dX4_drive_120 ?_
            refine lv_aload_n hx hb dX4_drive_121 rfl (lv_at hl 3 rfl) ?_
            refine agX4_lengths X hC iX4 (by decide +kernel) dX4_drive_122 ?_
            refine lv_iload_n hx hb dX4_drive_125 rfl (lv_at hl 4 rfl) ?_
            refine alD_mi (k0 := r) (v := ((G.mi r : Nat) : Int)) X hC (by omega) (by omega) rfl dX4_drive_126 ?_
            have hb8 := hI.mi r
            refine lv_i2l hx hb dX4_drive_127 rfl ?_
            refine lv_ladd hx hb dX4_drive_128 ?_
            refine asD_tt (k0 := 1) X hC (by omega) (by omega) dX4_drive_129 (fun H locs hC => ?_)
            have hC : aH A (dAdr A) (DW A (mkG G.tu G.st G.sm G.mi G.pr G.de (up G.sa k 1) G.nn G.rr G.vn G.vc (G.vs - (G.mi r)) G.vw (up G.tt 1 (G.tt 1 + (iI ((G.mi r : Nat) : Int)).toInt64))) Z) s H locs := hC
            have hC : aH A (dAdr A) (DW A (mkG G.tu G.st G.sm G.mi G.pr G.de (if dSt G r k then up G.sa k 1 else G.sa) G.nn G.rr G.vn G.vc (if dSt G r k then G.vs - G.mi r else G.vs) G.vw (if dSt G r k then up G.tt 1 (G.tt 1 + (iI (G.mi r : Int)).toInt64) else G.tt)) Z) s H locs := by rw [if_pos (show dSt G r k from ⟨by omega, by omega, by omega⟩), if_pos (show dSt G r k from ⟨by omega, by omega, by omega⟩), if_pos (show dSt G r k from ⟨by omega, by omega, by omega⟩)]; exact hC
            exact join_130   H locs hC ls (lv_sub hl [3, 2, 1, 0, 4] rfl)
    · refine li_c hx hb dX4_drive_45 ?_
      refine lv_goto (tgt := 50) hx hb dX4_drive_46 (by decide) ?_
      refine li_mulN (x := G.mi r) (y := 2) hx hb dX4_drive_50 rfl rfl ?_
      refine lv_aload_n hx hb dX4_drive_51 rfl (lv_at hl 2 rfl) ?_
      refine lv_iload_n hx hb dX4_drive_52 rfl (lv_at hl 3 rfl) ?_
      refine lv_aload_n hx hb dX4_drive_53 rfl (lv_at hl 2 rfl) ?_
      refine agX4_came X hC iX4 (by decide +kernel) dX4_drive_54 (v := G.vc) rfl ?_
      refine d_callix (v := (((if (r : Int) = G.vc then 2 else 0) : Nat) : Int)) (n := 2) (As := [.int (iI (r : Int)), .int (iI G.vc)]) (rest := [.int (iI (((G.mi r) * 2 : Nat) : Int))]) X hC (mX4_turnTime l A G Z r G.vc (show r < 12 by omega) (show -2147483648 ≤ G.vc ∧ G.vc < 2147483648 by omega)) ⟨gX4_drive_X4_turnTime, ⟨_, rfl⟩, rfl, rfl, ⟨by decide, by decide, by decide +kernel⟩, Nat.le_of_ble_eq_true rfl, Nat.le_of_ble_eq_true rfl⟩ (a_recv (y := yX4_turnTime) X hC.1 (ci := 4) (q0 := 0) rfl rfl rfl) rfl hl.1 rfl (Nat.le_of_ble_eq_true rfl) ⟨Nat.le_of_ble_eq_true rfl, Nat.le_of_ble_eq_true rfl⟩ dX4_drive_57 (fun H locs hC => ?_)
      refine li_addN (x := (G.mi r) * 2) (y := (if (r : Int) = G.vc then 2 else 0)) hx hb dX4_drive_60 rfl rfl ?_
      have hM : ((((G.mi r) * 2) + (if (r : Int) = G.vc then 2 else 0) : Nat) : Int) = dMin G r k := by unfold dMin; first | (rw [if_pos (by omega), if_pos (by omega)] <;> omega) | (rw [if_pos (by omega), if_neg (by omega)] <;> omega) | (rw [if_neg (by omega), if_pos (by omega)] <;> omega) | (rw [if_neg (by omega), if_neg (by omega)] <;> omega)
      rw [hM]
      have hMr := dMin_rng (r := r) (k := k) hI
      refine lv_istore (lv' := [(4, .int (iI (dMin G r k))), (3, .int (iI 0)), (2, .int (iI (k : Int))), (0, .ref (A.a 0)), (1, .int (iI (r : Int)))]) hx hb dX4_drive_61 hl (by decide) rfl (fun ls hl => ?_)
      have join_130 : ∀ (H : Heap) (locs : List Loc) (hC : aH A (dAdr A) (DW A (mkG G.tu G.st G.sm G.mi G.pr G.de (if dSt G r k then up G.sa k 1 else G.sa) G.nn G.rr G.vn G.vc (if dSt G r k then G.vs - G.mi r else G.vs) G.vw (if dSt G r k then up G.tt 1 (G.tt 1 + (iI (G.mi r : Int)).toInt64) else G.tt)) Z) s H locs) (ls : Array Slot) (hl : lv_has ls 5 [(0, .ref (A.a 0)), (2, .int (iI (k : Int))), (3, .int (iI 0)), (4, .int (iI (dMin G r k))), (1, .int (iI (r : Int)))]), W p l e ({ frames := 1, cells := 0, slots := 0, locals := 23 }) s m args below meth c H locs 0 0 (aQi below (dEnd A) (dAdr A) args s (xI ((dMin G r k)) (drv G r k) Z)) (F0 m 130 ls []) := by
        intro   H locs hC ls hl
        refine lv_aload_n hx hb dX4_drive_130 rfl (lv_at hl 0 rfl) ?_
        refine agX4_depths X hC iX4 (by decide +kernel) dX4_drive_131 ?_
        refine lv_iload_n hx hb dX4_drive_134 rfl (lv_at hl 1 rfl) ?_
        refine li_c hx hb dX4_drive_135 ?_
        refine li_op (k0 := k) hx hb dX4_drive_136 (by omega) (by omega) ?_
        refine li_si hx hb dX4_drive_137 (by decide) ?_
        refine lv_aload_n hx hb dX4_drive_140 rfl (lv_at hl 0 rfl) ?_
        refine agX4_depths X hC iX4 (by decide +kernel) dX4_drive_141 ?_
        refine lv_iload_n hx hb dX4_drive_144 rfl (lv_at hl 1 rfl) ?_
        refine li_c hx hb dX4_drive_145 ?_
        refine li_op (k0 := k) hx hb dX4_drive_146 (by omega) (by omega) ?_
        refine alD_de (k0 := op k) (v := ((G.de (op k) : Nat) : Int)) X hC (by omega) (by omega) rfl dX4_drive_147 ?_
        have hb9 := hI.de (op k)
        refine lv_aload_n hx hb dX4_drive_148 rfl (lv_at hl 0 rfl) ?_
        refine agX4_depths X hC iX4 (by decide +kernel) dX4_drive_149 ?_
        refine lv_iload_n hx hb dX4_drive_152 rfl (lv_at hl 1 rfl) ?_
        refine alD_de (k0 := k) (v := ((G.de k : Nat) : Int)) X hC (by omega) (by omega) rfl dX4_drive_153 ?_
        have hb10 := hI.de k
        refine li_c hx hb dX4_drive_154 ?_
        refine li_divN (x := G.de k) (y := 2) hx hb dX4_drive_155 rfl rfl (by omega) ?_
        refine li_addN (x := G.de (op k)) (y := (G.de k) / 2) hx hb dX4_drive_156 rfl rfl ?_
        refine li_min hx hb (hml.trans hl.1.symm) hown (hts _ (by decide +kernel)) (hts _ (by decide +kernel)) (hts _ (by decide +kernel)) (hts _ (by decide +kernel)) (Nat.le_of_ble_eq_true rfl) (Nat.le_of_ble_eq_true rfl) (Nat.zero_le _) (Nat.zero_le _) (by omega) dX4_drive_157 ?_
        rw [show (if (((G.de (op k)) + ((G.de k) / 2) : Nat) : Int) < 999 then (((G.de (op k)) + ((G.de k) / 2) : Nat) : Int) else 999) = (((min 999 ((G.de (op k)) + ((G.de k) / 2))) : Nat) : Int) by split <;> omega]
        refine asD_de (k0 := op k) (x := (min 999 ((G.de (op k)) + ((G.de k) / 2)))) X hC (by omega) (by omega) (by omega) dX4_drive_160 (fun H locs hC => ?_)
        have hC : aH A (dAdr A) (DW A (mkG G.tu G.st G.sm G.mi G.pr (up G.de (op k) (min 999 ((G.de (op k)) + ((G.de k) / 2)))) (if dSt G r k then up G.sa k 1 else G.sa) G.nn G.rr G.vn G.vc (if dSt G r k then G.vs - G.mi r else G.vs) G.vw (if dSt G r k then up G.tt 1 (G.tt 1 + (iI (G.mi r : Int)).toInt64) else G.tt)) Z) s H locs := hC
        refine lv_aload_n hx hb dX4_drive_161 rfl (lv_at hl 0 rfl) ?_
        refine agX4_depths X hC iX4 (by decide +kernel) dX4_drive_162 ?_
        refine lv_iload_n hx hb dX4_drive_165 rfl (lv_at hl 1 rfl) ?_
        refine li_c hx hb dX4_drive_166 ?_
        refine asD_de (k0 := k) (x := 0) X hC (by omega) (by omega) (by omega) dX4_drive_167 (fun H locs hC => ?_)
        have hC : aH A (dAdr A) (DW A (mkG G.tu G.st G.sm G.mi G.pr (up (up G.de (op k) (min 999 ((G.de (op k)) + ((G.de k) / 2)))) k 0) (if dSt G r k then up G.sa k 1 else G.sa) G.nn G.rr G.vn G.vc (if dSt G r k then G.vs - G.mi r else G.vs) G.vw (if dSt G r k then up G.tt 1 (G.tt 1 + (iI (G.mi r : Int)).toInt64) else G.tt)) Z) s H locs := hC
        refine lv_aload_n hx hb dX4_drive_168 rfl (lv_at hl 0 rfl) ?_
        refine lv_aload_n hx hb dX4_drive_169 rfl (lv_at hl 0 rfl) ?_
        refine lv_iload_n hx hb dX4_drive_170 rfl (lv_at hl 1 rfl) ?_
        refine d_callix (v := ((G.sm (op k) : Nat) : Int)) (n := 1) (As := [.int (iI (k : Int))]) (rest := [.ref (A.a 0)]) X hC (mX4_head l A (mkG G.tu G.st G.sm G.mi G.pr (up (up G.de (op k) (min 999 ((G.de (op k)) + ((G.de k) / 2)))) k 0) (if dSt G r k then up G.sa k 1 else G.sa) G.nn G.rr G.vn G.vc (if dSt G r k then G.vs - G.mi r else G.vs) G.vw (if dSt G r k then up G.tt 1 (G.tt 1 + (iI (G.mi r : Int)).toInt64) else G.tt)) Z k (show k < 24 by omega)) ⟨gX4_drive_X4_head, ⟨_, rfl⟩, rfl, rfl, ⟨by decide, by decide, by decide +kernel⟩, Nat.le_of_ble_eq_true rfl, Nat.le_of_ble_eq_true rfl⟩ (a_recv (y := yX4_head) X hC.1 (ci := 4) (q0 := 0) rfl rfl rfl) rfl hl.1 rfl (Nat.le_of_ble_eq_true rfl) ⟨Nat.le_of_ble_eq_true rfl, Nat.le_of_ble_eq_true rfl⟩ dX4_drive_171 (fun H locs hC => ?_)
        refine apX4_at X hC iX4 (by decide +kernel) dX4_drive_174 (x := G.sm (op k)) (by omega) (fun H locs hC => ?_)
        have hC : aH A (dAdr A) (DW A (mkG G.tu G.st G.sm G.mi G.pr (up (up G.de (op k) (min 999 ((G.de (op k)) + ((G.de k) / 2)))) k 0) (if dSt G r k then up G.sa k 1 else G.sa) G.nn G.rr (G.sm (op k)) G.vc (if dSt G r k then G.vs - G.mi r else G.vs) G.vw (if dSt G r k then up G.tt 1 (G.tt 1 + (iI (G.mi r : Int)).toInt64) else G.tt)) Z) s H locs := hC
        refine lv_aload_n hx hb dX4_drive_177 rfl (lv_at hl 0 rfl) ?_
        refine lv_iload_n hx hb dX4_drive_178 rfl (lv_at hl 4 rfl) ?_
        refine apX4_came X hC iX4 (by decide +kernel) dX4_drive_179 rfl (fun H locs hC => ?_)
        have hC : aH A (dAdr A) (DW A (mkG G.tu G.st G.sm G.mi G.pr (up (up G.de (op k) (min 999 ((G.de (op k)) + ((G.de k) / 2)))) k 0) (if dSt G r k then up G.sa k 1 else G.sa) G.nn G.rr (G.sm (op k)) (r : Int) (if dSt G r k then G.vs - G.mi r else G.vs) G.vw (if dSt G r k then up G.tt 1 (G.tt 1 + (iI (G.mi r : Int)).toInt64) else G.tt)) Z) s H locs := hC
        refine lv_aload_n hx hb dX4_drive_182 rfl (lv_at hl 0 rfl) ?_
        refine agX4_totals X hC iX4 (by decide +kernel) dX4_drive_183 ?_
        refine li_c hx hb dX4_drive_186 ?_
        refine lv_dup2_11 hx hb dX4_drive_187 rfl rfl ?_
        refine alD_tt (k0 := 0) (v := (if dSt G r k then up G.tt 1 (G.tt 1 + (iI (G.mi r : Int)).toInt64) else G.tt) 0) X hC (by omega) (by omega) rfl dX4_drive_188 ?_
        refine lv_iload hx hb dX4_drive_189 (lv_at hl 3 rfl) ?_
        refine lv_i2l hx hb dX4_drive_191 rfl ?_
        refine lv_ladd hx hb dX4_drive_192 ?_
        refine asD_tt (k0 := 0) X hC (by omega) (by omega) dX4_drive_193 (fun H locs hC => ?_)
        have hC : aH A (dAdr A) (DW A (mkG G.tu G.st G.sm G.mi G.pr (up (up G.de (op k) (min 999 ((G.de (op k)) + ((G.de k) / 2)))) k 0) (if dSt G r k then up G.sa k 1 else G.sa) G.nn G.rr (G.sm (op k)) (r : Int) (if dSt G r k then G.vs - G.mi r else G.vs) G.vw (up (if dSt G r k then up G.tt 1 (G.tt 1 + (iI (G.mi r : Int)).toInt64) else G.tt) 0 ((if dSt G r k then up G.tt 1 (G.tt 1 + (iI (G.mi r : Int)).toInt64) else G.tt) 0 + (iI (dMin G r k)).toInt64))) Z) s H locs := hC
        refine lv_aload_n hx hb dX4_drive_194 rfl (lv_at hl 0 rfl) ?_
        refine agX4_totals X hC iX4 (by decide +kernel) dX4_drive_195 ?_
        refine li_c hx hb dX4_drive_198 ?_
        refine lv_dup2_11 hx hb dX4_drive_199 rfl rfl ?_
        refine alD_tt (k0 := 2) (v := (up (if dSt G r k then up G.tt 1 (G.tt 1 + (iI (G.mi r : Int)).toInt64) else G.tt) 0 ((if dSt G r k then up G.tt 1 (G.tt 1 + (iI (G.mi r : Int)).toInt64) else G.tt) 0 + (iI (dMin G r k)).toInt64)) 2) X hC (by omega) (by omega) rfl dX4_drive_200 ?_
        refine lv_iload_n hx hb dX4_drive_201 rfl (lv_at hl 2 rfl) ?_
        refine li_if_eq (tgt := 209) hx hb dX4_drive_202 (by decide) (by omega) (fun c_202 => ?_) (fun c_202 => ?_)
        · refine lv_lconst (v := 0) hx hb dX4_drive_209 rfl ?_
          refine lv_ladd hx hb dX4_drive_210 ?_
          refine asD_tt (k0 := 2) X hC (by omega) (by omega) dX4_drive_211 (fun H locs hC => ?_)
          have hC : aH A (dAdr A) (DW A (mkG G.tu G.st G.sm G.mi G.pr (up (up G.de (op k) (min 999 ((G.de (op k)) + ((G.de k) / 2)))) k 0) (if dSt G r k then up G.sa k 1 else G.sa) G.nn G.rr (G.sm (op k)) (r : Int) (if dSt G r k then G.vs - G.mi r else G.vs) G.vw (up (up (if dSt G r k then up G.tt 1 (G.tt 1 + (iI (G.mi r : Int)).toInt64) else G.tt) 0 ((if dSt G r k then up G.tt 1 (G.tt 1 + (iI (G.mi r : Int)).toInt64) else G.tt) 0 + (iI (dMin G r k)).toInt64)) 2 ((up (if dSt G r k then up G.tt 1 (G.tt 1 + (iI (G.mi r : Int)).toInt64) else G.tt) 0 ((if dSt G r k then up G.tt 1 (G.tt 1 + (iI (G.mi r : Int)).toInt64) else G.tt) 0 + (iI (dMin G r k)).toInt64)) 2 + 0))) Z) s H locs := hC
          refine lv_aload_n hx hb dX4_drive_212 rfl (lv_at hl 0 rfl) ?_
          refine agX4_totals X hC iX4 (by decide +kernel) dX4_drive_213 ?_
          refine li_c hx hb dX4_drive_216 ?_
          refine lv_dup2_11 hx hb dX4_drive_217 rfl rfl ?_
          refine alD_tt (k0 := 3) (v := (up (up (if dSt G r k then up G.tt 1 (G.tt 1 + (iI (G.mi r : Int)).toInt64) else G.tt) 0 ((if dSt G r k then up G.tt 1 (G.tt 1 + (iI (G.mi r : Int)).toInt64) else G.tt) 0 + (iI (dMin G r k)).toInt64)) 2 ((up (if dSt G r k then up G.tt 1 (G.tt 1 + (iI (G.mi r : Int)).toInt64) else G.tt) 0 ((if dSt G r k then up G.tt 1 (G.tt 1 + (iI (G.mi r : Int)).toInt64) else G.tt) 0 + (iI (dMin G r k)).toInt64)) 2 + 0)) 3) X hC (by omega) (by omega) rfl dX4_drive_218 ?_
          refine lv_lconst (v := 1) hx hb dX4_drive_219 rfl ?_
          refine lv_ladd hx hb dX4_drive_220 ?_
          refine asD_tt (k0 := 3) X hC (by omega) (by omega) dX4_drive_221 (fun H locs hC => ?_)
          have hC : aH A (dAdr A) (DW A (mkG G.tu G.st G.sm G.mi G.pr (up (up G.de (op k) (min 999 ((G.de (op k)) + ((G.de k) / 2)))) k 0) (if dSt G r k then up G.sa k 1 else G.sa) G.nn G.rr (G.sm (op k)) (r : Int) (if dSt G r k then G.vs - G.mi r else G.vs) G.vw (up (up (up (if dSt G r k then up G.tt 1 (G.tt 1 + (iI (G.mi r : Int)).toInt64) else G.tt) 0 ((if dSt G r k then up G.tt 1 (G.tt 1 + (iI (G.mi r : Int)).toInt64) else G.tt) 0 + (iI (dMin G r k)).toInt64)) 2 ((up (if dSt G r k then up G.tt 1 (G.tt 1 + (iI (G.mi r : Int)).toInt64) else G.tt) 0 ((if dSt G r k then up G.tt 1 (G.tt 1 + (iI (G.mi r : Int)).toInt64) else G.tt) 0 + (iI (dMin G r k)).toInt64)) 2 + 0)) 3 ((up (up (if dSt G r k then up G.tt 1 (G.tt 1 + (iI (G.mi r : Int)).toInt64) else G.tt) 0 ((if dSt G r k then up G.tt 1 (G.tt 1 + (iI (G.mi r : Int)).toInt64) else G.tt) 0 + (iI (dMin G r k)).toInt64)) 2 ((up (if dSt G r k then up G.tt 1 (G.tt 1 + (iI (G.mi r : Int)).toInt64) else G.tt) 0 ((if dSt G r k then up G.tt 1 (G.tt 1 + (iI (G.mi r : Int)).toInt64) else G.tt) 0 + (iI (dMin G r k)).toInt64)) 2 + 0)) 3 + 1))) Z) s H locs := hC
          refine lv_iload hx hb dX4_drive_222 (lv_at hl 3 rfl) ?_
          exact d_iret X hC hr hk (by refine ⟨rfl, ?_, rfl⟩; unfold drv; rw [← dTt_D G.tt (dSt G r k) ((r : Int) = G.vc) (G.mi r) (dMin G r k) _ (by first | (rw [if_pos (by omega)]; done) | (rw [if_neg (by omega)]; done))]; rfl) dX4_drive_224
        · exact absurd c_202 (by decide)
      refine lv_aload_n hx hb dX4_drive_63 rfl (lv_at hl 3 rfl) ?_
      refine agX4_depths X hC iX4 (by decide +kernel) dX4_drive_64 ?_
      refine lv_iload_n hx hb dX4_drive_67 rfl (lv_at hl 2 rfl) ?_
      refine alD_de (k0 := k) (v := ((G.de k : Nat) : Int)) X hC (by omega) (by omega) rfl dX4_drive_68 ?_
      have hb11 := hI.de k
      refine li_if_le (tgt := 130) hx hb dX4_drive_69 (by decide) (by omega) (fun c_69 => ?_) (fun c_69 => ?_)
      · have hC : aH A (dAdr A) (DW A (mkG G.tu G.st G.sm G.mi G.pr G.de (if dSt G r k then up G.sa k 1 else G.sa) G.nn G.rr G.vn G.vc (if dSt G r k then G.vs - G.mi r else G.vs) G.vw (if dSt G r k then up G.tt 1 (G.tt 1 + (iI (G.mi r : Int)).toInt64) else G.tt)) Z) s H locs := by rw [if_neg (fun hq : dSt G r k => by obtain ⟨h1, h2, h3⟩ := hq; omega), if_neg (fun hq : dSt G r k => by obtain ⟨h1, h2, h3⟩ := hq; omega), if_neg (fun hq : dSt G r k => by obtain ⟨h1, h2, h3⟩ := hq; omega)]; exact hC
        exact join_130   H locs hC ls (lv_sub hl [3, 2, 1, 0, 4] rfl)
      · refine lv_aload_n hx hb dX4_drive_72 rfl (lv_at hl 3 rfl) ?_
        refine agX4_strews X hC iX4 (by decide +kernel) dX4_drive_73 (v := (G.vw : Int)) rfl ?_
        refine li_if_eq (tgt := 130) hx hb dX4_drive_76 (by decide) (by omega) (fun c_76 => ?_) (fun c_76 => ?_)
        · have hC : aH A (dAdr A) (DW A (mkG G.tu G.st G.sm G.mi G.pr G.de (if dSt G r k then up G.sa k 1 else G.sa) G.nn G.rr G.vn G.vc (if dSt G r k then G.vs - G.mi r else G.vs) G.vw (if dSt G r k then up G.tt 1 (G.tt 1 + (iI (G.mi r : Int)).toInt64) else G.tt)) Z) s H locs := by rw [if_neg (fun hq : dSt G r k => by obtain ⟨h1, h2, h3⟩ := hq; omega), if_neg (fun hq : dSt G r k => by obtain ⟨h1, h2, h3⟩ := hq; omega), if_neg (fun hq : dSt G r k => by obtain ⟨h1, h2, h3⟩ := hq; omega)]; exact hC
          exact join_130   H locs hC ls (lv_sub hl [3, 2, 1, 0, 4] rfl)
        · refine lv_aload_n hx hb dX4_drive_79 rfl (lv_at hl 3 rfl) ?_
          refine agX4_salt X hC iX4 (by decide +kernel) dX4_drive_80 (v := (G.vs : Int)) rfl ?_
          refine lv_aload_n hx hb dX4_drive_83 rfl (lv_at hl 3 rfl) ?_
          refine agX4_lengths X hC iX4 (by decide +kernel) dX4_drive_84 ?_
          refine lv_iload_n hx hb dX4_drive_87 rfl (lv_at hl 4 rfl) ?_
          refine alD_mi (k0 := r) (v := ((G.mi r : Nat) : Int)) X hC (by omega) (by omega) rfl dX4_drive_88 ?_
          have hb12 := hI.mi r
          refine li_icmp_lt (tgt := 130) hx hb dX4_drive_89 (by decide) (by omega) (fun c_89 => ?_) (fun c_89 => ?_)
          · have hC : aH A (dAdr A) (DW A (mkG G.tu G.st G.sm G.mi G.pr G.de (if dSt G r k then up G.sa k 1 else G.sa) G.nn G.rr G.vn G.vc (if dSt G r k then G.vs - G.mi r else G.vs) G.vw (if dSt G r k then up G.tt 1 (G.tt 1 + (iI (G.mi r : Int)).toInt64) else G.tt)) Z) s H locs := by rw [if_neg (fun hq : dSt G r k => by obtain ⟨h1, h2, h3⟩ := hq; omega), if_neg (fun hq : dSt G r k => by obtain ⟨h1, h2, h3⟩ := hq; omega), if_neg (fun hq : dSt G r k => by obtain ⟨h1, h2, h3⟩ := hq; omega)]; exact hC
            exact join_130   H locs hC ls (lv_sub hl [3, 2, 1, 0, 4] rfl)
          · refine lv_aload_n hx hb dX4_drive_92 rfl (lv_at hl 3 rfl) ?_
            refine agX4_areSalted X hC iX4 (by decide +kernel) dX4_drive_93 ?_
            refine lv_iload_n hx hb dX4_drive_96 rfl (lv_at hl 2 rfl) ?_
            refine li_c hx hb dX4_drive_97 ?_
            refine asD_sa (k0 := k) (x := 1) X hC (by omega) (by omega) (by omega) (by omega) dX4_drive_98 (fun H locs hC => ?_)
            have hC : aH A (dAdr A) (DW A (mkG G.tu G.st G.sm G.mi G.pr G.de (up G.sa k 1) G.nn G.rr G.vn G.vc G.vs G.vw G.tt) Z) s H locs := hC
            refine lv_aload_n hx hb dX4_drive_99 rfl (lv_at hl 3 rfl) ?_
            refine lv_dup hx hb dX4_drive_100 rfl ?_
            refine agX4_salt X hC iX4 (by decide +kernel) dX4_drive_101 (v := (G.vs : Int)) rfl ?_
            refine lv_aload_n hx hb dX4_drive_104 rfl (lv_at hl 3 rfl) ?_
            refine agX4_lengths X hC iX4 (by decide +kernel) dX4_drive_105 ?_
            refine lv_iload_n hx hb dX4_drive_108 rfl (lv_at hl 4 rfl) ?_
            refine alD_mi (k0 := r) (v := ((G.mi r : Nat) : Int)) X hC (by omega) (by omega) rfl dX4_drive_109 ?_
            have hb13 := hI.mi r
            refine li_subN (x := G.vs) (y := G.mi r) hx hb dX4_drive_110 rfl rfl (by omega) ?_
            refine apX4_salt X hC iX4 (by decide +kernel) dX4_drive_111 (x := G.vs - (G.mi r)) (by omega) (fun H locs hC => ?_)
            have hC : aH A (dAdr A) (DW A (mkG G.tu G.st G.sm G.mi G.pr G.de (up G.sa k 1) G.nn G.rr G.vn G.vc (G.vs - (G.mi r)) G.vw G.tt) Z) s H locs := hC
            refine lv_aload_n hx hb dX4_drive_114 rfl (lv_at hl 3 rfl) ?_
            refine agX4_totals X hC iX4 (by decide +kernel) dX4_drive_115 ?_
            refine li_c hx hb dX4_drive_118 ?_
            refine lv_dup2_11 hx hb dX4_drive_119 rfl rfl ?_
            refine alD_tt (k0 := 1) (v := G.tt 1) X hC (by omega) (by omega) rfl dX4_drive_120 ?_
            refine lv_aload_n hx hb dX4_drive_121 rfl (lv_at hl 3 rfl) ?_
            refine agX4_lengths X hC iX4 (by decide +kernel) dX4_drive_122 ?_
            refine lv_iload_n hx hb dX4_drive_125 rfl (lv_at hl 4 rfl) ?_
            refine alD_mi (k0 := r) (v := ((G.mi r : Nat) : Int)) X hC (by omega) (by omega) rfl dX4_drive_126 ?_
            have hb14 := hI.mi r
            refine lv_i2l hx hb dX4_drive_127 rfl ?_
            refine lv_ladd hx hb dX4_drive_128 ?_
            refine asD_tt (k0 := 1) X hC (by omega) (by omega) dX4_drive_129 (fun H locs hC => ?_)
            have hC : aH A (dAdr A) (DW A (mkG G.tu G.st G.sm G.mi G.pr G.de (up G.sa k 1) G.nn G.rr G.vn G.vc (G.vs - (G.mi r)) G.vw (up G.tt 1 (G.tt 1 + (iI ((G.mi r : Nat) : Int)).toInt64))) Z) s H locs := hC
            have hC : aH A (dAdr A) (DW A (mkG G.tu G.st G.sm G.mi G.pr G.de (if dSt G r k then up G.sa k 1 else G.sa) G.nn G.rr G.vn G.vc (if dSt G r k then G.vs - G.mi r else G.vs) G.vw (if dSt G r k then up G.tt 1 (G.tt 1 + (iI (G.mi r : Int)).toInt64) else G.tt)) Z) s H locs := by rw [if_pos (show dSt G r k from ⟨by omega, by omega, by omega⟩), if_pos (show dSt G r k from ⟨by omega, by omega, by omega⟩), if_pos (show dSt G r k from ⟨by omega, by omega, by omega⟩)]; exact hC
            exact join_130   H locs hC ls (lv_sub hl [3, 2, 1, 0, 4] rfl)
  · refine li_c hx hb dX4_drive_22 ?_
    refine lv_goto (tgt := 27) hx hb dX4_drive_23 (by decide) ?_
    refine lv_istore_n (lv' := [(3, .int (iI 1)), (2, .int (iI (k : Int))), (0, .ref (A.a 0)), (1, .int (iI (r : Int)))]) hx hb dX4_drive_27 rfl hl (by decide) rfl (fun ls hl => ?_)
    refine lv_aload_n hx hb dX4_drive_28 rfl (lv_at hl 2 rfl) ?_
    refine agX4_lengths X hC iX4 (by decide +kernel) dX4_drive_29 ?_
    refine lv_iload_n hx hb dX4_drive_32 rfl (lv_at hl 3 rfl) ?_
    refine alD_mi (k0 := r) (v := ((G.mi r : Nat) : Int)) X hC (by omega) (by omega) rfl dX4_drive_33 ?_
    have hb15 := hI.mi r
    refine lv_aload_n hx hb dX4_drive_34 rfl (lv_at hl 2 rfl) ?_
    refine agX4_depths X hC iX4 (by decide +kernel) dX4_drive_35 ?_
    refine lv_iload_n hx hb dX4_drive_38 rfl (lv_at hl 1 rfl) ?_
    refine alD_de (k0 := k) (v := ((G.de k : Nat) : Int)) X hC (by omega) (by omega) rfl dX4_drive_39 ?_
    have hb16 := hI.de k
    refine li_bi hx hb dX4_drive_40 (by decide) ?_
    refine li_icmp_lt (tgt := 49) hx hb dX4_drive_42 (by decide) (by omega) (fun c_42 => ?_) (fun c_42 => ?_)
    · refine li_c hx hb dX4_drive_49 ?_
      refine li_mulN (x := G.mi r) (y := 1) hx hb dX4_drive_50 rfl rfl ?_
      refine lv_aload_n hx hb dX4_drive_51 rfl (lv_at hl 2 rfl) ?_
      refine lv_iload_n hx hb dX4_drive_52 rfl (lv_at hl 3 rfl) ?_
      refine lv_aload_n hx hb dX4_drive_53 rfl (lv_at hl 2 rfl) ?_
      refine agX4_came X hC iX4 (by decide +kernel) dX4_drive_54 (v := G.vc) rfl ?_
      refine d_callix (v := (((if (r : Int) = G.vc then 2 else 0) : Nat) : Int)) (n := 2) (As := [.int (iI (r : Int)), .int (iI G.vc)]) (rest := [.int (iI (((G.mi r) * 1 : Nat) : Int))]) X hC (mX4_turnTime l A G Z r G.vc (show r < 12 by omega) (show -2147483648 ≤ G.vc ∧ G.vc < 2147483648 by omega)) ⟨gX4_drive_X4_turnTime, ⟨_, rfl⟩, rfl, rfl, ⟨by decide, by decide, by decide +kernel⟩, Nat.le_of_ble_eq_true rfl, Nat.le_of_ble_eq_true rfl⟩ (a_recv (y := yX4_turnTime) X hC.1 (ci := 4) (q0 := 0) rfl rfl rfl) rfl hl.1 rfl (Nat.le_of_ble_eq_true rfl) ⟨Nat.le_of_ble_eq_true rfl, Nat.le_of_ble_eq_true rfl⟩ dX4_drive_57 (fun H locs hC => ?_)
      refine li_addN (x := (G.mi r) * 1) (y := (if (r : Int) = G.vc then 2 else 0)) hx hb dX4_drive_60 rfl rfl ?_
      have hM : ((((G.mi r) * 1) + (if (r : Int) = G.vc then 2 else 0) : Nat) : Int) = dMin G r k := by unfold dMin; first | (rw [if_pos (by omega), if_pos (by omega)] <;> omega) | (rw [if_pos (by omega), if_neg (by omega)] <;> omega) | (rw [if_neg (by omega), if_pos (by omega)] <;> omega) | (rw [if_neg (by omega), if_neg (by omega)] <;> omega)
      rw [hM]
      have hMr := dMin_rng (r := r) (k := k) hI
      refine lv_istore (lv' := [(4, .int (iI (dMin G r k))), (3, .int (iI 1)), (2, .int (iI (k : Int))), (0, .ref (A.a 0)), (1, .int (iI (r : Int)))]) hx hb dX4_drive_61 hl (by decide) rfl (fun ls hl => ?_)
      have join_130 : ∀ (H : Heap) (locs : List Loc) (hC : aH A (dAdr A) (DW A (mkG G.tu G.st G.sm G.mi G.pr G.de (if dSt G r k then up G.sa k 1 else G.sa) G.nn G.rr G.vn G.vc (if dSt G r k then G.vs - G.mi r else G.vs) G.vw (if dSt G r k then up G.tt 1 (G.tt 1 + (iI (G.mi r : Int)).toInt64) else G.tt)) Z) s H locs) (ls : Array Slot) (hl : lv_has ls 5 [(0, .ref (A.a 0)), (2, .int (iI (k : Int))), (3, .int (iI 1)), (4, .int (iI (dMin G r k))), (1, .int (iI (r : Int)))]), W p l e ({ frames := 1, cells := 0, slots := 0, locals := 23 }) s m args below meth c H locs 0 0 (aQi below (dEnd A) (dAdr A) args s (xI ((dMin G r k)) (drv G r k) Z)) (F0 m 130 ls []) := by
        intro   H locs hC ls hl
        refine lv_aload_n hx hb dX4_drive_130 rfl (lv_at hl 0 rfl) ?_
        refine agX4_depths X hC iX4 (by decide +kernel) dX4_drive_131 ?_
        refine lv_iload_n hx hb dX4_drive_134 rfl (lv_at hl 1 rfl) ?_
        refine li_c hx hb dX4_drive_135 ?_
        refine li_op (k0 := k) hx hb dX4_drive_136 (by omega) (by omega) ?_
        refine li_si hx hb dX4_drive_137 (by decide) ?_
        refine lv_aload_n hx hb dX4_drive_140 rfl (lv_at hl 0 rfl) ?_
        refine agX4_depths X hC iX4 (by decide +kernel) dX4_drive_141 ?_
        refine lv_iload_n hx hb dX4_drive_144 rfl (lv_at hl 1 rfl) ?_
        refine li_c hx hb dX4_drive_145 ?_
        refine li_op (k0 := k) hx hb dX4_drive_146 (by omega) (by omega) ?_
        refine alD_de (k0 := op k) (v := ((G.de (op k) : Nat) : Int)) X hC (by omega) (by omega) rfl dX4_drive_147 ?_
        have hb17 := hI.de (op k)
        refine lv_aload_n hx hb dX4_drive_148 rfl (lv_at hl 0 rfl) ?_
        refine agX4_depths X hC iX4 (by decide +kernel) dX4_drive_149 ?_
        refine lv_iload_n hx hb dX4_drive_152 rfl (lv_at hl 1 rfl) ?_
        refine alD_de (k0 := k) (v := ((G.de k : Nat) : Int)) X hC (by omega) (by omega) rfl dX4_drive_153 ?_
        have hb18 := hI.de k
        refine li_c hx hb dX4_drive_154 ?_
        refine li_divN (x := G.de k) (y := 2) hx hb dX4_drive_155 rfl rfl (by omega) ?_
        refine li_addN (x := G.de (op k)) (y := (G.de k) / 2) hx hb dX4_drive_156 rfl rfl ?_
        refine li_min hx hb (hml.trans hl.1.symm) hown (hts _ (by decide +kernel)) (hts _ (by decide +kernel)) (hts _ (by decide +kernel)) (hts _ (by decide +kernel)) (Nat.le_of_ble_eq_true rfl) (Nat.le_of_ble_eq_true rfl) (Nat.zero_le _) (Nat.zero_le _) (by omega) dX4_drive_157 ?_
        rw [show (if (((G.de (op k)) + ((G.de k) / 2) : Nat) : Int) < 999 then (((G.de (op k)) + ((G.de k) / 2) : Nat) : Int) else 999) = (((min 999 ((G.de (op k)) + ((G.de k) / 2))) : Nat) : Int) by split <;> omega]
        refine asD_de (k0 := op k) (x := (min 999 ((G.de (op k)) + ((G.de k) / 2)))) X hC (by omega) (by omega) (by omega) dX4_drive_160 (fun H locs hC => ?_)
        have hC : aH A (dAdr A) (DW A (mkG G.tu G.st G.sm G.mi G.pr (up G.de (op k) (min 999 ((G.de (op k)) + ((G.de k) / 2)))) (if dSt G r k then up G.sa k 1 else G.sa) G.nn G.rr G.vn G.vc (if dSt G r k then G.vs - G.mi r else G.vs) G.vw (if dSt G r k then up G.tt 1 (G.tt 1 + (iI (G.mi r : Int)).toInt64) else G.tt)) Z) s H locs := hC
        refine lv_aload_n hx hb dX4_drive_161 rfl (lv_at hl 0 rfl) ?_
        refine agX4_depths X hC iX4 (by decide +kernel) dX4_drive_162 ?_
        refine lv_iload_n hx hb dX4_drive_165 rfl (lv_at hl 1 rfl) ?_
        refine li_c hx hb dX4_drive_166 ?_
        refine asD_de (k0 := k) (x := 0) X hC (by omega) (by omega) (by omega) dX4_drive_167 (fun H locs hC => ?_)
        have hC : aH A (dAdr A) (DW A (mkG G.tu G.st G.sm G.mi G.pr (up (up G.de (op k) (min 999 ((G.de (op k)) + ((G.de k) / 2)))) k 0) (if dSt G r k then up G.sa k 1 else G.sa) G.nn G.rr G.vn G.vc (if dSt G r k then G.vs - G.mi r else G.vs) G.vw (if dSt G r k then up G.tt 1 (G.tt 1 + (iI (G.mi r : Int)).toInt64) else G.tt)) Z) s H locs := hC
        refine lv_aload_n hx hb dX4_drive_168 rfl (lv_at hl 0 rfl) ?_
        refine lv_aload_n hx hb dX4_drive_169 rfl (lv_at hl 0 rfl) ?_
        refine lv_iload_n hx hb dX4_drive_170 rfl (lv_at hl 1 rfl) ?_
        refine d_callix (v := ((G.sm (op k) : Nat) : Int)) (n := 1) (As := [.int (iI (k : Int))]) (rest := [.ref (A.a 0)]) X hC (mX4_head l A (mkG G.tu G.st G.sm G.mi G.pr (up (up G.de (op k) (min 999 ((G.de (op k)) + ((G.de k) / 2)))) k 0) (if dSt G r k then up G.sa k 1 else G.sa) G.nn G.rr G.vn G.vc (if dSt G r k then G.vs - G.mi r else G.vs) G.vw (if dSt G r k then up G.tt 1 (G.tt 1 + (iI (G.mi r : Int)).toInt64) else G.tt)) Z k (show k < 24 by omega)) ⟨gX4_drive_X4_head, ⟨_, rfl⟩, rfl, rfl, ⟨by decide, by decide, by decide +kernel⟩, Nat.le_of_ble_eq_true rfl, Nat.le_of_ble_eq_true rfl⟩ (a_recv (y := yX4_head) X hC.1 (ci := 4) (q0 := 0) rfl rfl rfl) rfl hl.1 rfl (Nat.le_of_ble_eq_true rfl) ⟨Nat.le_of_ble_eq_true rfl, Nat.le_of_ble_eq_true rfl⟩ dX4_drive_171 (fun H locs hC => ?_)
        refine apX4_at X hC iX4 (by decide +kernel) dX4_drive_174 (x := G.sm (op k)) (by omega) (fun H locs hC => ?_)
        have hC : aH A (dAdr A) (DW A (mkG G.tu G.st G.sm G.mi G.pr (up (up G.de (op k) (min 999 ((G.de (op k)) + ((G.de k) / 2)))) k 0) (if dSt G r k then up G.sa k 1 else G.sa) G.nn G.rr (G.sm (op k)) G.vc (if dSt G r k then G.vs - G.mi r else G.vs) G.vw (if dSt G r k then up G.tt 1 (G.tt 1 + (iI (G.mi r : Int)).toInt64) else G.tt)) Z) s H locs := hC
        refine lv_aload_n hx hb dX4_drive_177 rfl (lv_at hl 0 rfl) ?_
        refine lv_iload_n hx hb dX4_drive_178 rfl (lv_at hl 4 rfl) ?_
        refine apX4_came X hC iX4 (by decide +kernel) dX4_drive_179 rfl (fun H locs hC => ?_)
        have hC : aH A (dAdr A) (DW A (mkG G.tu G.st G.sm G.mi G.pr (up (up G.de (op k) (min 999 ((G.de (op k)) + ((G.de k) / 2)))) k 0) (if dSt G r k then up G.sa k 1 else G.sa) G.nn G.rr (G.sm (op k)) (r : Int) (if dSt G r k then G.vs - G.mi r else G.vs) G.vw (if dSt G r k then up G.tt 1 (G.tt 1 + (iI (G.mi r : Int)).toInt64) else G.tt)) Z) s H locs := hC
        refine lv_aload_n hx hb dX4_drive_182 rfl (lv_at hl 0 rfl) ?_
        refine agX4_totals X hC iX4 (by decide +kernel) dX4_drive_183 ?_
        refine li_c hx hb dX4_drive_186 ?_
        refine lv_dup2_11 hx hb dX4_drive_187 rfl rfl ?_
        refine alD_tt (k0 := 0) (v := (if dSt G r k then up G.tt 1 (G.tt 1 + (iI (G.mi r : Int)).toInt64) else G.tt) 0) X hC (by omega) (by omega) rfl dX4_drive_188 ?_
        refine lv_iload hx hb dX4_drive_189 (lv_at hl 3 rfl) ?_
        refine lv_i2l hx hb dX4_drive_191 rfl ?_
        refine lv_ladd hx hb dX4_drive_192 ?_
        refine asD_tt (k0 := 0) X hC (by omega) (by omega) dX4_drive_193 (fun H locs hC => ?_)
        have hC : aH A (dAdr A) (DW A (mkG G.tu G.st G.sm G.mi G.pr (up (up G.de (op k) (min 999 ((G.de (op k)) + ((G.de k) / 2)))) k 0) (if dSt G r k then up G.sa k 1 else G.sa) G.nn G.rr (G.sm (op k)) (r : Int) (if dSt G r k then G.vs - G.mi r else G.vs) G.vw (up (if dSt G r k then up G.tt 1 (G.tt 1 + (iI (G.mi r : Int)).toInt64) else G.tt) 0 ((if dSt G r k then up G.tt 1 (G.tt 1 + (iI (G.mi r : Int)).toInt64) else G.tt) 0 + (iI (dMin G r k)).toInt64))) Z) s H locs := hC
        refine lv_aload_n hx hb dX4_drive_194 rfl (lv_at hl 0 rfl) ?_
        refine agX4_totals X hC iX4 (by decide +kernel) dX4_drive_195 ?_
        refine li_c hx hb dX4_drive_198 ?_
        refine lv_dup2_11 hx hb dX4_drive_199 rfl rfl ?_
        refine alD_tt (k0 := 2) (v := (up (if dSt G r k then up G.tt 1 (G.tt 1 + (iI (G.mi r : Int)).toInt64) else G.tt) 0 ((if dSt G r k then up G.tt 1 (G.tt 1 + (iI (G.mi r : Int)).toInt64) else G.tt) 0 + (iI (dMin G r k)).toInt64)) 2) X hC (by omega) (by omega) rfl dX4_drive_200 ?_
        refine lv_iload_n hx hb dX4_drive_201 rfl (lv_at hl 2 rfl) ?_
        refine li_if_eq (tgt := 209) hx hb dX4_drive_202 (by decide) (by omega) (fun c_202 => ?_) (fun c_202 => ?_)
        · exact absurd c_202 (by decide)
        · refine lv_lconst (v := 1) hx hb dX4_drive_205 rfl ?_
          refine lv_goto (tgt := 210) hx hb dX4_drive_206 (by decide) ?_
          refine lv_ladd hx hb dX4_drive_210 ?_
          refine asD_tt (k0 := 2) X hC (by omega) (by omega) dX4_drive_211 (fun H locs hC => ?_)
          have hC : aH A (dAdr A) (DW A (mkG G.tu G.st G.sm G.mi G.pr (up (up G.de (op k) (min 999 ((G.de (op k)) + ((G.de k) / 2)))) k 0) (if dSt G r k then up G.sa k 1 else G.sa) G.nn G.rr (G.sm (op k)) (r : Int) (if dSt G r k then G.vs - G.mi r else G.vs) G.vw (up (up (if dSt G r k then up G.tt 1 (G.tt 1 + (iI (G.mi r : Int)).toInt64) else G.tt) 0 ((if dSt G r k then up G.tt 1 (G.tt 1 + (iI (G.mi r : Int)).toInt64) else G.tt) 0 + (iI (dMin G r k)).toInt64)) 2 ((up (if dSt G r k then up G.tt 1 (G.tt 1 + (iI (G.mi r : Int)).toInt64) else G.tt) 0 ((if dSt G r k then up G.tt 1 (G.tt 1 + (iI (G.mi r : Int)).toInt64) else G.tt) 0 + (iI (dMin G r k)).toInt64)) 2 + 1))) Z) s H locs := hC
          refine lv_aload_n hx hb dX4_drive_212 rfl (lv_at hl 0 rfl) ?_
          refine agX4_totals X hC iX4 (by decide +kernel) dX4_drive_213 ?_
          refine li_c hx hb dX4_drive_216 ?_
          refine lv_dup2_11 hx hb dX4_drive_217 rfl rfl ?_
          refine alD_tt (k0 := 3) (v := (up (up (if dSt G r k then up G.tt 1 (G.tt 1 + (iI (G.mi r : Int)).toInt64) else G.tt) 0 ((if dSt G r k then up G.tt 1 (G.tt 1 + (iI (G.mi r : Int)).toInt64) else G.tt) 0 + (iI (dMin G r k)).toInt64)) 2 ((up (if dSt G r k then up G.tt 1 (G.tt 1 + (iI (G.mi r : Int)).toInt64) else G.tt) 0 ((if dSt G r k then up G.tt 1 (G.tt 1 + (iI (G.mi r : Int)).toInt64) else G.tt) 0 + (iI (dMin G r k)).toInt64)) 2 + 1)) 3) X hC (by omega) (by omega) rfl dX4_drive_218 ?_
          refine lv_lconst (v := 1) hx hb dX4_drive_219 rfl ?_
          refine lv_ladd hx hb dX4_drive_220 ?_
          refine asD_tt (k0 := 3) X hC (by omega) (by omega) dX4_drive_221 (fun H locs hC => ?_)
          have hC : aH A (dAdr A) (DW A (mkG G.tu G.st G.sm G.mi G.pr (up (up G.de (op k) (min 999 ((G.de (op k)) + ((G.de k) / 2)))) k 0) (if dSt G r k then up G.sa k 1 else G.sa) G.nn G.rr (G.sm (op k)) (r : Int) (if dSt G r k then G.vs - G.mi r else G.vs) G.vw (up (up (up (if dSt G r k then up G.tt 1 (G.tt 1 + (iI (G.mi r : Int)).toInt64) else G.tt) 0 ((if dSt G r k then up G.tt 1 (G.tt 1 + (iI (G.mi r : Int)).toInt64) else G.tt) 0 + (iI (dMin G r k)).toInt64)) 2 ((up (if dSt G r k then up G.tt 1 (G.tt 1 + (iI (G.mi r : Int)).toInt64) else G.tt) 0 ((if dSt G r k then up G.tt 1 (G.tt 1 + (iI (G.mi r : Int)).toInt64) else G.tt) 0 + (iI (dMin G r k)).toInt64)) 2 + 1)) 3 ((up (up (if dSt G r k then up G.tt 1 (G.tt 1 + (iI (G.mi r : Int)).toInt64) else G.tt) 0 ((if dSt G r k then up G.tt 1 (G.tt 1 + (iI (G.mi r : Int)).toInt64) else G.tt) 0 + (iI (dMin G r k)).toInt64)) 2 ((up (if dSt G r k then up G.tt 1 (G.tt 1 + (iI (G.mi r : Int)).toInt64) else G.tt) 0 ((if dSt G r k then up G.tt 1 (G.tt 1 + (iI (G.mi r : Int)).toInt64) else G.tt) 0 + (iI (dMin G r k)).toInt64)) 2 + 1)) 3 + 1))) Z) s H locs := hC
          refine lv_iload hx hb dX4_drive_222 (lv_at hl 3 rfl) ?_
          exact d_iret X hC hr hk (by refine ⟨rfl, ?_, rfl⟩; unfold drv; rw [← dTt_D G.tt (dSt G r k) ((r : Int) = G.vc) (G.mi r) (dMin G r k) _ (by first | (rw [if_pos (by omega)]; done) | (rw [if_neg (by omega)]; done))]; rfl) dX4_drive_224
      refine lv_aload_n hx hb dX4_drive_63 rfl (lv_at hl 3 rfl) ?_
      refine agX4_depths X hC iX4 (by decide +kernel) dX4_drive_64 ?_
      refine lv_iload_n hx hb dX4_drive_67 rfl (lv_at hl 2 rfl) ?_
      refine alD_de (k0 := k) (v := ((G.de k : Nat) : Int)) X hC (by omega) (by omega) rfl dX4_drive_68 ?_
      have hb19 := hI.de k
      refine li_if_le (tgt := 130) hx hb dX4_drive_69 (by decide) (by omega) (fun c_69 => ?_) (fun c_69 => ?_)
      · have hC : aH A (dAdr A) (DW A (mkG G.tu G.st G.sm G.mi G.pr G.de (if dSt G r k then up G.sa k 1 else G.sa) G.nn G.rr G.vn G.vc (if dSt G r k then G.vs - G.mi r else G.vs) G.vw (if dSt G r k then up G.tt 1 (G.tt 1 + (iI (G.mi r : Int)).toInt64) else G.tt)) Z) s H locs := by rw [if_neg (fun hq : dSt G r k => by obtain ⟨h1, h2, h3⟩ := hq; omega), if_neg (fun hq : dSt G r k => by obtain ⟨h1, h2, h3⟩ := hq; omega), if_neg (fun hq : dSt G r k => by obtain ⟨h1, h2, h3⟩ := hq; omega)]; exact hC
        exact join_130   H locs hC ls (lv_sub hl [3, 2, 1, 0, 4] rfl)
      · refine lv_aload_n hx hb dX4_drive_72 rfl (lv_at hl 3 rfl) ?_
        refine agX4_strews X hC iX4 (by decide +kernel) dX4_drive_73 (v := (G.vw : Int)) rfl ?_
        refine li_if_eq (tgt := 130) hx hb dX4_drive_76 (by decide) (by omega) (fun c_76 => ?_) (fun c_76 => ?_)
        · have hC : aH A (dAdr A) (DW A (mkG G.tu G.st G.sm G.mi G.pr G.de (if dSt G r k then up G.sa k 1 else G.sa) G.nn G.rr G.vn G.vc (if dSt G r k then G.vs - G.mi r else G.vs) G.vw (if dSt G r k then up G.tt 1 (G.tt 1 + (iI (G.mi r : Int)).toInt64) else G.tt)) Z) s H locs := by rw [if_neg (fun hq : dSt G r k => by obtain ⟨h1, h2, h3⟩ := hq; omega), if_neg (fun hq : dSt G r k => by obtain ⟨h1, h2, h3⟩ := hq; omega), if_neg (fun hq : dSt G r k => by obtain ⟨h1, h2, h3⟩ := hq; omega)]; exact hC
          exact join_130   H locs hC ls (lv_sub hl [3, 2, 1, 0, 4] rfl)
        · refine lv_aload_n hx hb dX4_drive_79 rfl (lv_at hl 3 rfl) ?_
          refine agX4_salt X hC iX4 (by decide +kernel) dX4_drive_80 (v := (G.vs : Int)) rfl ?_
          refine lv_aload_n hx hb dX4_drive_83 rfl (lv_at hl 3 rfl) ?_
          refine agX4_lengths X hC iX4 (by decide +kernel) dX4_drive_84 ?_
          refine lv_iload_n hx hb dX4_drive_87 rfl (lv_at hl 4 rfl) ?_
          refine alD_mi (k0 := r) (v := ((G.mi r : Nat) : Int)) X hC (by omega) (by omega) rfl dX4_drive_88 ?_
          have hb20 := hI.mi r
          refine li_icmp_lt (tgt := 130) hx hb dX4_drive_89 (by decide) (by omega) (fun c_89 => ?_) (fun c_89 => ?_)
          · have hC : aH A (dAdr A) (DW A (mkG G.tu G.st G.sm G.mi G.pr G.de (if dSt G r k then up G.sa k 1 else G.sa) G.nn G.rr G.vn G.vc (if dSt G r k then G.vs - G.mi r else G.vs) G.vw (if dSt G r k then up G.tt 1 (G.tt 1 + (iI (G.mi r : Int)).toInt64) else G.tt)) Z) s H locs := by rw [if_neg (fun hq : dSt G r k => by obtain ⟨h1, h2, h3⟩ := hq; omega), if_neg (fun hq : dSt G r k => by obtain ⟨h1, h2, h3⟩ := hq; omega), if_neg (fun hq : dSt G r k => by obtain ⟨h1, h2, h3⟩ := hq; omega)]; exact hC
            exact join_130   H locs hC ls (lv_sub hl [3, 2, 1, 0, 4] rfl)
          · refine lv_aload_n hx hb dX4_drive_92 rfl (lv_at hl 3 rfl) ?_
            refine agX4_areSalted X hC iX4 (by decide +kernel) dX4_drive_93 ?_
            refine lv_iload_n hx hb dX4_drive_96 rfl (lv_at hl 2 rfl) ?_
            refine li_c hx hb dX4_drive_97 ?_
            refine asD_sa (k0 := k) (x := 1) X hC (by omega) (by omega) (by omega) (by omega) dX4_drive_98 (fun H locs hC => ?_)
            have hC : aH A (dAdr A) (DW A (mkG G.tu G.st G.sm G.mi G.pr G.de (up G.sa k 1) G.nn G.rr G.vn G.vc G.vs G.vw G.tt) Z) s H locs := hC
            refine lv_aload_n hx hb dX4_drive_99 rfl (lv_at hl 3 rfl) ?_
            refine lv_dup hx hb dX4_drive_100 rfl ?_
            refine agX4_salt X hC iX4 (by decide +kernel) dX4_drive_101 (v := (G.vs : Int)) rfl ?_
            refine lv_aload_n hx hb dX4_drive_104 rfl (lv_at hl 3 rfl) ?_
            refine agX4_lengths X hC iX4 (by decide +kernel) dX4_drive_105 ?_
            refine lv_iload_n hx hb dX4_drive_108 rfl (lv_at hl 4 rfl) ?_
            refine alD_mi (k0 := r) (v := ((G.mi r : Nat) : Int)) X hC (by omega) (by omega) rfl dX4_drive_109 ?_
            have hb21 := hI.mi r
            refine li_subN (x := G.vs) (y := G.mi r) hx hb dX4_drive_110 rfl rfl (by omega) ?_
            refine apX4_salt X hC iX4 (by decide +kernel) dX4_drive_111 (x := G.vs - (G.mi r)) (by omega) (fun H locs hC => ?_)
            have hC : aH A (dAdr A) (DW A (mkG G.tu G.st G.sm G.mi G.pr G.de (up G.sa k 1) G.nn G.rr G.vn G.vc (G.vs - (G.mi r)) G.vw G.tt) Z) s H locs := hC
            refine lv_aload_n hx hb dX4_drive_114 rfl (lv_at hl 3 rfl) ?_
            refine agX4_totals X hC iX4 (by decide +kernel) dX4_drive_115 ?_
            refine li_c hx hb dX4_drive_118 ?_
            refine lv_dup2_11 hx hb dX4_drive_119 rfl rfl ?_
            refine alD_tt (k0 := 1) (v := G.tt 1) X hC (by omega) (by omega) rfl dX4_drive_120 ?_
            refine lv_aload_n hx hb dX4_drive_121 rfl (lv_at hl 3 rfl) ?_
            refine agX4_lengths X hC iX4 (by decide +kernel) dX4_drive_122 ?_
            refine lv_iload_n hx hb dX4_drive_125 rfl (lv_at hl 4 rfl) ?_
            refine alD_mi (k0 := r) (v := ((G.mi r : Nat) : Int)) X hC (by omega) (by omega) rfl dX4_drive_126 ?_
            have hb22 := hI.mi r
            refine lv_i2l hx hb dX4_drive_127 rfl ?_
            refine lv_ladd hx hb dX4_drive_128 ?_
            refine asD_tt (k0 := 1) X hC (by omega) (by omega) dX4_drive_129 (fun H locs hC => ?_)
            have hC : aH A (dAdr A) (DW A (mkG G.tu G.st G.sm G.mi G.pr G.de (up G.sa k 1) G.nn G.rr G.vn G.vc (G.vs - (G.mi r)) G.vw (up G.tt 1 (G.tt 1 + (iI ((G.mi r : Nat) : Int)).toInt64))) Z) s H locs := hC
            have hC : aH A (dAdr A) (DW A (mkG G.tu G.st G.sm G.mi G.pr G.de (if dSt G r k then up G.sa k 1 else G.sa) G.nn G.rr G.vn G.vc (if dSt G r k then G.vs - G.mi r else G.vs) G.vw (if dSt G r k then up G.tt 1 (G.tt 1 + (iI (G.mi r : Int)).toInt64) else G.tt)) Z) s H locs := by rw [if_pos (show dSt G r k from ⟨by omega, by omega, by omega⟩), if_pos (show dSt G r k from ⟨by omega, by omega, by omega⟩), if_pos (show dSt G r k from ⟨by omega, by omega, by omega⟩)]; exact hC
            exact join_130   H locs hC ls (lv_sub hl [3, 2, 1, 0, 4] rfl)
    · refine li_c hx hb dX4_drive_45 ?_
      refine lv_goto (tgt := 50) hx hb dX4_drive_46 (by decide) ?_
      refine li_mulN (x := G.mi r) (y := 2) hx hb dX4_drive_50 rfl rfl ?_
      refine lv_aload_n hx hb dX4_drive_51 rfl (lv_at hl 2 rfl) ?_
      refine lv_iload_n hx hb dX4_drive_52 rfl (lv_at hl 3 rfl) ?_
      refine lv_aload_n hx hb dX4_drive_53 rfl (lv_at hl 2 rfl) ?_
      refine agX4_came X hC iX4 (by decide +kernel) dX4_drive_54 (v := G.vc) rfl ?_
      refine d_callix (v := (((if (r : Int) = G.vc then 2 else 0) : Nat) : Int)) (n := 2) (As := [.int (iI (r : Int)), .int (iI G.vc)]) (rest := [.int (iI (((G.mi r) * 2 : Nat) : Int))]) X hC (mX4_turnTime l A G Z r G.vc (show r < 12 by omega) (show -2147483648 ≤ G.vc ∧ G.vc < 2147483648 by omega)) ⟨gX4_drive_X4_turnTime, ⟨_, rfl⟩, rfl, rfl, ⟨by decide, by decide, by decide +kernel⟩, Nat.le_of_ble_eq_true rfl, Nat.le_of_ble_eq_true rfl⟩ (a_recv (y := yX4_turnTime) X hC.1 (ci := 4) (q0 := 0) rfl rfl rfl) rfl hl.1 rfl (Nat.le_of_ble_eq_true rfl) ⟨Nat.le_of_ble_eq_true rfl, Nat.le_of_ble_eq_true rfl⟩ dX4_drive_57 (fun H locs hC => ?_)
      refine li_addN (x := (G.mi r) * 2) (y := (if (r : Int) = G.vc then 2 else 0)) hx hb dX4_drive_60 rfl rfl ?_
      have hM : ((((G.mi r) * 2) + (if (r : Int) = G.vc then 2 else 0) : Nat) : Int) = dMin G r k := by unfold dMin; first | (rw [if_pos (by omega), if_pos (by omega)] <;> omega) | (rw [if_pos (by omega), if_neg (by omega)] <;> omega) | (rw [if_neg (by omega), if_pos (by omega)] <;> omega) | (rw [if_neg (by omega), if_neg (by omega)] <;> omega)
      rw [hM]
      have hMr := dMin_rng (r := r) (k := k) hI
      refine lv_istore (lv' := [(4, .int (iI (dMin G r k))), (3, .int (iI 1)), (2, .int (iI (k : Int))), (0, .ref (A.a 0)), (1, .int (iI (r : Int)))]) hx hb dX4_drive_61 hl (by decide) rfl (fun ls hl => ?_)
      have join_130 : ∀ (H : Heap) (locs : List Loc) (hC : aH A (dAdr A) (DW A (mkG G.tu G.st G.sm G.mi G.pr G.de (if dSt G r k then up G.sa k 1 else G.sa) G.nn G.rr G.vn G.vc (if dSt G r k then G.vs - G.mi r else G.vs) G.vw (if dSt G r k then up G.tt 1 (G.tt 1 + (iI (G.mi r : Int)).toInt64) else G.tt)) Z) s H locs) (ls : Array Slot) (hl : lv_has ls 5 [(0, .ref (A.a 0)), (2, .int (iI (k : Int))), (3, .int (iI 1)), (4, .int (iI (dMin G r k))), (1, .int (iI (r : Int)))]), W p l e ({ frames := 1, cells := 0, slots := 0, locals := 23 }) s m args below meth c H locs 0 0 (aQi below (dEnd A) (dAdr A) args s (xI ((dMin G r k)) (drv G r k) Z)) (F0 m 130 ls []) := by
        intro   H locs hC ls hl
        refine lv_aload_n hx hb dX4_drive_130 rfl (lv_at hl 0 rfl) ?_
        refine agX4_depths X hC iX4 (by decide +kernel) dX4_drive_131 ?_
        refine lv_iload_n hx hb dX4_drive_134 rfl (lv_at hl 1 rfl) ?_
        refine li_c hx hb dX4_drive_135 ?_
        refine li_op (k0 := k) hx hb dX4_drive_136 (by omega) (by omega) ?_
        refine li_si hx hb dX4_drive_137 (by decide) ?_
        refine lv_aload_n hx hb dX4_drive_140 rfl (lv_at hl 0 rfl) ?_
        refine agX4_depths X hC iX4 (by decide +kernel) dX4_drive_141 ?_
        refine lv_iload_n hx hb dX4_drive_144 rfl (lv_at hl 1 rfl) ?_
        refine li_c hx hb dX4_drive_145 ?_
        refine li_op (k0 := k) hx hb dX4_drive_146 (by omega) (by omega) ?_
        refine alD_de (k0 := op k) (v := ((G.de (op k) : Nat) : Int)) X hC (by omega) (by omega) rfl dX4_drive_147 ?_
        have hb23 := hI.de (op k)
        refine lv_aload_n hx hb dX4_drive_148 rfl (lv_at hl 0 rfl) ?_
        refine agX4_depths X hC iX4 (by decide +kernel) dX4_drive_149 ?_
        refine lv_iload_n hx hb dX4_drive_152 rfl (lv_at hl 1 rfl) ?_
        refine alD_de (k0 := k) (v := ((G.de k : Nat) : Int)) X hC (by omega) (by omega) rfl dX4_drive_153 ?_
        have hb24 := hI.de k
        refine li_c hx hb dX4_drive_154 ?_
        refine li_divN (x := G.de k) (y := 2) hx hb dX4_drive_155 rfl rfl (by omega) ?_
        refine li_addN (x := G.de (op k)) (y := (G.de k) / 2) hx hb dX4_drive_156 rfl rfl ?_
        refine li_min hx hb (hml.trans hl.1.symm) hown (hts _ (by decide +kernel)) (hts _ (by decide +kernel)) (hts _ (by decide +kernel)) (hts _ (by decide +kernel)) (Nat.le_of_ble_eq_true rfl) (Nat.le_of_ble_eq_true rfl) (Nat.zero_le _) (Nat.zero_le _) (by omega) dX4_drive_157 ?_
        rw [show (if (((G.de (op k)) + ((G.de k) / 2) : Nat) : Int) < 999 then (((G.de (op k)) + ((G.de k) / 2) : Nat) : Int) else 999) = (((min 999 ((G.de (op k)) + ((G.de k) / 2))) : Nat) : Int) by split <;> omega]
        refine asD_de (k0 := op k) (x := (min 999 ((G.de (op k)) + ((G.de k) / 2)))) X hC (by omega) (by omega) (by omega) dX4_drive_160 (fun H locs hC => ?_)
        have hC : aH A (dAdr A) (DW A (mkG G.tu G.st G.sm G.mi G.pr (up G.de (op k) (min 999 ((G.de (op k)) + ((G.de k) / 2)))) (if dSt G r k then up G.sa k 1 else G.sa) G.nn G.rr G.vn G.vc (if dSt G r k then G.vs - G.mi r else G.vs) G.vw (if dSt G r k then up G.tt 1 (G.tt 1 + (iI (G.mi r : Int)).toInt64) else G.tt)) Z) s H locs := hC
        refine lv_aload_n hx hb dX4_drive_161 rfl (lv_at hl 0 rfl) ?_
        refine agX4_depths X hC iX4 (by decide +kernel) dX4_drive_162 ?_
        refine lv_iload_n hx hb dX4_drive_165 rfl (lv_at hl 1 rfl) ?_
        refine li_c hx hb dX4_drive_166 ?_
        refine asD_de (k0 := k) (x := 0) X hC (by omega) (by omega) (by omega) dX4_drive_167 (fun H locs hC => ?_)
        have hC : aH A (dAdr A) (DW A (mkG G.tu G.st G.sm G.mi G.pr (up (up G.de (op k) (min 999 ((G.de (op k)) + ((G.de k) / 2)))) k 0) (if dSt G r k then up G.sa k 1 else G.sa) G.nn G.rr G.vn G.vc (if dSt G r k then G.vs - G.mi r else G.vs) G.vw (if dSt G r k then up G.tt 1 (G.tt 1 + (iI (G.mi r : Int)).toInt64) else G.tt)) Z) s H locs := hC
        refine lv_aload_n hx hb dX4_drive_168 rfl (lv_at hl 0 rfl) ?_
        refine lv_aload_n hx hb dX4_drive_169 rfl (lv_at hl 0 rfl) ?_
        refine lv_iload_n hx hb dX4_drive_170 rfl (lv_at hl 1 rfl) ?_
        refine d_callix (v := ((G.sm (op k) : Nat) : Int)) (n := 1) (As := [.int (iI (k : Int))]) (rest := [.ref (A.a 0)]) X hC (mX4_head l A (mkG G.tu G.st G.sm G.mi G.pr (up (up G.de (op k) (min 999 ((G.de (op k)) + ((G.de k) / 2)))) k 0) (if dSt G r k then up G.sa k 1 else G.sa) G.nn G.rr G.vn G.vc (if dSt G r k then G.vs - G.mi r else G.vs) G.vw (if dSt G r k then up G.tt 1 (G.tt 1 + (iI (G.mi r : Int)).toInt64) else G.tt)) Z k (show k < 24 by omega)) ⟨gX4_drive_X4_head, ⟨_, rfl⟩, rfl, rfl, ⟨by decide, by decide, by decide +kernel⟩, Nat.le_of_ble_eq_true rfl, Nat.le_of_ble_eq_true rfl⟩ (a_recv (y := yX4_head) X hC.1 (ci := 4) (q0 := 0) rfl rfl rfl) rfl hl.1 rfl (Nat.le_of_ble_eq_true rfl) ⟨Nat.le_of_ble_eq_true rfl, Nat.le_of_ble_eq_true rfl⟩ dX4_drive_171 (fun H locs hC => ?_)
        refine apX4_at X hC iX4 (by decide +kernel) dX4_drive_174 (x := G.sm (op k)) (by omega) (fun H locs hC => ?_)
        have hC : aH A (dAdr A) (DW A (mkG G.tu G.st G.sm G.mi G.pr (up (up G.de (op k) (min 999 ((G.de (op k)) + ((G.de k) / 2)))) k 0) (if dSt G r k then up G.sa k 1 else G.sa) G.nn G.rr (G.sm (op k)) G.vc (if dSt G r k then G.vs - G.mi r else G.vs) G.vw (if dSt G r k then up G.tt 1 (G.tt 1 + (iI (G.mi r : Int)).toInt64) else G.tt)) Z) s H locs := hC
        refine lv_aload_n hx hb dX4_drive_177 rfl (lv_at hl 0 rfl) ?_
        refine lv_iload_n hx hb dX4_drive_178 rfl (lv_at hl 4 rfl) ?_
        refine apX4_came X hC iX4 (by decide +kernel) dX4_drive_179 rfl (fun H locs hC => ?_)
        have hC : aH A (dAdr A) (DW A (mkG G.tu G.st G.sm G.mi G.pr (up (up G.de (op k) (min 999 ((G.de (op k)) + ((G.de k) / 2)))) k 0) (if dSt G r k then up G.sa k 1 else G.sa) G.nn G.rr (G.sm (op k)) (r : Int) (if dSt G r k then G.vs - G.mi r else G.vs) G.vw (if dSt G r k then up G.tt 1 (G.tt 1 + (iI (G.mi r : Int)).toInt64) else G.tt)) Z) s H locs := hC
        refine lv_aload_n hx hb dX4_drive_182 rfl (lv_at hl 0 rfl) ?_
        refine agX4_totals X hC iX4 (by decide +kernel) dX4_drive_183 ?_
        refine li_c hx hb dX4_drive_186 ?_
        refine lv_dup2_11 hx hb dX4_drive_187 rfl rfl ?_
        refine alD_tt (k0 := 0) (v := (if dSt G r k then up G.tt 1 (G.tt 1 + (iI (G.mi r : Int)).toInt64) else G.tt) 0) X hC (by omega) (by omega) rfl dX4_drive_188 ?_
        refine lv_iload hx hb dX4_drive_189 (lv_at hl 3 rfl) ?_
        refine lv_i2l hx hb dX4_drive_191 rfl ?_
        refine lv_ladd hx hb dX4_drive_192 ?_
        refine asD_tt (k0 := 0) X hC (by omega) (by omega) dX4_drive_193 (fun H locs hC => ?_)
        have hC : aH A (dAdr A) (DW A (mkG G.tu G.st G.sm G.mi G.pr (up (up G.de (op k) (min 999 ((G.de (op k)) + ((G.de k) / 2)))) k 0) (if dSt G r k then up G.sa k 1 else G.sa) G.nn G.rr (G.sm (op k)) (r : Int) (if dSt G r k then G.vs - G.mi r else G.vs) G.vw (up (if dSt G r k then up G.tt 1 (G.tt 1 + (iI (G.mi r : Int)).toInt64) else G.tt) 0 ((if dSt G r k then up G.tt 1 (G.tt 1 + (iI (G.mi r : Int)).toInt64) else G.tt) 0 + (iI (dMin G r k)).toInt64))) Z) s H locs := hC
        refine lv_aload_n hx hb dX4_drive_194 rfl (lv_at hl 0 rfl) ?_
        refine agX4_totals X hC iX4 (by decide +kernel) dX4_drive_195 ?_
        refine li_c hx hb dX4_drive_198 ?_
        refine lv_dup2_11 hx hb dX4_drive_199 rfl rfl ?_
        refine alD_tt (k0 := 2) (v := (up (if dSt G r k then up G.tt 1 (G.tt 1 + (iI (G.mi r : Int)).toInt64) else G.tt) 0 ((if dSt G r k then up G.tt 1 (G.tt 1 + (iI (G.mi r : Int)).toInt64) else G.tt) 0 + (iI (dMin G r k)).toInt64)) 2) X hC (by omega) (by omega) rfl dX4_drive_200 ?_
        refine lv_iload_n hx hb dX4_drive_201 rfl (lv_at hl 2 rfl) ?_
        refine li_if_eq (tgt := 209) hx hb dX4_drive_202 (by decide) (by omega) (fun c_202 => ?_) (fun c_202 => ?_)
        · exact absurd c_202 (by decide)
        · refine lv_lconst (v := 1) hx hb dX4_drive_205 rfl ?_
          refine lv_goto (tgt := 210) hx hb dX4_drive_206 (by decide) ?_
          refine lv_ladd hx hb dX4_drive_210 ?_
          refine asD_tt (k0 := 2) X hC (by omega) (by omega) dX4_drive_211 (fun H locs hC => ?_)
          have hC : aH A (dAdr A) (DW A (mkG G.tu G.st G.sm G.mi G.pr (up (up G.de (op k) (min 999 ((G.de (op k)) + ((G.de k) / 2)))) k 0) (if dSt G r k then up G.sa k 1 else G.sa) G.nn G.rr (G.sm (op k)) (r : Int) (if dSt G r k then G.vs - G.mi r else G.vs) G.vw (up (up (if dSt G r k then up G.tt 1 (G.tt 1 + (iI (G.mi r : Int)).toInt64) else G.tt) 0 ((if dSt G r k then up G.tt 1 (G.tt 1 + (iI (G.mi r : Int)).toInt64) else G.tt) 0 + (iI (dMin G r k)).toInt64)) 2 ((up (if dSt G r k then up G.tt 1 (G.tt 1 + (iI (G.mi r : Int)).toInt64) else G.tt) 0 ((if dSt G r k then up G.tt 1 (G.tt 1 + (iI (G.mi r : Int)).toInt64) else G.tt) 0 + (iI (dMin G r k)).toInt64)) 2 + 1))) Z) s H locs := hC
          refine lv_aload_n hx hb dX4_drive_212 rfl (lv_at hl 0 rfl) ?_
          refine agX4_totals X hC iX4 (by decide +kernel) dX4_drive_213 ?_
          refine li_c hx hb dX4_drive_216 ?_
          refine lv_dup2_11 hx hb dX4_drive_217 rfl rfl ?_
          refine alD_tt (k0 := 3) (v := (up (up (if dSt G r k then up G.tt 1 (G.tt 1 + (iI (G.mi r : Int)).toInt64) else G.tt) 0 ((if dSt G r k then up G.tt 1 (G.tt 1 + (iI (G.mi r : Int)).toInt64) else G.tt) 0 + (iI (dMin G r k)).toInt64)) 2 ((up (if dSt G r k then up G.tt 1 (G.tt 1 + (iI (G.mi r : Int)).toInt64) else G.tt) 0 ((if dSt G r k then up G.tt 1 (G.tt 1 + (iI (G.mi r : Int)).toInt64) else G.tt) 0 + (iI (dMin G r k)).toInt64)) 2 + 1)) 3) X hC (by omega) (by omega) rfl dX4_drive_218 ?_
          refine lv_lconst (v := 1) hx hb dX4_drive_219 rfl ?_
          refine lv_ladd hx hb dX4_drive_220 ?_
          refine asD_tt (k0 := 3) X hC (by omega) (by omega) dX4_drive_221 (fun H locs hC => ?_)
          have hC : aH A (dAdr A) (DW A (mkG G.tu G.st G.sm G.mi G.pr (up (up G.de (op k) (min 999 ((G.de (op k)) + ((G.de k) / 2)))) k 0) (if dSt G r k then up G.sa k 1 else G.sa) G.nn G.rr (G.sm (op k)) (r : Int) (if dSt G r k then G.vs - G.mi r else G.vs) G.vw (up (up (up (if dSt G r k then up G.tt 1 (G.tt 1 + (iI (G.mi r : Int)).toInt64) else G.tt) 0 ((if dSt G r k then up G.tt 1 (G.tt 1 + (iI (G.mi r : Int)).toInt64) else G.tt) 0 + (iI (dMin G r k)).toInt64)) 2 ((up (if dSt G r k then up G.tt 1 (G.tt 1 + (iI (G.mi r : Int)).toInt64) else G.tt) 0 ((if dSt G r k then up G.tt 1 (G.tt 1 + (iI (G.mi r : Int)).toInt64) else G.tt) 0 + (iI (dMin G r k)).toInt64)) 2 + 1)) 3 ((up (up (if dSt G r k then up G.tt 1 (G.tt 1 + (iI (G.mi r : Int)).toInt64) else G.tt) 0 ((if dSt G r k then up G.tt 1 (G.tt 1 + (iI (G.mi r : Int)).toInt64) else G.tt) 0 + (iI (dMin G r k)).toInt64)) 2 ((up (if dSt G r k then up G.tt 1 (G.tt 1 + (iI (G.mi r : Int)).toInt64) else G.tt) 0 ((if dSt G r k then up G.tt 1 (G.tt 1 + (iI (G.mi r : Int)).toInt64) else G.tt) 0 + (iI (dMin G r k)).toInt64)) 2 + 1)) 3 + 1))) Z) s H locs := hC
          refine lv_iload hx hb dX4_drive_222 (lv_at hl 3 rfl) ?_
          exact d_iret X hC hr hk (by refine ⟨rfl, ?_, rfl⟩; unfold drv; rw [← dTt_D G.tt (dSt G r k) ((r : Int) = G.vc) (G.mi r) (dMin G r k) _ (by first | (rw [if_pos (by omega)]; done) | (rw [if_neg (by omega)]; done))]; rfl) dX4_drive_224
      refine lv_aload_n hx hb dX4_drive_63 rfl (lv_at hl 3 rfl) ?_
      refine agX4_depths X hC iX4 (by decide +kernel) dX4_drive_64 ?_
      refine lv_iload_n hx hb dX4_drive_67 rfl (lv_at hl 2 rfl) ?_
      refine alD_de (k0 := k) (v := ((G.de k : Nat) : Int)) X hC (by omega) (by omega) rfl dX4_drive_68 ?_
      have hb25 := hI.de k
      refine li_if_le (tgt := 130) hx hb dX4_drive_69 (by decide) (by omega) (fun c_69 => ?_) (fun c_69 => ?_)
      · have hC : aH A (dAdr A) (DW A (mkG G.tu G.st G.sm G.mi G.pr G.de (if dSt G r k then up G.sa k 1 else G.sa) G.nn G.rr G.vn G.vc (if dSt G r k then G.vs - G.mi r else G.vs) G.vw (if dSt G r k then up G.tt 1 (G.tt 1 + (iI (G.mi r : Int)).toInt64) else G.tt)) Z) s H locs := by rw [if_neg (fun hq : dSt G r k => by obtain ⟨h1, h2, h3⟩ := hq; omega), if_neg (fun hq : dSt G r k => by obtain ⟨h1, h2, h3⟩ := hq; omega), if_neg (fun hq : dSt G r k => by obtain ⟨h1, h2, h3⟩ := hq; omega)]; exact hC
        exact join_130   H locs hC ls (lv_sub hl [3, 2, 1, 0, 4] rfl)
      · refine lv_aload_n hx hb dX4_drive_72 rfl (lv_at hl 3 rfl) ?_
        refine agX4_strews X hC iX4 (by decide +kernel) dX4_drive_73 (v := (G.vw : Int)) rfl ?_
        refine li_if_eq (tgt := 130) hx hb dX4_drive_76 (by decide) (by omega) (fun c_76 => ?_) (fun c_76 => ?_)
        · have hC : aH A (dAdr A) (DW A (mkG G.tu G.st G.sm G.mi G.pr G.de (if dSt G r k then up G.sa k 1 else G.sa) G.nn G.rr G.vn G.vc (if dSt G r k then G.vs - G.mi r else G.vs) G.vw (if dSt G r k then up G.tt 1 (G.tt 1 + (iI (G.mi r : Int)).toInt64) else G.tt)) Z) s H locs := by rw [if_neg (fun hq : dSt G r k => by obtain ⟨h1, h2, h3⟩ := hq; omega), if_neg (fun hq : dSt G r k => by obtain ⟨h1, h2, h3⟩ := hq; omega), if_neg (fun hq : dSt G r k => by obtain ⟨h1, h2, h3⟩ := hq; omega)]; exact hC
          exact join_130   H locs hC ls (lv_sub hl [3, 2, 1, 0, 4] rfl)
        · refine lv_aload_n hx hb dX4_drive_79 rfl (lv_at hl 3 rfl) ?_
          refine agX4_salt X hC iX4 (by decide +kernel) dX4_drive_80 (v := (G.vs : Int)) rfl ?_
          refine lv_aload_n hx hb dX4_drive_83 rfl (lv_at hl 3 rfl) ?_
          refine agX4_lengths X hC iX4 (by decide +kernel) dX4_drive_84 ?_
          refine lv_iload_n hx hb dX4_drive_87 rfl (lv_at hl 4 rfl) ?_
          refine alD_mi (k0 := r) (v := ((G.mi r : Nat) : Int)) X hC (by omega) (by omega) rfl dX4_drive_88 ?_
          have hb26 := hI.mi r
          refine li_icmp_lt (tgt := 130) hx hb dX4_drive_89 (by decide) (by omega) (fun c_89 => ?_) (fun c_89 => ?_)
          · have hC : aH A (dAdr A) (DW A (mkG G.tu G.st G.sm G.mi G.pr G.de (if dSt G r k then up G.sa k 1 else G.sa) G.nn G.rr G.vn G.vc (if dSt G r k then G.vs - G.mi r else G.vs) G.vw (if dSt G r k then up G.tt 1 (G.tt 1 + (iI (G.mi r : Int)).toInt64) else G.tt)) Z) s H locs := by rw [if_neg (fun hq : dSt G r k => by obtain ⟨h1, h2, h3⟩ := hq; omega), if_neg (fun hq : dSt G r k => by obtain ⟨h1, h2, h3⟩ := hq; omega), if_neg (fun hq : dSt G r k => by obtain ⟨h1, h2, h3⟩ := hq; omega)]; exact hC
            exact join_130   H locs hC ls (lv_sub hl [3, 2, 1, 0, 4] rfl)
          · refine lv_aload_n hx hb dX4_drive_92 rfl (lv_at hl 3 rfl) ?_
            refine agX4_areSalted X hC iX4 (by decide +kernel) dX4_drive_93 ?_
            refine lv_iload_n hx hb dX4_drive_96 rfl (lv_at hl 2 rfl) ?_
            refine li_c hx hb dX4_drive_97 ?_
            refine asD_sa (k0 := k) (x := 1) X hC (by omega) (by omega) (by omega) (by omega) dX4_drive_98 (fun H locs hC => ?_)
            have hC : aH A (dAdr A) (DW A (mkG G.tu G.st G.sm G.mi G.pr G.de (up G.sa k 1) G.nn G.rr G.vn G.vc G.vs G.vw G.tt) Z) s H locs := hC
            refine lv_aload_n hx hb dX4_drive_99 rfl (lv_at hl 3 rfl) ?_
            refine lv_dup hx hb dX4_drive_100 rfl ?_
            refine agX4_salt X hC iX4 (by decide +kernel) dX4_drive_101 (v := (G.vs : Int)) rfl ?_
            refine lv_aload_n hx hb dX4_drive_104 rfl (lv_at hl 3 rfl) ?_
            refine agX4_lengths X hC iX4 (by decide +kernel) dX4_drive_105 ?_
            refine lv_iload_n hx hb dX4_drive_108 rfl (lv_at hl 4 rfl) ?_
            refine alD_mi (k0 := r) (v := ((G.mi r : Nat) : Int)) X hC (by omega) (by omega) rfl dX4_drive_109 ?_
            have hb27 := hI.mi r
            refine li_subN (x := G.vs) (y := G.mi r) hx hb dX4_drive_110 rfl rfl (by omega) ?_
            refine apX4_salt X hC iX4 (by decide +kernel) dX4_drive_111 (x := G.vs - (G.mi r)) (by omega) (fun H locs hC => ?_)
            have hC : aH A (dAdr A) (DW A (mkG G.tu G.st G.sm G.mi G.pr G.de (up G.sa k 1) G.nn G.rr G.vn G.vc (G.vs - (G.mi r)) G.vw G.tt) Z) s H locs := hC
            refine lv_aload_n hx hb dX4_drive_114 rfl (lv_at hl 3 rfl) ?_
            refine agX4_totals X hC iX4 (by decide +kernel) dX4_drive_115 ?_
            refine li_c hx hb dX4_drive_118 ?_
            refine lv_dup2_11 hx hb dX4_drive_119 rfl rfl ?_
            refine alD_tt (k0 := 1) (v := G.tt 1) X hC (by omega) (by omega) rfl dX4_drive_120 ?_
            refine lv_aload_n hx hb dX4_drive_121 rfl (lv_at hl 3 rfl) ?_
            refine agX4_lengths X hC iX4 (by decide +kernel) dX4_drive_122 ?_
            refine lv_iload_n hx hb dX4_drive_125 rfl (lv_at hl 4 rfl) ?_
            refine alD_mi (k0 := r) (v := ((G.mi r : Nat) : Int)) X hC (by omega) (by omega) rfl dX4_drive_126 ?_
            have hb28 := hI.mi r
            refine lv_i2l hx hb dX4_drive_127 rfl ?_
            refine lv_ladd hx hb dX4_drive_128 ?_
            refine asD_tt (k0 := 1) X hC (by omega) (by omega) dX4_drive_129 (fun H locs hC => ?_)
            have hC : aH A (dAdr A) (DW A (mkG G.tu G.st G.sm G.mi G.pr G.de (up G.sa k 1) G.nn G.rr G.vn G.vc (G.vs - (G.mi r)) G.vw (up G.tt 1 (G.tt 1 + (iI ((G.mi r : Nat) : Int)).toInt64))) Z) s H locs := hC
            have hC : aH A (dAdr A) (DW A (mkG G.tu G.st G.sm G.mi G.pr G.de (if dSt G r k then up G.sa k 1 else G.sa) G.nn G.rr G.vn G.vc (if dSt G r k then G.vs - G.mi r else G.vs) G.vw (if dSt G r k then up G.tt 1 (G.tt 1 + (iI (G.mi r : Int)).toInt64) else G.tt)) Z) s H locs := by rw [if_pos (show dSt G r k from ⟨by omega, by omega, by omega⟩), if_pos (show dSt G r k from ⟨by omega, by omega, by omega⟩), if_pos (show dSt G r k from ⟨by omega, by omega, by omega⟩)]; exact hC
            exact join_130   H locs hC ls (lv_sub hl [3, 2, 1, 0, 4] rfl)
