/-! 19: the reference: weights -/
set_option maxHeartbeats 4000000 in
set_option maxRecDepth 100000 in
theorem mX4_weightBy (l : Launch) (A : AD) (G : GS) (Z : ZS) (r : Nat) (v : Nat) (cb : Int) (hI : Inv G) (hrk : r < G.rr) (hv : v < G.nn) (hc : -1 ≤ cb ∧ cb < (G.rr : Int)) (hw : ∀ j, j < 104 → Z.wt j ≤ 1000000000) (hs : -1 ≤ Z.gs ∧ Z.gs < 24) : dMi l yX4_weightBy wsX4_weightBy ({ frames := 1, cells := 0, slots := 0, locals := 23 }) A [.ref (A.a 0), .int (iI (r : Int)), .int (iI (v : Int)), .int (iI cb)] G Z (xI (((wBy G Z.wt Z.gs r v cb : Nat) : Int)) G Z) := by
  intro sz
  refine c_start (cc := cX4_weightBy) (maxL := 6) (ret := (some .int)) (by decide) rfl rfl ?_
  intro p e s m args below meth c X hr hk hnm hsz ls hl H locs hC
  subst hsz
  obtain ⟨hx, hb, hml, hown, hts⟩ := id X.1
  have hl : lv_has ls 6 [(0, .ref (A.a 0)), (1, .int (iI (r : Int))), (2, .int (iI (v : Int))), (3, .int (iI cb))] := hl
  have iX4 : ∀ w ∈ u_ws RX4 TX4 18, w ∈ wsX4_weightBy := by decide +kernel
  have hrr := hI.rr
  have hnn := hI.nn
  have hso := sO_rng (v := v) (c := cb) hrk
  have hm := hI.mi r
  have hh := hI.sm (op (sO G r v cb).toNat)
  have hwl := (wI_lt hI (c := (r : Int)) hh (by omega) (by omega)).1
  have hwb := hw _ hwl
  refine lv_aload_n hx hb dX4_weightBy_0 rfl (lv_at hl 0 rfl) ?_
  refine lv_iload_n hx hb dX4_weightBy_1 rfl (lv_at hl 1 rfl) ?_
  refine lv_iload_n hx hb dX4_weightBy_2 rfl (lv_at hl 2 rfl) ?_
  refine lv_iload_n hx hb dX4_weightBy_3 rfl (lv_at hl 3 rfl) ?_
  refine d_callix (v := (sO G r v cb)) (n := 3) (As := [.int (iI (r : Int)), .int (iI (v : Int)), .int (iI cb)]) (rest := []) X hC (mX4_sideOf l A G Z r v cb hI (show r < G.rr by omega) (show v < G.nn by omega) (show -2147483648 ≤ cb ∧ cb < 2147483648 by omega)) ⟨gX4_weightBy_X4_sideOf, ⟨_, rfl⟩, rfl, rfl, ⟨by decide, by decide, by decide +kernel⟩, Nat.le_of_ble_eq_true rfl, Nat.le_of_ble_eq_true rfl⟩ (a_recv (y := yX4_sideOf) X hC.1 (ci := 4) (q0 := 0) rfl rfl rfl) rfl hl.1 rfl (Nat.le_of_ble_eq_true rfl) ⟨Nat.le_of_ble_eq_true rfl, Nat.le_of_ble_eq_true rfl⟩ dX4_weightBy_4 (fun H locs hC => ?_)
  refine lv_istore (lv' := [(4, .int (iI (sO G r v cb))), (0, .ref (A.a 0)), (1, .int (iI (r : Int))), (2, .int (iI (v : Int))), (3, .int (iI cb))]) hx hb dX4_weightBy_7 hl (by decide) rfl (fun ls hl => ?_)
  refine lv_iload hx hb dX4_weightBy_9 (lv_at hl 0 rfl) ?_
  refine li_c hx hb dX4_weightBy_11 ?_
  refine li_icmp_ne (tgt := 18) hx hb dX4_weightBy_12 (by decide) (by omega) (fun c_12 => ?_) (fun c_12 => ?_)
  · refine lv_iload hx hb dX4_weightBy_18 (lv_at hl 0 rfl) ?_
    refine lv_aload_n hx hb dX4_weightBy_20 rfl (lv_at hl 1 rfl) ?_
    refine agX4_goalSide X hC iX4 (by decide +kernel) dX4_weightBy_21 (v := Z.gs) rfl ?_
    refine li_icmp_ne (tgt := 31) hx hb dX4_weightBy_24 (by decide) (by omega) (fun c_24 => ?_) (fun c_24 => ?_)
    · refine lv_aload_n hx hb dX4_weightBy_31 rfl (lv_at hl 1 rfl) ?_
      refine lv_aload_n hx hb dX4_weightBy_32 rfl (lv_at hl 1 rfl) ?_
      refine lv_iload hx hb dX4_weightBy_33 (lv_at hl 0 rfl) ?_
      refine li_cast0 (z' := ((((sO G r v cb)).toNat : Nat) : Int)) hx hb (by omega) ?_
      refine d_callix (v := ((G.sm (op (((sO G r v cb)).toNat)) : Nat) : Int)) (n := 1) (As := [.int (iI ((((sO G r v cb)).toNat : Nat) : Int))]) (rest := [.ref (A.a 0)]) X hC (mX4_head l A G Z (((sO G r v cb)).toNat) (show (((sO G r v cb)).toNat) < 24 by omega)) ⟨gX4_weightBy_X4_head, ⟨_, rfl⟩, rfl, rfl, ⟨by decide, by decide, by decide +kernel⟩, Nat.le_of_ble_eq_true rfl, Nat.le_of_ble_eq_true rfl⟩ (a_recv (y := yX4_head) X hC.1 (ci := 4) (q0 := 0) rfl rfl rfl) rfl hl.1 rfl (Nat.le_of_ble_eq_true rfl) ⟨Nat.le_of_ble_eq_true rfl, Nat.le_of_ble_eq_true rfl⟩ dX4_weightBy_35 (fun H locs hC => ?_)
      refine lv_iload_n hx hb dX4_weightBy_38 rfl (lv_at hl 2 rfl) ?_
      refine d_callix (v := ((Z.wt (wI (G.sm (op (((sO G r v cb)).toNat))) (r : Int)) : Nat) : Int)) (n := 2) (As := [.int (iI ((G.sm (op (((sO G r v cb)).toNat)) : Nat) : Int)), .int (iI (r : Int))]) (rest := []) X hC (mX4_weightAt l A G Z (G.sm (op (((sO G r v cb)).toNat))) (r : Int) (show (G.sm (op (((sO G r v cb)).toNat))) < 8 by omega) (show -1 ≤ (r : Int) ∧ (r : Int) < 12 by omega)) ⟨gX4_weightBy_X4_weightAt, ⟨_, rfl⟩, rfl, rfl, ⟨by decide, by decide, by decide +kernel⟩, Nat.le_of_ble_eq_true rfl, Nat.le_of_ble_eq_true rfl⟩ (a_recv (y := yX4_weightAt) X hC.1 (ci := 4) (q0 := 0) rfl rfl rfl) rfl hl.1 rfl (Nat.le_of_ble_eq_true rfl) ⟨Nat.le_of_ble_eq_true rfl, Nat.le_of_ble_eq_true rfl⟩ dX4_weightBy_39 (fun H locs hC => ?_)
      refine lv_istore (lv' := [(5, .int (iI ((Z.wt (wI (G.sm (op (((sO G r v cb)).toNat))) (r : Int)) : Nat) : Int))), (4, .int (iI (sO G r v cb))), (0, .ref (A.a 0)), (1, .int (iI (r : Int))), (2, .int (iI (v : Int))), (3, .int (iI cb))]) hx hb dX4_weightBy_42 hl (by decide) rfl (fun ls hl => ?_)
      refine lv_iload hx hb dX4_weightBy_44 (lv_at hl 0 rfl) ?_
      refine li_ldc (v := 1000000000) (n := 1000000000) hx hb hown (hts _ (by decide +kernel)) (by decide) dX4_weightBy_46 ?_
      refine li_icmp_ne (tgt := 56) hx hb dX4_weightBy_48 (by decide) (by omega) (fun c_48 => ?_) (fun c_48 => ?_)
      · refine lv_iload hx hb dX4_weightBy_56 (lv_at hl 0 rfl) ?_
        refine li_si hx hb dX4_weightBy_58 (by decide) ?_
        refine lv_aload_n hx hb dX4_weightBy_61 rfl (lv_at hl 2 rfl) ?_
        refine agX4_lengths X hC iX4 (by decide +kernel) dX4_weightBy_62 ?_
        refine lv_iload_n hx hb dX4_weightBy_65 rfl (lv_at hl 3 rfl) ?_
        refine alD_mi (k0 := r) (v := ((G.mi r : Nat) : Int)) X hC (by omega) (by omega) rfl dX4_weightBy_66 ?_
        have hb1 := hI.mi r
        refine lv_aload_n hx hb dX4_weightBy_67 rfl (lv_at hl 2 rfl) ?_
        refine lv_iload_n hx hb dX4_weightBy_68 rfl (lv_at hl 3 rfl) ?_
        refine lv_iload_n hx hb dX4_weightBy_69 rfl (lv_at hl 5 rfl) ?_
        refine d_callix (v := (((if (r : Int) = cb then 2 else 0) : Nat) : Int)) (n := 2) (As := [.int (iI (r : Int)), .int (iI cb)]) (rest := [.int (iI ((G.mi r : Nat) : Int)), .int (iI 1000), .int (iI ((Z.wt (wI (G.sm (op (((sO G r v cb)).toNat))) (r : Int)) : Nat) : Int))]) X hC (mX4_turnTime l A G Z r cb (show r < 12 by omega) (show -2147483648 ≤ cb ∧ cb < 2147483648 by omega)) ⟨gX4_weightBy_X4_turnTime, ⟨_, rfl⟩, rfl, rfl, ⟨by decide, by decide, by decide +kernel⟩, Nat.le_of_ble_eq_true rfl, Nat.le_of_ble_eq_true rfl⟩ (a_recv (y := yX4_turnTime) X hC.1 (ci := 4) (q0 := 0) rfl rfl rfl) rfl hl.1 rfl (Nat.le_of_ble_eq_true rfl) ⟨Nat.le_of_ble_eq_true rfl, Nat.le_of_ble_eq_true rfl⟩ dX4_weightBy_70 (fun H locs hC => ?_)
        refine li_addN (x := G.mi r) (y := (if (r : Int) = cb then 2 else 0)) hx hb dX4_weightBy_73 rfl rfl ?_
        refine li_mulN (x := 1000) (y := (G.mi r) + (if (r : Int) = cb then 2 else 0)) hx hb dX4_weightBy_74 rfl rfl ?_
        refine li_addN (x := Z.wt (wI (G.sm (op (((sO G r v cb)).toNat))) (r : Int))) (y := 1000 * ((G.mi r) + (if (r : Int) = cb then 2 else 0))) hx hb dX4_weightBy_75 rfl rfl ?_
        refine li_c hx hb dX4_weightBy_76 ?_
        refine li_addN (x := (Z.wt (wI (G.sm (op (((sO G r v cb)).toNat))) (r : Int))) + (1000 * ((G.mi r) + (if (r : Int) = cb then 2 else 0)))) (y := 1) hx hb dX4_weightBy_77 rfl rfl ?_
        exact d_iret X hC hr hk (⟨by have hto : wTo G Z.wt Z.gs r (sO G r v cb) = Z.wt (wI (G.sm (op (((sO G r v cb)).toNat))) (r : Int)) := (by unfold wTo; first | (rw [if_pos (by omega)]; done) | (rw [if_neg (by omega)]; done)); unfold wBy; rw [if_neg (show ¬ sO G r v cb = -1 by omega), hto]; first | (rw [if_pos (show Z.wt (wI (G.sm (op (((sO G r v cb)).toNat))) (r : Int)) = 1000000000 by omega)]; done) | (rw [if_pos (show Z.wt (wI (G.sm (op (((sO G r v cb)).toNat))) (r : Int)) = 1000000000 by omega)]; rfl) | (rw [if_neg (show ¬ Z.wt (wI (G.sm (op (((sO G r v cb)).toNat))) (r : Int)) = 1000000000 by omega)]; done), rfl, rfl⟩) dX4_weightBy_78
      · refine li_ldc (v := 1000000000) (n := 1000000000) hx hb hown (hts _ (by decide +kernel)) (by decide) dX4_weightBy_51 ?_
        refine lv_goto (tgt := 78) hx hb dX4_weightBy_53 (by decide) ?_
        exact d_iret X hC hr hk (⟨by have hto : wTo G Z.wt Z.gs r (sO G r v cb) = Z.wt (wI (G.sm (op (((sO G r v cb)).toNat))) (r : Int)) := (by unfold wTo; first | (rw [if_pos (by omega)]; done) | (rw [if_neg (by omega)]; done)); unfold wBy; rw [if_neg (show ¬ sO G r v cb = -1 by omega), hto]; first | (rw [if_pos (show Z.wt (wI (G.sm (op (((sO G r v cb)).toNat))) (r : Int)) = 1000000000 by omega)]; done) | (rw [if_pos (show Z.wt (wI (G.sm (op (((sO G r v cb)).toNat))) (r : Int)) = 1000000000 by omega)]; rfl) | (rw [if_neg (show ¬ Z.wt (wI (G.sm (op (((sO G r v cb)).toNat))) (r : Int)) = 1000000000 by omega)]; done), rfl, rfl⟩) dX4_weightBy_78
    · refine li_c hx hb dX4_weightBy_27 ?_
      refine lv_goto (tgt := 42) hx hb dX4_weightBy_28 (by decide) ?_
      refine lv_istore (lv' := [(5, .int (iI 0)), (4, .int (iI (sO G r v cb))), (0, .ref (A.a 0)), (1, .int (iI (r : Int))), (2, .int (iI (v : Int))), (3, .int (iI cb))]) hx hb dX4_weightBy_42 hl (by decide) rfl (fun ls hl => ?_)
      refine lv_iload hx hb dX4_weightBy_44 (lv_at hl 0 rfl) ?_
      refine li_ldc (v := 1000000000) (n := 1000000000) hx hb hown (hts _ (by decide +kernel)) (by decide) dX4_weightBy_46 ?_
      refine li_icmp_ne (tgt := 56) hx hb dX4_weightBy_48 (by decide) (by omega) (fun c_48 => ?_) (fun c_48 => ?_)
      · refine lv_iload hx hb dX4_weightBy_56 (lv_at hl 0 rfl) ?_
        refine li_si hx hb dX4_weightBy_58 (by decide) ?_
        refine lv_aload_n hx hb dX4_weightBy_61 rfl (lv_at hl 2 rfl) ?_
        refine agX4_lengths X hC iX4 (by decide +kernel) dX4_weightBy_62 ?_
        refine lv_iload_n hx hb dX4_weightBy_65 rfl (lv_at hl 3 rfl) ?_
        refine alD_mi (k0 := r) (v := ((G.mi r : Nat) : Int)) X hC (by omega) (by omega) rfl dX4_weightBy_66 ?_
        have hb2 := hI.mi r
        refine lv_aload_n hx hb dX4_weightBy_67 rfl (lv_at hl 2 rfl) ?_
        refine lv_iload_n hx hb dX4_weightBy_68 rfl (lv_at hl 3 rfl) ?_
        refine lv_iload_n hx hb dX4_weightBy_69 rfl (lv_at hl 5 rfl) ?_
        refine d_callix (v := (((if (r : Int) = cb then 2 else 0) : Nat) : Int)) (n := 2) (As := [.int (iI (r : Int)), .int (iI cb)]) (rest := [.int (iI ((G.mi r : Nat) : Int)), .int (iI 1000), .int (iI 0)]) X hC (mX4_turnTime l A G Z r cb (show r < 12 by omega) (show -2147483648 ≤ cb ∧ cb < 2147483648 by omega)) ⟨gX4_weightBy_X4_turnTime, ⟨_, rfl⟩, rfl, rfl, ⟨by decide, by decide, by decide +kernel⟩, Nat.le_of_ble_eq_true rfl, Nat.le_of_ble_eq_true rfl⟩ (a_recv (y := yX4_turnTime) X hC.1 (ci := 4) (q0 := 0) rfl rfl rfl) rfl hl.1 rfl (Nat.le_of_ble_eq_true rfl) ⟨Nat.le_of_ble_eq_true rfl, Nat.le_of_ble_eq_true rfl⟩ dX4_weightBy_70 (fun H locs hC => ?_)
        refine li_addN (x := G.mi r) (y := (if (r : Int) = cb then 2 else 0)) hx hb dX4_weightBy_73 rfl rfl ?_
        refine li_mulN (x := 1000) (y := (G.mi r) + (if (r : Int) = cb then 2 else 0)) hx hb dX4_weightBy_74 rfl rfl ?_
        refine li_addN (x := 0) (y := 1000 * ((G.mi r) + (if (r : Int) = cb then 2 else 0))) hx hb dX4_weightBy_75 rfl rfl ?_
        refine li_c hx hb dX4_weightBy_76 ?_
        refine li_addN (x := 0 + (1000 * ((G.mi r) + (if (r : Int) = cb then 2 else 0)))) (y := 1) hx hb dX4_weightBy_77 rfl rfl ?_
        exact d_iret X hC hr hk (⟨by have hto : wTo G Z.wt Z.gs r (sO G r v cb) = 0 := (by unfold wTo; first | (rw [if_pos (by omega)]; done) | (rw [if_neg (by omega)]; done)); unfold wBy; rw [if_neg (show ¬ sO G r v cb = -1 by omega), hto]; first | (rw [if_pos (show 0 = 1000000000 by omega)]; done) | (rw [if_pos (show 0 = 1000000000 by omega)]; rfl) | (rw [if_neg (show ¬ 0 = 1000000000 by omega)]; done), rfl, rfl⟩) dX4_weightBy_78
      · exact absurd c_48 (by decide)
  · refine li_ldc (v := 1000000000) (n := 1000000000) hx hb hown (hts _ (by decide +kernel)) (by decide) dX4_weightBy_15 ?_
    exact d_iret X hC hr hk (⟨by unfold wBy; rw [if_pos (by omega)]; rfl, rfl, rfl⟩) dX4_weightBy_17

set_option maxHeartbeats 4000000 in
set_option maxRecDepth 100000 in
theorem mX4_minutesLeft (l : Launch) (A : AD) (G : GS) (Z : ZS) (hI : Inv G) (hw : ∀ j, j < 104 → Z.wt j ≤ 1000000000) : dMi l yX4_minutesLeft wsX4_minutesLeft ({ frames := 1, cells := 0, slots := 0, locals := 22 }) A [.ref (A.a 0)] G Z (xI ((mlf G Z.wt)) G Z) := by
  intro sz
  refine c_start (cc := cX4_minutesLeft) (maxL := 1) (ret := (some .int)) (by decide) rfl rfl ?_
  intro p e s m args below meth c X hr hk hnm hsz ls hl H locs hC
  subst hsz
  obtain ⟨hx, hb, hml, hown, hts⟩ := id X.1
  have hl : lv_has ls 1 [(0, .ref (A.a 0))] := hl
  have iX4 : ∀ w ∈ u_ws RX4 TX4 18, w ∈ wsX4_minutesLeft := by decide +kernel
  have hrr := hI.rr
  have hnn := hI.nn
  have hv := hI.vn
  have hc := hI.vc
  have hwl := (wI_lt hI hv hc.1 hc.2).1
  have hwb := hw _ hwl
  refine lv_aload_n hx hb dX4_minutesLeft_0 rfl (lv_at hl 0 rfl) ?_
  refine lv_aload_n hx hb dX4_minutesLeft_1 rfl (lv_at hl 0 rfl) ?_
  refine agX4_at X hC iX4 (by decide +kernel) dX4_minutesLeft_2 (v := (G.vn : Int)) rfl ?_
  refine lv_aload_n hx hb dX4_minutesLeft_5 rfl (lv_at hl 0 rfl) ?_
  refine agX4_came X hC iX4 (by decide +kernel) dX4_minutesLeft_6 (v := G.vc) rfl ?_
  refine d_callix (v := ((Z.wt (wI G.vn G.vc) : Nat) : Int)) (n := 2) (As := [.int (iI (G.vn : Int)), .int (iI G.vc)]) (rest := []) X hC (mX4_weightAt l A G Z G.vn G.vc (show G.vn < 8 by omega) (show -1 ≤ G.vc ∧ G.vc < 12 by omega)) ⟨gX4_minutesLeft_X4_weightAt, ⟨_, rfl⟩, rfl, rfl, ⟨by decide, by decide, by decide +kernel⟩, Nat.le_of_ble_eq_true rfl, Nat.le_of_ble_eq_true rfl⟩ (a_recv (y := yX4_weightAt) X hC.1 (ci := 4) (q0 := 0) rfl rfl rfl) rfl hl.1 rfl (Nat.le_of_ble_eq_true rfl) ⟨Nat.le_of_ble_eq_true rfl, Nat.le_of_ble_eq_true rfl⟩ dX4_minutesLeft_9 (fun H locs hC => ?_)
  refine li_ldc (v := 1000000000) (n := 1000000000) hx hb hown (hts _ (by decide +kernel)) (by decide) dX4_minutesLeft_12 ?_
  refine li_icmp_ne (tgt := 21) hx hb dX4_minutesLeft_14 (by decide) (by omega) (fun c_14 => ?_) (fun c_14 => ?_)
  · refine lv_aload_n hx hb dX4_minutesLeft_21 rfl (lv_at hl 0 rfl) ?_
    refine lv_aload_n hx hb dX4_minutesLeft_22 rfl (lv_at hl 0 rfl) ?_
    refine agX4_at X hC iX4 (by decide +kernel) dX4_minutesLeft_23 (v := (G.vn : Int)) rfl ?_
    refine lv_aload_n hx hb dX4_minutesLeft_26 rfl (lv_at hl 0 rfl) ?_
    refine agX4_came X hC iX4 (by decide +kernel) dX4_minutesLeft_27 (v := G.vc) rfl ?_
    refine d_callix (v := ((Z.wt (wI G.vn G.vc) : Nat) : Int)) (n := 2) (As := [.int (iI (G.vn : Int)), .int (iI G.vc)]) (rest := []) X hC (mX4_weightAt l A G Z G.vn G.vc (show G.vn < 8 by omega) (show -1 ≤ G.vc ∧ G.vc < 12 by omega)) ⟨gX4_minutesLeft_X4_weightAt, ⟨_, rfl⟩, rfl, rfl, ⟨by decide, by decide, by decide +kernel⟩, Nat.le_of_ble_eq_true rfl, Nat.le_of_ble_eq_true rfl⟩ (a_recv (y := yX4_weightAt) X hC.1 (ci := 4) (q0 := 0) rfl rfl rfl) rfl hl.1 rfl (Nat.le_of_ble_eq_true rfl) ⟨Nat.le_of_ble_eq_true rfl, Nat.le_of_ble_eq_true rfl⟩ dX4_minutesLeft_30 (fun H locs hC => ?_)
    refine li_si hx hb dX4_minutesLeft_33 (by decide) ?_
    refine li_divN (x := Z.wt (wI G.vn G.vc)) (y := 1000) hx hb dX4_minutesLeft_36 rfl rfl (by omega) ?_
    exact d_iret X hC hr hk (⟨by unfold mlf; first | (rw [if_pos (by omega)]; done) | (rw [if_neg (by omega)]; done), rfl, rfl⟩) dX4_minutesLeft_37
  · refine li_c hx hb dX4_minutesLeft_17 ?_
    refine lv_goto (tgt := 37) hx hb dX4_minutesLeft_18 (by decide) ?_
    exact d_iret X hC hr hk (⟨by unfold mlf; first | (rw [if_pos (by omega)]; done) | (rw [if_neg (by omega)]; done), rfl, rfl⟩) dX4_minutesLeft_37

set_option maxHeartbeats 4000000 in
set_option maxRecDepth 100000 in
theorem mX4_nextRoad (l : Launch) (A : AD) (G : GS) (Z : ZS) (rx : Nat) (hI : Inv G) (hw : ∀ j, j < 104 → Z.wt j ≤ 1000000000) (hs : -1 ≤ Z.gs ∧ Z.gs < 24) (hrx : Z.wt (wI G.vn G.vc) = 0 ∨ Z.wt (wI G.vn G.vc) = 1000000000 ∨ (rx < G.rr ∧ wBy G Z.wt Z.gs rx G.vn G.vc = Z.wt (wI G.vn G.vc) ∧ ∀ j, j < rx → wBy G Z.wt Z.gs j G.vn G.vc ≠ Z.wt (wI G.vn G.vc))) : dMi l yX4_nextRoad wsX4_nextRoad ({ frames := 2, cells := 0, slots := 0, locals := 48 }) A [.ref (A.a 0)] G Z (xI ((if Z.wt (wI G.vn G.vc) = 0 ∨ Z.wt (wI G.vn G.vc) = 1000000000 then -1 else (rx : Int))) G Z) := by
  intro sz
  refine c_start (cc := cX4_nextRoad) (maxL := 3) (ret := (some .int)) (by decide) rfl rfl ?_
  intro p e s m args below meth c X hr hk hnm hsz ls hl H locs hC
  subst hsz
  obtain ⟨hx, hb, hml, hown, hts⟩ := id X.1
  have hl : lv_has ls 3 [(0, .ref (A.a 0))] := hl
  have iX4 : ∀ w ∈ u_ws RX4 TX4 18, w ∈ wsX4_nextRoad := by decide +kernel
  have hrr := hI.rr
  have hnn := hI.nn
  have hv := hI.vn
  have hc := hI.vc
  have hwl := (wI_lt hI hv hc.1 hc.2).1
  have hwb := hw _ hwl
  refine lv_aload_n hx hb dX4_nextRoad_0 rfl (lv_at hl 0 rfl) ?_
  refine lv_aload_n hx hb dX4_nextRoad_1 rfl (lv_at hl 0 rfl) ?_
  refine agX4_at X hC iX4 (by decide +kernel) dX4_nextRoad_2 (v := (G.vn : Int)) rfl ?_
  refine lv_aload_n hx hb dX4_nextRoad_5 rfl (lv_at hl 0 rfl) ?_
  refine agX4_came X hC iX4 (by decide +kernel) dX4_nextRoad_6 (v := G.vc) rfl ?_
  refine d_callix (v := ((Z.wt (wI G.vn G.vc) : Nat) : Int)) (n := 2) (As := [.int (iI (G.vn : Int)), .int (iI G.vc)]) (rest := []) X hC (mX4_weightAt l A G Z G.vn G.vc (show G.vn < 8 by omega) (show -1 ≤ G.vc ∧ G.vc < 12 by omega)) ⟨gX4_nextRoad_X4_weightAt, ⟨_, rfl⟩, rfl, rfl, ⟨by decide, by decide, by decide +kernel⟩, Nat.le_of_ble_eq_true rfl, Nat.le_of_ble_eq_true rfl⟩ (a_recv (y := yX4_weightAt) X hC.1 (ci := 4) (q0 := 0) rfl rfl rfl) rfl hl.1 rfl (Nat.le_of_ble_eq_true rfl) ⟨Nat.le_of_ble_eq_true rfl, Nat.le_of_ble_eq_true rfl⟩ dX4_nextRoad_9 (fun H locs hC => ?_)
  refine lv_istore_n (lv' := [(1, .int (iI ((Z.wt (wI G.vn G.vc) : Nat) : Int))), (0, .ref (A.a 0))]) hx hb dX4_nextRoad_12 rfl hl (by decide) rfl (fun ls hl => ?_)
  refine lv_iload_n hx hb dX4_nextRoad_13 rfl (lv_at hl 0 rfl) ?_
  refine li_if_eq (tgt := 23) hx hb dX4_nextRoad_14 (by decide) (by omega) (fun c_14 => ?_) (fun c_14 => ?_)
  · refine li_c hx hb dX4_nextRoad_23 ?_
    exact d_iret X hC hr hk (⟨by rw [if_pos (by omega)], rfl, rfl⟩) dX4_nextRoad_24
  · refine lv_iload_n hx hb dX4_nextRoad_17 rfl (lv_at hl 0 rfl) ?_
    refine li_ldc (v := 1000000000) (n := 1000000000) hx hb hown (hts _ (by decide +kernel)) (by decide) dX4_nextRoad_18 ?_
    refine li_icmp_ne (tgt := 25) hx hb dX4_nextRoad_20 (by decide) (by omega) (fun c_20 => ?_) (fun c_20 => ?_)
    · have hr2 : rx < G.rr ∧ wBy G Z.wt Z.gs rx G.vn G.vc = Z.wt (wI G.vn G.vc) ∧ ∀ j, j < rx → wBy G Z.wt Z.gs j G.vn G.vc ≠ Z.wt (wI G.vn G.vc) := by rcases hrx with h | h | h; exact absurd h (by omega); exact absurd h (by omega); exact h
      obtain ⟨hr3, hr4, hr5⟩ := hr2
      refine li_c hx hb dX4_nextRoad_25 ?_
      refine lv_istore_n (lv' := [(2, .int (iI 0)), (1, .int (iI ((Z.wt (wI G.vn G.vc) : Nat) : Int))), (0, .ref (A.a 0))]) hx hb dX4_nextRoad_26 rfl hl (by decide) rfl (fun ls hl => ?_)
      have loop_27 : ∀ (n : Nat) (i : Nat) (hn : rx + 1 - i < n) (hi : i ≤ rx) (H : Heap) (locs : List Loc) (hC : aH A (dAdr A) (DW A G Z) s H locs) (ls : Array Slot) (hl : lv_has ls 3 [(2, .int (iI (i : Int))), (1, .int (iI ((Z.wt (wI G.vn G.vc) : Nat) : Int))), (0, .ref (A.a 0))]), W p l e ({ frames := 2, cells := 0, slots := 0, locals := 48 }) s m args below meth c H locs 0 0 (aQi below (dEnd A) (dAdr A) args s (xI ((if Z.wt (wI G.vn G.vc) = 0 ∨ Z.wt (wI G.vn G.vc) = 1000000000 then -1 else (rx : Int))) G Z)) (F0 m 27 ls []) := by
        intro n
        induction n with
        | zero => intro i hn; exact absurd hn (Nat.not_lt_zero _)
        | succ n ih_27 =>
          intro i hn hi H locs hC ls hl
          have hwbi := wBy_le9 hI hw (r := i) (v := G.vn) (c := G.vc) (gs := Z.gs)
          refine lv_aload_n hx hb dX4_nextRoad_27 rfl (lv_at hl 2 rfl) ?_
          refine lv_iload_n hx hb dX4_nextRoad_28 rfl (lv_at hl 0 rfl) ?_
          refine lv_aload_n hx hb dX4_nextRoad_29 rfl (lv_at hl 2 rfl) ?_
          refine agX4_at X hC iX4 (by decide +kernel) dX4_nextRoad_30 (v := (G.vn : Int)) rfl ?_
          refine lv_aload_n hx hb dX4_nextRoad_33 rfl (lv_at hl 2 rfl) ?_
          refine agX4_came X hC iX4 (by decide +kernel) dX4_nextRoad_34 (v := G.vc) rfl ?_
          refine d_callix (v := ((wBy G Z.wt Z.gs i G.vn G.vc : Nat) : Int)) (n := 3) (As := [.int (iI (i : Int)), .int (iI (G.vn : Int)), .int (iI G.vc)]) (rest := []) X hC (mX4_weightBy l A G Z i G.vn G.vc hI (show i < G.rr by omega) (show G.vn < G.nn by omega) (show -1 ≤ G.vc ∧ G.vc < (G.rr : Int) by omega) (show ∀ j, j < 104 → Z.wt j ≤ 1000000000 by omega) (show -1 ≤ Z.gs ∧ Z.gs < 24 by omega)) ⟨gX4_nextRoad_X4_weightBy, ⟨_, rfl⟩, rfl, rfl, ⟨by decide, by decide, by decide +kernel⟩, Nat.le_of_ble_eq_true rfl, Nat.le_of_ble_eq_true rfl⟩ (a_recv (y := yX4_weightBy) X hC.1 (ci := 4) (q0 := 0) rfl rfl rfl) rfl hl.1 rfl (Nat.le_of_ble_eq_true rfl) ⟨Nat.le_of_ble_eq_true rfl, Nat.le_of_ble_eq_true rfl⟩ dX4_nextRoad_37 (fun H locs hC => ?_)
          refine lv_iload_n hx hb dX4_nextRoad_40 rfl (lv_at hl 1 rfl) ?_
          refine li_icmp_eq (tgt := 50) hx hb dX4_nextRoad_41 (by decide) (by omega) (fun c_41 => ?_) (fun c_41 => ?_)
          · refine lv_iload_n hx hb dX4_nextRoad_50 rfl (lv_at hl 0 rfl) ?_
            exact d_iret X hC hr hk (⟨by rw [if_neg (by omega)]; have : ¬ i < rx := fun q => hr5 i q (by omega); omega, rfl, rfl⟩) dX4_nextRoad_51
          · refine li_incN (lv' := [(2, .int (iI ((i + 1 : Nat) : Int))), (1, .int (iI ((Z.wt (wI G.vn G.vc) : Nat) : Int))), (0, .ref (A.a 0))]) (x := i) (d0 := 1) hx hb dX4_nextRoad_44 hl (k := 0) rfl rfl rfl (by decide) rfl (fun ls hl => ?_)
            refine lv_goto (tgt := 27) hx hb dX4_nextRoad_47 (by decide) ?_
            exact ih_27 (i + 1) (by have : i ≠ rx := fun q => c_41 (by rw [q, hr4]); omega) (Classical.byContradiction (fun q => c_41 (by rw [show i = rx by omega, hr4]))) H locs hC ls (lv_sub hl [0, 1, 2] rfl)
      exact loop_27 ((rx + 1) + 1) 0 (Nat.lt_succ_self _) (by omega) H locs hC ls (lv_sub hl [0, 1, 2] rfl)
    · refine li_c hx hb dX4_nextRoad_23 ?_
      exact d_iret X hC hr hk (⟨by rw [if_pos (by omega)], rfl, rfl⟩) dX4_nextRoad_24

set_option maxHeartbeats 4000000 in
set_option maxRecDepth 100000 in
theorem mX4_weigh (l : Launch) (A : AD) (G : GS) (Z : ZS) (gz : Int) (k : Int) (hI : Inv G) (hn8 : -1 ≤ gz ∧ gz < 8) (hk24 : -1 ≤ k ∧ k < 24) : dMv l yX4_weigh wsX4_weigh ({ frames := 2, cells := 0, slots := 0, locals := 48 }) A [.ref (A.a 0), .int (iI gz), .int (iI k)] G Z ((fun g9 t9 => g9 = G ∧ (t9.th = Z.th) ∧ (t9.gn = gz) ∧ (t9.gs = k) ∧ (WOK G gz k t9.wt))) := by
  intro sz
  refine c_start (cc := cX4_weigh) (maxL := 8) (ret := none) (by decide) rfl rfl ?_
  intro p e s m args below meth c X hr hk hnm hsz ls hl H locs hC
  subst hsz
  obtain ⟨hx, hb, hml, hown, hts⟩ := id X.1
  have hl : lv_has ls 8 [(0, .ref (A.a 0)), (1, .int (iI gz)), (2, .int (iI k))] := hl
  have iX4 : ∀ w ∈ u_ws RX4 TX4 18, w ∈ wsX4_weigh := by decide +kernel
  have hrr := hI.rr
  have hnn := hI.nn
  refine lv_aload_n hx hb dX4_weigh_0 rfl (lv_at hl 0 rfl) ?_
  refine lv_iload_n hx hb dX4_weigh_1 rfl (lv_at hl 1 rfl) ?_
  refine apX4_goalNode X hC iX4 (by decide +kernel) dX4_weigh_2 rfl (fun H locs hC => ?_)
  have hC : aH A (dAdr A) (DW A G (mkZ Z.th Z.wt gz Z.gs)) s H locs := hC
  refine lv_aload_n hx hb dX4_weigh_5 rfl (lv_at hl 0 rfl) ?_
  refine lv_iload_n hx hb dX4_weigh_6 rfl (lv_at hl 2 rfl) ?_
  refine apX4_goalSide X hC iX4 (by decide +kernel) dX4_weigh_7 rfl (fun H locs hC => ?_)
  have hC : aH A (dAdr A) (DW A G (mkZ Z.th Z.wt gz k)) s H locs := hC
  refine li_c hx hb dX4_weigh_10 ?_
  refine lv_istore_n (lv' := [(3, .int (iI 0)), (0, .ref (A.a 0)), (1, .int (iI gz)), (2, .int (iI k))]) hx hb dX4_weigh_11 rfl hl (by decide) rfl (fun ls hl => ?_)
  have loop_12 : ∀ (n : Nat) (i : Nat) (hn : 104 - i < n) (hi : i ≤ 104) (H : Heap) (locs : List Loc) (hC : aH A (dAdr A) (DW A G (mkZ Z.th (wIni gz Z.wt i) gz k)) s H locs) (ls : Array Slot) (hl : lv_has ls 8 [(3, .int (iI (i : Int))), (0, .ref (A.a 0))]), W p l e ({ frames := 2, cells := 0, slots := 0, locals := 48 }) s m args below meth c H locs 0 0 (aQv below (dEnd A) (dAdr A) args s ((fun g9 t9 => g9 = G ∧ (t9.th = Z.th) ∧ (t9.gn = gz) ∧ (t9.gs = k) ∧ (WOK G gz k t9.wt)))) (F0 m 12 ls []) := by
    intro n
    induction n with
    | zero => intro i hn; exact absurd hn (Nat.not_lt_zero _)
    | succ n ih_12 =>
      intro i hn hi H locs hC ls hl
      refine lv_iload_n hx hb dX4_weigh_12 rfl (lv_at hl 0 rfl) ?_
      refine lv_aload_n hx hb dX4_weigh_13 rfl (lv_at hl 1 rfl) ?_
      refine agX4_weights X hC iX4 (by decide +kernel) dX4_weigh_14 ?_
      refine anD_wt X hC dX4_weigh_17 ?_
      refine li_icmp_ge (tgt := 50) hx hb dX4_weigh_18 (by decide) (by omega) (fun c_18 => ?_) (fun c_18 => ?_)
      · refine li_c hx hb dX4_weigh_50 ?_
        refine lv_istore_n (lv' := [(3, .int (iI 1)), (0, .ref (A.a 0))]) hx hb dX4_weigh_51 rfl hl (by decide) rfl (fun ls hl => ?_)
        have loop_52 : ∀ (n : Nat) (f9 : Nat → Nat) (im : Nat) (hn : 2 * wSum f9 104 + im < n) (hS : wS G gz k f9) (h01 : im ≤ 1) (hF : im = 0 → ∀ v c, v < G.nn → -1 ≤ c → c < (G.rr : Int) → wFx G k f9 v c) (H : Heap) (locs : List Loc) (hC : aH A (dAdr A) (DW A G (mkZ Z.th f9 gz k)) s H locs) (ls : Array Slot) (hl : lv_has ls 8 [(3, .int (iI (im : Int))), (0, .ref (A.a 0))]), W p l e ({ frames := 2, cells := 0, slots := 0, locals := 48 }) s m args below meth c H locs 0 0 (aQv below (dEnd A) (dAdr A) args s ((fun g9 t9 => g9 = G ∧ (t9.th = Z.th) ∧ (t9.gn = gz) ∧ (t9.gs = k) ∧ (WOK G gz k t9.wt)))) (F0 m 52 ls []) := by
          intro n
          induction n with
          | zero => intro f9 im hn; exact absurd hn (Nat.not_lt_zero _)
          | succ n ih_52 =>
            intro f9 im hn hS h01 hF H locs hC ls hl
            refine lv_iload_n hx hb dX4_weigh_52 rfl (lv_at hl 0 rfl) ?_
            refine li_if_eq (tgt := 162) hx hb dX4_weigh_53 (by decide) (by omega) (fun c_53 => ?_) (fun c_53 => ?_)
            · exact d_vret X hC hr hk (⟨rfl, rfl, rfl, rfl, hS, hF (by omega)⟩) dX4_weigh_162
            · refine li_c hx hb dX4_weigh_56 ?_
              refine lv_istore_n (lv' := [(3, .int (iI 0)), (0, .ref (A.a 0))]) hx hb dX4_weigh_57 rfl hl (by decide) rfl (fun ls hl => ?_)
              refine li_c hx hb dX4_weigh_58 ?_
              refine lv_istore (lv' := [(4, .int (iI 0)), (3, .int (iI 0)), (0, .ref (A.a 0))]) hx hb dX4_weigh_59 hl (by decide) rfl (fun ls hl => ?_)
              have loop_61 : ∀ (n : Nat) (f1 : Nat → Nat) (im1 : Nat) (i1 : Nat) (hn : G.nn - i1 < n) (hS1 : wS G gz k f1) (hdec : 2 * wSum f1 104 + im1 < 2 * wSum f9 104 + im) (h011 : im1 ≤ 1) (hi1 : i1 ≤ G.nn) (hF1 : im1 = 0 → ∀ v c, v < i1 → -1 ≤ c → c < (G.rr : Int) → wFx G k f1 v c) (H : Heap) (locs : List Loc) (hC : aH A (dAdr A) (DW A G (mkZ Z.th f1 gz k)) s H locs) (ls : Array Slot) (hl : lv_has ls 8 [(3, .int (iI (im1 : Int))), (4, .int (iI (i1 : Int))), (0, .ref (A.a 0))]), W p l e ({ frames := 2, cells := 0, slots := 0, locals := 48 }) s m args below meth c H locs 0 0 (aQv below (dEnd A) (dAdr A) args s ((fun g9 t9 => g9 = G ∧ (t9.th = Z.th) ∧ (t9.gn = gz) ∧ (t9.gs = k) ∧ (WOK G gz k t9.wt)))) (F0 m 61 ls []) := by
                intro n
                induction n with
                | zero => intro f1 im1 i1 hn; exact absurd hn (Nat.not_lt_zero _)
                | succ n ih_61 =>
                  intro f1 im1 i1 hn hS1 hdec h011 hi1 hF1 H locs hC ls hl
                  refine lv_iload hx hb dX4_weigh_61 (lv_at hl 1 rfl) ?_
                  refine lv_aload_n hx hb dX4_weigh_63 rfl (lv_at hl 2 rfl) ?_
                  refine agX4_nodes X hC iX4 (by decide +kernel) dX4_weigh_64 (v := (G.nn : Int)) rfl ?_
                  refine li_icmp_ge (tgt := 159) hx hb dX4_weigh_67 (by decide) (by omega) (fun c_67 => ?_) (fun c_67 => ?_)
                  · refine lv_goto (tgt := 52) hx hb dX4_weigh_159 (by decide) ?_
                    exact ih_52 f1 im1 (by omega) (hS1) (by omega) (fun h v c hv h1 h2 => hF1 h v c (by omega) h1 h2) H locs hC ls (lv_sub hl [0, 2] rfl)
                  · refine li_c hx hb dX4_weigh_70 ?_
                    refine lv_istore (lv' := [(5, .int (iI (-1))), (3, .int (iI (im1 : Int))), (4, .int (iI (i1 : Int))), (0, .ref (A.a 0))]) hx hb dX4_weigh_71 hl (by decide) rfl (fun ls hl => ?_)
                    have loop_73 : ∀ (n : Nat) (f2 : Nat → Nat) (im2 : Nat) (q : Int) (hn : (((G.rr : Int) - q).toNat) < n) (hS2 : wS G gz k f2) (hdec2 : 2 * wSum f2 104 + im2 < 2 * wSum f9 104 + im) (h012 : im2 ≤ 1) (hq1 : -1 ≤ q) (hq2 : q ≤ (G.rr : Int)) (hF2 : im2 = 0 → ∀ v c, -1 ≤ c → c < (G.rr : Int) → (v < i1 ∨ (v = i1 ∧ c < q)) → wFx G k f2 v c) (H : Heap) (locs : List Loc) (hC : aH A (dAdr A) (DW A G (mkZ Z.th f2 gz k)) s H locs) (ls : Array Slot) (hl : lv_has ls 8 [(3, .int (iI (im2 : Int))), (4, .int (iI (i1 : Int))), (5, .int (iI q)), (0, .ref (A.a 0))]), W p l e ({ frames := 2, cells := 0, slots := 0, locals := 48 }) s m args below meth c H locs 0 0 (aQv below (dEnd A) (dAdr A) args s ((fun g9 t9 => g9 = G ∧ (t9.th = Z.th) ∧ (t9.gn = gz) ∧ (t9.gs = k) ∧ (WOK G gz k t9.wt)))) (F0 m 73 ls []) := by
                      intro n
                      induction n with
                      | zero => intro f2 im2 q hn; exact absurd hn (Nat.not_lt_zero _)
                      | succ n ih_73 =>
                        intro f2 im2 q hn hS2 hdec2 h012 hq1 hq2 hF2 H locs hC ls hl
                        refine lv_iload hx hb dX4_weigh_73 (lv_at hl 2 rfl) ?_
                        refine lv_aload_n hx hb dX4_weigh_75 rfl (lv_at hl 3 rfl) ?_
                        refine agX4_roads X hC iX4 (by decide +kernel) dX4_weigh_76 (v := (G.rr : Int)) rfl ?_
                        refine li_icmp_ge (tgt := 153) hx hb dX4_weigh_79 (by decide) (by omega) (fun c_79 => ?_) (fun c_79 => ?_)
                        · refine li_incN (lv' := [(4, .int (iI ((i1 + 1 : Nat) : Int))), (3, .int (iI (im2 : Int))), (5, .int (iI q)), (0, .ref (A.a 0))]) (x := i1) (d0 := 1) hx hb dX4_weigh_153 hl (k := 1) rfl rfl rfl (by decide) rfl (fun ls hl => ?_)
                          refine lv_goto (tgt := 61) hx hb dX4_weigh_156 (by decide) ?_
                          exact ih_61 f2 im2 (i1 + 1) (by omega) (hS2) (by omega) (by omega) (by omega) (fun h v c hv h1 h2 => hF2 h v c h1 h2 (by omega)) H locs hC ls (lv_sub hl [1, 0, 3] rfl)
                        · refine li_c hx hb dX4_weigh_82 ?_
                          refine lv_istore (lv' := [(6, .int (iI 0)), (3, .int (iI (im2 : Int))), (4, .int (iI (i1 : Int))), (5, .int (iI q)), (0, .ref (A.a 0))]) hx hb dX4_weigh_83 hl (by decide) rfl (fun ls hl => ?_)
                          have loop_85 : ∀ (n : Nat) (f3 : Nat → Nat) (im3 : Nat) (r : Nat) (hn : G.rr - r < n) (hS3 : wS G gz k f3) (hdec3 : 2 * wSum f3 104 + im3 < 2 * wSum f9 104 + im) (h013 : im3 ≤ 1) (hr3 : r ≤ G.rr) (hF3 : im3 = 0 → ∀ v c r9, -1 ≤ c → c < (G.rr : Int) → r9 < G.rr → (v < i1 ∨ (v = i1 ∧ (c < q ∨ (c = q ∧ r9 < r)))) → f3 (wI v c) ≤ wBy G f3 k r9 v c) (H : Heap) (locs : List Loc) (hC : aH A (dAdr A) (DW A G (mkZ Z.th f3 gz k)) s H locs) (ls : Array Slot) (hl : lv_has ls 8 [(3, .int (iI (im3 : Int))), (4, .int (iI (i1 : Int))), (5, .int (iI q)), (6, .int (iI (r : Int))), (0, .ref (A.a 0))]), W p l e ({ frames := 2, cells := 0, slots := 0, locals := 48 }) s m args below meth c H locs 0 0 (aQv below (dEnd A) (dAdr A) args s ((fun g9 t9 => g9 = G ∧ (t9.th = Z.th) ∧ (t9.gn = gz) ∧ (t9.gs = k) ∧ (WOK G gz k t9.wt)))) (F0 m 85 ls []) := by
                            intro n
                            induction n with
                            | zero => intro f3 im3 r hn; exact absurd hn (Nat.not_lt_zero _)
                            | succ n ih_85 =>
                              intro f3 im3 r hn hS3 hdec3 h013 hr3 hF3 H locs hC ls hl
                              have hwb9 := wBy_le9 hI hS3.1 (r := r) (v := i1) (c := q) (gs := k)
                              refine lv_iload hx hb dX4_weigh_85 (lv_at hl 3 rfl) ?_
                              refine lv_aload_n hx hb dX4_weigh_87 rfl (lv_at hl 4 rfl) ?_
                              refine agX4_roads X hC iX4 (by decide +kernel) dX4_weigh_88 (v := (G.rr : Int)) rfl ?_
                              refine li_icmp_ge (tgt := 147) hx hb dX4_weigh_91 (by decide) (by omega) (fun c_91 => ?_) (fun c_91 => ?_)
                              · refine li_inc (lv' := [(5, .int (iI (q + 1))), (3, .int (iI (im3 : Int))), (4, .int (iI (i1 : Int))), (6, .int (iI (r : Int))), (0, .ref (A.a 0))]) hx hb dX4_weigh_147 hl (k := 2) rfl rfl (by decide) rfl (fun ls hl => ?_)
                                refine lv_goto (tgt := 73) hx hb dX4_weigh_150 (by decide) ?_
                                exact ih_73 f3 im3 (q + 1) (by omega) (hS3) (by omega) (by omega) (by omega) (by omega) (fun h v c h1 h2 h3 r hr9 => hF3 h v c r h1 h2 hr9 (by omega)) H locs hC ls (lv_sub hl [1, 2, 0, 4] rfl)
                              · obtain ⟨hwl9, hwd9⟩ := wI_lt hI (v := i1) (c := q) (by omega) hq1 (by omega)
                                have hwb8 := hS3.1 _ hwl9
                                refine lv_aload_n hx hb dX4_weigh_94 rfl (lv_at hl 4 rfl) ?_
                                refine lv_iload hx hb dX4_weigh_95 (lv_at hl 3 rfl) ?_
                                refine lv_iload hx hb dX4_weigh_97 (lv_at hl 1 rfl) ?_
                                refine lv_iload hx hb dX4_weigh_99 (lv_at hl 2 rfl) ?_
                                refine d_callix (v := ((wBy G f3 k r i1 q : Nat) : Int)) (n := 3) (As := [.int (iI (r : Int)), .int (iI (i1 : Int)), .int (iI q)]) (rest := []) X hC (mX4_weightBy l A G (mkZ Z.th f3 gz k) r i1 q hI (show r < G.rr by omega) (show i1 < G.nn by omega) (show -1 ≤ q ∧ q < (G.rr : Int) by omega) (show ∀ j, j < 104 → f3 j ≤ 1000000000 from hS3.1) (show -1 ≤ k ∧ k < 24 by omega)) ⟨gX4_weigh_X4_weightBy, ⟨_, rfl⟩, rfl, rfl, ⟨by decide, by decide, by decide +kernel⟩, Nat.le_of_ble_eq_true rfl, Nat.le_of_ble_eq_true rfl⟩ (a_recv (y := yX4_weightBy) X hC.1 (ci := 4) (q0 := 0) rfl rfl rfl) rfl hl.1 rfl (Nat.le_of_ble_eq_true rfl) ⟨Nat.le_of_ble_eq_true rfl, Nat.le_of_ble_eq_true rfl⟩ dX4_weigh_101 (fun H locs hC => ?_)
                                refine lv_istore (lv' := [(7, .int (iI ((wBy G f3 k r i1 q : Nat) : Int))), (3, .int (iI (im3 : Int))), (4, .int (iI (i1 : Int))), (5, .int (iI q)), (6, .int (iI (r : Int))), (0, .ref (A.a 0))]) hx hb dX4_weigh_104 hl (by decide) rfl (fun ls hl => ?_)
                                refine lv_iload hx hb dX4_weigh_106 (lv_at hl 0 rfl) ?_
                                refine lv_aload_n hx hb dX4_weigh_108 rfl (lv_at hl 5 rfl) ?_
                                refine lv_iload hx hb dX4_weigh_109 (lv_at hl 2 rfl) ?_
                                refine lv_iload hx hb dX4_weigh_111 (lv_at hl 3 rfl) ?_
                                refine d_callix (v := ((f3 (wI i1 q) : Nat) : Int)) (n := 2) (As := [.int (iI (i1 : Int)), .int (iI q)]) (rest := [.int (iI ((wBy G f3 k r i1 q : Nat) : Int))]) X hC (mX4_weightAt l A G (mkZ Z.th f3 gz k) i1 q (show i1 < 8 by omega) (show -1 ≤ q ∧ q < 12 by omega)) ⟨gX4_weigh_X4_weightAt, ⟨_, rfl⟩, rfl, rfl, ⟨by decide, by decide, by decide +kernel⟩, Nat.le_of_ble_eq_true rfl, Nat.le_of_ble_eq_true rfl⟩ (a_recv (y := yX4_weightAt) X hC.1 (ci := 4) (q0 := 0) rfl rfl rfl) rfl hl.1 rfl (Nat.le_of_ble_eq_true rfl) ⟨Nat.le_of_ble_eq_true rfl, Nat.le_of_ble_eq_true rfl⟩ dX4_weigh_113 (fun H locs hC => ?_)
                                refine li_icmp_lt (tgt := 122) hx hb dX4_weigh_116 (by decide) (by omega) (fun c_116 => ?_) (fun c_116 => ?_)
                                · have hS4 := wS_up hI (by omega) hS3 (r := r) (v := i1) (c := q) (by omega) (by omega) hq1 (by omega) (by omega)
                                  have hsu : wSum (up f3 ((((((13 * i1 : Nat) : Int) + q) + 1)).toNat) (wBy G f3 k r i1 q)) 104 < wSum f3 104 := (wSum_up (f := f3) (k := wI i1 q) (x := wBy G f3 k r i1 q) (by omega) 104).1 hwl9
                                  refine lv_aload_n hx hb dX4_weigh_122 rfl (lv_at hl 5 rfl) ?_
                                  refine agX4_weights X hC iX4 (by decide +kernel) dX4_weigh_123 ?_
                                  refine li_bi hx hb dX4_weigh_126 (by decide) ?_
                                  refine lv_iload hx hb dX4_weigh_128 (lv_at hl 2 rfl) ?_
                                  refine li_mulN (x := 13) (y := i1) hx hb dX4_weigh_130 rfl rfl ?_
                                  refine lv_iload hx hb dX4_weigh_131 (lv_at hl 3 rfl) ?_
                                  refine li_add hx hb dX4_weigh_133 ?_
                                  refine li_c hx hb dX4_weigh_134 ?_
                                  refine li_add hx hb dX4_weigh_135 ?_
                                  refine lv_iload hx hb dX4_weigh_136 (lv_at hl 0 rfl) ?_
                                  refine asD_wt (k0 := (((((13 * i1 : Nat) : Int) + q) + 1)).toNat) (x := wBy G f3 k r i1 q) X hC (by omega) (by omega) (by omega) dX4_weigh_138 (fun H locs hC => ?_)
                                  have hC : aH A (dAdr A) (DW A G (mkZ Z.th (up f3 ((((((13 * i1 : Nat) : Int) + q) + 1)).toNat) (wBy G f3 k r i1 q)) gz k)) s H locs := hC
                                  refine li_c hx hb dX4_weigh_139 ?_
                                  refine lv_istore_n (lv' := [(3, .int (iI 1)), (7, .int (iI ((wBy G f3 k r i1 q : Nat) : Int))), (4, .int (iI (i1 : Int))), (5, .int (iI q)), (6, .int (iI (r : Int))), (0, .ref (A.a 0))]) hx hb dX4_weigh_140 rfl hl (by decide) rfl (fun ls hl => ?_)
                                  refine li_incN (lv' := [(6, .int (iI ((r + 1 : Nat) : Int))), (3, .int (iI 1)), (7, .int (iI ((wBy G f3 k r i1 q : Nat) : Int))), (4, .int (iI (i1 : Int))), (5, .int (iI q)), (0, .ref (A.a 0))]) (x := r) (d0 := 1) hx hb dX4_weigh_141 hl (k := 4) rfl rfl rfl (by decide) rfl (fun ls hl => ?_)
                                  refine lv_goto (tgt := 85) hx hb dX4_weigh_144 (by decide) ?_
                                  exact ih_85 (up f3 ((((((13 * i1 : Nat) : Int) + q) + 1)).toNat) (wBy G f3 k r i1 q)) 1 (r + 1) (by omega) (hS4) (by omega) (by omega) (by omega) (fun h => absurd h (by decide)) H locs hC ls (lv_sub hl [1, 3, 4, 0, 5] rfl)
                                · refine lv_goto (tgt := 141) hx hb dX4_weigh_119 (by decide) ?_
                                  refine li_incN (lv' := [(6, .int (iI ((r + 1 : Nat) : Int))), (7, .int (iI ((wBy G f3 k r i1 q : Nat) : Int))), (3, .int (iI (im3 : Int))), (4, .int (iI (i1 : Int))), (5, .int (iI q)), (0, .ref (A.a 0))]) (x := r) (d0 := 1) hx hb dX4_weigh_141 hl (k := 4) rfl rfl rfl (by decide) rfl (fun ls hl => ?_)
                                  refine lv_goto (tgt := 85) hx hb dX4_weigh_144 (by decide) ?_
                                  exact ih_85 f3 im3 (r + 1) (by omega) (hS3) (by omega) (by omega) (by omega) (fun h v c r9 h1 h2 hr9 h3 => by by_cases e : v = i1 ∧ c = q ∧ r9 = r; obtain ⟨rfl, rfl, rfl⟩ := e; omega; exact hF3 h v c r9 h1 h2 hr9 (by omega)) H locs hC ls (lv_sub hl [2, 3, 4, 0, 5] rfl)
                          exact loop_85 (G.rr + 1) f2 im2 0 (Nat.lt_succ_self _) (hS2) (by omega) (by omega) (by omega) (fun h v c r9 h1 h2 hr9 h3 => hF2 h v c h1 h2 (by omega) r9 hr9) H locs hC ls (lv_sub hl [1, 2, 3, 0, 4] rfl)
                    exact loop_73 (((((G.rr : Int) + 1)).toNat) + 1) f1 im1 (-1) (Nat.lt_succ_self _) (hS1) (by omega) (by omega) (by omega) (by omega) (fun h v c h1 h2 h3 => hF1 h v c (by omega) h1 h2) H locs hC ls (lv_sub hl [1, 2, 0, 3] rfl)
              exact loop_61 (G.nn + 1) f9 0 0 (Nat.lt_succ_self _) (hS) (by omega) (by omega) (by omega) (fun _ v c hv => absurd hv (Nat.not_lt_zero v)) H locs hC ls (lv_sub hl [1, 0, 2] rfl)
        exact loop_52 ((2 * wSum (wIni gz Z.wt i) 104 + 1) + 1) (wIni gz Z.wt i) 1 (Nat.lt_succ_self _) (by rw [show i = 104 by omega]; exact wIni_S hI _) (by omega) (by intro h; exact absurd h (by decide)) H locs hC ls (lv_sub hl [0, 1] rfl)
      · refine lv_aload_n hx hb dX4_weigh_21 rfl (lv_at hl 1 rfl) ?_
        refine agX4_weights X hC iX4 (by decide +kernel) dX4_weigh_22 ?_
        refine lv_iload_n hx hb dX4_weigh_25 rfl (lv_at hl 0 rfl) ?_
        refine lv_iload_n hx hb dX4_weigh_26 rfl (lv_at hl 0 rfl) ?_
        refine li_bi hx hb dX4_weigh_27 (by decide) ?_
        refine li_divN (x := i) (y := 13) hx hb dX4_weigh_29 rfl rfl (by omega) ?_
        refine lv_aload_n hx hb dX4_weigh_30 rfl (lv_at hl 1 rfl) ?_
        refine agX4_goalNode X hC iX4 (by decide +kernel) dX4_weigh_31 (v := gz) rfl ?_
        refine li_icmp_ne (tgt := 41) hx hb dX4_weigh_34 (by decide) (by omega) (fun c_34 => ?_) (fun c_34 => ?_)
        · refine li_ldc (v := 1000000000) (n := 1000000000) hx hb hown (hts _ (by decide +kernel)) (by decide) dX4_weigh_41 ?_
          refine asD_wt (k0 := i) (x := 1000000000) X hC (by omega) (by omega) (by omega) dX4_weigh_43 (fun H locs hC => ?_)
          have hC : aH A (dAdr A) (DW A G (mkZ Z.th (up (wIni gz Z.wt i) i 1000000000) gz k)) s H locs := hC
          refine li_incN (lv' := [(3, .int (iI ((i + 1 : Nat) : Int))), (0, .ref (A.a 0))]) (x := i) (d0 := 1) hx hb dX4_weigh_44 hl (k := 0) rfl rfl rfl (by decide) rfl (fun ls hl => ?_)
          refine lv_goto (tgt := 12) hx hb dX4_weigh_47 (by decide) ?_
          have e1 : (up (wIni gz Z.wt i) i 1000000000) = wIni gz Z.wt (i + 1) := by rw [← wIni_s]; first | rw [if_pos (by omega)] | rw [if_neg (by omega)]
          rw [e1] at hC
          exact ih_12 (i + 1) (by omega) (by omega) H locs hC ls (lv_sub hl [0, 1] rfl)
        · refine li_c hx hb dX4_weigh_37 ?_
          refine lv_goto (tgt := 43) hx hb dX4_weigh_38 (by decide) ?_
          refine asD_wt (k0 := i) (x := 0) X hC (by omega) (by omega) (by omega) dX4_weigh_43 (fun H locs hC => ?_)
          have hC : aH A (dAdr A) (DW A G (mkZ Z.th (up (wIni gz Z.wt i) i 0) gz k)) s H locs := hC
          refine li_incN (lv' := [(3, .int (iI ((i + 1 : Nat) : Int))), (0, .ref (A.a 0))]) (x := i) (d0 := 1) hx hb dX4_weigh_44 hl (k := 0) rfl rfl rfl (by decide) rfl (fun ls hl => ?_)
          refine lv_goto (tgt := 12) hx hb dX4_weigh_47 (by decide) ?_
          have e1 : (up (wIni gz Z.wt i) i 0) = wIni gz Z.wt (i + 1) := by rw [← wIni_s]; first | rw [if_pos (by omega)] | rw [if_neg (by omega)]
          rw [e1] at hC
          exact ih_12 (i + 1) (by omega) (by omega) H locs hC ls (lv_sub hl [0, 1] rfl)
  have hC : aH A (dAdr A) (DW A G (mkZ Z.th (wIni gz Z.wt 0) gz k)) s H locs := by rw [wIni_0]; exact hC
  exact loop_12 (104 + 1) 0 (Nat.lt_succ_self _) (by omega) H locs hC ls (lv_sub hl [0, 1] rfl)
