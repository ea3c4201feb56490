/-! 14: the planner: what may throw -/
set_option maxHeartbeats 4000000 in
set_option maxRecDepth 100000 in
theorem mX3_checkNode (l : Launch) (hl0 : l.stackTraces = false) (A : AD) (G : GS) (Y : YS) (z : Int) (hz : -2147483648 ≤ z ∧ z < 2147483648) (hn8 : G.nn ≤ 8) : cXv l yX3_checkNode wsX3_checkNode ({ frames := 6, cells := 1, slots := 6, locals := 82 }) A [.ref (A.a 0), .int (iI z)] G Y (xKV (if 0 ≤ z ∧ z < (G.nn : Int) then 0 else 1) G Y) (xK1 xIOE (if 0 ≤ z ∧ z < (G.nn : Int) then 0 else 1) G Y) 1 6 := by
  intro sz
  refine x_start (cc := cX3_checkNode) (maxL := 2) (ret := none) hl0 (by decide) rfl rfl ?_
  intro p e s m args below meth c XX hr hk hsz ls hl H locs hC
  have X := XX.1
  subst hsz
  obtain ⟨hx, hb, hml, hown, hts⟩ := id X.1
  have hl : lv_has ls 2 [(0, .ref (A.a 0)), (1, .int (iI z))] := hl
  have iX3 : ∀ w ∈ u_ws RX3 TX3 3, w ∈ wsX3_checkNode := by decide +kernel
  refine lv_aload_n hx hb dX3_checkNode_0 rfl (lv_at hl 0 rfl) ?_
  refine agX3_town X hC iX3 (by decide +kernel) dX3_checkNode_1 ?_
  refine lv_iload_n hx hb dX3_checkNode_4 rfl (lv_at hl 1 rfl) ?_
  refine c_callix (v := bP (0 ≤ z ∧ z < (G.nn : Int))) (n := 1) (As := [.int (iI z)]) (rest := []) X hC (mX0_hasNode l A G Y z (show -2147483648 ≤ z ∧ z < 2147483648 by omega) (show G.nn ≤ 12 by omega)) ⟨gX3_checkNode_X0_hasNode, ⟨_, rfl⟩, rfl, rfl, ⟨by decide, by decide, by decide +kernel⟩, Nat.le_of_ble_eq_true rfl, Nat.le_of_ble_eq_true rfl⟩ (a_recv (y := yX0_hasNode) X hC.1 (ci := 0) (q0 := 1) rfl rfl rfl) rfl hl.1 rfl (Nat.le_of_ble_eq_true rfl) ⟨Nat.le_of_ble_eq_true rfl, Nat.le_of_ble_eq_true rfl⟩ dX3_checkNode_5 (fun H locs hC => ?_)
  refine li_ifb_ne (tgt := 21) hx hb dX3_checkNode_8 (by decide) (fun c_8 => ?_) (fun c_8 => ?_)
  · exact x_vret XX hC hr hk ⟨Nat.le_of_ble_eq_true rfl, Nat.le_of_ble_eq_true rfl⟩ (⟨if_pos (by omega), rfl, rfl⟩) dX3_checkNode_21
  · exact x_throw (cls := xIOE) (text := "no such node") (ik := 101) (is := 197) (ic := 103) XX hC hk hl.1 (by decide +kernel) rfl (by decide +kernel) (by decide +kernel) (by decide +kernel) xw_3 xg_3 (by decide +kernel) dX3_checkNode_11 dX3_checkNode_14 dX3_checkNode_15 dX3_checkNode_17 dX3_checkNode_20 (Nat.le_of_ble_eq_true rfl) (Nat.le_of_ble_eq_true rfl) (Nat.le_of_ble_eq_true rfl) (Nat.le_of_ble_eq_true rfl) ⟨Nat.le_of_ble_eq_true rfl, Nat.le_of_ble_eq_true rfl⟩ (⟨⟨rfl, if_neg (by omega)⟩, rfl, rfl⟩)

set_option maxHeartbeats 4000000 in
set_option maxRecDepth 100000 in
theorem mX3_checkedSide (l : Launch) (hl0 : l.stackTraces = false) (A : AD) (G : GS) (Y : YS) (r : Int) (k : Int) (hr1 : -2147483648 ≤ r ∧ r < 2147483648) (hk1 : -2147483648 ≤ k ∧ k < 2147483648) (hr12 : G.rr ≤ 12) : cXi l yX3_checkedSide wsX3_checkedSide ({ frames := 6, cells := 1, slots := 6, locals := 82 }) A [.ref (A.a 0), .int (iI r), .int (iI k)] G Y (xKI (if (0 ≤ r ∧ r < (G.rr : Int)) ∧ (0 ≤ k ∧ k ≤ 1) then 0 else 1) ((2 * r + k)) G Y) (xK1 xIOE (if (0 ≤ r ∧ r < (G.rr : Int)) ∧ (0 ≤ k ∧ k ≤ 1) then 0 else 1) G Y) 1 6 := by
  intro sz
  refine x_start (cc := cX3_checkedSide) (maxL := 3) (ret := (some .int)) hl0 (by decide) rfl rfl ?_
  intro p e s m args below meth c XX hr hk hsz ls hl H locs hC
  have X := XX.1
  subst hsz
  obtain ⟨hx, hb, hml, hown, hts⟩ := id X.1
  have hl : lv_has ls 3 [(0, .ref (A.a 0)), (1, .int (iI r)), (2, .int (iI k))] := hl
  have iX3 : ∀ w ∈ u_ws RX3 TX3 3, w ∈ wsX3_checkedSide := by decide +kernel
  refine lv_aload_n hx hb dX3_checkedSide_0 rfl (lv_at hl 0 rfl) ?_
  refine agX3_town X hC iX3 (by decide +kernel) dX3_checkedSide_1 ?_
  refine lv_iload_n hx hb dX3_checkedSide_4 rfl (lv_at hl 1 rfl) ?_
  refine c_callix (v := bP (0 ≤ r ∧ r < (G.rr : Int))) (n := 1) (As := [.int (iI r)]) (rest := []) X hC (mX0_hasRoad l A G Y r (show -2147483648 ≤ r ∧ r < 2147483648 by omega) (show G.rr ≤ 12 by omega)) ⟨gX3_checkedSide_X0_hasRoad, ⟨_, rfl⟩, rfl, rfl, ⟨by decide, by decide, by decide +kernel⟩, Nat.le_of_ble_eq_true rfl, Nat.le_of_ble_eq_true rfl⟩ (a_recv (y := yX0_hasRoad) X hC.1 (ci := 0) (q0 := 1) rfl rfl rfl) rfl hl.1 rfl (Nat.le_of_ble_eq_true rfl) ⟨Nat.le_of_ble_eq_true rfl, Nat.le_of_ble_eq_true rfl⟩ dX3_checkedSide_5 (fun H locs hC => ?_)
  refine li_ifb_eq (tgt := 20) hx hb dX3_checkedSide_8 (by decide) (fun c_8 => ?_) (fun c_8 => ?_)
  · exact x_throw (cls := xIOE) (text := "no such side") (ik := 101) (is := 199) (ic := 103) XX hC hk hl.1 (by decide +kernel) rfl (by decide +kernel) (by decide +kernel) (by decide +kernel) xw_3 xg_3 (by decide +kernel) dX3_checkedSide_20 dX3_checkedSide_23 dX3_checkedSide_24 dX3_checkedSide_26 dX3_checkedSide_29 (Nat.le_of_ble_eq_true rfl) (Nat.le_of_ble_eq_true rfl) (Nat.le_of_ble_eq_true rfl) (Nat.le_of_ble_eq_true rfl) ⟨Nat.le_of_ble_eq_true rfl, Nat.le_of_ble_eq_true rfl⟩ (⟨⟨rfl, if_neg (by omega)⟩, rfl, rfl⟩)
  · refine lv_iload_n hx hb dX3_checkedSide_11 rfl (lv_at hl 2 rfl) ?_
    refine li_if_lt (tgt := 20) hx hb dX3_checkedSide_12 (by decide) (by omega) (fun c_12 => ?_) (fun c_12 => ?_)
    · exact x_throw (cls := xIOE) (text := "no such side") (ik := 101) (is := 199) (ic := 103) XX hC hk hl.1 (by decide +kernel) rfl (by decide +kernel) (by decide +kernel) (by decide +kernel) xw_3 xg_3 (by decide +kernel) dX3_checkedSide_20 dX3_checkedSide_23 dX3_checkedSide_24 dX3_checkedSide_26 dX3_checkedSide_29 (Nat.le_of_ble_eq_true rfl) (Nat.le_of_ble_eq_true rfl) (Nat.le_of_ble_eq_true rfl) (Nat.le_of_ble_eq_true rfl) ⟨Nat.le_of_ble_eq_true rfl, Nat.le_of_ble_eq_true rfl⟩ (⟨⟨rfl, if_neg (by omega)⟩, rfl, rfl⟩)
    · refine lv_iload_n hx hb dX3_checkedSide_15 rfl (lv_at hl 2 rfl) ?_
      refine li_c hx hb dX3_checkedSide_16 ?_
      refine li_icmp_le (tgt := 30) hx hb dX3_checkedSide_17 (by decide) (by omega) (fun c_17 => ?_) (fun c_17 => ?_)
      · refine li_c hx hb dX3_checkedSide_30 ?_
        refine lv_iload_n hx hb dX3_checkedSide_31 rfl (lv_at hl 1 rfl) ?_
        refine li_mul hx hb dX3_checkedSide_32 ?_
        refine lv_iload_n hx hb dX3_checkedSide_33 rfl (lv_at hl 2 rfl) ?_
        refine li_add hx hb dX3_checkedSide_34 ?_
        exact x_iret XX hC hr hk ⟨Nat.le_of_ble_eq_true rfl, Nat.le_of_ble_eq_true rfl⟩ (⟨if_pos (by omega), rfl, rfl, rfl⟩) dX3_checkedSide_35
      · exact x_throw (cls := xIOE) (text := "no such side") (ik := 101) (is := 199) (ic := 103) XX hC hk hl.1 (by decide +kernel) rfl (by decide +kernel) (by decide +kernel) (by decide +kernel) xw_3 xg_3 (by decide +kernel) dX3_checkedSide_20 dX3_checkedSide_23 dX3_checkedSide_24 dX3_checkedSide_26 dX3_checkedSide_29 (Nat.le_of_ble_eq_true rfl) (Nat.le_of_ble_eq_true rfl) (Nat.le_of_ble_eq_true rfl) (Nat.le_of_ble_eq_true rfl) ⟨Nat.le_of_ble_eq_true rfl, Nat.le_of_ble_eq_true rfl⟩ (⟨⟨rfl, if_neg (by omega)⟩, rfl, rfl⟩)

set_option maxHeartbeats 4000000 in
set_option maxRecDepth 100000 in
theorem mX3_checkFact (l : Launch) (hl0 : l.stackTraces = false) (A : AD) (G : GS) (Y : YS) (z : Int) (hz : -2147483648 ≤ z ∧ z < 2147483648) : cXv l yX3_checkFact wsX3_checkFact ({ frames := 6, cells := 1, slots := 6, locals := 82 }) A [.int (iI z)] G Y (xKV (if 0 ≤ z ∧ z ≤ 3 then 0 else 1) G Y) (xK1 xIOE (if 0 ≤ z ∧ z ≤ 3 then 0 else 1) G Y) 1 6 := by
  intro sz
  refine x_start (cc := cX3_checkFact) (maxL := 1) (ret := none) hl0 (by decide) rfl rfl ?_
  intro p e s m args below meth c XX hr hk hsz ls hl H locs hC
  have X := XX.1
  subst hsz
  obtain ⟨hx, hb, hml, hown, hts⟩ := id X.1
  have hl : lv_has ls 1 [(0, .int (iI z))] := hl
  refine lv_iload_n hx hb dX3_checkFact_0 rfl (lv_at hl 0 rfl) ?_
  refine li_if_lt (tgt := 9) hx hb dX3_checkFact_1 (by decide) (by omega) (fun c_1 => ?_) (fun c_1 => ?_)
  · exact x_throw (cls := xIOE) (text := "what is not 0 to 3") (ik := 101) (is := 201) (ic := 103) XX hC hk hl.1 (by decide +kernel) rfl (by decide +kernel) (by decide +kernel) (by decide +kernel) xw_3 xg_3 (by decide +kernel) dX3_checkFact_9 dX3_checkFact_12 dX3_checkFact_13 dX3_checkFact_15 dX3_checkFact_18 (Nat.le_of_ble_eq_true rfl) (Nat.le_of_ble_eq_true rfl) (Nat.le_of_ble_eq_true rfl) (Nat.le_of_ble_eq_true rfl) ⟨Nat.le_of_ble_eq_true rfl, Nat.le_of_ble_eq_true rfl⟩ (⟨⟨rfl, if_neg (by omega)⟩, rfl, rfl⟩)
  · refine lv_iload_n hx hb dX3_checkFact_4 rfl (lv_at hl 0 rfl) ?_
    refine li_c hx hb dX3_checkFact_5 ?_
    refine li_icmp_le (tgt := 19) hx hb dX3_checkFact_6 (by decide) (by omega) (fun c_6 => ?_) (fun c_6 => ?_)
    · exact x_vret XX hC hr hk ⟨Nat.le_of_ble_eq_true rfl, Nat.le_of_ble_eq_true rfl⟩ (⟨if_pos (by omega), rfl, rfl⟩) dX3_checkFact_19
    · exact x_throw (cls := xIOE) (text := "what is not 0 to 3") (ik := 101) (is := 201) (ic := 103) XX hC hk hl.1 (by decide +kernel) rfl (by decide +kernel) (by decide +kernel) (by decide +kernel) xw_3 xg_3 (by decide +kernel) dX3_checkFact_9 dX3_checkFact_12 dX3_checkFact_13 dX3_checkFact_15 dX3_checkFact_18 (Nat.le_of_ble_eq_true rfl) (Nat.le_of_ble_eq_true rfl) (Nat.le_of_ble_eq_true rfl) (Nat.le_of_ble_eq_true rfl) ⟨Nat.le_of_ble_eq_true rfl, Nat.le_of_ble_eq_true rfl⟩ (⟨⟨rfl, if_neg (by omega)⟩, rfl, rfl⟩)

set_option maxHeartbeats 4000000 in
set_option maxRecDepth 100000 in
theorem mX3_addNode (l : Launch) (hl0 : l.stackTraces = false) (A : AD) (G : GS) (Y : YS) (t : Nat) (u : Nat) (hn8 : G.nn ≤ 8) (ht : t ≤ 1) (hu : u ≤ 1) : cXi l yX3_addNode wsX3_addNode ({ frames := 6, cells := 1, slots := 6, locals := 82 }) A [.ref (A.a 0), .int (iI (t : Int)), .int (iI (u : Int))] G Y (xKI (if G.nn < 8 then 0 else 1) ((G.nn : Int)) (((G.tu' (up G.tu G.nn t)).st' (up G.st G.nn u)).nn' (G.nn + 1)) Y) (xK1 xISE (if G.nn < 8 then 0 else 1) G Y) 1 6 := by
  intro sz
  refine x_start (cc := cX3_addNode) (maxL := 3) (ret := (some .int)) hl0 (by decide) rfl rfl ?_
  intro p e s m args below meth c XX hr hk hsz ls hl H locs hC
  have X := XX.1
  subst hsz
  obtain ⟨hx, hb, hml, hown, hts⟩ := id X.1
  have hl : lv_has ls 3 [(0, .ref (A.a 0)), (1, .int (iI (t : Int))), (2, .int (iI (u : Int)))] := hl
  have iX3 : ∀ w ∈ u_ws RX3 TX3 3, w ∈ wsX3_addNode := by decide +kernel
  refine lv_aload_n hx hb dX3_addNode_0 rfl (lv_at hl 0 rfl) ?_
  refine agX3_town X hC iX3 (by decide +kernel) dX3_addNode_1 ?_
  refine c_callix (v := (G.nn : Int)) (n := 0) (As := []) (rest := []) X hC (mX0_nodeCount l A G Y) ⟨gX3_addNode_X0_nodeCount, ⟨_, rfl⟩, rfl, rfl, ⟨by decide, by decide, by decide +kernel⟩, Nat.le_of_ble_eq_true rfl, Nat.le_of_ble_eq_true rfl⟩ (a_recv (y := yX0_nodeCount) X hC.1 (ci := 0) (q0 := 1) rfl rfl rfl) rfl hl.1 rfl (Nat.le_of_ble_eq_true rfl) ⟨Nat.le_of_ble_eq_true rfl, Nat.le_of_ble_eq_true rfl⟩ dX3_addNode_4 (fun H locs hC => ?_)
  refine li_bi hx hb dX3_addNode_7 (by decide) ?_
  refine li_icmp_lt (tgt := 22) hx hb dX3_addNode_9 (by decide) (by omega) (fun c_9 => ?_) (fun c_9 => ?_)
  · refine lv_aload_n hx hb dX3_addNode_22 rfl (lv_at hl 0 rfl) ?_
    refine agX3_town X hC iX3 (by decide +kernel) dX3_addNode_23 ?_
    refine lv_iload_n hx hb dX3_addNode_26 rfl (lv_at hl 1 rfl) ?_
    refine lv_iload_n hx hb dX3_addNode_27 rfl (lv_at hl 2 rfl) ?_
    refine c_callix (v := (G.nn : Int)) (n := 2) (As := [.int (iI (t : Int)), .int (iI (u : Int))]) (rest := []) X hC (mX0_appendNode l A G Y t u (show G.nn < 8 by omega) (show t ≤ 1 by omega) (show u ≤ 1 by omega)) ⟨gX3_addNode_X0_appendNode, ⟨_, rfl⟩, rfl, rfl, ⟨by decide, by decide, by decide +kernel⟩, Nat.le_of_ble_eq_true rfl, Nat.le_of_ble_eq_true rfl⟩ (a_recv (y := yX0_appendNode) X hC.1 (ci := 0) (q0 := 1) rfl rfl rfl) rfl hl.1 rfl (Nat.le_of_ble_eq_true rfl) ⟨Nat.le_of_ble_eq_true rfl, Nat.le_of_ble_eq_true rfl⟩ dX3_addNode_28 (fun H locs hC => ?_)
    have hC : aH A (cAdr A) (CW A (mkG (up G.tu G.nn t) (up G.st G.nn u) G.sm G.mi G.pr G.de G.sa (G.nn + 1) G.rr G.vn G.vc G.vs G.vw G.tt) Y) s H locs := hC
    exact x_iret XX hC hr hk ⟨Nat.le_of_ble_eq_true rfl, Nat.le_of_ble_eq_true rfl⟩ (⟨if_pos (by omega), rfl, rfl, rfl⟩) dX3_addNode_31
  · exact x_throw (cls := xISE) (text := "there are 8 nodes") (ik := 38) (is := 40) (ic := 42) XX hC hk hl.1 (by decide +kernel) rfl (by decide +kernel) (by decide +kernel) (by decide +kernel) xw_1 xg_1 (by decide +kernel) dX3_addNode_12 dX3_addNode_15 dX3_addNode_16 dX3_addNode_18 dX3_addNode_21 (Nat.le_of_ble_eq_true rfl) (Nat.le_of_ble_eq_true rfl) (Nat.le_of_ble_eq_true rfl) (Nat.le_of_ble_eq_true rfl) ⟨Nat.le_of_ble_eq_true rfl, Nat.le_of_ble_eq_true rfl⟩ (⟨⟨rfl, if_neg (by omega)⟩, rfl, rfl⟩)

set_option maxHeartbeats 4000000 in
set_option maxRecDepth 100000 in
theorem mX3_setNode (l : Launch) (hl0 : l.stackTraces = false) (A : AD) (G : GS) (Y : YS) (z : Int) (b : Nat) (x : Nat) (hI : Inv G) (hz : -2147483648 ≤ z ∧ z < 2147483648) (hb1 : b ≤ 1) (hx1 : x ≤ 1) : cXi l yX3_setNode wsX3_setNode ({ frames := 7, cells := 1, slots := 6, locals := 103 }) A [.ref (A.a 0), .int (iI z), .int (iI (b : Int)), .int (iI (x : Int))] G Y (xKI (if 0 ≤ z ∧ z < (G.nn : Int) then 0 else 1) ((if b ≠ 0 then ((G.st (z).toNat : Nat) : Int) else ((G.tu (z).toNat : Nat) : Int))) ((G.tu' (if b ≠ 0 then G.tu else up G.tu (z).toNat x)).st' (if b ≠ 0 then up G.st (z).toNat x else G.st)) Y) (xK1 xIOE (if 0 ≤ z ∧ z < (G.nn : Int) then 0 else 1) G Y) 1 6 := by
  intro sz
  refine x_start (cc := cX3_setNode) (maxL := 4) (ret := (some .boolean)) hl0 (by decide) rfl rfl ?_
  intro p e s m args below meth c XX hr hk hsz ls hl H locs hC
  have X := XX.1
  subst hsz
  obtain ⟨hx, hb, hml, hown, hts⟩ := id X.1
  have hl : lv_has ls 4 [(0, .ref (A.a 0)), (1, .int (iI z)), (2, .int (iI (b : Int))), (3, .int (iI (x : Int)))] := hl
  have iX3 : ∀ w ∈ u_ws RX3 TX3 3, w ∈ wsX3_setNode := by decide +kernel
  have hnn := hI.nn
  refine lv_aload_n hx hb dX3_setNode_0 rfl (lv_at hl 0 rfl) ?_
  refine lv_iload_n hx hb dX3_setNode_1 rfl (lv_at hl 1 rfl) ?_
  refine x_callv (n := 1) (As := [.int (iI z)]) (rest := []) XX hC (mX3_checkNode l hl0 A G Y z (show -2147483648 ≤ z ∧ z < 2147483648 by omega) (show G.nn ≤ 8 by omega)) ⟨gX3_setNode_X3_checkNode, ⟨_, rfl⟩, rfl, rfl, ⟨by decide, by decide, by decide +kernel⟩, Nat.le_of_ble_eq_true rfl, Nat.le_of_ble_eq_true rfl⟩ (a_recv (y := yX3_checkNode) X hC.1 (ci := 3) (q0 := 0) rfl rfl rfl) rfl hl.1 rfl (Nat.le_of_ble_eq_true rfl) ⟨Nat.le_of_ble_eq_true rfl, Nat.le_of_ble_eq_true rfl⟩ ⟨Nat.le_of_ble_eq_true rfl, Nat.le_of_ble_eq_true rfl⟩ hk (fun _ _ _ h => h) dX3_setNode_2 (fun Gq1 Tq1 H locs hqq1 hC => ?_)
  obtain ⟨hkq1, hgq1, htq1⟩ := hqq1
  rw [hgq1, htq1] at hC
  have hKq1 := k0_of hkq1
  obtain ⟨zn, hnzn⟩ : ∃ zn : Nat, z = (zn : Int) := ⟨z.toNat, by omega⟩
  subst hnzn
  have ht1 := hI.tu zn
  have hs1 := hI.st zn
  refine lv_iload_n hx hb dX3_setNode_5 rfl (lv_at hl 2 rfl) ?_
  refine li_if_eq (tgt := 19) hx hb dX3_setNode_6 (by decide) (by omega) (fun c_6 => ?_) (fun c_6 => ?_)
  · refine lv_aload_n hx hb dX3_setNode_19 rfl (lv_at hl 0 rfl) ?_
    refine agX3_town X hC iX3 (by decide +kernel) dX3_setNode_20 ?_
    refine lv_iload_n hx hb dX3_setNode_23 rfl (lv_at hl 1 rfl) ?_
    refine lv_iload_n hx hb dX3_setNode_24 rfl (lv_at hl 3 rfl) ?_
    refine c_callix (v := ((G.tu zn : Nat) : Int)) (n := 2) (As := [.int (iI (zn : Int)), .int (iI (x : Int))]) (rest := []) X hC (mX0_switchTurning l A G Y zn x (show zn < G.nn by omega) (show G.nn ≤ 8 by omega) (show G.tu zn ≤ 1 by omega) (show x ≤ 1 by omega)) ⟨gX3_setNode_X0_switchTurning, ⟨_, rfl⟩, rfl, rfl, ⟨by decide, by decide, by decide +kernel⟩, Nat.le_of_ble_eq_true rfl, Nat.le_of_ble_eq_true rfl⟩ (a_recv (y := yX0_switchTurning) X hC.1 (ci := 0) (q0 := 1) rfl rfl rfl) rfl hl.1 rfl (Nat.le_of_ble_eq_true rfl) ⟨Nat.le_of_ble_eq_true rfl, Nat.le_of_ble_eq_true rfl⟩ dX3_setNode_25 (fun H locs hC => ?_)
    have hC : aH A (cAdr A) (CW A (mkG (up G.tu zn x) G.st G.sm G.mi G.pr G.de G.sa G.nn G.rr G.vn G.vc G.vs G.vw G.tt) Y) s H locs := hC
    exact x_zret XX hC hr hk ⟨Nat.le_of_ble_eq_true rfl, Nat.le_of_ble_eq_true rfl⟩ (by omega) (⟨if_pos (by omega), by rw [if_neg (by omega)]; rfl, by rw [if_neg (by omega), if_neg (by omega)]; rfl, rfl⟩) dX3_setNode_28
  · refine lv_aload_n hx hb dX3_setNode_9 rfl (lv_at hl 0 rfl) ?_
    refine agX3_town X hC iX3 (by decide +kernel) dX3_setNode_10 ?_
    refine lv_iload_n hx hb dX3_setNode_13 rfl (lv_at hl 1 rfl) ?_
    refine lv_iload_n hx hb dX3_setNode_14 rfl (lv_at hl 3 rfl) ?_
    refine c_callix (v := ((G.st zn : Nat) : Int)) (n := 2) (As := [.int (iI (zn : Int)), .int (iI (x : Int))]) (rest := []) X hC (mX0_switchStore l A G Y zn x (show zn < G.nn by omega) (show G.nn ≤ 8 by omega) (show G.st zn ≤ 1 by omega) (show x ≤ 1 by omega)) ⟨gX3_setNode_X0_switchStore, ⟨_, rfl⟩, rfl, rfl, ⟨by decide, by decide, by decide +kernel⟩, Nat.le_of_ble_eq_true rfl, Nat.le_of_ble_eq_true rfl⟩ (a_recv (y := yX0_switchStore) X hC.1 (ci := 0) (q0 := 1) rfl rfl rfl) rfl hl.1 rfl (Nat.le_of_ble_eq_true rfl) ⟨Nat.le_of_ble_eq_true rfl, Nat.le_of_ble_eq_true rfl⟩ dX3_setNode_15 (fun H locs hC => ?_)
    have hC : aH A (cAdr A) (CW A (mkG G.tu (up G.st zn x) G.sm G.mi G.pr G.de G.sa G.nn G.rr G.vn G.vc G.vs G.vw G.tt) Y) s H locs := hC
    exact x_zret XX hC hr hk ⟨Nat.le_of_ble_eq_true rfl, Nat.le_of_ble_eq_true rfl⟩ (by omega) (⟨if_pos (by omega), by rw [if_pos (by omega)]; rfl, by rw [if_pos (by omega), if_pos (by omega)]; rfl, rfl⟩) dX3_setNode_18

set_option maxHeartbeats 4000000 in
set_option maxRecDepth 100000 in
theorem mX3_snow (l : Launch) (hl0 : l.stackTraces = false) (A : AD) (G : GS) (Y : YS) (z : Int) (hI : Inv G) (hz : -2147483648 ≤ z ∧ z < 2147483648) : cXi l yX3_snow wsX3_snow ({ frames := 6, cells := 1, slots := 6, locals := 82 }) A [.ref (A.a 0), .int (iI z)] G Y (xKI (if 1 ≤ z ∧ z ≤ 300 then 0 else 1) (((dmax (snD G (z).toNat (2 * G.rr)) (2 * G.rr) : Nat) : Int)) ((G.de' (snD G (z).toNat (2 * G.rr))).sa' (snS G (2 * G.rr))) Y) (xK1 xIAE (if 1 ≤ z ∧ z ≤ 300 then 0 else 1) G Y) 1 6 := by
  intro sz
  refine x_start (cc := cX3_snow) (maxL := 2) (ret := (some .int)) hl0 (by decide) rfl rfl ?_
  intro p e s m args below meth c XX hr hk hsz ls hl H locs hC
  have X := XX.1
  subst hsz
  obtain ⟨hx, hb, hml, hown, hts⟩ := id X.1
  have hl : lv_has ls 2 [(0, .ref (A.a 0)), (1, .int (iI z))] := hl
  have iX3 : ∀ w ∈ u_ws RX3 TX3 3, w ∈ wsX3_snow := by decide +kernel
  refine lv_iload_n hx hb dX3_snow_0 rfl (lv_at hl 1 rfl) ?_
  refine li_c hx hb dX3_snow_1 ?_
  refine li_icmp_lt (tgt := 12) hx hb dX3_snow_2 (by decide) (by omega) (fun c_2 => ?_) (fun c_2 => ?_)
  · exact x_throw (cls := xIAE) (text := "millimetres is not 1 to 300") (ik := 60) (is := 82) (ic := 64) XX hC hk hl.1 (by decide +kernel) rfl (by decide +kernel) (by decide +kernel) (by decide +kernel) xw_2 xg_2 (by decide +kernel) dX3_snow_12 dX3_snow_15 dX3_snow_16 dX3_snow_18 dX3_snow_21 (Nat.le_of_ble_eq_true rfl) (Nat.le_of_ble_eq_true rfl) (Nat.le_of_ble_eq_true rfl) (Nat.le_of_ble_eq_true rfl) ⟨Nat.le_of_ble_eq_true rfl, Nat.le_of_ble_eq_true rfl⟩ (⟨⟨rfl, if_neg (by omega)⟩, rfl, rfl⟩)
  · refine lv_iload_n hx hb dX3_snow_5 rfl (lv_at hl 1 rfl) ?_
    refine li_si hx hb dX3_snow_6 (by decide) ?_
    refine li_icmp_le (tgt := 22) hx hb dX3_snow_9 (by decide) (by omega) (fun c_9 => ?_) (fun c_9 => ?_)
    · obtain ⟨zn, hnzn⟩ : ∃ zn : Nat, z = (zn : Int) := ⟨z.toNat, by omega⟩
      subst hnzn
      refine lv_aload_n hx hb dX3_snow_22 rfl (lv_at hl 0 rfl) ?_
      refine agX3_town X hC iX3 (by decide +kernel) dX3_snow_23 ?_
      refine lv_iload_n hx hb dX3_snow_26 rfl (lv_at hl 1 rfl) ?_
      refine c_callvx (n := 1) (As := [.int (iI (zn : Int))]) (rest := []) X hC (mX0_letItSnow l A G Y zn hI (show zn ≤ 300 by omega)) ⟨gX3_snow_X0_letItSnow, ⟨_, rfl⟩, rfl, rfl, ⟨by decide, by decide, by decide +kernel⟩, Nat.le_of_ble_eq_true rfl, Nat.le_of_ble_eq_true rfl⟩ (a_recv (y := yX0_letItSnow) X hC.1 (ci := 0) (q0 := 1) rfl rfl rfl) rfl hl.1 rfl (Nat.le_of_ble_eq_true rfl) ⟨Nat.le_of_ble_eq_true rfl, Nat.le_of_ble_eq_true rfl⟩ dX3_snow_27 (fun H locs hC => ?_)
      have hC : aH A (cAdr A) (CW A (mkG G.tu G.st G.sm G.mi G.pr (snD G zn (2 * G.rr)) (snS G (2 * G.rr)) G.nn G.rr G.vn G.vc G.vs G.vw G.tt) Y) s H locs := hC
      refine lv_aload_n hx hb dX3_snow_30 rfl (lv_at hl 0 rfl) ?_
      refine agX3_town X hC iX3 (by decide +kernel) dX3_snow_31 ?_
      refine c_callix (v := ((dmax (snD G zn (2 * G.rr)) (2 * G.rr) : Nat) : Int)) (n := 0) (As := []) (rest := []) X hC (mX0_deepestSnow l A (mkG G.tu G.st G.sm G.mi G.pr (snD G zn (2 * G.rr)) (snS G (2 * G.rr)) G.nn G.rr G.vn G.vc G.vs G.vw G.tt) Y  (sn_Inv hI zn)) ⟨gX3_snow_X0_deepestSnow, ⟨_, rfl⟩, rfl, rfl, ⟨by decide, by decide, by decide +kernel⟩, Nat.le_of_ble_eq_true rfl, Nat.le_of_ble_eq_true rfl⟩ (a_recv (y := yX0_deepestSnow) X hC.1 (ci := 0) (q0 := 1) rfl rfl rfl) rfl hl.1 rfl (Nat.le_of_ble_eq_true rfl) ⟨Nat.le_of_ble_eq_true rfl, Nat.le_of_ble_eq_true rfl⟩ dX3_snow_34 (fun H locs hC => ?_)
      exact x_iret XX hC hr hk ⟨Nat.le_of_ble_eq_true rfl, Nat.le_of_ble_eq_true rfl⟩ (⟨if_pos (by omega), rfl, rfl, rfl⟩) dX3_snow_37
    · exact x_throw (cls := xIAE) (text := "millimetres is not 1 to 300") (ik := 60) (is := 82) (ic := 64) XX hC hk hl.1 (by decide +kernel) rfl (by decide +kernel) (by decide +kernel) (by decide +kernel) xw_2 xg_2 (by decide +kernel) dX3_snow_12 dX3_snow_15 dX3_snow_16 dX3_snow_18 dX3_snow_21 (Nat.le_of_ble_eq_true rfl) (Nat.le_of_ble_eq_true rfl) (Nat.le_of_ble_eq_true rfl) (Nat.le_of_ble_eq_true rfl) ⟨Nat.le_of_ble_eq_true rfl, Nat.le_of_ble_eq_true rfl⟩ (⟨⟨rfl, if_neg (by omega)⟩, rfl, rfl⟩)

set_option maxHeartbeats 4000000 in
set_option maxRecDepth 100000 in
theorem mX3_depth (l : Launch) (hl0 : l.stackTraces = false) (A : AD) (G : GS) (Y : YS) (r : Int) (k : Int) (hI : Inv G) (hr1 : -2147483648 ≤ r ∧ r < 2147483648) (hk1 : -2147483648 ≤ k ∧ k < 2147483648) : cXi l yX3_depth wsX3_depth ({ frames := 7, cells := 1, slots := 6, locals := 104 }) A [.ref (A.a 0), .int (iI r), .int (iI k)] G Y (xKI (if (0 ≤ r ∧ r < (G.rr : Int)) ∧ (0 ≤ k ∧ k ≤ 1) then 0 else 1) (((G.de (2 * r + k).toNat : Nat) : Int)) G Y) (xK1 xIOE (if (0 ≤ r ∧ r < (G.rr : Int)) ∧ (0 ≤ k ∧ k ≤ 1) then 0 else 1) G Y) 1 6 := by
  intro sz
  refine x_start (cc := cX3_depth) (maxL := 3) (ret := (some .int)) hl0 (by decide) rfl rfl ?_
  intro p e s m args below meth c XX hr hk hsz ls hl H locs hC
  have X := XX.1
  subst hsz
  obtain ⟨hx, hb, hml, hown, hts⟩ := id X.1
  have hl : lv_has ls 3 [(0, .ref (A.a 0)), (1, .int (iI r)), (2, .int (iI k))] := hl
  have iX3 : ∀ w ∈ u_ws RX3 TX3 3, w ∈ wsX3_depth := by decide +kernel
  have hrr := hI.rr
  refine lv_aload_n hx hb dX3_depth_0 rfl (lv_at hl 0 rfl) ?_
  refine agX3_town X hC iX3 (by decide +kernel) dX3_depth_1 ?_
  refine lv_aload_n hx hb dX3_depth_4 rfl (lv_at hl 0 rfl) ?_
  refine lv_iload_n hx hb dX3_depth_5 rfl (lv_at hl 1 rfl) ?_
  refine lv_iload_n hx hb dX3_depth_6 rfl (lv_at hl 2 rfl) ?_
  refine x_calli (n := 2) (As := [.int (iI r), .int (iI k)]) (rest := [.ref (A.a 1)]) XX hC (mX3_checkedSide l hl0 A G Y r k (show -2147483648 ≤ r ∧ r < 2147483648 by omega) (show -2147483648 ≤ k ∧ k < 2147483648 by omega) (show G.rr ≤ 12 by omega)) ⟨gX3_depth_X3_checkedSide, ⟨_, rfl⟩, rfl, rfl, ⟨by decide, by decide, by decide +kernel⟩, Nat.le_of_ble_eq_true rfl, Nat.le_of_ble_eq_true rfl⟩ (a_recv (y := yX3_checkedSide) X hC.1 (ci := 3) (q0 := 0) rfl rfl rfl) rfl hl.1 rfl (Nat.le_of_ble_eq_true rfl) ⟨Nat.le_of_ble_eq_true rfl, Nat.le_of_ble_eq_true rfl⟩ ⟨Nat.le_of_ble_eq_true rfl, Nat.le_of_ble_eq_true rfl⟩ hk (fun _ _ _ h => h) dX3_depth_7 (fun zq1 Gq1 Tq1 H locs hqq1 hC => ?_)
  obtain ⟨hkq1, hvq1, hgq1, htq1⟩ := hqq1
  rw [hgq1, htq1] at hC
  subst hvq1
  have hKq1 := k0_of hkq1
  refine li_cast0 (z' := ((((2 * r + k)).toNat : Nat) : Int)) hx hb (by omega) ?_
  refine c_callix (v := ((G.de (((2 * r + k)).toNat) : Nat) : Int)) (n := 1) (As := [.int (iI ((((2 * r + k)).toNat : Nat) : Int))]) (rest := []) X hC (mX0_snowOn l A G Y (((2 * r + k)).toNat) (show (((2 * r + k)).toNat) < 2 * G.rr by omega) (show G.rr ≤ 12 by omega)) ⟨gX3_depth_X0_snowOn, ⟨_, rfl⟩, rfl, rfl, ⟨by decide, by decide, by decide +kernel⟩, Nat.le_of_ble_eq_true rfl, Nat.le_of_ble_eq_true rfl⟩ (a_recv (y := yX0_snowOn) X hC.1 (ci := 0) (q0 := 1) rfl rfl rfl) rfl hl.1 rfl (Nat.le_of_ble_eq_true rfl) ⟨Nat.le_of_ble_eq_true rfl, Nat.le_of_ble_eq_true rfl⟩ dX3_depth_10 (fun H locs hC => ?_)
  exact x_iret XX hC hr hk ⟨Nat.le_of_ble_eq_true rfl, Nat.le_of_ble_eq_true rfl⟩ (⟨if_pos (by omega), rfl, rfl, rfl⟩) dX3_depth_13

set_option maxHeartbeats 4000000 in
set_option maxRecDepth 100000 in
theorem mX3_isSalted (l : Launch) (hl0 : l.stackTraces = false) (A : AD) (G : GS) (Y : YS) (r : Int) (k : Int) (hI : Inv G) (hr1 : -2147483648 ≤ r ∧ r < 2147483648) (hk1 : -2147483648 ≤ k ∧ k < 2147483648) : cXi l yX3_isSalted wsX3_isSalted ({ frames := 7, cells := 1, slots := 6, locals := 104 }) A [.ref (A.a 0), .int (iI r), .int (iI k)] G Y (xKI (if (0 ≤ r ∧ r < (G.rr : Int)) ∧ (0 ≤ k ∧ k ≤ 1) then 0 else 1) (((G.sa (2 * r + k).toNat : Nat) : Int)) G Y) (xK1 xIOE (if (0 ≤ r ∧ r < (G.rr : Int)) ∧ (0 ≤ k ∧ k ≤ 1) then 0 else 1) G Y) 1 6 := by
  intro sz
  refine x_start (cc := cX3_isSalted) (maxL := 3) (ret := (some .boolean)) hl0 (by decide) rfl rfl ?_
  intro p e s m args below meth c XX hr hk hsz ls hl H locs hC
  have X := XX.1
  subst hsz
  obtain ⟨hx, hb, hml, hown, hts⟩ := id X.1
  have hl : lv_has ls 3 [(0, .ref (A.a 0)), (1, .int (iI r)), (2, .int (iI k))] := hl
  have iX3 : ∀ w ∈ u_ws RX3 TX3 3, w ∈ wsX3_isSalted := by decide +kernel
  have hrr := hI.rr
  have hs1 := hI.sa (2 * r + k).toNat
  refine lv_aload_n hx hb dX3_isSalted_0 rfl (lv_at hl 0 rfl) ?_
  refine agX3_town X hC iX3 (by decide +kernel) dX3_isSalted_1 ?_
  refine lv_aload_n hx hb dX3_isSalted_4 rfl (lv_at hl 0 rfl) ?_
  refine lv_iload_n hx hb dX3_isSalted_5 rfl (lv_at hl 1 rfl) ?_
  refine lv_iload_n hx hb dX3_isSalted_6 rfl (lv_at hl 2 rfl) ?_
  refine x_calli (n := 2) (As := [.int (iI r), .int (iI k)]) (rest := [.ref (A.a 1)]) XX hC (mX3_checkedSide l hl0 A G Y r k (show -2147483648 ≤ r ∧ r < 2147483648 by omega) (show -2147483648 ≤ k ∧ k < 2147483648 by omega) (show G.rr ≤ 12 by omega)) ⟨gX3_isSalted_X3_checkedSide, ⟨_, rfl⟩, rfl, rfl, ⟨by decide, by decide, by decide +kernel⟩, Nat.le_of_ble_eq_true rfl, Nat.le_of_ble_eq_true rfl⟩ (a_recv (y := yX3_checkedSide) X hC.1 (ci := 3) (q0 := 0) rfl rfl rfl) rfl hl.1 rfl (Nat.le_of_ble_eq_true rfl) ⟨Nat.le_of_ble_eq_true rfl, Nat.le_of_ble_eq_true rfl⟩ ⟨Nat.le_of_ble_eq_true rfl, Nat.le_of_ble_eq_true rfl⟩ hk (fun _ _ _ h => h) dX3_isSalted_7 (fun zq1 Gq1 Tq1 H locs hqq1 hC => ?_)
  obtain ⟨hkq1, hvq1, hgq1, htq1⟩ := hqq1
  rw [hgq1, htq1] at hC
  subst hvq1
  have hKq1 := k0_of hkq1
  refine li_cast0 (z' := ((((2 * r + k)).toNat : Nat) : Int)) hx hb (by omega) ?_
  refine c_callix (v := ((G.sa (((2 * r + k)).toNat) : Nat) : Int)) (n := 1) (As := [.int (iI ((((2 * r + k)).toNat : Nat) : Int))]) (rest := []) X hC (mX0_hasSaltOn l A G Y (((2 * r + k)).toNat) (show (((2 * r + k)).toNat) < 2 * G.rr by omega) (show G.rr ≤ 12 by omega) (show G.sa (((2 * r + k)).toNat) ≤ 1 by omega)) ⟨gX3_isSalted_X0_hasSaltOn, ⟨_, rfl⟩, rfl, rfl, ⟨by decide, by decide, by decide +kernel⟩, Nat.le_of_ble_eq_true rfl, Nat.le_of_ble_eq_true rfl⟩ (a_recv (y := yX0_hasSaltOn) X hC.1 (ci := 0) (q0 := 1) rfl rfl rfl) rfl hl.1 rfl (Nat.le_of_ble_eq_true rfl) ⟨Nat.le_of_ble_eq_true rfl, Nat.le_of_ble_eq_true rfl⟩ dX3_isSalted_10 (fun H locs hC => ?_)
  exact x_zret XX hC hr hk ⟨Nat.le_of_ble_eq_true rfl, Nat.le_of_ble_eq_true rfl⟩ (by omega) (⟨if_pos (by omega), rfl, rfl, rfl⟩) dX3_isSalted_13

set_option maxHeartbeats 4000000 in
set_option maxRecDepth 100000 in
theorem mX3_worst (l : Launch) (hl0 : l.stackTraces = false) (A : AD) (G : GS) (Y : YS) (z : Int) (hI : Inv G) (hz : -2147483648 ≤ z ∧ z < 2147483648) : cXi l yX3_worst wsX3_worst ({ frames := 6, cells := 1, slots := 6, locals := 82 }) A [.ref (A.a 0), .int (iI z)] G Y (xKI (if 0 ≤ z ∧ z ≤ 2 then 0 else 1) ((dmaxP G.pr G.de z (2 * G.rr))) G Y) (xK1 xIOE (if 0 ≤ z ∧ z ≤ 2 then 0 else 1) G Y) 1 6 := by
  intro sz
  refine x_start (cc := cX3_worst) (maxL := 2) (ret := (some .int)) hl0 (by decide) rfl rfl ?_
  intro p e s m args below meth c XX hr hk hsz ls hl H locs hC
  have X := XX.1
  subst hsz
  obtain ⟨hx, hb, hml, hown, hts⟩ := id X.1
  have hl : lv_has ls 2 [(0, .ref (A.a 0)), (1, .int (iI z))] := hl
  have iX3 : ∀ w ∈ u_ws RX3 TX3 3, w ∈ wsX3_worst := by decide +kernel
  refine lv_iload_n hx hb dX3_worst_0 rfl (lv_at hl 1 rfl) ?_
  refine c_callisx (v := bP (0 ≤ z ∧ z ≤ 2)) (n := 1) (As := [.int (iI z)]) (rest := []) X hC (mX3_isPriority l A G Y z (show -2147483648 ≤ z ∧ z < 2147483648 by omega)) ⟨gX3_worst_X3_isPriority, ⟨_, rfl⟩, rfl, rfl, ⟨by decide, by decide, by decide +kernel⟩, Nat.le_of_ble_eq_true rfl, Nat.le_of_ble_eq_true rfl⟩ rfl hl.1 rfl (Nat.le_of_ble_eq_true rfl) ⟨Nat.le_of_ble_eq_true rfl, Nat.le_of_ble_eq_true rfl⟩ dX3_worst_1 (fun H locs hC => ?_)
  refine li_ifb_ne (tgt := 17) hx hb dX3_worst_4 (by decide) (fun c_4 => ?_) (fun c_4 => ?_)
  · refine lv_aload_n hx hb dX3_worst_17 rfl (lv_at hl 0 rfl) ?_
    refine agX3_town X hC iX3 (by decide +kernel) dX3_worst_18 ?_
    refine lv_iload_n hx hb dX3_worst_21 rfl (lv_at hl 1 rfl) ?_
    refine c_callix (v := (dmaxP G.pr G.de z (2 * G.rr))) (n := 1) (As := [.int (iI z)]) (rest := []) X hC (mX0_deepestSnowOf l A G Y z hI (show -2147483648 ≤ z ∧ z < 2147483648 by omega)) ⟨gX3_worst_X0_deepestSnowOf, ⟨_, rfl⟩, rfl, rfl, ⟨by decide, by decide, by decide +kernel⟩, Nat.le_of_ble_eq_true rfl, Nat.le_of_ble_eq_true rfl⟩ (a_recv (y := yX0_deepestSnowOf) X hC.1 (ci := 0) (q0 := 1) rfl rfl rfl) rfl hl.1 rfl (Nat.le_of_ble_eq_true rfl) ⟨Nat.le_of_ble_eq_true rfl, Nat.le_of_ble_eq_true rfl⟩ dX3_worst_22 (fun H locs hC => ?_)
    exact x_iret XX hC hr hk ⟨Nat.le_of_ble_eq_true rfl, Nat.le_of_ble_eq_true rfl⟩ (⟨if_pos (by omega), rfl, rfl, rfl⟩) dX3_worst_25
  · exact x_throw (cls := xIOE) (text := "priority is not 0 to 2") (ik := 101) (is := 71) (ic := 103) XX hC hk hl.1 (by decide +kernel) rfl (by decide +kernel) (by decide +kernel) (by decide +kernel) xw_3 xg_3 (by decide +kernel) dX3_worst_7 dX3_worst_10 dX3_worst_11 dX3_worst_13 dX3_worst_16 (Nat.le_of_ble_eq_true rfl) (Nat.le_of_ble_eq_true rfl) (Nat.le_of_ble_eq_true rfl) (Nat.le_of_ble_eq_true rfl) ⟨Nat.le_of_ble_eq_true rfl, Nat.le_of_ble_eq_true rfl⟩ (⟨⟨rfl, if_neg (by omega)⟩, rfl, rfl⟩)

set_option maxHeartbeats 4000000 in
set_option maxRecDepth 100000 in
theorem mX3_reach (l : Launch) (hl0 : l.stackTraces = false) (A : AD) (G : GS) (Y : YS) (z : Int) (hI : Inv G) (hz : -2147483648 ≤ z ∧ z < 2147483648) : cXi l yX3_reach wsX3_reach ({ frames := 7, cells := 1, slots := 6, locals := 103 }) A [.ref (A.a 0), .int (iI z)] G Y (xKI (if 0 ≤ z ∧ z < (G.nn : Int) then 0 else 1) (((itw G (2 ^ (z).toNat) (G.nn - 1) : Nat) : Int)) G Y) (xK1 xIOE (if 0 ≤ z ∧ z < (G.nn : Int) then 0 else 1) G Y) 1 6 := by
  intro sz
  refine x_start (cc := cX3_reach) (maxL := 2) (ret := (some .int)) hl0 (by decide) rfl rfl ?_
  intro p e s m args below meth c XX hr hk hsz ls hl H locs hC
  have X := XX.1
  subst hsz
  obtain ⟨hx, hb, hml, hown, hts⟩ := id X.1
  have hl : lv_has ls 2 [(0, .ref (A.a 0)), (1, .int (iI z))] := hl
  have iX3 : ∀ w ∈ u_ws RX3 TX3 3, w ∈ wsX3_reach := by decide +kernel
  have hnn := hI.nn
  refine lv_aload_n hx hb dX3_reach_0 rfl (lv_at hl 0 rfl) ?_
  refine lv_iload_n hx hb dX3_reach_1 rfl (lv_at hl 1 rfl) ?_
  refine x_callv (n := 1) (As := [.int (iI z)]) (rest := []) XX hC (mX3_checkNode l hl0 A G Y z (show -2147483648 ≤ z ∧ z < 2147483648 by omega) (show G.nn ≤ 8 by omega)) ⟨gX3_reach_X3_checkNode, ⟨_, rfl⟩, rfl, rfl, ⟨by decide, by decide, by decide +kernel⟩, Nat.le_of_ble_eq_true rfl, Nat.le_of_ble_eq_true rfl⟩ (a_recv (y := yX3_checkNode) X hC.1 (ci := 3) (q0 := 0) rfl rfl rfl) rfl hl.1 rfl (Nat.le_of_ble_eq_true rfl) ⟨Nat.le_of_ble_eq_true rfl, Nat.le_of_ble_eq_true rfl⟩ ⟨Nat.le_of_ble_eq_true rfl, Nat.le_of_ble_eq_true rfl⟩ hk (fun _ _ _ h => h) dX3_reach_2 (fun Gq1 Tq1 H locs hqq1 hC => ?_)
  obtain ⟨hkq1, hgq1, htq1⟩ := hqq1
  rw [hgq1, htq1] at hC
  have hKq1 := k0_of hkq1
  refine lv_aload_n hx hb dX3_reach_5 rfl (lv_at hl 0 rfl) ?_
  refine agX3_town X hC iX3 (by decide +kernel) dX3_reach_6 ?_
  refine lv_iload_n hx hb dX3_reach_9 rfl (lv_at hl 1 rfl) ?_
  refine li_cast0 (z' := (((z).toNat : Nat) : Int)) hx hb (by omega) ?_
  refine c_callix (v := ((itw G (2 ^ ((z).toNat)) (G.nn - 1) : Nat) : Int)) (n := 1) (As := [.int (iI (((z).toNat : Nat) : Int))]) (rest := []) X hC (mX0_nodesOpenFrom l A G Y ((z).toNat) hI (show ((z).toNat) < G.nn by omega)) ⟨gX3_reach_X0_nodesOpenFrom, ⟨_, rfl⟩, rfl, rfl, ⟨by decide, by decide, by decide +kernel⟩, Nat.le_of_ble_eq_true rfl, Nat.le_of_ble_eq_true rfl⟩ (a_recv (y := yX0_nodesOpenFrom) X hC.1 (ci := 0) (q0 := 1) rfl rfl rfl) rfl hl.1 rfl (Nat.le_of_ble_eq_true rfl) ⟨Nat.le_of_ble_eq_true rfl, Nat.le_of_ble_eq_true rfl⟩ dX3_reach_10 (fun H locs hC => ?_)
  exact x_iret XX hC hr hk ⟨Nat.le_of_ble_eq_true rfl, Nat.le_of_ble_eq_true rfl⟩ (⟨if_pos (by omega), rfl, rfl, rfl⟩) dX3_reach_13

set_option maxHeartbeats 4000000 in
set_option maxRecDepth 100000 in
theorem mX3_fill (l : Launch) (hl0 : l.stackTraces = false) (A : AD) (G : GS) (Y : YS) (hI : Inv G) : cXi l yX3_fill wsX3_fill ({ frames := 6, cells := 1, slots := 6, locals := 82 }) A [.ref (A.a 0)] G Y (xKI (if G.st G.vn ≠ 0 then 0 else 1) (((120 - G.vs : Nat) : Int)) ((G.vs' 120).tt' (up G.tt 0 (G.tt 0 + 4))) Y) (xK1 xISE (if G.st G.vn ≠ 0 then 0 else 1) G Y) 1 6 := by
  intro sz
  refine x_start (cc := cX3_fill) (maxL := 1) (ret := (some .int)) hl0 (by decide) rfl rfl ?_
  intro p e s m args below meth c XX hr hk hsz ls hl H locs hC
  have X := XX.1
  subst hsz
  obtain ⟨hx, hb, hml, hown, hts⟩ := id X.1
  have hl : lv_has ls 1 [(0, .ref (A.a 0))] := hl
  have iX3 : ∀ w ∈ u_ws RX3 TX3 3, w ∈ wsX3_fill := by decide +kernel
  have hnn := hI.nn
  have hvn := hI.vn
  have hvs := hI.vs
  have hs1 := hI.st G.vn
  refine lv_aload_n hx hb dX3_fill_0 rfl (lv_at hl 0 rfl) ?_
  refine agX3_town X hC iX3 (by decide +kernel) dX3_fill_1 ?_
  refine lv_aload_n hx hb dX3_fill_4 rfl (lv_at hl 0 rfl) ?_
  refine agX3_vehicle X hC iX3 (by decide +kernel) dX3_fill_5 ?_
  refine c_callix (v := (G.vn : Int)) (n := 0) (As := []) (rest := [.ref (A.a 1)]) X hC (mX1_node l A G Y) ⟨gX3_fill_X1_node, ⟨_, rfl⟩, rfl, rfl, ⟨by decide, by decide, by decide +kernel⟩, Nat.le_of_ble_eq_true rfl, Nat.le_of_ble_eq_true rfl⟩ (a_recv (y := yX1_node) X hC.1 (ci := 1) (q0 := 2) rfl rfl rfl) rfl hl.1 rfl (Nat.le_of_ble_eq_true rfl) ⟨Nat.le_of_ble_eq_true rfl, Nat.le_of_ble_eq_true rfl⟩ dX3_fill_8 (fun H locs hC => ?_)
  refine c_callix (v := ((G.st G.vn : Nat) : Int)) (n := 1) (As := [.int (iI (G.vn : Int))]) (rest := []) X hC (mX0_isStoreAt l A G Y G.vn (show G.vn < G.nn by omega) (show G.nn ≤ 8 by omega) (show G.st G.vn ≤ 1 by omega)) ⟨gX3_fill_X0_isStoreAt, ⟨_, rfl⟩, rfl, rfl, ⟨by decide, by decide, by decide +kernel⟩, Nat.le_of_ble_eq_true rfl, Nat.le_of_ble_eq_true rfl⟩ (a_recv (y := yX0_isStoreAt) X hC.1 (ci := 0) (q0 := 1) rfl rfl rfl) rfl hl.1 rfl (Nat.le_of_ble_eq_true rfl) ⟨Nat.le_of_ble_eq_true rfl, Nat.le_of_ble_eq_true rfl⟩ dX3_fill_11 (fun H locs hC => ?_)
  refine li_if_ne (tgt := 27) hx hb dX3_fill_14 (by decide) (by omega) (fun c_14 => ?_) (fun c_14 => ?_)
  · refine lv_aload_n hx hb dX3_fill_27 rfl (lv_at hl 0 rfl) ?_
    refine agX3_vehicle X hC iX3 (by decide +kernel) dX3_fill_28 ?_
    refine c_callix (v := ((120 - G.vs : Nat) : Int)) (n := 0) (As := []) (rest := []) X hC (mX1_takeSalt l A G Y  (show G.vs ≤ 120 by omega)) ⟨gX3_fill_X1_takeSalt, ⟨_, rfl⟩, rfl, rfl, ⟨by decide, by decide, by decide +kernel⟩, Nat.le_of_ble_eq_true rfl, Nat.le_of_ble_eq_true rfl⟩ (a_recv (y := yX1_takeSalt) X hC.1 (ci := 1) (q0 := 2) rfl rfl rfl) rfl hl.1 rfl (Nat.le_of_ble_eq_true rfl) ⟨Nat.le_of_ble_eq_true rfl, Nat.le_of_ble_eq_true rfl⟩ dX3_fill_31 (fun H locs hC => ?_)
    have hC : aH A (cAdr A) (CW A (mkG G.tu G.st G.sm G.mi G.pr G.de G.sa G.nn G.rr G.vn G.vc 120 G.vw (up G.tt 0 (G.tt 0 + 4))) Y) s H locs := hC
    exact x_iret XX hC hr hk ⟨Nat.le_of_ble_eq_true rfl, Nat.le_of_ble_eq_true rfl⟩ (⟨if_pos (by omega), rfl, rfl, rfl⟩) dX3_fill_34
  · exact x_throw (cls := xISE) (text := "the node is no store") (ik := 38) (is := 139) (ic := 42) XX hC hk hl.1 (by decide +kernel) rfl (by decide +kernel) (by decide +kernel) (by decide +kernel) xw_1 xg_1 (by decide +kernel) dX3_fill_17 dX3_fill_20 dX3_fill_21 dX3_fill_23 dX3_fill_26 (Nat.le_of_ble_eq_true rfl) (Nat.le_of_ble_eq_true rfl) (Nat.le_of_ble_eq_true rfl) (Nat.le_of_ble_eq_true rfl) ⟨Nat.le_of_ble_eq_true rfl, Nat.le_of_ble_eq_true rfl⟩ (⟨⟨rfl, if_neg (by omega)⟩, rfl, rfl⟩)

set_option maxHeartbeats 4000000 in
set_option maxRecDepth 100000 in
theorem mX3_plough (l : Launch) (hl0 : l.stackTraces = false) (A : AD) (G : GS) (Y : YS) (z : Int) (hI : Inv G) (hz : -2147483648 ≤ z ∧ z < 2147483648) : cXi l yX3_plough wsX3_plough ({ frames := 7, cells := 1, slots := 6, locals := 102 }) A [.ref (A.a 0), .int (iI z)] G Y (xKI (if 0 ≤ z ∧ z ≤ 3 then 0 else 1) ((stf G z)) G Y) (xK1 xIOE (if 0 ≤ z ∧ z ≤ 3 then 0 else 1) G Y) 1 6 := by
  intro sz
  refine x_start (cc := cX3_plough) (maxL := 2) (ret := (some .int)) hl0 (by decide) rfl rfl ?_
  intro p e s m args below meth c XX hr hk hsz ls hl H locs hC
  have X := XX.1
  subst hsz
  obtain ⟨hx, hb, hml, hown, hts⟩ := id X.1
  have hl : lv_has ls 2 [(0, .ref (A.a 0)), (1, .int (iI z))] := hl
  have iX3 : ∀ w ∈ u_ws RX3 TX3 3, w ∈ wsX3_plough := by decide +kernel
  have hw := hI.vw
  refine lv_iload_n hx hb dX3_plough_0 rfl (lv_at hl 1 rfl) ?_
  refine x_callvs (n := 1) (As := [.int (iI z)]) (rest := []) XX hC (mX3_checkFact l hl0 A G Y z (show -2147483648 ≤ z ∧ z < 2147483648 by omega)) ⟨gX3_plough_X3_checkFact, ⟨_, rfl⟩, rfl, rfl, ⟨by decide, by decide, by decide +kernel⟩, Nat.le_of_ble_eq_true rfl, Nat.le_of_ble_eq_true rfl⟩ rfl hl.1 rfl (Nat.le_of_ble_eq_true rfl) ⟨Nat.le_of_ble_eq_true rfl, Nat.le_of_ble_eq_true rfl⟩ ⟨Nat.le_of_ble_eq_true rfl, Nat.le_of_ble_eq_true rfl⟩ hk (fun _ _ _ h => h) dX3_plough_1 (fun Gq1 Tq1 H locs hqq1 hC => ?_)
  obtain ⟨hkq1, hgq1, htq1⟩ := hqq1
  rw [hgq1, htq1] at hC
  have hKq1 := k0_of hkq1
  refine lv_aload_n hx hb dX3_plough_4 rfl (lv_at hl 0 rfl) ?_
  refine agX3_vehicle X hC iX3 (by decide +kernel) dX3_plough_5 ?_
  refine lv_iload_n hx hb dX3_plough_8 rfl (lv_at hl 1 rfl) ?_
  refine c_callix (v := (stf G z)) (n := 1) (As := [.int (iI z)]) (rest := []) X hC (mX1_stateFact l A G Y z (show -2147483648 ≤ z ∧ z < 2147483648 by omega) (show G.vw ≤ 1 by omega)) ⟨gX3_plough_X1_stateFact, ⟨_, rfl⟩, rfl, rfl, ⟨by decide, by decide, by decide +kernel⟩, Nat.le_of_ble_eq_true rfl, Nat.le_of_ble_eq_true rfl⟩ (a_recv (y := yX1_stateFact) X hC.1 (ci := 1) (q0 := 2) rfl rfl rfl) rfl hl.1 rfl (Nat.le_of_ble_eq_true rfl) ⟨Nat.le_of_ble_eq_true rfl, Nat.le_of_ble_eq_true rfl⟩ dX3_plough_9 (fun H locs hC => ?_)
  exact x_iret XX hC hr hk ⟨Nat.le_of_ble_eq_true rfl, Nat.le_of_ble_eq_true rfl⟩ (⟨if_pos (by omega), rfl, rfl, rfl⟩) dX3_plough_12

set_option maxHeartbeats 4000000 in
set_option maxRecDepth 100000 in
theorem mX3_total (l : Launch) (hl0 : l.stackTraces = false) (A : AD) (G : GS) (Y : YS) (z : Int) (hI : Inv G) (hz : -2147483648 ≤ z ∧ z < 2147483648) : cXl l yX3_total wsX3_total ({ frames := 7, cells := 1, slots := 6, locals := 102 }) A [.ref (A.a 0), .int (iI z)] G Y (xKL (if 0 ≤ z ∧ z ≤ 3 then 0 else 1) ((ttf G z)) G Y) (xK1 xIOE (if 0 ≤ z ∧ z ≤ 3 then 0 else 1) G Y) 1 6 := by
  intro sz
  refine x_start (cc := cX3_total) (maxL := 2) (ret := (some .long)) hl0 (by decide) rfl rfl ?_
  intro p e s m args below meth c XX hr hk hsz ls hl H locs hC
  have X := XX.1
  subst hsz
  obtain ⟨hx, hb, hml, hown, hts⟩ := id X.1
  have hl : lv_has ls 2 [(0, .ref (A.a 0)), (1, .int (iI z))] := hl
  have iX3 : ∀ w ∈ u_ws RX3 TX3 3, w ∈ wsX3_total := by decide +kernel
  refine lv_iload_n hx hb dX3_total_0 rfl (lv_at hl 1 rfl) ?_
  refine x_callvs (n := 1) (As := [.int (iI z)]) (rest := []) XX hC (mX3_checkFact l hl0 A G Y z (show -2147483648 ≤ z ∧ z < 2147483648 by omega)) ⟨gX3_total_X3_checkFact, ⟨_, rfl⟩, rfl, rfl, ⟨by decide, by decide, by decide +kernel⟩, Nat.le_of_ble_eq_true rfl, Nat.le_of_ble_eq_true rfl⟩ rfl hl.1 rfl (Nat.le_of_ble_eq_true rfl) ⟨Nat.le_of_ble_eq_true rfl, Nat.le_of_ble_eq_true rfl⟩ ⟨Nat.le_of_ble_eq_true rfl, Nat.le_of_ble_eq_true rfl⟩ hk (fun _ _ _ h => h) dX3_total_1 (fun Gq1 Tq1 H locs hqq1 hC => ?_)
  obtain ⟨hkq1, hgq1, htq1⟩ := hqq1
  rw [hgq1, htq1] at hC
  have hKq1 := k0_of hkq1
  refine lv_aload_n hx hb dX3_total_4 rfl (lv_at hl 0 rfl) ?_
  refine agX3_vehicle X hC iX3 (by decide +kernel) dX3_total_5 ?_
  refine lv_iload_n hx hb dX3_total_8 rfl (lv_at hl 1 rfl) ?_
  refine c_calllx (v := (ttf G z)) (n := 1) (As := [.int (iI z)]) (rest := []) X hC (mX1_totalFact l A G Y z (show -2147483648 ≤ z ∧ z < 2147483648 by omega)) ⟨gX3_total_X1_totalFact, ⟨_, rfl⟩, rfl, rfl, ⟨by decide, by decide, by decide +kernel⟩, Nat.le_of_ble_eq_true rfl, Nat.le_of_ble_eq_true rfl⟩ (a_recv (y := yX1_totalFact) X hC.1 (ci := 1) (q0 := 2) rfl rfl rfl) rfl hl.1 rfl (Nat.le_of_ble_eq_true rfl) ⟨Nat.le_of_ble_eq_true rfl, Nat.le_of_ble_eq_true rfl⟩ dX3_total_9 (fun H locs hC => ?_)
  exact x_lret XX hC hr hk ⟨Nat.le_of_ble_eq_true rfl, Nat.le_of_ble_eq_true rfl⟩ (⟨if_pos (by omega), rfl, rfl, rfl⟩) dX3_total_12

set_option maxHeartbeats 4000000 in
set_option maxRecDepth 100000 in
theorem mX3_way (l : Launch) (hl0 : l.stackTraces = false) (A : AD) (G : GS) (Y : YS) (z : Int) (hI : Inv G) (hY : YI Y) (hz : -2147483648 ≤ z ∧ z < 2147483648) : cXi l yX3_way wsX3_way ({ frames := 7, cells := 1, slots := 6, locals := 112 }) A [.ref (A.a 0), .int (iI z)] G Y (xKI (if 0 ≤ z ∧ z < (G.nn : Int) then 0 else 1) ((mnZ G (lka G Y) (z).toNat)) G (lka G Y)) (xK1 xIOE (if 0 ≤ z ∧ z < (G.nn : Int) then 0 else 1) G Y) 1 6 := by
  intro sz
  refine x_start (cc := cX3_way) (maxL := 2) (ret := (some .int)) hl0 (by decide) rfl rfl ?_
  intro p e s m args below meth c XX hr hk hsz ls hl H locs hC
  have X := XX.1
  subst hsz
  obtain ⟨hx, hb, hml, hown, hts⟩ := id X.1
  have hl : lv_has ls 2 [(0, .ref (A.a 0)), (1, .int (iI z))] := hl
  have iX3 : ∀ w ∈ u_ws RX3 TX3 3, w ∈ wsX3_way := by decide +kernel
  have hnn := hI.nn
  have hYl := lka_YI hI hY
  refine lv_aload_n hx hb dX3_way_0 rfl (lv_at hl 0 rfl) ?_
  refine lv_iload_n hx hb dX3_way_1 rfl (lv_at hl 1 rfl) ?_
  refine x_callv (n := 1) (As := [.int (iI z)]) (rest := []) XX hC (mX3_checkNode l hl0 A G Y z (show -2147483648 ≤ z ∧ z < 2147483648 by omega) (show G.nn ≤ 8 by omega)) ⟨gX3_way_X3_checkNode, ⟨_, rfl⟩, rfl, rfl, ⟨by decide, by decide, by decide +kernel⟩, Nat.le_of_ble_eq_true rfl, Nat.le_of_ble_eq_true rfl⟩ (a_recv (y := yX3_checkNode) X hC.1 (ci := 3) (q0 := 0) rfl rfl rfl) rfl hl.1 rfl (Nat.le_of_ble_eq_true rfl) ⟨Nat.le_of_ble_eq_true rfl, Nat.le_of_ble_eq_true rfl⟩ ⟨Nat.le_of_ble_eq_true rfl, Nat.le_of_ble_eq_true rfl⟩ hk (fun _ _ _ h => h) dX3_way_2 (fun Gq1 Tq1 H locs hqq1 hC => ?_)
  obtain ⟨hkq1, hgq1, htq1⟩ := hqq1
  rw [hgq1, htq1] at hC
  have hKq1 := k0_of hkq1
  refine lv_aload_n hx hb dX3_way_5 rfl (lv_at hl 0 rfl) ?_
  refine agX3_ways X hC iX3 (by decide +kernel) dX3_way_6 ?_
  refine c_callvx (n := 0) (As := []) (rest := []) X hC (mX2_lookAround l A G Y  hI (show YI Y from hY)) ⟨gX3_way_X2_lookAround, ⟨_, rfl⟩, rfl, rfl, ⟨by decide, by decide, by decide +kernel⟩, Nat.le_of_ble_eq_true rfl, Nat.le_of_ble_eq_true rfl⟩ (a_recv (y := yX2_lookAround) X hC.1 (ci := 2) (q0 := 3) rfl rfl rfl) rfl hl.1 rfl (Nat.le_of_ble_eq_true rfl) ⟨Nat.le_of_ble_eq_true rfl, Nat.le_of_ble_eq_true rfl⟩ dX3_way_9 (fun H locs hC => ?_)
  refine lv_aload_n hx hb dX3_way_12 rfl (lv_at hl 0 rfl) ?_
  refine agX3_ways X hC iX3 (by decide +kernel) dX3_way_13 ?_
  refine lv_iload_n hx hb dX3_way_16 rfl (lv_at hl 1 rfl) ?_
  refine li_cast0 (z' := (((z).toNat : Nat) : Int)) hx hb (by omega) ?_
  refine c_callix (v := (mnZ G (lka G Y) ((z).toNat))) (n := 1) (As := [.int (iI (((z).toNat : Nat) : Int))]) (rest := []) X hC (mX2_minutesToNode l A G (lka G Y) ((z).toNat) hI (show YI (lka G Y) from hYl) (show ((z).toNat) < G.nn by omega)) ⟨gX3_way_X2_minutesToNode, ⟨_, rfl⟩, rfl, rfl, ⟨by decide, by decide, by decide +kernel⟩, Nat.le_of_ble_eq_true rfl, Nat.le_of_ble_eq_true rfl⟩ (a_recv (y := yX2_minutesToNode) X hC.1 (ci := 2) (q0 := 3) rfl rfl rfl) rfl hl.1 rfl (Nat.le_of_ble_eq_true rfl) ⟨Nat.le_of_ble_eq_true rfl, Nat.le_of_ble_eq_true rfl⟩ dX3_way_17 (fun H locs hC => ?_)
  exact x_iret XX hC hr hk ⟨Nat.le_of_ble_eq_true rfl, Nat.le_of_ble_eq_true rfl⟩ (⟨if_pos (by omega), rfl, rfl, rfl⟩) dX3_way_20

set_option maxHeartbeats 4000000 in
set_option maxRecDepth 100000 in
theorem mX3_first (l : Launch) (hl0 : l.stackTraces = false) (A : AD) (G : GS) (Y : YS) (z : Int) (hI : Inv G) (hY : YI Y) (hz : -2147483648 ≤ z ∧ z < 2147483648) : cXi l yX3_first wsX3_first ({ frames := 7, cells := 1, slots := 6, locals := 112 }) A [.ref (A.a 0), .int (iI z)] G Y (xKI (if 0 ≤ z ∧ z < (G.nn : Int) then 0 else 1) ((rdZ (lka G Y) (lstZ G (lka G Y) (z).toNat) 0)) G (lka G Y)) (xK1 xIOE (if 0 ≤ z ∧ z < (G.nn : Int) then 0 else 1) G Y) 1 6 := by
  intro sz
  refine x_start (cc := cX3_first) (maxL := 2) (ret := (some .int)) hl0 (by decide) rfl rfl ?_
  intro p e s m args below meth c XX hr hk hsz ls hl H locs hC
  have X := XX.1
  subst hsz
  obtain ⟨hx, hb, hml, hown, hts⟩ := id X.1
  have hl : lv_has ls 2 [(0, .ref (A.a 0)), (1, .int (iI z))] := hl
  have iX3 : ∀ w ∈ u_ws RX3 TX3 3, w ∈ wsX3_first := by decide +kernel
  have hnn := hI.nn
  have hrr := hI.rr
  have hYl := lka_YI hI hY
  have hlz := lstZ_rng G (lka G Y) z.toNat
  refine lv_aload_n hx hb dX3_first_0 rfl (lv_at hl 0 rfl) ?_
  refine lv_iload_n hx hb dX3_first_1 rfl (lv_at hl 1 rfl) ?_
  refine x_callv (n := 1) (As := [.int (iI z)]) (rest := []) XX hC (mX3_checkNode l hl0 A G Y z (show -2147483648 ≤ z ∧ z < 2147483648 by omega) (show G.nn ≤ 8 by omega)) ⟨gX3_first_X3_checkNode, ⟨_, rfl⟩, rfl, rfl, ⟨by decide, by decide, by decide +kernel⟩, Nat.le_of_ble_eq_true rfl, Nat.le_of_ble_eq_true rfl⟩ (a_recv (y := yX3_checkNode) X hC.1 (ci := 3) (q0 := 0) rfl rfl rfl) rfl hl.1 rfl (Nat.le_of_ble_eq_true rfl) ⟨Nat.le_of_ble_eq_true rfl, Nat.le_of_ble_eq_true rfl⟩ ⟨Nat.le_of_ble_eq_true rfl, Nat.le_of_ble_eq_true rfl⟩ hk (fun _ _ _ h => h) dX3_first_2 (fun Gq1 Tq1 H locs hqq1 hC => ?_)
  obtain ⟨hkq1, hgq1, htq1⟩ := hqq1
  rw [hgq1, htq1] at hC
  have hKq1 := k0_of hkq1
  refine lv_aload_n hx hb dX3_first_5 rfl (lv_at hl 0 rfl) ?_
  refine agX3_ways X hC iX3 (by decide +kernel) dX3_first_6 ?_
  refine c_callvx (n := 0) (As := []) (rest := []) X hC (mX2_lookAround l A G Y  hI (show YI Y from hY)) ⟨gX3_first_X2_lookAround, ⟨_, rfl⟩, rfl, rfl, ⟨by decide, by decide, by decide +kernel⟩, Nat.le_of_ble_eq_true rfl, Nat.le_of_ble_eq_true rfl⟩ (a_recv (y := yX2_lookAround) X hC.1 (ci := 2) (q0 := 3) rfl rfl rfl) rfl hl.1 rfl (Nat.le_of_ble_eq_true rfl) ⟨Nat.le_of_ble_eq_true rfl, Nat.le_of_ble_eq_true rfl⟩ dX3_first_9 (fun H locs hC => ?_)
  refine lv_aload_n hx hb dX3_first_12 rfl (lv_at hl 0 rfl) ?_
  refine agX3_ways X hC iX3 (by decide +kernel) dX3_first_13 ?_
  refine lv_aload_n hx hb dX3_first_16 rfl (lv_at hl 0 rfl) ?_
  refine agX3_ways X hC iX3 (by decide +kernel) dX3_first_17 ?_
  refine lv_iload_n hx hb dX3_first_20 rfl (lv_at hl 1 rfl) ?_
  refine li_cast0 (z' := (((z).toNat : Nat) : Int)) hx hb (by omega) ?_
  refine c_callix (v := (lstZ G (lka G Y) ((z).toNat))) (n := 1) (As := [.int (iI (((z).toNat : Nat) : Int))]) (rest := [.ref (A.a 3)]) X hC (mX2_lastSideTo l A G (lka G Y) ((z).toNat) hI (show YI (lka G Y) from hYl) (show ((z).toNat) < G.nn by omega)) ⟨gX3_first_X2_lastSideTo, ⟨_, rfl⟩, rfl, rfl, ⟨by decide, by decide, by decide +kernel⟩, Nat.le_of_ble_eq_true rfl, Nat.le_of_ble_eq_true rfl⟩ (a_recv (y := yX2_lastSideTo) X hC.1 (ci := 2) (q0 := 3) rfl rfl rfl) rfl hl.1 rfl (Nat.le_of_ble_eq_true rfl) ⟨Nat.le_of_ble_eq_true rfl, Nat.le_of_ble_eq_true rfl⟩ dX3_first_21 (fun H locs hC => ?_)
  refine c_callix (v := (rdZ (lka G Y) (lstZ G (lka G Y) ((z).toNat)) 0)) (n := 1) (As := [.int (iI (lstZ G (lka G Y) ((z).toNat)))]) (rest := []) X hC (mX2_firstRoadTo l A G (lka G Y) (lstZ G (lka G Y) ((z).toNat)) (show -1 ≤ (lstZ G (lka G Y) ((z).toNat)) ∧ (lstZ G (lka G Y) ((z).toNat)) < ((2 * G.rr : Nat) : Int) by omega) (show G.rr ≤ 12 by omega) (show YI (lka G Y) from hYl)) ⟨gX3_first_X2_firstRoadTo, ⟨_, rfl⟩, rfl, rfl, ⟨by decide, by decide, by decide +kernel⟩, Nat.le_of_ble_eq_true rfl, Nat.le_of_ble_eq_true rfl⟩ (a_recv (y := yX2_firstRoadTo) X hC.1 (ci := 2) (q0 := 3) rfl rfl rfl) rfl hl.1 rfl (Nat.le_of_ble_eq_true rfl) ⟨Nat.le_of_ble_eq_true rfl, Nat.le_of_ble_eq_true rfl⟩ dX3_first_24 (fun H locs hC => ?_)
  exact x_iret XX hC hr hk ⟨Nat.le_of_ble_eq_true rfl, Nat.le_of_ble_eq_true rfl⟩ (⟨if_pos (by omega), rfl, rfl, rfl⟩) dX3_first_27

set_option maxHeartbeats 4000000 in
set_option maxRecDepth 100000 in
theorem mX3_wayToSide (l : Launch) (hl0 : l.stackTraces = false) (A : AD) (G : GS) (Y : YS) (r : Int) (k : Int) (hI : Inv G) (hY : YI Y) (hr1 : -2147483648 ≤ r ∧ r < 2147483648) (hk1 : -2147483648 ≤ k ∧ k < 2147483648) : cXi l yX3_wayToSide wsX3_wayToSide ({ frames := 7, cells := 1, slots := 6, locals := 112 }) A [.ref (A.a 0), .int (iI r), .int (iI k)] G Y (xKI (if (0 ≤ r ∧ r < (G.rr : Int)) ∧ (0 ≤ k ∧ k ≤ 1) then 0 else 1) ((mtZ (lka G Y) (2 * r + k))) G (lka G Y)) (xK1 xIOE (if (0 ≤ r ∧ r < (G.rr : Int)) ∧ (0 ≤ k ∧ k ≤ 1) then 0 else 1) G Y) 1 6 := by
  intro sz
  refine x_start (cc := cX3_wayToSide) (maxL := 4) (ret := (some .int)) hl0 (by decide) rfl rfl ?_
  intro p e s m args below meth c XX hr hk hsz ls hl H locs hC
  have X := XX.1
  subst hsz
  obtain ⟨hx, hb, hml, hown, hts⟩ := id X.1
  have hl : lv_has ls 4 [(0, .ref (A.a 0)), (1, .int (iI r)), (2, .int (iI k))] := hl
  have iX3 : ∀ w ∈ u_ws RX3 TX3 3, w ∈ wsX3_wayToSide := by decide +kernel
  have hrr := hI.rr
  have hYl := lka_YI hI hY
  refine lv_aload_n hx hb dX3_wayToSide_0 rfl (lv_at hl 0 rfl) ?_
  refine lv_iload_n hx hb dX3_wayToSide_1 rfl (lv_at hl 1 rfl) ?_
  refine lv_iload_n hx hb dX3_wayToSide_2 rfl (lv_at hl 2 rfl) ?_
  refine x_calli (n := 2) (As := [.int (iI r), .int (iI k)]) (rest := []) XX hC (mX3_checkedSide l hl0 A G Y r k (show -2147483648 ≤ r ∧ r < 2147483648 by omega) (show -2147483648 ≤ k ∧ k < 2147483648 by omega) (show G.rr ≤ 12 by omega)) ⟨gX3_wayToSide_X3_checkedSide, ⟨_, rfl⟩, rfl, rfl, ⟨by decide, by decide, by decide +kernel⟩, Nat.le_of_ble_eq_true rfl, Nat.le_of_ble_eq_true rfl⟩ (a_recv (y := yX3_checkedSide) X hC.1 (ci := 3) (q0 := 0) rfl rfl rfl) rfl hl.1 rfl (Nat.le_of_ble_eq_true rfl) ⟨Nat.le_of_ble_eq_true rfl, Nat.le_of_ble_eq_true rfl⟩ ⟨Nat.le_of_ble_eq_true rfl, Nat.le_of_ble_eq_true rfl⟩ hk (fun _ _ _ h => h) dX3_wayToSide_3 (fun zq1 Gq1 Tq1 H locs hqq1 hC => ?_)
  obtain ⟨hkq1, hvq1, hgq1, htq1⟩ := hqq1
  rw [hgq1, htq1] at hC
  subst hvq1
  have hKq1 := k0_of hkq1
  refine lv_istore_n (lv' := [(3, .int (iI (2 * r + k))), (0, .ref (A.a 0)), (1, .int (iI r)), (2, .int (iI k))]) hx hb dX3_wayToSide_6 rfl hl (by decide) rfl (fun ls hl => ?_)
  refine lv_aload_n hx hb dX3_wayToSide_7 rfl (lv_at hl 1 rfl) ?_
  refine agX3_ways X hC iX3 (by decide +kernel) dX3_wayToSide_8 ?_
  refine c_callvx (n := 0) (As := []) (rest := []) X hC (mX2_lookAround l A G Y  hI (show YI Y from hY)) ⟨gX3_wayToSide_X2_lookAround, ⟨_, rfl⟩, rfl, rfl, ⟨by decide, by decide, by decide +kernel⟩, Nat.le_of_ble_eq_true rfl, Nat.le_of_ble_eq_true rfl⟩ (a_recv (y := yX2_lookAround) X hC.1 (ci := 2) (q0 := 3) rfl rfl rfl) rfl hl.1 rfl (Nat.le_of_ble_eq_true rfl) ⟨Nat.le_of_ble_eq_true rfl, Nat.le_of_ble_eq_true rfl⟩ dX3_wayToSide_11 (fun H locs hC => ?_)
  refine lv_aload_n hx hb dX3_wayToSide_14 rfl (lv_at hl 1 rfl) ?_
  refine agX3_ways X hC iX3 (by decide +kernel) dX3_wayToSide_15 ?_
  refine lv_iload_n hx hb dX3_wayToSide_18 rfl (lv_at hl 0 rfl) ?_
  refine c_callix (v := (mtZ (lka G Y) (2 * r + k))) (n := 1) (As := [.int (iI (2 * r + k))]) (rest := []) X hC (mX2_minutesTo l A G (lka G Y) (2 * r + k) (show -1 ≤ (2 * r + k) ∧ (2 * r + k) < ((2 * G.rr : Nat) : Int) by omega) (show G.rr ≤ 12 by omega)) ⟨gX3_wayToSide_X2_minutesTo, ⟨_, rfl⟩, rfl, rfl, ⟨by decide, by decide, by decide +kernel⟩, Nat.le_of_ble_eq_true rfl, Nat.le_of_ble_eq_true rfl⟩ (a_recv (y := yX2_minutesTo) X hC.1 (ci := 2) (q0 := 3) rfl rfl rfl) rfl hl.1 rfl (Nat.le_of_ble_eq_true rfl) ⟨Nat.le_of_ble_eq_true rfl, Nat.le_of_ble_eq_true rfl⟩ dX3_wayToSide_19 (fun H locs hC => ?_)
  exact x_iret XX hC hr hk ⟨Nat.le_of_ble_eq_true rfl, Nat.le_of_ble_eq_true rfl⟩ (⟨if_pos (by omega), rfl, rfl, rfl⟩) dX3_wayToSide_22

set_option maxHeartbeats 4000000 in
set_option maxRecDepth 100000 in
theorem mX3_firstToSide (l : Launch) (hl0 : l.stackTraces = false) (A : AD) (G : GS) (Y : YS) (r : Int) (k : Int) (hI : Inv G) (hY : YI Y) (hr1 : -2147483648 ≤ r ∧ r < 2147483648) (hk1 : -2147483648 ≤ k ∧ k < 2147483648) : cXi l yX3_firstToSide wsX3_firstToSide ({ frames := 7, cells := 1, slots := 6, locals := 112 }) A [.ref (A.a 0), .int (iI r), .int (iI k)] G Y (xKI (if (0 ≤ r ∧ r < (G.rr : Int)) ∧ (0 ≤ k ∧ k ≤ 1) then 0 else 1) ((rdZ (lka G Y) (2 * r + k) 0)) G (lka G Y)) (xK1 xIOE (if (0 ≤ r ∧ r < (G.rr : Int)) ∧ (0 ≤ k ∧ k ≤ 1) then 0 else 1) G Y) 1 6 := by
  intro sz
  refine x_start (cc := cX3_firstToSide) (maxL := 4) (ret := (some .int)) hl0 (by decide) rfl rfl ?_
  intro p e s m args below meth c XX hr hk hsz ls hl H locs hC
  have X := XX.1
  subst hsz
  obtain ⟨hx, hb, hml, hown, hts⟩ := id X.1
  have hl : lv_has ls 4 [(0, .ref (A.a 0)), (1, .int (iI r)), (2, .int (iI k))] := hl
  have iX3 : ∀ w ∈ u_ws RX3 TX3 3, w ∈ wsX3_firstToSide := by decide +kernel
  have hrr := hI.rr
  have hYl := lka_YI hI hY
  refine lv_aload_n hx hb dX3_firstToSide_0 rfl (lv_at hl 0 rfl) ?_
  refine lv_iload_n hx hb dX3_firstToSide_1 rfl (lv_at hl 1 rfl) ?_
  refine lv_iload_n hx hb dX3_firstToSide_2 rfl (lv_at hl 2 rfl) ?_
  refine x_calli (n := 2) (As := [.int (iI r), .int (iI k)]) (rest := []) XX hC (mX3_checkedSide l hl0 A G Y r k (show -2147483648 ≤ r ∧ r < 2147483648 by omega) (show -2147483648 ≤ k ∧ k < 2147483648 by omega) (show G.rr ≤ 12 by omega)) ⟨gX3_firstToSide_X3_checkedSide, ⟨_, rfl⟩, rfl, rfl, ⟨by decide, by decide, by decide +kernel⟩, Nat.le_of_ble_eq_true rfl, Nat.le_of_ble_eq_true rfl⟩ (a_recv (y := yX3_checkedSide) X hC.1 (ci := 3) (q0 := 0) rfl rfl rfl) rfl hl.1 rfl (Nat.le_of_ble_eq_true rfl) ⟨Nat.le_of_ble_eq_true rfl, Nat.le_of_ble_eq_true rfl⟩ ⟨Nat.le_of_ble_eq_true rfl, Nat.le_of_ble_eq_true rfl⟩ hk (fun _ _ _ h => h) dX3_firstToSide_3 (fun zq1 Gq1 Tq1 H locs hqq1 hC => ?_)
  obtain ⟨hkq1, hvq1, hgq1, htq1⟩ := hqq1
  rw [hgq1, htq1] at hC
  subst hvq1
  have hKq1 := k0_of hkq1
  refine lv_istore_n (lv' := [(3, .int (iI (2 * r + k))), (0, .ref (A.a 0)), (1, .int (iI r)), (2, .int (iI k))]) hx hb dX3_firstToSide_6 rfl hl (by decide) rfl (fun ls hl => ?_)
  refine lv_aload_n hx hb dX3_firstToSide_7 rfl (lv_at hl 1 rfl) ?_
  refine agX3_ways X hC iX3 (by decide +kernel) dX3_firstToSide_8 ?_
  refine c_callvx (n := 0) (As := []) (rest := []) X hC (mX2_lookAround l A G Y  hI (show YI Y from hY)) ⟨gX3_firstToSide_X2_lookAround, ⟨_, rfl⟩, rfl, rfl, ⟨by decide, by decide, by decide +kernel⟩, Nat.le_of_ble_eq_true rfl, Nat.le_of_ble_eq_true rfl⟩ (a_recv (y := yX2_lookAround) X hC.1 (ci := 2) (q0 := 3) rfl rfl rfl) rfl hl.1 rfl (Nat.le_of_ble_eq_true rfl) ⟨Nat.le_of_ble_eq_true rfl, Nat.le_of_ble_eq_true rfl⟩ dX3_firstToSide_11 (fun H locs hC => ?_)
  refine lv_aload_n hx hb dX3_firstToSide_14 rfl (lv_at hl 1 rfl) ?_
  refine agX3_ways X hC iX3 (by decide +kernel) dX3_firstToSide_15 ?_
  refine lv_iload_n hx hb dX3_firstToSide_18 rfl (lv_at hl 0 rfl) ?_
  refine c_callix (v := (rdZ (lka G Y) (2 * r + k) 0)) (n := 1) (As := [.int (iI (2 * r + k))]) (rest := []) X hC (mX2_firstRoadTo l A G (lka G Y) (2 * r + k) (show -1 ≤ (2 * r + k) ∧ (2 * r + k) < ((2 * G.rr : Nat) : Int) by omega) (show G.rr ≤ 12 by omega) (show YI (lka G Y) from hYl)) ⟨gX3_firstToSide_X2_firstRoadTo, ⟨_, rfl⟩, rfl, rfl, ⟨by decide, by decide, by decide +kernel⟩, Nat.le_of_ble_eq_true rfl, Nat.le_of_ble_eq_true rfl⟩ (a_recv (y := yX2_firstRoadTo) X hC.1 (ci := 2) (q0 := 3) rfl rfl rfl) rfl hl.1 rfl (Nat.le_of_ble_eq_true rfl) ⟨Nat.le_of_ble_eq_true rfl, Nat.le_of_ble_eq_true rfl⟩ dX3_firstToSide_19 (fun H locs hC => ?_)
  exact x_iret XX hC hr hk ⟨Nat.le_of_ble_eq_true rfl, Nat.le_of_ble_eq_true rfl⟩ (⟨if_pos (by omega), rfl, rfl, rfl⟩) dX3_firstToSide_22

set_option maxHeartbeats 4000000 in
set_option maxRecDepth 100000 in
theorem mX3_go (l : Launch) (hl0 : l.stackTraces = false) (A : AD) (G : GS) (Y : YS) (z : Int) (hI : Inv G) (hz : -2147483648 ≤ z ∧ z < 2147483648) : cXi l yX3_go wsX3_go ({ frames := 6, cells := 1, slots := 6, locals := 87 }) A [.ref (A.a 0), .int (iI z)] G Y (xKI (kGo G z) ((dMin G (z).toNat (sF G G.vn (z).toNat).toNat)) (drv G (z).toNat (sF G G.vn (z).toNat).toNat) Y) (xK2 xIOE xISE (kGo G z) G Y) 1 6 := by
  intro sz
  refine x_start (cc := cX3_go) (maxL := 2) (ret := (some .int)) hl0 (by decide) rfl rfl ?_
  intro p e s m args below meth c XX hr hk hsz ls hl H locs hC
  have X := XX.1
  subst hsz
  obtain ⟨hx, hb, hml, hown, hts⟩ := id X.1
  have hl : lv_has ls 2 [(0, .ref (A.a 0)), (1, .int (iI z))] := hl
  have iX3 : ∀ w ∈ u_ws RX3 TX3 3, w ∈ wsX3_go := by decide +kernel
  have hrr := hI.rr
  refine lv_aload_n hx hb dX3_go_0 rfl (lv_at hl 0 rfl) ?_
  refine agX3_town X hC iX3 (by decide +kernel) dX3_go_1 ?_
  refine lv_iload_n hx hb dX3_go_4 rfl (lv_at hl 1 rfl) ?_
  refine c_callix (v := bP (0 ≤ z ∧ z < (G.rr : Int))) (n := 1) (As := [.int (iI z)]) (rest := []) X hC (mX0_hasRoad l A G Y z (show -2147483648 ≤ z ∧ z < 2147483648 by omega) (show G.rr ≤ 12 by omega)) ⟨gX3_go_X0_hasRoad, ⟨_, rfl⟩, rfl, rfl, ⟨by decide, by decide, by decide +kernel⟩, Nat.le_of_ble_eq_true rfl, Nat.le_of_ble_eq_true rfl⟩ (a_recv (y := yX0_hasRoad) X hC.1 (ci := 0) (q0 := 1) rfl rfl rfl) rfl hl.1 rfl (Nat.le_of_ble_eq_true rfl) ⟨Nat.le_of_ble_eq_true rfl, Nat.le_of_ble_eq_true rfl⟩ dX3_go_5 (fun H locs hC => ?_)
  refine li_ifb_ne (tgt := 21) hx hb dX3_go_8 (by decide) (fun c_8 => ?_) (fun c_8 => ?_)
  · obtain ⟨zn, hnzn⟩ : ∃ zn : Nat, z = (zn : Int) := ⟨z.toNat, by omega⟩
    subst hnzn
    refine lv_aload_n hx hb dX3_go_21 rfl (lv_at hl 0 rfl) ?_
    refine agX3_vehicle X hC iX3 (by decide +kernel) dX3_go_22 ?_
    refine lv_iload_n hx hb dX3_go_25 rfl (lv_at hl 1 rfl) ?_
    refine c_callix (v := bP (cG G G.vn G.vc (sF G G.vn zn))) (n := 1) (As := [.int (iI (zn : Int))]) (rest := []) X hC (mX1_canGoBy l A G Y zn hI (show zn < G.rr by omega)) ⟨gX3_go_X1_canGoBy, ⟨_, rfl⟩, rfl, rfl, ⟨by decide, by decide, by decide +kernel⟩, Nat.le_of_ble_eq_true rfl, Nat.le_of_ble_eq_true rfl⟩ (a_recv (y := yX1_canGoBy) X hC.1 (ci := 1) (q0 := 2) rfl rfl rfl) rfl hl.1 rfl (Nat.le_of_ble_eq_true rfl) ⟨Nat.le_of_ble_eq_true rfl, Nat.le_of_ble_eq_true rfl⟩ dX3_go_26 (fun H locs hC => ?_)
    refine li_ifb_ne (tgt := 42) hx hb dX3_go_29 (by decide) (fun c_29 => ?_) (fun c_29 => ?_)
    · have hcg : cG G G.vn G.vc (sF G G.vn zn) := c_29
      refine lv_aload_n hx hb dX3_go_42 rfl (lv_at hl 0 rfl) ?_
      refine agX3_vehicle X hC iX3 (by decide +kernel) dX3_go_43 ?_
      refine lv_iload_n hx hb dX3_go_46 rfl (lv_at hl 1 rfl) ?_
      refine c_callix (v := (dMin G zn ((sF G G.vn zn).toNat))) (n := 1) (As := [.int (iI (zn : Int))]) (rest := []) X hC (mX1_driveBy l A G Y zn ((sF G G.vn zn).toNat) hI (show zn < G.rr by omega) (show ((sF G G.vn zn).toNat) < 2 * G.rr by have := hcg.1; omega) (show sF G G.vn zn = (((sF G G.vn zn).toNat) : Int) by have := hcg.1; omega)) ⟨gX3_go_X1_driveBy, ⟨_, rfl⟩, rfl, rfl, ⟨by decide, by decide, by decide +kernel⟩, Nat.le_of_ble_eq_true rfl, Nat.le_of_ble_eq_true rfl⟩ (a_recv (y := yX1_driveBy) X hC.1 (ci := 1) (q0 := 2) rfl rfl rfl) rfl hl.1 rfl (Nat.le_of_ble_eq_true rfl) ⟨Nat.le_of_ble_eq_true rfl, Nat.le_of_ble_eq_true rfl⟩ dX3_go_47 (fun H locs hC => ?_)
      exact x_iret XX hC hr hk ⟨Nat.le_of_ble_eq_true rfl, Nat.le_of_ble_eq_true rfl⟩ (⟨by unfold kGo; rw [if_pos (by omega)]; exact if_pos c_29, rfl, rfl, rfl⟩) dX3_go_50
    · exact x_throw (cls := xISE) (text := "the plough cannot go by this road") (ik := 38) (is := 128) (ic := 42) XX hC hk hl.1 (by decide +kernel) rfl (by decide +kernel) (by decide +kernel) (by decide +kernel) xw_1 xg_1 (by decide +kernel) dX3_go_32 dX3_go_35 dX3_go_36 dX3_go_38 dX3_go_41 (Nat.le_of_ble_eq_true rfl) (Nat.le_of_ble_eq_true rfl) (Nat.le_of_ble_eq_true rfl) (Nat.le_of_ble_eq_true rfl) ⟨Nat.le_of_ble_eq_true rfl, Nat.le_of_ble_eq_true rfl⟩ (⟨Or.inr ⟨rfl, by unfold kGo; rw [if_pos (by omega)]; exact if_neg c_29⟩, rfl, rfl⟩)
  · exact x_throw (cls := xIOE) (text := "no such road") (ik := 101) (is := 123) (ic := 103) XX hC hk hl.1 (by decide +kernel) rfl (by decide +kernel) (by decide +kernel) (by decide +kernel) xw_3 xg_3 (by decide +kernel) dX3_go_11 dX3_go_14 dX3_go_15 dX3_go_17 dX3_go_20 (Nat.le_of_ble_eq_true rfl) (Nat.le_of_ble_eq_true rfl) (Nat.le_of_ble_eq_true rfl) (Nat.le_of_ble_eq_true rfl) ⟨Nat.le_of_ble_eq_true rfl, Nat.le_of_ble_eq_true rfl⟩ (⟨Or.inl ⟨rfl, if_neg (by omega)⟩, rfl, rfl⟩)

set_option maxHeartbeats 4000000 in
set_option maxRecDepth 100000 in
theorem mX3_addRoad (l : Launch) (hl0 : l.stackTraces = false) (A : AD) (G : GS) (Y : YS) (a : Int) (b : Int) (mm : Int) (q : Int) (hI : Inv G) (ha : -2147483648 ≤ a ∧ a < 2147483648) (hb1 : -2147483648 ≤ b ∧ b < 2147483648) (hm : -2147483648 ≤ mm ∧ mm < 2147483648) (hq : -2147483648 ≤ q ∧ q < 2147483648) : cXi l yX3_addRoad wsX3_addRoad ({ frames := 7, cells := 3, slots := 18, locals := 103 }) A [.ref (A.a 0), .int (iI a), .int (iI b), .int (iI mm), .int (iI q)] G Y (xKI (kRoad G a b mm q) ((G.rr : Int)) ((((G.sm' (up (up G.sm (2 * G.rr) (a).toNat) (2 * G.rr + 1) (b).toNat)).mi' (up G.mi G.rr (mm).toNat)).pr' (up G.pr G.rr (q).toNat)).rr' (G.rr + 1)) Y) (xK3 xIOE xIAE xISE (kRoad G a b mm q) G Y) 3 18 := by
  intro sz
  refine x_start (cc := cX3_addRoad) (maxL := 5) (ret := (some .int)) hl0 (by decide) rfl rfl ?_
  intro p e s m args below meth c XX hr hk hsz ls hl H locs hC
  have X := XX.1
  subst hsz
  obtain ⟨hx, hb, hml, hown, hts⟩ := id X.1
  have hl : lv_has ls 5 [(0, .ref (A.a 0)), (1, .int (iI a)), (2, .int (iI b)), (3, .int (iI mm)), (4, .int (iI q))] := hl
  have iX3 : ∀ w ∈ u_ws RX3 TX3 3, w ∈ wsX3_addRoad := by decide +kernel
  have hrr := hI.rr
  have hnn := hI.nn
  refine lv_aload_n hx hb dX3_addRoad_0 rfl (lv_at hl 0 rfl) ?_
  refine lv_iload_n hx hb dX3_addRoad_1 rfl (lv_at hl 1 rfl) ?_
  refine x_callv (n := 1) (As := [.int (iI a)]) (rest := []) XX hC (mX3_checkNode l hl0 A G Y a (show -2147483648 ≤ a ∧ a < 2147483648 by omega) (show G.nn ≤ 8 by omega)) ⟨gX3_addRoad_X3_checkNode, ⟨_, rfl⟩, rfl, rfl, ⟨by decide, by decide, by decide +kernel⟩, Nat.le_of_ble_eq_true rfl, Nat.le_of_ble_eq_true rfl⟩ (a_recv (y := yX3_checkNode) X hC.1 (ci := 3) (q0 := 0) rfl rfl rfl) rfl hl.1 rfl (Nat.le_of_ble_eq_true rfl) ⟨Nat.le_of_ble_eq_true rfl, Nat.le_of_ble_eq_true rfl⟩ ⟨Nat.le_of_ble_eq_true rfl, Nat.le_of_ble_eq_true rfl⟩ hk (fun E g y h => ⟨Or.inl ⟨h.1.1, by have := k1_of h.1.2; unfold kRoad; rw [if_neg (by omega)]⟩, h.2⟩) dX3_addRoad_2 (fun Gq1 Tq1 H locs hqq1 hC => ?_)
  obtain ⟨hkq1, hgq1, htq1⟩ := hqq1
  rw [hgq1, htq1] at hC
  have hKq1 := k0_of hkq1
  refine lv_aload_n hx hb dX3_addRoad_5 rfl (lv_at hl 0 rfl) ?_
  refine lv_iload_n hx hb dX3_addRoad_6 rfl (lv_at hl 2 rfl) ?_
  refine x_callv (n := 1) (As := [.int (iI b)]) (rest := []) XX hC (mX3_checkNode l hl0 A G Y b (show -2147483648 ≤ b ∧ b < 2147483648 by omega) (show G.nn ≤ 8 by omega)) ⟨gX3_addRoad_X3_checkNode, ⟨_, rfl⟩, rfl, rfl, ⟨by decide, by decide, by decide +kernel⟩, Nat.le_of_ble_eq_true rfl, Nat.le_of_ble_eq_true rfl⟩ (a_recv (y := yX3_checkNode) X hC.1 (ci := 3) (q0 := 0) rfl rfl rfl) rfl hl.1 rfl (Nat.le_of_ble_eq_true rfl) ⟨Nat.le_of_ble_eq_true rfl, Nat.le_of_ble_eq_true rfl⟩ ⟨Nat.le_of_ble_eq_true rfl, Nat.le_of_ble_eq_true rfl⟩ hk (fun E g y h => ⟨Or.inl ⟨h.1.1, by have := k1_of h.1.2; unfold kRoad; rw [if_neg (by omega)]⟩, h.2⟩) dX3_addRoad_7 (fun Gq2 Tq2 H locs hqq2 hC => ?_)
  obtain ⟨hkq2, hgq2, htq2⟩ := hqq2
  rw [hgq2, htq2] at hC
  have hKq2 := k0_of hkq2
  refine lv_iload_n hx hb dX3_addRoad_10 rfl (lv_at hl 1 rfl) ?_
  refine lv_iload_n hx hb dX3_addRoad_11 rfl (lv_at hl 2 rfl) ?_
  refine li_icmp_ne (tgt := 25) hx hb dX3_addRoad_12 (by decide) (by omega) (fun c_12 => ?_) (fun c_12 => ?_)
  · refine lv_iload_n hx hb dX3_addRoad_25 rfl (lv_at hl 3 rfl) ?_
    refine li_c hx hb dX3_addRoad_26 ?_
    refine li_icmp_lt (tgt := 36) hx hb dX3_addRoad_27 (by decide) (by omega) (fun c_27 => ?_) (fun c_27 => ?_)
    · exact x_throw (cls := xIAE) (text := "minutes is not 1 to 30") (ik := 60) (is := 65) (ic := 64) XX hC hk hl.1 (by decide +kernel) rfl (by decide +kernel) (by decide +kernel) (by decide +kernel) xw_2 xg_2 (by decide +kernel) dX3_addRoad_36 dX3_addRoad_39 dX3_addRoad_40 dX3_addRoad_42 dX3_addRoad_45 (Nat.le_of_ble_eq_true rfl) (Nat.le_of_ble_eq_true rfl) (Nat.le_of_ble_eq_true rfl) (Nat.le_of_ble_eq_true rfl) ⟨Nat.le_of_ble_eq_true rfl, Nat.le_of_ble_eq_true rfl⟩ (⟨Or.inr (Or.inl ⟨rfl, by unfold kRoad; rw [if_pos (by omega), if_neg (by omega)]⟩), rfl, rfl⟩)
    · refine lv_iload_n hx hb dX3_addRoad_30 rfl (lv_at hl 3 rfl) ?_
      refine li_bi hx hb dX3_addRoad_31 (by decide) ?_
      refine li_icmp_le (tgt := 46) hx hb dX3_addRoad_33 (by decide) (by omega) (fun c_33 => ?_) (fun c_33 => ?_)
      · refine lv_iload hx hb dX3_addRoad_46 (lv_at hl 4 rfl) ?_
        refine c_callisx (v := bP (0 ≤ q ∧ q ≤ 2)) (n := 1) (As := [.int (iI q)]) (rest := []) X hC (mX3_isPriority l A G Y q (show -2147483648 ≤ q ∧ q < 2147483648 by omega)) ⟨gX3_addRoad_X3_isPriority, ⟨_, rfl⟩, rfl, rfl, ⟨by decide, by decide, by decide +kernel⟩, Nat.le_of_ble_eq_true rfl, Nat.le_of_ble_eq_true rfl⟩ rfl hl.1 rfl (Nat.le_of_ble_eq_true rfl) ⟨Nat.le_of_ble_eq_true rfl, Nat.le_of_ble_eq_true rfl⟩ dX3_addRoad_48 (fun H locs hC => ?_)
        refine li_ifb_ne (tgt := 64) hx hb dX3_addRoad_51 (by decide) (fun c_51 => ?_) (fun c_51 => ?_)
        · refine lv_aload_n hx hb dX3_addRoad_64 rfl (lv_at hl 0 rfl) ?_
          refine agX3_town X hC iX3 (by decide +kernel) dX3_addRoad_65 ?_
          refine c_callix (v := (G.rr : Int)) (n := 0) (As := []) (rest := []) X hC (mX0_roadCount l A G Y) ⟨gX3_addRoad_X0_roadCount, ⟨_, rfl⟩, rfl, rfl, ⟨by decide, by decide, by decide +kernel⟩, Nat.le_of_ble_eq_true rfl, Nat.le_of_ble_eq_true rfl⟩ (a_recv (y := yX0_roadCount) X hC.1 (ci := 0) (q0 := 1) rfl rfl rfl) rfl hl.1 rfl (Nat.le_of_ble_eq_true rfl) ⟨Nat.le_of_ble_eq_true rfl, Nat.le_of_ble_eq_true rfl⟩ dX3_addRoad_68 (fun H locs hC => ?_)
          refine li_bi hx hb dX3_addRoad_71 (by decide) ?_
          refine li_icmp_lt (tgt := 86) hx hb dX3_addRoad_73 (by decide) (by omega) (fun c_73 => ?_) (fun c_73 => ?_)
          · refine lv_aload_n hx hb dX3_addRoad_86 rfl (lv_at hl 0 rfl) ?_
            refine agX3_town X hC iX3 (by decide +kernel) dX3_addRoad_87 ?_
            refine lv_iload_n hx hb dX3_addRoad_90 rfl (lv_at hl 1 rfl) ?_
            refine lv_iload_n hx hb dX3_addRoad_91 rfl (lv_at hl 2 rfl) ?_
            refine lv_iload_n hx hb dX3_addRoad_92 rfl (lv_at hl 3 rfl) ?_
            refine lv_iload hx hb dX3_addRoad_93 (lv_at hl 4 rfl) ?_
            refine li_cast3 (z' := (((a).toNat : Nat) : Int)) hx hb (by omega) ?_
            refine li_cast2 (z' := (((b).toNat : Nat) : Int)) hx hb (by omega) ?_
            refine li_cast1 (z' := (((mm).toNat : Nat) : Int)) hx hb (by omega) ?_
            refine li_cast0 (z' := (((q).toNat : Nat) : Int)) hx hb (by omega) ?_
            refine c_callix (v := (G.rr : Int)) (n := 4) (As := [.int (iI (((a).toNat : Nat) : Int)), .int (iI (((b).toNat : Nat) : Int)), .int (iI (((mm).toNat : Nat) : Int)), .int (iI (((q).toNat : Nat) : Int))]) (rest := []) X hC (mX0_appendRoad l A G Y ((a).toNat) ((b).toNat) ((mm).toNat) ((q).toNat) (show G.rr < 12 by omega)) ⟨gX3_addRoad_X0_appendRoad, ⟨_, rfl⟩, rfl, rfl, ⟨by decide, by decide, by decide +kernel⟩, Nat.le_of_ble_eq_true rfl, Nat.le_of_ble_eq_true rfl⟩ (a_recv (y := yX0_appendRoad) X hC.1 (ci := 0) (q0 := 1) rfl rfl rfl) rfl hl.1 rfl (Nat.le_of_ble_eq_true rfl) ⟨Nat.le_of_ble_eq_true rfl, Nat.le_of_ble_eq_true rfl⟩ dX3_addRoad_95 (fun H locs hC => ?_)
            have hC : aH A (cAdr A) (CW A (mkG G.tu G.st (up (up G.sm (2 * G.rr) ((a).toNat)) (2 * G.rr + 1) ((b).toNat)) (up G.mi G.rr ((mm).toNat)) (up G.pr G.rr ((q).toNat)) G.de G.sa G.nn (G.rr + 1) G.vn G.vc G.vs G.vw G.tt) Y) s H locs := hC
            exact x_iret XX hC hr hk ⟨Nat.le_of_ble_eq_true rfl, Nat.le_of_ble_eq_true rfl⟩ (⟨by unfold kRoad; rw [if_pos (by omega), if_pos (by omega), if_pos (by omega)], rfl, rfl, rfl⟩) dX3_addRoad_98
          · exact x_throw (cls := xISE) (text := "there are 12 roads") (ik := 38) (is := 76) (ic := 42) XX hC hk hl.1 (by decide +kernel) rfl (by decide +kernel) (by decide +kernel) (by decide +kernel) xw_1 xg_1 (by decide +kernel) dX3_addRoad_76 dX3_addRoad_79 dX3_addRoad_80 dX3_addRoad_82 dX3_addRoad_85 (Nat.le_of_ble_eq_true rfl) (Nat.le_of_ble_eq_true rfl) (Nat.le_of_ble_eq_true rfl) (Nat.le_of_ble_eq_true rfl) ⟨Nat.le_of_ble_eq_true rfl, Nat.le_of_ble_eq_true rfl⟩ (⟨Or.inr (Or.inr ⟨rfl, by unfold kRoad; rw [if_pos (by omega), if_pos (by omega), if_neg (by omega)]⟩), rfl, rfl⟩)
        · exact x_throw (cls := xIAE) (text := "priority is not 0 to 2") (ik := 60) (is := 71) (ic := 64) XX hC hk hl.1 (by decide +kernel) rfl (by decide +kernel) (by decide +kernel) (by decide +kernel) xw_2 xg_2 (by decide +kernel) dX3_addRoad_54 dX3_addRoad_57 dX3_addRoad_58 dX3_addRoad_60 dX3_addRoad_63 (Nat.le_of_ble_eq_true rfl) (Nat.le_of_ble_eq_true rfl) (Nat.le_of_ble_eq_true rfl) (Nat.le_of_ble_eq_true rfl) ⟨Nat.le_of_ble_eq_true rfl, Nat.le_of_ble_eq_true rfl⟩ (⟨Or.inr (Or.inl ⟨rfl, by unfold kRoad; rw [if_pos (by omega), if_neg (by omega)]⟩), rfl, rfl⟩)
      · exact x_throw (cls := xIAE) (text := "minutes is not 1 to 30") (ik := 60) (is := 65) (ic := 64) XX hC hk hl.1 (by decide +kernel) rfl (by decide +kernel) (by decide +kernel) (by decide +kernel) xw_2 xg_2 (by decide +kernel) dX3_addRoad_36 dX3_addRoad_39 dX3_addRoad_40 dX3_addRoad_42 dX3_addRoad_45 (Nat.le_of_ble_eq_true rfl) (Nat.le_of_ble_eq_true rfl) (Nat.le_of_ble_eq_true rfl) (Nat.le_of_ble_eq_true rfl) ⟨Nat.le_of_ble_eq_true rfl, Nat.le_of_ble_eq_true rfl⟩ (⟨Or.inr (Or.inl ⟨rfl, by unfold kRoad; rw [if_pos (by omega), if_neg (by omega)]⟩), rfl, rfl⟩)
  · exact x_throw (cls := xIAE) (text := "the ends are the same") (ik := 60) (is := 62) (ic := 64) XX hC hk hl.1 (by decide +kernel) rfl (by decide +kernel) (by decide +kernel) (by decide +kernel) xw_2 xg_2 (by decide +kernel) dX3_addRoad_15 dX3_addRoad_18 dX3_addRoad_19 dX3_addRoad_21 dX3_addRoad_24 (Nat.le_of_ble_eq_true rfl) (Nat.le_of_ble_eq_true rfl) (Nat.le_of_ble_eq_true rfl) (Nat.le_of_ble_eq_true rfl) ⟨Nat.le_of_ble_eq_true rfl, Nat.le_of_ble_eq_true rfl⟩ (⟨Or.inr (Or.inl ⟨rfl, by unfold kRoad; rw [if_pos (by omega), if_neg (by omega)]⟩), rfl, rfl⟩)
