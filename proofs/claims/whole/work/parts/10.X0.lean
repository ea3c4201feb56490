/-! 10: the town -/
set_option maxHeartbeats 4000000 in
set_option maxRecDepth 100000 in
theorem mX0_nodeCount (l : Launch) (A : AD) (G : GS) (Y : YS) : cMi l yX0_nodeCount wsX0_nodeCount ({ frames := 0, cells := 0, slots := 0, locals := 0 }) A [.ref (A.a 1)] G Y (xI ((G.nn : Int)) G Y) := by
  intro sz
  refine c_start (cc := cX0_nodeCount) (maxL := 1) (ret := (some .int)) (by decide) rfl rfl ?_
  intro p e s m args below meth c X hr hk hnm hsz ls hl H locs hC
  subst hsz
  obtain ⟨hx, hb, hml, hown, hts⟩ := id X.1
  have hl : lv_has ls 1 [(0, .ref (A.a 1))] := hl
  have iX0 : ∀ w ∈ u_ws RX0 TX0 9, w ∈ wsX0_nodeCount := by decide +kernel
  refine lv_aload_n hx hb dX0_nodeCount_0 rfl (lv_at hl 0 rfl) ?_
  refine agX0_nodes X hC iX0 (by decide +kernel) dX0_nodeCount_1 (v := (G.nn : Int)) rfl ?_
  exact c_iret X hC hr hk (⟨rfl, rfl, rfl⟩) dX0_nodeCount_4

set_option maxHeartbeats 4000000 in
set_option maxRecDepth 100000 in
theorem mX0_roadCount (l : Launch) (A : AD) (G : GS) (Y : YS) : cMi l yX0_roadCount wsX0_roadCount ({ frames := 0, cells := 0, slots := 0, locals := 0 }) A [.ref (A.a 1)] G Y (xI ((G.rr : Int)) G Y) := by
  intro sz
  refine c_start (cc := cX0_roadCount) (maxL := 1) (ret := (some .int)) (by decide) rfl rfl ?_
  intro p e s m args below meth c X hr hk hnm hsz ls hl H locs hC
  subst hsz
  obtain ⟨hx, hb, hml, hown, hts⟩ := id X.1
  have hl : lv_has ls 1 [(0, .ref (A.a 1))] := hl
  have iX0 : ∀ w ∈ u_ws RX0 TX0 9, w ∈ wsX0_roadCount := by decide +kernel
  refine lv_aload_n hx hb dX0_roadCount_0 rfl (lv_at hl 0 rfl) ?_
  refine agX0_roads X hC iX0 (by decide +kernel) dX0_roadCount_1 (v := (G.rr : Int)) rfl ?_
  exact c_iret X hC hr hk (⟨rfl, rfl, rfl⟩) dX0_roadCount_4

set_option maxHeartbeats 4000000 in
set_option maxRecDepth 100000 in
theorem mX0_sideCount (l : Launch) (A : AD) (G : GS) (Y : YS) : cMi l yX0_sideCount wsX0_sideCount ({ frames := 0, cells := 0, slots := 0, locals := 0 }) A [.ref (A.a 1)] G Y (xI (((2 * G.rr : Nat) : Int)) G Y) := by
  intro sz
  refine c_start (cc := cX0_sideCount) (maxL := 1) (ret := (some .int)) (by decide) rfl rfl ?_
  intro p e s m args below meth c X hr hk hnm hsz ls hl H locs hC
  subst hsz
  obtain ⟨hx, hb, hml, hown, hts⟩ := id X.1
  have hl : lv_has ls 1 [(0, .ref (A.a 1))] := hl
  have iX0 : ∀ w ∈ u_ws RX0 TX0 9, w ∈ wsX0_sideCount := by decide +kernel
  refine li_c hx hb dX0_sideCount_0 ?_
  refine lv_aload_n hx hb dX0_sideCount_1 rfl (lv_at hl 0 rfl) ?_
  refine agX0_roads X hC iX0 (by decide +kernel) dX0_sideCount_2 (v := (G.rr : Int)) rfl ?_
  refine li_mulN (x := 2) (y := G.rr) hx hb dX0_sideCount_5 rfl rfl ?_
  exact c_iret X hC hr hk (⟨rfl, rfl, rfl⟩) dX0_sideCount_6

set_option maxHeartbeats 4000000 in
set_option maxRecDepth 100000 in
theorem mX0_hasNode (l : Launch) (A : AD) (G : GS) (Y : YS) (z : Int) (hz : -2147483648 ≤ z ∧ z < 2147483648) (hb1 : G.nn ≤ 12) : cMi l yX0_hasNode wsX0_hasNode ({ frames := 0, cells := 0, slots := 0, locals := 0 }) A [.ref (A.a 1), .int (iI z)] G Y (xI (bP (0 ≤ z ∧ z < (G.nn : Int))) G Y) := by
  intro sz
  refine c_start (cc := cX0_hasNode) (maxL := 2) (ret := (some .boolean)) (by decide) rfl rfl ?_
  intro p e s m args below meth c X hr hk hnm hsz ls hl H locs hC
  subst hsz
  obtain ⟨hx, hb, hml, hown, hts⟩ := id X.1
  have hl : lv_has ls 2 [(0, .ref (A.a 1)), (1, .int (iI z))] := hl
  have iX0 : ∀ w ∈ u_ws RX0 TX0 9, w ∈ wsX0_hasNode := by decide +kernel
  refine lv_iload_n hx hb dX0_hasNode_0 rfl (lv_at hl 1 rfl) ?_
  refine li_if_lt (tgt := 16) hx hb dX0_hasNode_1 (by decide) (by omega) (fun c_1 => ?_) (fun c_1 => ?_)
  · refine li_c hx hb dX0_hasNode_16 ?_
    exact c_zret X hC hr hk (by omega) (⟨(bP_f (by omega)).symm, rfl, rfl⟩) dX0_hasNode_17
  · refine lv_iload_n hx hb dX0_hasNode_4 rfl (lv_at hl 1 rfl) ?_
    refine lv_aload_n hx hb dX0_hasNode_5 rfl (lv_at hl 0 rfl) ?_
    refine agX0_nodes X hC iX0 (by decide +kernel) dX0_hasNode_6 (v := (G.nn : Int)) rfl ?_
    refine li_icmp_ge (tgt := 16) hx hb dX0_hasNode_9 (by decide) (by omega) (fun c_9 => ?_) (fun c_9 => ?_)
    · refine li_c hx hb dX0_hasNode_16 ?_
      exact c_zret X hC hr hk (by omega) (⟨(bP_f (by omega)).symm, rfl, rfl⟩) dX0_hasNode_17
    · refine li_c hx hb dX0_hasNode_12 ?_
      refine lv_goto (tgt := 17) hx hb dX0_hasNode_13 (by decide) ?_
      exact c_zret X hC hr hk (by omega) (⟨(bP_t (by omega)).symm, rfl, rfl⟩) dX0_hasNode_17

set_option maxHeartbeats 4000000 in
set_option maxRecDepth 100000 in
theorem mX0_hasRoad (l : Launch) (A : AD) (G : GS) (Y : YS) (z : Int) (hz : -2147483648 ≤ z ∧ z < 2147483648) (hb1 : G.rr ≤ 12) : cMi l yX0_hasRoad wsX0_hasRoad ({ frames := 0, cells := 0, slots := 0, locals := 0 }) A [.ref (A.a 1), .int (iI z)] G Y (xI (bP (0 ≤ z ∧ z < (G.rr : Int))) G Y) := by
  intro sz
  refine c_start (cc := cX0_hasRoad) (maxL := 2) (ret := (some .boolean)) (by decide) rfl rfl ?_
  intro p e s m args below meth c X hr hk hnm hsz ls hl H locs hC
  subst hsz
  obtain ⟨hx, hb, hml, hown, hts⟩ := id X.1
  have hl : lv_has ls 2 [(0, .ref (A.a 1)), (1, .int (iI z))] := hl
  have iX0 : ∀ w ∈ u_ws RX0 TX0 9, w ∈ wsX0_hasRoad := by decide +kernel
  refine lv_iload_n hx hb dX0_hasRoad_0 rfl (lv_at hl 1 rfl) ?_
  refine li_if_lt (tgt := 16) hx hb dX0_hasRoad_1 (by decide) (by omega) (fun c_1 => ?_) (fun c_1 => ?_)
  · refine li_c hx hb dX0_hasRoad_16 ?_
    exact c_zret X hC hr hk (by omega) (⟨(bP_f (by omega)).symm, rfl, rfl⟩) dX0_hasRoad_17
  · refine lv_iload_n hx hb dX0_hasRoad_4 rfl (lv_at hl 1 rfl) ?_
    refine lv_aload_n hx hb dX0_hasRoad_5 rfl (lv_at hl 0 rfl) ?_
    refine agX0_roads X hC iX0 (by decide +kernel) dX0_hasRoad_6 (v := (G.rr : Int)) rfl ?_
    refine li_icmp_ge (tgt := 16) hx hb dX0_hasRoad_9 (by decide) (by omega) (fun c_9 => ?_) (fun c_9 => ?_)
    · refine li_c hx hb dX0_hasRoad_16 ?_
      exact c_zret X hC hr hk (by omega) (⟨(bP_f (by omega)).symm, rfl, rfl⟩) dX0_hasRoad_17
    · refine li_c hx hb dX0_hasRoad_12 ?_
      refine lv_goto (tgt := 17) hx hb dX0_hasRoad_13 (by decide) ?_
      exact c_zret X hC hr hk (by omega) (⟨(bP_t (by omega)).symm, rfl, rfl⟩) dX0_hasRoad_17

set_option maxHeartbeats 4000000 in
set_option maxRecDepth 100000 in
theorem mX0_hasSide (l : Launch) (A : AD) (G : GS) (Y : YS) (z : Int) (hz : -2147483648 ≤ z ∧ z < 2147483648) (hb1 : G.rr ≤ 12) : cMi l yX0_hasSide wsX0_hasSide ({ frames := 0, cells := 0, slots := 0, locals := 0 }) A [.ref (A.a 1), .int (iI z)] G Y (xI (bP (0 ≤ z ∧ z < ((2 * G.rr : Nat) : Int))) G Y) := by
  intro sz
  refine c_start (cc := cX0_hasSide) (maxL := 2) (ret := (some .boolean)) (by decide) rfl rfl ?_
  intro p e s m args below meth c X hr hk hnm hsz ls hl H locs hC
  subst hsz
  obtain ⟨hx, hb, hml, hown, hts⟩ := id X.1
  have hl : lv_has ls 2 [(0, .ref (A.a 1)), (1, .int (iI z))] := hl
  have iX0 : ∀ w ∈ u_ws RX0 TX0 9, w ∈ wsX0_hasSide := by decide +kernel
  refine lv_iload_n hx hb dX0_hasSide_0 rfl (lv_at hl 1 rfl) ?_
  refine li_if_lt (tgt := 18) hx hb dX0_hasSide_1 (by decide) (by omega) (fun c_1 => ?_) (fun c_1 => ?_)
  · refine li_c hx hb dX0_hasSide_18 ?_
    exact c_zret X hC hr hk (by omega) (⟨(bP_f (by omega)).symm, rfl, rfl⟩) dX0_hasSide_19
  · refine lv_iload_n hx hb dX0_hasSide_4 rfl (lv_at hl 1 rfl) ?_
    refine li_c hx hb dX0_hasSide_5 ?_
    refine lv_aload_n hx hb dX0_hasSide_6 rfl (lv_at hl 0 rfl) ?_
    refine agX0_roads X hC iX0 (by decide +kernel) dX0_hasSide_7 (v := (G.rr : Int)) rfl ?_
    refine li_mulN (x := 2) (y := G.rr) hx hb dX0_hasSide_10 rfl rfl ?_
    refine li_icmp_ge (tgt := 18) hx hb dX0_hasSide_11 (by decide) (by omega) (fun c_11 => ?_) (fun c_11 => ?_)
    · refine li_c hx hb dX0_hasSide_18 ?_
      exact c_zret X hC hr hk (by omega) (⟨(bP_f (by omega)).symm, rfl, rfl⟩) dX0_hasSide_19
    · refine li_c hx hb dX0_hasSide_14 ?_
      refine lv_goto (tgt := 19) hx hb dX0_hasSide_15 (by decide) ?_
      exact c_zret X hC hr hk (by omega) (⟨(bP_t (by omega)).symm, rfl, rfl⟩) dX0_hasSide_19

set_option maxHeartbeats 4000000 in
set_option maxRecDepth 100000 in
theorem mX0_appendNode (l : Launch) (A : AD) (G : GS) (Y : YS) (t : Nat) (u : Nat) (hn : G.nn < 8) (ht : t ≤ 1) (hu : u ≤ 1) : cMi l yX0_appendNode wsX0_appendNode ({ frames := 0, cells := 0, slots := 0, locals := 0 }) A [.ref (A.a 1), .int (iI (t : Int)), .int (iI (u : Int))] G Y (xI ((G.nn : Int)) (((G.tu' (up G.tu G.nn t)).st' (up G.st G.nn u)).nn' (G.nn + 1)) Y) := by
  intro sz
  refine c_start (cc := cX0_appendNode) (maxL := 3) (ret := (some .int)) (by decide) rfl rfl ?_
  intro p e s m args below meth c X hr hk hnm hsz ls hl H locs hC
  subst hsz
  obtain ⟨hx, hb, hml, hown, hts⟩ := id X.1
  have hl : lv_has ls 3 [(0, .ref (A.a 1)), (1, .int (iI (t : Int))), (2, .int (iI (u : Int)))] := hl
  have iX0 : ∀ w ∈ u_ws RX0 TX0 9, w ∈ wsX0_appendNode := by decide +kernel
  refine lv_aload_n hx hb dX0_appendNode_0 rfl (lv_at hl 0 rfl) ?_
  refine agX0_nodes X hC iX0 (by decide +kernel) dX0_appendNode_1 (v := (G.nn : Int)) rfl ?_
  refine li_bi hx hb dX0_appendNode_4 (by decide) ?_
  refine li_icmp_lt (tgt := 11) hx hb dX0_appendNode_6 (by decide) (by omega) (fun c_6 => ?_) (fun c_6 => ?_)
  · refine lv_aload_n hx hb dX0_appendNode_11 rfl (lv_at hl 0 rfl) ?_
    refine agX0_turning X hC iX0 (by decide +kernel) dX0_appendNode_12 ?_
    refine lv_aload_n hx hb dX0_appendNode_15 rfl (lv_at hl 0 rfl) ?_
    refine agX0_nodes X hC iX0 (by decide +kernel) dX0_appendNode_16 (v := (G.nn : Int)) rfl ?_
    refine lv_iload_n hx hb dX0_appendNode_19 rfl (lv_at hl 1 rfl) ?_
    refine asC_tu (k0 := G.nn) (x := t) X hC (by omega) (by omega) (by omega) (by omega) dX0_appendNode_20 (fun H locs hC => ?_)
    have hC : aH A (cAdr A) (CW A (mkG (up G.tu G.nn t) G.st G.sm G.mi G.pr G.de G.sa G.nn G.rr G.vn G.vc G.vs G.vw G.tt) Y) s H locs := hC
    refine lv_aload_n hx hb dX0_appendNode_21 rfl (lv_at hl 0 rfl) ?_
    refine agX0_stores X hC iX0 (by decide +kernel) dX0_appendNode_22 ?_
    refine lv_aload_n hx hb dX0_appendNode_25 rfl (lv_at hl 0 rfl) ?_
    refine agX0_nodes X hC iX0 (by decide +kernel) dX0_appendNode_26 (v := (G.nn : Int)) rfl ?_
    refine lv_iload_n hx hb dX0_appendNode_29 rfl (lv_at hl 2 rfl) ?_
    refine asC_st (k0 := G.nn) (x := u) X hC (by omega) (by omega) (by omega) (by omega) dX0_appendNode_30 (fun H locs hC => ?_)
    have hC : aH A (cAdr A) (CW A (mkG (up G.tu G.nn t) (up G.st G.nn u) G.sm G.mi G.pr G.de G.sa G.nn G.rr G.vn G.vc G.vs G.vw G.tt) Y) s H locs := hC
    refine lv_aload_n hx hb dX0_appendNode_31 rfl (lv_at hl 0 rfl) ?_
    refine lv_dup hx hb dX0_appendNode_32 rfl ?_
    refine agX0_nodes X hC iX0 (by decide +kernel) dX0_appendNode_33 (v := (G.nn : Int)) rfl ?_
    refine li_c hx hb dX0_appendNode_36 ?_
    refine li_addN (x := G.nn) (y := 1) hx hb dX0_appendNode_37 rfl rfl ?_
    refine apX0_nodes X hC iX0 (by decide +kernel) dX0_appendNode_38 (x := G.nn + 1) (by omega) (fun H locs hC => ?_)
    have hC : aH A (cAdr A) (CW A (mkG (up G.tu G.nn t) (up G.st G.nn u) G.sm G.mi G.pr G.de G.sa (G.nn + 1) G.rr G.vn G.vc G.vs G.vw G.tt) Y) s H locs := hC
    refine lv_aload_n hx hb dX0_appendNode_41 rfl (lv_at hl 0 rfl) ?_
    refine agX0_nodes X hC iX0 (by decide +kernel) dX0_appendNode_42 (v := ((G.nn + 1 : Nat) : Int)) rfl ?_
    refine li_c hx hb dX0_appendNode_45 ?_
    refine li_subN (x := G.nn + 1) (y := 1) hx hb dX0_appendNode_46 rfl rfl (by omega) ?_
    exact c_iret X hC hr hk (⟨by omega, rfl, rfl⟩) dX0_appendNode_47
  · omega

set_option maxHeartbeats 4000000 in
set_option maxRecDepth 100000 in
theorem mX0_appendRoad (l : Launch) (A : AD) (G : GS) (Y : YS) (a : Nat) (b : Nat) (mm : Nat) (q : Nat) (hr : G.rr < 12) : cMi l yX0_appendRoad wsX0_appendRoad ({ frames := 0, cells := 0, slots := 0, locals := 0 }) A [.ref (A.a 1), .int (iI (a : Int)), .int (iI (b : Int)), .int (iI (mm : Int)), .int (iI (q : Int))] G Y (xI ((G.rr : Int)) ((((G.sm' (up (up G.sm (2 * G.rr) a) (2 * G.rr + 1) b)).mi' (up G.mi G.rr mm)).pr' (up G.pr G.rr q)).rr' (G.rr + 1)) Y) := by
  intro sz
  refine c_start (cc := cX0_appendRoad) (maxL := 5) (ret := (some .int)) (by decide) rfl rfl ?_
  intro p e s m args below meth c X hr hk hnm hsz ls hl H locs hC
  subst hsz
  obtain ⟨hx, hb, hml, hown, hts⟩ := id X.1
  have hl : lv_has ls 5 [(0, .ref (A.a 1)), (1, .int (iI (a : Int))), (2, .int (iI (b : Int))), (3, .int (iI (mm : Int))), (4, .int (iI (q : Int)))] := hl
  have iX0 : ∀ w ∈ u_ws RX0 TX0 9, w ∈ wsX0_appendRoad := by decide +kernel
  refine lv_aload_n hx hb dX0_appendRoad_0 rfl (lv_at hl 0 rfl) ?_
  refine agX0_roads X hC iX0 (by decide +kernel) dX0_appendRoad_1 (v := (G.rr : Int)) rfl ?_
  refine li_bi hx hb dX0_appendRoad_4 (by decide) ?_
  refine li_icmp_lt (tgt := 11) hx hb dX0_appendRoad_6 (by decide) (by omega) (fun c_6 => ?_) (fun c_6 => ?_)
  · refine lv_aload_n hx hb dX0_appendRoad_11 rfl (lv_at hl 0 rfl) ?_
    refine agX0_starts X hC iX0 (by decide +kernel) dX0_appendRoad_12 ?_
    refine li_c hx hb dX0_appendRoad_15 ?_
    refine lv_aload_n hx hb dX0_appendRoad_16 rfl (lv_at hl 0 rfl) ?_
    refine agX0_roads X hC iX0 (by decide +kernel) dX0_appendRoad_17 (v := (G.rr : Int)) rfl ?_
    refine li_mulN (x := 2) (y := G.rr) hx hb dX0_appendRoad_20 rfl rfl ?_
    refine lv_iload_n hx hb dX0_appendRoad_21 rfl (lv_at hl 1 rfl) ?_
    refine asC_sm (k0 := 2 * G.rr) (x := a) X hC (by omega) (by omega) (by omega) dX0_appendRoad_22 (fun H locs hC => ?_)
    have hC : aH A (cAdr A) (CW A (mkG G.tu G.st (up G.sm (2 * G.rr) a) G.mi G.pr G.de G.sa G.nn G.rr G.vn G.vc G.vs G.vw G.tt) Y) s H locs := hC
    refine lv_aload_n hx hb dX0_appendRoad_23 rfl (lv_at hl 0 rfl) ?_
    refine agX0_starts X hC iX0 (by decide +kernel) dX0_appendRoad_24 ?_
    refine li_c hx hb dX0_appendRoad_27 ?_
    refine lv_aload_n hx hb dX0_appendRoad_28 rfl (lv_at hl 0 rfl) ?_
    refine agX0_roads X hC iX0 (by decide +kernel) dX0_appendRoad_29 (v := (G.rr : Int)) rfl ?_
    refine li_mulN (x := 2) (y := G.rr) hx hb dX0_appendRoad_32 rfl rfl ?_
    refine li_c hx hb dX0_appendRoad_33 ?_
    refine li_addN (x := 2 * G.rr) (y := 1) hx hb dX0_appendRoad_34 rfl rfl ?_
    refine lv_iload_n hx hb dX0_appendRoad_35 rfl (lv_at hl 2 rfl) ?_
    refine asC_sm (k0 := (2 * G.rr) + 1) (x := b) X hC (by omega) (by omega) (by omega) dX0_appendRoad_36 (fun H locs hC => ?_)
    have hC : aH A (cAdr A) (CW A (mkG G.tu G.st (up (up G.sm (2 * G.rr) a) ((2 * G.rr) + 1) b) G.mi G.pr G.de G.sa G.nn G.rr G.vn G.vc G.vs G.vw G.tt) Y) s H locs := hC
    refine lv_aload_n hx hb dX0_appendRoad_37 rfl (lv_at hl 0 rfl) ?_
    refine agX0_minutes X hC iX0 (by decide +kernel) dX0_appendRoad_38 ?_
    refine lv_aload_n hx hb dX0_appendRoad_41 rfl (lv_at hl 0 rfl) ?_
    refine agX0_roads X hC iX0 (by decide +kernel) dX0_appendRoad_42 (v := (G.rr : Int)) rfl ?_
    refine lv_iload_n hx hb dX0_appendRoad_45 rfl (lv_at hl 3 rfl) ?_
    refine asC_mi (k0 := G.rr) (x := mm) X hC (by omega) (by omega) (by omega) dX0_appendRoad_46 (fun H locs hC => ?_)
    have hC : aH A (cAdr A) (CW A (mkG G.tu G.st (up (up G.sm (2 * G.rr) a) ((2 * G.rr) + 1) b) (up G.mi G.rr mm) G.pr G.de G.sa G.nn G.rr G.vn G.vc G.vs G.vw G.tt) Y) s H locs := hC
    refine lv_aload_n hx hb dX0_appendRoad_47 rfl (lv_at hl 0 rfl) ?_
    refine agX0_priorities X hC iX0 (by decide +kernel) dX0_appendRoad_48 ?_
    refine lv_aload_n hx hb dX0_appendRoad_51 rfl (lv_at hl 0 rfl) ?_
    refine agX0_roads X hC iX0 (by decide +kernel) dX0_appendRoad_52 (v := (G.rr : Int)) rfl ?_
    refine lv_iload hx hb dX0_appendRoad_55 (lv_at hl 4 rfl) ?_
    refine asC_pr (k0 := G.rr) (x := q) X hC (by omega) (by omega) (by omega) dX0_appendRoad_57 (fun H locs hC => ?_)
    have hC : aH A (cAdr A) (CW A (mkG G.tu G.st (up (up G.sm (2 * G.rr) a) ((2 * G.rr) + 1) b) (up G.mi G.rr mm) (up G.pr G.rr q) G.de G.sa G.nn G.rr G.vn G.vc G.vs G.vw G.tt) Y) s H locs := hC
    refine lv_aload_n hx hb dX0_appendRoad_58 rfl (lv_at hl 0 rfl) ?_
    refine lv_dup hx hb dX0_appendRoad_59 rfl ?_
    refine agX0_roads X hC iX0 (by decide +kernel) dX0_appendRoad_60 (v := (G.rr : Int)) rfl ?_
    refine li_c hx hb dX0_appendRoad_63 ?_
    refine li_addN (x := G.rr) (y := 1) hx hb dX0_appendRoad_64 rfl rfl ?_
    refine apX0_roads X hC iX0 (by decide +kernel) dX0_appendRoad_65 (x := G.rr + 1) (by omega) (fun H locs hC => ?_)
    have hC : aH A (cAdr A) (CW A (mkG G.tu G.st (up (up G.sm (2 * G.rr) a) ((2 * G.rr) + 1) b) (up G.mi G.rr mm) (up G.pr G.rr q) G.de G.sa G.nn (G.rr + 1) G.vn G.vc G.vs G.vw G.tt) Y) s H locs := hC
    refine lv_aload_n hx hb dX0_appendRoad_68 rfl (lv_at hl 0 rfl) ?_
    refine agX0_roads X hC iX0 (by decide +kernel) dX0_appendRoad_69 (v := ((G.rr + 1 : Nat) : Int)) rfl ?_
    refine li_c hx hb dX0_appendRoad_72 ?_
    refine li_subN (x := G.rr + 1) (y := 1) hx hb dX0_appendRoad_73 rfl rfl (by omega) ?_
    exact c_iret X hC hr hk (⟨by omega, rfl, rfl⟩) dX0_appendRoad_74
  · omega

set_option maxHeartbeats 4000000 in
set_option maxRecDepth 100000 in
theorem mX0_isStoreAt (l : Launch) (A : AD) (G : GS) (Y : YS) (k : Nat) (hk1 : k < G.nn) (hn : G.nn ≤ 8) (h1 : G.st k ≤ 1) : cMi l yX0_isStoreAt wsX0_isStoreAt ({ frames := 1, cells := 0, slots := 0, locals := 21 }) A [.ref (A.a 1), .int (iI (k : Int))] G Y (xI (((G.st k : Nat) : Int)) G Y) := by
  intro sz
  refine c_start (cc := cX0_isStoreAt) (maxL := 2) (ret := (some .boolean)) (by decide) rfl rfl ?_
  intro p e s m args below meth c X hr hk hnm hsz ls hl H locs hC
  subst hsz
  obtain ⟨hx, hb, hml, hown, hts⟩ := id X.1
  have hl : lv_has ls 2 [(0, .ref (A.a 1)), (1, .int (iI (k : Int)))] := hl
  have iX0 : ∀ w ∈ u_ws RX0 TX0 9, w ∈ wsX0_isStoreAt := by decide +kernel
  refine lv_aload_n hx hb dX0_isStoreAt_0 rfl (lv_at hl 0 rfl) ?_
  refine lv_iload_n hx hb dX0_isStoreAt_1 rfl (lv_at hl 1 rfl) ?_
  refine c_callix (v := bP (0 ≤ (k : Int) ∧ (k : Int) < (G.nn : Int))) (n := 1) (As := [.int (iI (k : Int))]) (rest := []) X hC (mX0_hasNode l A G Y (k : Int) (show -2147483648 ≤ (k : Int) ∧ (k : Int) < 2147483648 by omega) (show G.nn ≤ 12 by omega)) ⟨gX0_isStoreAt_X0_hasNode, ⟨_, rfl⟩, rfl, rfl, ⟨by decide, by decide, by decide +kernel⟩, Nat.le_of_ble_eq_true rfl, Nat.le_of_ble_eq_true rfl⟩ (a_recv (y := yX0_hasNode) X hC.1 (ci := 0) (q0 := 1) rfl rfl rfl) rfl hl.1 rfl (Nat.le_of_ble_eq_true rfl) ⟨Nat.zero_le _, Nat.zero_le _⟩ dX0_isStoreAt_2 (fun H locs hC => ?_)
  refine li_ifb_eq (tgt := 21) hx hb dX0_isStoreAt_5 (by decide) (fun c_5 => ?_) (fun c_5 => ?_)
  · omega
  · refine lv_aload_n hx hb dX0_isStoreAt_8 rfl (lv_at hl 0 rfl) ?_
    refine agX0_stores X hC iX0 (by decide +kernel) dX0_isStoreAt_9 ?_
    refine lv_iload_n hx hb dX0_isStoreAt_12 rfl (lv_at hl 1 rfl) ?_
    refine alC_st (k0 := k) (v := ((G.st k : Nat) : Int)) X hC (by omega) (by omega) rfl dX0_isStoreAt_13 ?_
    refine li_if_eq (tgt := 21) hx hb dX0_isStoreAt_14 (by decide) (by omega) (fun c_14 => ?_) (fun c_14 => ?_)
    · refine li_c hx hb dX0_isStoreAt_21 ?_
      exact c_zret X hC hr hk (by omega) (⟨by omega, rfl, rfl⟩) dX0_isStoreAt_22
    · refine li_c hx hb dX0_isStoreAt_17 ?_
      refine lv_goto (tgt := 22) hx hb dX0_isStoreAt_18 (by decide) ?_
      exact c_zret X hC hr hk (by omega) (⟨by omega, rfl, rfl⟩) dX0_isStoreAt_22

set_option maxHeartbeats 4000000 in
set_option maxRecDepth 100000 in
theorem mX0_isTurningAt (l : Launch) (A : AD) (G : GS) (Y : YS) (k : Nat) (hk1 : k < G.nn) (hn : G.nn ≤ 8) (h1 : G.tu k ≤ 1) : cMi l yX0_isTurningAt wsX0_isTurningAt ({ frames := 1, cells := 0, slots := 0, locals := 21 }) A [.ref (A.a 1), .int (iI (k : Int))] G Y (xI (((G.tu k : Nat) : Int)) G Y) := by
  intro sz
  refine c_start (cc := cX0_isTurningAt) (maxL := 2) (ret := (some .boolean)) (by decide) rfl rfl ?_
  intro p e s m args below meth c X hr hk hnm hsz ls hl H locs hC
  subst hsz
  obtain ⟨hx, hb, hml, hown, hts⟩ := id X.1
  have hl : lv_has ls 2 [(0, .ref (A.a 1)), (1, .int (iI (k : Int)))] := hl
  have iX0 : ∀ w ∈ u_ws RX0 TX0 9, w ∈ wsX0_isTurningAt := by decide +kernel
  refine lv_aload_n hx hb dX0_isTurningAt_0 rfl (lv_at hl 0 rfl) ?_
  refine lv_iload_n hx hb dX0_isTurningAt_1 rfl (lv_at hl 1 rfl) ?_
  refine c_callix (v := bP (0 ≤ (k : Int) ∧ (k : Int) < (G.nn : Int))) (n := 1) (As := [.int (iI (k : Int))]) (rest := []) X hC (mX0_hasNode l A G Y (k : Int) (show -2147483648 ≤ (k : Int) ∧ (k : Int) < 2147483648 by omega) (show G.nn ≤ 12 by omega)) ⟨gX0_isTurningAt_X0_hasNode, ⟨_, rfl⟩, rfl, rfl, ⟨by decide, by decide, by decide +kernel⟩, Nat.le_of_ble_eq_true rfl, Nat.le_of_ble_eq_true rfl⟩ (a_recv (y := yX0_hasNode) X hC.1 (ci := 0) (q0 := 1) rfl rfl rfl) rfl hl.1 rfl (Nat.le_of_ble_eq_true rfl) ⟨Nat.zero_le _, Nat.zero_le _⟩ dX0_isTurningAt_2 (fun H locs hC => ?_)
  refine li_ifb_eq (tgt := 21) hx hb dX0_isTurningAt_5 (by decide) (fun c_5 => ?_) (fun c_5 => ?_)
  · omega
  · refine lv_aload_n hx hb dX0_isTurningAt_8 rfl (lv_at hl 0 rfl) ?_
    refine agX0_turning X hC iX0 (by decide +kernel) dX0_isTurningAt_9 ?_
    refine lv_iload_n hx hb dX0_isTurningAt_12 rfl (lv_at hl 1 rfl) ?_
    refine alC_tu (k0 := k) (v := ((G.tu k : Nat) : Int)) X hC (by omega) (by omega) rfl dX0_isTurningAt_13 ?_
    refine li_if_eq (tgt := 21) hx hb dX0_isTurningAt_14 (by decide) (by omega) (fun c_14 => ?_) (fun c_14 => ?_)
    · refine li_c hx hb dX0_isTurningAt_21 ?_
      exact c_zret X hC hr hk (by omega) (⟨by omega, rfl, rfl⟩) dX0_isTurningAt_22
    · refine li_c hx hb dX0_isTurningAt_17 ?_
      refine lv_goto (tgt := 22) hx hb dX0_isTurningAt_18 (by decide) ?_
      exact c_zret X hC hr hk (by omega) (⟨by omega, rfl, rfl⟩) dX0_isTurningAt_22

set_option maxHeartbeats 4000000 in
set_option maxRecDepth 100000 in
theorem mX0_switchStore (l : Launch) (A : AD) (G : GS) (Y : YS) (k : Nat) (b : Nat) (hk1 : k < G.nn) (hn : G.nn ≤ 8) (h1 : G.st k ≤ 1) (hb1 : b ≤ 1) : cMi l yX0_switchStore wsX0_switchStore ({ frames := 2, cells := 0, slots := 0, locals := 42 }) A [.ref (A.a 1), .int (iI (k : Int)), .int (iI (b : Int))] G Y (xI (((G.st k : Nat) : Int)) (G.st' (up G.st k b)) Y) := by
  intro sz
  refine c_start (cc := cX0_switchStore) (maxL := 4) (ret := (some .boolean)) (by decide) rfl rfl ?_
  intro p e s m args below meth c X hr hk hnm hsz ls hl H locs hC
  subst hsz
  obtain ⟨hx, hb, hml, hown, hts⟩ := id X.1
  have hl : lv_has ls 4 [(0, .ref (A.a 1)), (1, .int (iI (k : Int))), (2, .int (iI (b : Int)))] := hl
  have iX0 : ∀ w ∈ u_ws RX0 TX0 9, w ∈ wsX0_switchStore := by decide +kernel
  refine lv_aload_n hx hb dX0_switchStore_0 rfl (lv_at hl 0 rfl) ?_
  refine lv_iload_n hx hb dX0_switchStore_1 rfl (lv_at hl 1 rfl) ?_
  refine c_callix (v := ((G.st k : Nat) : Int)) (n := 1) (As := [.int (iI (k : Int))]) (rest := []) X hC (mX0_isStoreAt l A G Y k (show k < G.nn by omega) (show G.nn ≤ 8 by omega) (show G.st k ≤ 1 by omega)) ⟨gX0_switchStore_X0_isStoreAt, ⟨_, rfl⟩, rfl, rfl, ⟨by decide, by decide, by decide +kernel⟩, Nat.le_of_ble_eq_true rfl, Nat.le_of_ble_eq_true rfl⟩ (a_recv (y := yX0_isStoreAt) X hC.1 (ci := 0) (q0 := 1) rfl rfl rfl) rfl hl.1 rfl (Nat.le_of_ble_eq_true rfl) ⟨Nat.zero_le _, Nat.zero_le _⟩ dX0_switchStore_2 (fun H locs hC => ?_)
  refine lv_istore_n (lv' := [(3, .int (iI ((G.st k : Nat) : Int))), (0, .ref (A.a 1)), (1, .int (iI (k : Int))), (2, .int (iI (b : Int)))]) hx hb dX0_switchStore_5 rfl hl (by decide) rfl (fun ls hl => ?_)
  refine lv_aload_n hx hb dX0_switchStore_6 rfl (lv_at hl 1 rfl) ?_
  refine lv_iload_n hx hb dX0_switchStore_7 rfl (lv_at hl 2 rfl) ?_
  refine c_callix (v := bP (0 ≤ (k : Int) ∧ (k : Int) < (G.nn : Int))) (n := 1) (As := [.int (iI (k : Int))]) (rest := []) X hC (mX0_hasNode l A G Y (k : Int) (show -2147483648 ≤ (k : Int) ∧ (k : Int) < 2147483648 by omega) (show G.nn ≤ 12 by omega)) ⟨gX0_switchStore_X0_hasNode, ⟨_, rfl⟩, rfl, rfl, ⟨by decide, by decide, by decide +kernel⟩, Nat.le_of_ble_eq_true rfl, Nat.le_of_ble_eq_true rfl⟩ (a_recv (y := yX0_hasNode) X hC.1 (ci := 0) (q0 := 1) rfl rfl rfl) rfl hl.1 rfl (Nat.le_of_ble_eq_true rfl) ⟨Nat.zero_le _, Nat.zero_le _⟩ dX0_switchStore_8 (fun H locs hC => ?_)
  refine li_ifb_eq (tgt := 21) hx hb dX0_switchStore_11 (by decide) (fun c_11 => ?_) (fun c_11 => ?_)
  · omega
  · refine lv_aload_n hx hb dX0_switchStore_14 rfl (lv_at hl 1 rfl) ?_
    refine agX0_stores X hC iX0 (by decide +kernel) dX0_switchStore_15 ?_
    refine lv_iload_n hx hb dX0_switchStore_18 rfl (lv_at hl 2 rfl) ?_
    refine lv_iload_n hx hb dX0_switchStore_19 rfl (lv_at hl 3 rfl) ?_
    refine asC_st (k0 := k) (x := b) X hC (by omega) (by omega) (by omega) (by omega) dX0_switchStore_20 (fun H locs hC => ?_)
    have hC : aH A (cAdr A) (CW A (mkG G.tu (up G.st k b) G.sm G.mi G.pr G.de G.sa G.nn G.rr G.vn G.vc G.vs G.vw G.tt) Y) s H locs := hC
    refine lv_iload_n hx hb dX0_switchStore_21 rfl (lv_at hl 0 rfl) ?_
    exact c_zret X hC hr hk (by omega) (⟨rfl, rfl, rfl⟩) dX0_switchStore_22

set_option maxHeartbeats 4000000 in
set_option maxRecDepth 100000 in
theorem mX0_switchTurning (l : Launch) (A : AD) (G : GS) (Y : YS) (k : Nat) (b : Nat) (hk1 : k < G.nn) (hn : G.nn ≤ 8) (h1 : G.tu k ≤ 1) (hb1 : b ≤ 1) : cMi l yX0_switchTurning wsX0_switchTurning ({ frames := 2, cells := 0, slots := 0, locals := 42 }) A [.ref (A.a 1), .int (iI (k : Int)), .int (iI (b : Int))] G Y (xI (((G.tu k : Nat) : Int)) (G.tu' (up G.tu k b)) Y) := by
  intro sz
  refine c_start (cc := cX0_switchTurning) (maxL := 4) (ret := (some .boolean)) (by decide) rfl rfl ?_
  intro p e s m args below meth c X hr hk hnm hsz ls hl H locs hC
  subst hsz
  obtain ⟨hx, hb, hml, hown, hts⟩ := id X.1
  have hl : lv_has ls 4 [(0, .ref (A.a 1)), (1, .int (iI (k : Int))), (2, .int (iI (b : Int)))] := hl
  have iX0 : ∀ w ∈ u_ws RX0 TX0 9, w ∈ wsX0_switchTurning := by decide +kernel
  refine lv_aload_n hx hb dX0_switchTurning_0 rfl (lv_at hl 0 rfl) ?_
  refine lv_iload_n hx hb dX0_switchTurning_1 rfl (lv_at hl 1 rfl) ?_
  refine c_callix (v := ((G.tu k : Nat) : Int)) (n := 1) (As := [.int (iI (k : Int))]) (rest := []) X hC (mX0_isTurningAt l A G Y k (show k < G.nn by omega) (show G.nn ≤ 8 by omega) (show G.tu k ≤ 1 by omega)) ⟨gX0_switchTurning_X0_isTurningAt, ⟨_, rfl⟩, rfl, rfl, ⟨by decide, by decide, by decide +kernel⟩, Nat.le_of_ble_eq_true rfl, Nat.le_of_ble_eq_true rfl⟩ (a_recv (y := yX0_isTurningAt) X hC.1 (ci := 0) (q0 := 1) rfl rfl rfl) rfl hl.1 rfl (Nat.le_of_ble_eq_true rfl) ⟨Nat.zero_le _, Nat.zero_le _⟩ dX0_switchTurning_2 (fun H locs hC => ?_)
  refine lv_istore_n (lv' := [(3, .int (iI ((G.tu k : Nat) : Int))), (0, .ref (A.a 1)), (1, .int (iI (k : Int))), (2, .int (iI (b : Int)))]) hx hb dX0_switchTurning_5 rfl hl (by decide) rfl (fun ls hl => ?_)
  refine lv_aload_n hx hb dX0_switchTurning_6 rfl (lv_at hl 1 rfl) ?_
  refine lv_iload_n hx hb dX0_switchTurning_7 rfl (lv_at hl 2 rfl) ?_
  refine c_callix (v := bP (0 ≤ (k : Int) ∧ (k : Int) < (G.nn : Int))) (n := 1) (As := [.int (iI (k : Int))]) (rest := []) X hC (mX0_hasNode l A G Y (k : Int) (show -2147483648 ≤ (k : Int) ∧ (k : Int) < 2147483648 by omega) (show G.nn ≤ 12 by omega)) ⟨gX0_switchTurning_X0_hasNode, ⟨_, rfl⟩, rfl, rfl, ⟨by decide, by decide, by decide +kernel⟩, Nat.le_of_ble_eq_true rfl, Nat.le_of_ble_eq_true rfl⟩ (a_recv (y := yX0_hasNode) X hC.1 (ci := 0) (q0 := 1) rfl rfl rfl) rfl hl.1 rfl (Nat.le_of_ble_eq_true rfl) ⟨Nat.zero_le _, Nat.zero_le _⟩ dX0_switchTurning_8 (fun H locs hC => ?_)
  refine li_ifb_eq (tgt := 21) hx hb dX0_switchTurning_11 (by decide) (fun c_11 => ?_) (fun c_11 => ?_)
  · omega
  · refine lv_aload_n hx hb dX0_switchTurning_14 rfl (lv_at hl 1 rfl) ?_
    refine agX0_turning X hC iX0 (by decide +kernel) dX0_switchTurning_15 ?_
    refine lv_iload_n hx hb dX0_switchTurning_18 rfl (lv_at hl 2 rfl) ?_
    refine lv_iload_n hx hb dX0_switchTurning_19 rfl (lv_at hl 3 rfl) ?_
    refine asC_tu (k0 := k) (x := b) X hC (by omega) (by omega) (by omega) (by omega) dX0_switchTurning_20 (fun H locs hC => ?_)
    have hC : aH A (cAdr A) (CW A (mkG (up G.tu k b) G.st G.sm G.mi G.pr G.de G.sa G.nn G.rr G.vn G.vc G.vs G.vw G.tt) Y) s H locs := hC
    refine lv_iload_n hx hb dX0_switchTurning_21 rfl (lv_at hl 0 rfl) ?_
    exact c_zret X hC hr hk (by omega) (⟨rfl, rfl, rfl⟩) dX0_switchTurning_22

set_option maxHeartbeats 4000000 in
set_option maxRecDepth 100000 in
theorem mX0_minutesOf (l : Launch) (A : AD) (G : GS) (Y : YS) (k : Nat) (hk1 : k < G.rr) (hr1 : G.rr ≤ 12) : cMi l yX0_minutesOf wsX0_minutesOf ({ frames := 1, cells := 0, slots := 0, locals := 21 }) A [.ref (A.a 1), .int (iI (k : Int))] G Y (xI (((G.mi k : Nat) : Int)) G Y) := by
  intro sz
  refine c_start (cc := cX0_minutesOf) (maxL := 2) (ret := (some .int)) (by decide) rfl rfl ?_
  intro p e s m args below meth c X hr hk hnm hsz ls hl H locs hC
  subst hsz
  obtain ⟨hx, hb, hml, hown, hts⟩ := id X.1
  have hl : lv_has ls 2 [(0, .ref (A.a 1)), (1, .int (iI (k : Int)))] := hl
  have iX0 : ∀ w ∈ u_ws RX0 TX0 9, w ∈ wsX0_minutesOf := by decide +kernel
  refine lv_aload_n hx hb dX0_minutesOf_0 rfl (lv_at hl 0 rfl) ?_
  refine lv_iload_n hx hb dX0_minutesOf_1 rfl (lv_at hl 1 rfl) ?_
  refine c_callix (v := bP (0 ≤ (k : Int) ∧ (k : Int) < (G.rr : Int))) (n := 1) (As := [.int (iI (k : Int))]) (rest := []) X hC (mX0_hasRoad l A G Y (k : Int) (show -2147483648 ≤ (k : Int) ∧ (k : Int) < 2147483648 by omega) (show G.rr ≤ 12 by omega)) ⟨gX0_minutesOf_X0_hasRoad, ⟨_, rfl⟩, rfl, rfl, ⟨by decide, by decide, by decide +kernel⟩, Nat.le_of_ble_eq_true rfl, Nat.le_of_ble_eq_true rfl⟩ (a_recv (y := yX0_hasRoad) X hC.1 (ci := 0) (q0 := 1) rfl rfl rfl) rfl hl.1 rfl (Nat.le_of_ble_eq_true rfl) ⟨Nat.zero_le _, Nat.zero_le _⟩ dX0_minutesOf_2 (fun H locs hC => ?_)
  refine li_ifb_eq (tgt := 17) hx hb dX0_minutesOf_5 (by decide) (fun c_5 => ?_) (fun c_5 => ?_)
  · omega
  · refine lv_aload_n hx hb dX0_minutesOf_8 rfl (lv_at hl 0 rfl) ?_
    refine agX0_minutes X hC iX0 (by decide +kernel) dX0_minutesOf_9 ?_
    refine lv_iload_n hx hb dX0_minutesOf_12 rfl (lv_at hl 1 rfl) ?_
    refine alC_mi (k0 := k) (v := ((G.mi k : Nat) : Int)) X hC (by omega) (by omega) rfl dX0_minutesOf_13 ?_
    refine lv_goto (tgt := 18) hx hb dX0_minutesOf_14 (by decide) ?_
    exact c_iret X hC hr hk (⟨rfl, rfl, rfl⟩) dX0_minutesOf_18

set_option maxHeartbeats 4000000 in
set_option maxRecDepth 100000 in
theorem mX0_priorityOf (l : Launch) (A : AD) (G : GS) (Y : YS) (k : Nat) (hk1 : k < G.rr) (hr1 : G.rr ≤ 12) : cMi l yX0_priorityOf wsX0_priorityOf ({ frames := 1, cells := 0, slots := 0, locals := 21 }) A [.ref (A.a 1), .int (iI (k : Int))] G Y (xI (((G.pr k : Nat) : Int)) G Y) := by
  intro sz
  refine c_start (cc := cX0_priorityOf) (maxL := 2) (ret := (some .int)) (by decide) rfl rfl ?_
  intro p e s m args below meth c X hr hk hnm hsz ls hl H locs hC
  subst hsz
  obtain ⟨hx, hb, hml, hown, hts⟩ := id X.1
  have hl : lv_has ls 2 [(0, .ref (A.a 1)), (1, .int (iI (k : Int)))] := hl
  have iX0 : ∀ w ∈ u_ws RX0 TX0 9, w ∈ wsX0_priorityOf := by decide +kernel
  refine lv_aload_n hx hb dX0_priorityOf_0 rfl (lv_at hl 0 rfl) ?_
  refine lv_iload_n hx hb dX0_priorityOf_1 rfl (lv_at hl 1 rfl) ?_
  refine c_callix (v := bP (0 ≤ (k : Int) ∧ (k : Int) < (G.rr : Int))) (n := 1) (As := [.int (iI (k : Int))]) (rest := []) X hC (mX0_hasRoad l A G Y (k : Int) (show -2147483648 ≤ (k : Int) ∧ (k : Int) < 2147483648 by omega) (show G.rr ≤ 12 by omega)) ⟨gX0_priorityOf_X0_hasRoad, ⟨_, rfl⟩, rfl, rfl, ⟨by decide, by decide, by decide +kernel⟩, Nat.le_of_ble_eq_true rfl, Nat.le_of_ble_eq_true rfl⟩ (a_recv (y := yX0_hasRoad) X hC.1 (ci := 0) (q0 := 1) rfl rfl rfl) rfl hl.1 rfl (Nat.le_of_ble_eq_true rfl) ⟨Nat.zero_le _, Nat.zero_le _⟩ dX0_priorityOf_2 (fun H locs hC => ?_)
  refine li_ifb_eq (tgt := 17) hx hb dX0_priorityOf_5 (by decide) (fun c_5 => ?_) (fun c_5 => ?_)
  · omega
  · refine lv_aload_n hx hb dX0_priorityOf_8 rfl (lv_at hl 0 rfl) ?_
    refine agX0_priorities X hC iX0 (by decide +kernel) dX0_priorityOf_9 ?_
    refine lv_iload_n hx hb dX0_priorityOf_12 rfl (lv_at hl 1 rfl) ?_
    refine alC_pr (k0 := k) (v := ((G.pr k : Nat) : Int)) X hC (by omega) (by omega) rfl dX0_priorityOf_13 ?_
    refine lv_goto (tgt := 18) hx hb dX0_priorityOf_14 (by decide) ?_
    exact c_iret X hC hr hk (⟨rfl, rfl, rfl⟩) dX0_priorityOf_18

set_option maxHeartbeats 4000000 in
set_option maxRecDepth 100000 in
theorem mX0_startOf (l : Launch) (A : AD) (G : GS) (Y : YS) (k : Nat) (hk1 : k < 2 * G.rr) (hr1 : G.rr ≤ 12) : cMi l yX0_startOf wsX0_startOf ({ frames := 1, cells := 0, slots := 0, locals := 21 }) A [.ref (A.a 1), .int (iI (k : Int))] G Y (xI (((G.sm k : Nat) : Int)) G Y) := by
  intro sz
  refine c_start (cc := cX0_startOf) (maxL := 2) (ret := (some .int)) (by decide) rfl rfl ?_
  intro p e s m args below meth c X hr hk hnm hsz ls hl H locs hC
  subst hsz
  obtain ⟨hx, hb, hml, hown, hts⟩ := id X.1
  have hl : lv_has ls 2 [(0, .ref (A.a 1)), (1, .int (iI (k : Int)))] := hl
  have iX0 : ∀ w ∈ u_ws RX0 TX0 9, w ∈ wsX0_startOf := by decide +kernel
  refine lv_aload_n hx hb dX0_startOf_0 rfl (lv_at hl 0 rfl) ?_
  refine lv_iload_n hx hb dX0_startOf_1 rfl (lv_at hl 1 rfl) ?_
  refine c_callix (v := bP (0 ≤ (k : Int) ∧ (k : Int) < ((2 * G.rr : Nat) : Int))) (n := 1) (As := [.int (iI (k : Int))]) (rest := []) X hC (mX0_hasSide l A G Y (k : Int) (show -2147483648 ≤ (k : Int) ∧ (k : Int) < 2147483648 by omega) (show G.rr ≤ 12 by omega)) ⟨gX0_startOf_X0_hasSide, ⟨_, rfl⟩, rfl, rfl, ⟨by decide, by decide, by decide +kernel⟩, Nat.le_of_ble_eq_true rfl, Nat.le_of_ble_eq_true rfl⟩ (a_recv (y := yX0_hasSide) X hC.1 (ci := 0) (q0 := 1) rfl rfl rfl) rfl hl.1 rfl (Nat.le_of_ble_eq_true rfl) ⟨Nat.zero_le _, Nat.zero_le _⟩ dX0_startOf_2 (fun H locs hC => ?_)
  refine li_ifb_eq (tgt := 17) hx hb dX0_startOf_5 (by decide) (fun c_5 => ?_) (fun c_5 => ?_)
  · omega
  · refine lv_aload_n hx hb dX0_startOf_8 rfl (lv_at hl 0 rfl) ?_
    refine agX0_starts X hC iX0 (by decide +kernel) dX0_startOf_9 ?_
    refine lv_iload_n hx hb dX0_startOf_12 rfl (lv_at hl 1 rfl) ?_
    refine alC_sm (k0 := k) (v := ((G.sm k : Nat) : Int)) X hC (by omega) (by omega) rfl dX0_startOf_13 ?_
    refine lv_goto (tgt := 18) hx hb dX0_startOf_14 (by decide) ?_
    exact c_iret X hC hr hk (⟨rfl, rfl, rfl⟩) dX0_startOf_18

set_option maxHeartbeats 4000000 in
set_option maxRecDepth 100000 in
theorem mX0_snowOn (l : Launch) (A : AD) (G : GS) (Y : YS) (k : Nat) (hk1 : k < 2 * G.rr) (hr1 : G.rr ≤ 12) : cMi l yX0_snowOn wsX0_snowOn ({ frames := 1, cells := 0, slots := 0, locals := 21 }) A [.ref (A.a 1), .int (iI (k : Int))] G Y (xI (((G.de k : Nat) : Int)) G Y) := by
  intro sz
  refine c_start (cc := cX0_snowOn) (maxL := 2) (ret := (some .int)) (by decide) rfl rfl ?_
  intro p e s m args below meth c X hr hk hnm hsz ls hl H locs hC
  subst hsz
  obtain ⟨hx, hb, hml, hown, hts⟩ := id X.1
  have hl : lv_has ls 2 [(0, .ref (A.a 1)), (1, .int (iI (k : Int)))] := hl
  have iX0 : ∀ w ∈ u_ws RX0 TX0 9, w ∈ wsX0_snowOn := by decide +kernel
  refine lv_aload_n hx hb dX0_snowOn_0 rfl (lv_at hl 0 rfl) ?_
  refine lv_iload_n hx hb dX0_snowOn_1 rfl (lv_at hl 1 rfl) ?_
  refine c_callix (v := bP (0 ≤ (k : Int) ∧ (k : Int) < ((2 * G.rr : Nat) : Int))) (n := 1) (As := [.int (iI (k : Int))]) (rest := []) X hC (mX0_hasSide l A G Y (k : Int) (show -2147483648 ≤ (k : Int) ∧ (k : Int) < 2147483648 by omega) (show G.rr ≤ 12 by omega)) ⟨gX0_snowOn_X0_hasSide, ⟨_, rfl⟩, rfl, rfl, ⟨by decide, by decide, by decide +kernel⟩, Nat.le_of_ble_eq_true rfl, Nat.le_of_ble_eq_true rfl⟩ (a_recv (y := yX0_hasSide) X hC.1 (ci := 0) (q0 := 1) rfl rfl rfl) rfl hl.1 rfl (Nat.le_of_ble_eq_true rfl) ⟨Nat.zero_le _, Nat.zero_le _⟩ dX0_snowOn_2 (fun H locs hC => ?_)
  refine li_ifb_eq (tgt := 17) hx hb dX0_snowOn_5 (by decide) (fun c_5 => ?_) (fun c_5 => ?_)
  · omega
  · refine lv_aload_n hx hb dX0_snowOn_8 rfl (lv_at hl 0 rfl) ?_
    refine agX0_depths X hC iX0 (by decide +kernel) dX0_snowOn_9 ?_
    refine lv_iload_n hx hb dX0_snowOn_12 rfl (lv_at hl 1 rfl) ?_
    refine alC_de (k0 := k) (v := ((G.de k : Nat) : Int)) X hC (by omega) (by omega) rfl dX0_snowOn_13 ?_
    refine lv_goto (tgt := 18) hx hb dX0_snowOn_14 (by decide) ?_
    exact c_iret X hC hr hk (⟨rfl, rfl, rfl⟩) dX0_snowOn_18

set_option maxHeartbeats 4000000 in
set_option maxRecDepth 100000 in
theorem mX0_endOf (l : Launch) (A : AD) (G : GS) (Y : YS) (k : Nat) (hk1 : k < 2 * G.rr) (hr1 : G.rr ≤ 12) : cMi l yX0_endOf wsX0_endOf ({ frames := 1, cells := 0, slots := 0, locals := 21 }) A [.ref (A.a 1), .int (iI (k : Int))] G Y (xI (((G.sm (op k) : Nat) : Int)) G Y) := by
  intro sz
  refine c_start (cc := cX0_endOf) (maxL := 2) (ret := (some .int)) (by decide) rfl rfl ?_
  intro p e s m args below meth c X hr hk hnm hsz ls hl H locs hC
  subst hsz
  obtain ⟨hx, hb, hml, hown, hts⟩ := id X.1
  have hl : lv_has ls 2 [(0, .ref (A.a 1)), (1, .int (iI (k : Int)))] := hl
  have iX0 : ∀ w ∈ u_ws RX0 TX0 9, w ∈ wsX0_endOf := by decide +kernel
  refine lv_aload_n hx hb dX0_endOf_0 rfl (lv_at hl 0 rfl) ?_
  refine lv_iload_n hx hb dX0_endOf_1 rfl (lv_at hl 1 rfl) ?_
  refine c_callix (v := bP (0 ≤ (k : Int) ∧ (k : Int) < ((2 * G.rr : Nat) : Int))) (n := 1) (As := [.int (iI (k : Int))]) (rest := []) X hC (mX0_hasSide l A G Y (k : Int) (show -2147483648 ≤ (k : Int) ∧ (k : Int) < 2147483648 by omega) (show G.rr ≤ 12 by omega)) ⟨gX0_endOf_X0_hasSide, ⟨_, rfl⟩, rfl, rfl, ⟨by decide, by decide, by decide +kernel⟩, Nat.le_of_ble_eq_true rfl, Nat.le_of_ble_eq_true rfl⟩ (a_recv (y := yX0_hasSide) X hC.1 (ci := 0) (q0 := 1) rfl rfl rfl) rfl hl.1 rfl (Nat.le_of_ble_eq_true rfl) ⟨Nat.zero_le _, Nat.zero_le _⟩ dX0_endOf_2 (fun H locs hC => ?_)
  refine li_ifb_eq (tgt := 19) hx hb dX0_endOf_5 (by decide) (fun c_5 => ?_) (fun c_5 => ?_)
  · omega
  · refine lv_aload_n hx hb dX0_endOf_8 rfl (lv_at hl 0 rfl) ?_
    refine agX0_starts X hC iX0 (by decide +kernel) dX0_endOf_9 ?_
    refine lv_iload_n hx hb dX0_endOf_12 rfl (lv_at hl 1 rfl) ?_
    refine li_c hx hb dX0_endOf_13 ?_
    refine li_op (k0 := k) hx hb dX0_endOf_14 (by omega) (by omega) ?_
    refine alC_sm (k0 := op k) (v := ((G.sm (op k) : Nat) : Int)) X hC (by omega) (by have := op_lt hk1; omega) rfl dX0_endOf_15 ?_
    refine lv_goto (tgt := 20) hx hb dX0_endOf_16 (by decide) ?_
    exact c_iret X hC hr hk (⟨rfl, rfl, rfl⟩) dX0_endOf_20

set_option maxHeartbeats 4000000 in
set_option maxRecDepth 100000 in
theorem mX0_hasSaltOn (l : Launch) (A : AD) (G : GS) (Y : YS) (k : Nat) (hk1 : k < 2 * G.rr) (hr1 : G.rr ≤ 12) (h1 : G.sa k ≤ 1) : cMi l yX0_hasSaltOn wsX0_hasSaltOn ({ frames := 1, cells := 0, slots := 0, locals := 21 }) A [.ref (A.a 1), .int (iI (k : Int))] G Y (xI (((G.sa k : Nat) : Int)) G Y) := by
  intro sz
  refine c_start (cc := cX0_hasSaltOn) (maxL := 2) (ret := (some .boolean)) (by decide) rfl rfl ?_
  intro p e s m args below meth c X hr hk hnm hsz ls hl H locs hC
  subst hsz
  obtain ⟨hx, hb, hml, hown, hts⟩ := id X.1
  have hl : lv_has ls 2 [(0, .ref (A.a 1)), (1, .int (iI (k : Int)))] := hl
  have iX0 : ∀ w ∈ u_ws RX0 TX0 9, w ∈ wsX0_hasSaltOn := by decide +kernel
  refine lv_aload_n hx hb dX0_hasSaltOn_0 rfl (lv_at hl 0 rfl) ?_
  refine lv_iload_n hx hb dX0_hasSaltOn_1 rfl (lv_at hl 1 rfl) ?_
  refine c_callix (v := bP (0 ≤ (k : Int) ∧ (k : Int) < ((2 * G.rr : Nat) : Int))) (n := 1) (As := [.int (iI (k : Int))]) (rest := []) X hC (mX0_hasSide l A G Y (k : Int) (show -2147483648 ≤ (k : Int) ∧ (k : Int) < 2147483648 by omega) (show G.rr ≤ 12 by omega)) ⟨gX0_hasSaltOn_X0_hasSide, ⟨_, rfl⟩, rfl, rfl, ⟨by decide, by decide, by decide +kernel⟩, Nat.le_of_ble_eq_true rfl, Nat.le_of_ble_eq_true rfl⟩ (a_recv (y := yX0_hasSide) X hC.1 (ci := 0) (q0 := 1) rfl rfl rfl) rfl hl.1 rfl (Nat.le_of_ble_eq_true rfl) ⟨Nat.zero_le _, Nat.zero_le _⟩ dX0_hasSaltOn_2 (fun H locs hC => ?_)
  refine li_ifb_eq (tgt := 21) hx hb dX0_hasSaltOn_5 (by decide) (fun c_5 => ?_) (fun c_5 => ?_)
  · omega
  · refine lv_aload_n hx hb dX0_hasSaltOn_8 rfl (lv_at hl 0 rfl) ?_
    refine agX0_salted X hC iX0 (by decide +kernel) dX0_hasSaltOn_9 ?_
    refine lv_iload_n hx hb dX0_hasSaltOn_12 rfl (lv_at hl 1 rfl) ?_
    refine alC_sa (k0 := k) (v := ((G.sa k : Nat) : Int)) X hC (by omega) (by omega) rfl dX0_hasSaltOn_13 ?_
    refine li_if_eq (tgt := 21) hx hb dX0_hasSaltOn_14 (by decide) (by omega) (fun c_14 => ?_) (fun c_14 => ?_)
    · refine li_c hx hb dX0_hasSaltOn_21 ?_
      exact c_zret X hC hr hk (by omega) (⟨by omega, rfl, rfl⟩) dX0_hasSaltOn_22
    · refine li_c hx hb dX0_hasSaltOn_17 ?_
      refine lv_goto (tgt := 22) hx hb dX0_hasSaltOn_18 (by decide) ?_
      exact c_zret X hC hr hk (by omega) (⟨by omega, rfl, rfl⟩) dX0_hasSaltOn_22

set_option maxHeartbeats 4000000 in
set_option maxRecDepth 100000 in
theorem mX0_sideFrom (l : Launch) (A : AD) (G : GS) (Y : YS) (v : Nat) (r : Nat) (hI : Inv G) (hk1 : r < G.rr) (hv : v < G.nn) : cMi l yX0_sideFrom wsX0_sideFrom ({ frames := 2, cells := 0, slots := 0, locals := 42 }) A [.ref (A.a 1), .int (iI (v : Int)), .int (iI (r : Int))] G Y (xI ((sF G v r)) G Y) := by
  intro sz
  refine c_start (cc := cX0_sideFrom) (maxL := 3) (ret := (some .int)) (by decide) rfl rfl ?_
  intro p e s m args below meth c X hr hk hnm hsz ls hl H locs hC
  subst hsz
  obtain ⟨hx, hb, hml, hown, hts⟩ := id X.1
  have hl : lv_has ls 3 [(0, .ref (A.a 1)), (1, .int (iI (v : Int))), (2, .int (iI (r : Int)))] := hl
  have hrr := hI.rr
  have hnn := hI.nn
  have hs1 := hI.sm (2 * r)
  have hs2 := hI.sm (2 * r + 1)
  refine lv_aload_n hx hb dX0_sideFrom_0 rfl (lv_at hl 0 rfl) ?_
  refine li_c hx hb dX0_sideFrom_1 ?_
  refine lv_iload_n hx hb dX0_sideFrom_2 rfl (lv_at hl 2 rfl) ?_
  refine li_mulN (x := 2) (y := r) hx hb dX0_sideFrom_3 rfl rfl ?_
  refine c_callix (v := ((G.sm (2 * r) : Nat) : Int)) (n := 1) (As := [.int (iI ((2 * r : Nat) : Int))]) (rest := []) X hC (mX0_startOf l A G Y (2 * r) (show (2 * r) < 2 * G.rr by omega) (show G.rr ≤ 12 by omega)) ⟨gX0_sideFrom_X0_startOf, ⟨_, rfl⟩, rfl, rfl, ⟨by decide, by decide, by decide +kernel⟩, Nat.le_of_ble_eq_true rfl, Nat.le_of_ble_eq_true rfl⟩ (a_recv (y := yX0_startOf) X hC.1 (ci := 0) (q0 := 1) rfl rfl rfl) rfl hl.1 rfl (Nat.le_of_ble_eq_true rfl) ⟨Nat.zero_le _, Nat.zero_le _⟩ dX0_sideFrom_4 (fun H locs hC => ?_)
  refine lv_iload_n hx hb dX0_sideFrom_7 rfl (lv_at hl 1 rfl) ?_
  refine li_icmp_ne (tgt := 15) hx hb dX0_sideFrom_8 (by decide) (by omega) (fun c_8 => ?_) (fun c_8 => ?_)
  · refine lv_aload_n hx hb dX0_sideFrom_15 rfl (lv_at hl 0 rfl) ?_
    refine li_c hx hb dX0_sideFrom_16 ?_
    refine lv_iload_n hx hb dX0_sideFrom_17 rfl (lv_at hl 2 rfl) ?_
    refine li_mulN (x := 2) (y := r) hx hb dX0_sideFrom_18 rfl rfl ?_
    refine li_c hx hb dX0_sideFrom_19 ?_
    refine li_addN (x := 2 * r) (y := 1) hx hb dX0_sideFrom_20 rfl rfl ?_
    refine c_callix (v := ((G.sm ((2 * r) + 1) : Nat) : Int)) (n := 1) (As := [.int (iI (((2 * r) + 1 : Nat) : Int))]) (rest := []) X hC (mX0_startOf l A G Y ((2 * r) + 1) (show ((2 * r) + 1) < 2 * G.rr by omega) (show G.rr ≤ 12 by omega)) ⟨gX0_sideFrom_X0_startOf, ⟨_, rfl⟩, rfl, rfl, ⟨by decide, by decide, by decide +kernel⟩, Nat.le_of_ble_eq_true rfl, Nat.le_of_ble_eq_true rfl⟩ (a_recv (y := yX0_startOf) X hC.1 (ci := 0) (q0 := 1) rfl rfl rfl) rfl hl.1 rfl (Nat.le_of_ble_eq_true rfl) ⟨Nat.zero_le _, Nat.zero_le _⟩ dX0_sideFrom_21 (fun H locs hC => ?_)
    refine lv_iload_n hx hb dX0_sideFrom_24 rfl (lv_at hl 1 rfl) ?_
    refine li_icmp_ne (tgt := 36) hx hb dX0_sideFrom_25 (by decide) (by omega) (fun c_25 => ?_) (fun c_25 => ?_)
    · refine li_c hx hb dX0_sideFrom_36 ?_
      exact c_iret X hC hr hk (⟨by unfold sF; rw [if_neg (by omega), if_neg (by omega)], rfl, rfl⟩) dX0_sideFrom_37
    · refine li_c hx hb dX0_sideFrom_28 ?_
      refine lv_iload_n hx hb dX0_sideFrom_29 rfl (lv_at hl 2 rfl) ?_
      refine li_mulN (x := 2) (y := r) hx hb dX0_sideFrom_30 rfl rfl ?_
      refine li_c hx hb dX0_sideFrom_31 ?_
      refine li_addN (x := 2 * r) (y := 1) hx hb dX0_sideFrom_32 rfl rfl ?_
      refine lv_goto (tgt := 37) hx hb dX0_sideFrom_33 (by decide) ?_
      exact c_iret X hC hr hk (⟨by unfold sF; rw [if_neg (by omega), if_pos (by omega)], rfl, rfl⟩) dX0_sideFrom_37
  · refine li_c hx hb dX0_sideFrom_11 ?_
    refine lv_iload_n hx hb dX0_sideFrom_12 rfl (lv_at hl 2 rfl) ?_
    refine li_mulN (x := 2) (y := r) hx hb dX0_sideFrom_13 rfl rfl ?_
    exact c_iret X hC hr hk (⟨by unfold sF; rw [if_pos (by omega)], rfl, rfl⟩) dX0_sideFrom_14

set_option maxHeartbeats 4000000 in
set_option maxRecDepth 100000 in
theorem mX0_canGoOn (l : Launch) (A : AD) (G : GS) (Y : YS) (v : Nat) (cb : Int) (z : Int) (hI : Inv G) (hv : v < G.nn) (hc : -2147483648 ≤ cb ∧ cb < 2147483648) (hz : -2147483648 ≤ z ∧ z < 2147483648) : cMi l yX0_canGoOn wsX0_canGoOn ({ frames := 2, cells := 0, slots := 0, locals := 42 }) A [.ref (A.a 1), .int (iI (v : Int)), .int (iI cb), .int (iI z)] G Y (xI (bP (cG G v cb z)) G Y) := by
  intro sz
  refine c_start (cc := cX0_canGoOn) (maxL := 4) (ret := (some .boolean)) (by decide) rfl rfl ?_
  intro p e s m args below meth c X hr hk hnm hsz ls hl H locs hC
  subst hsz
  obtain ⟨hx, hb, hml, hown, hts⟩ := id X.1
  have hl : lv_has ls 4 [(0, .ref (A.a 1)), (1, .int (iI (v : Int))), (2, .int (iI cb)), (3, .int (iI z))] := hl
  have iX0 : ∀ w ∈ u_ws RX0 TX0 9, w ∈ wsX0_canGoOn := by decide +kernel
  have hrr := hI.rr
  have hnn := hI.nn
  have ht1 := hI.tu v
  refine lv_aload_n hx hb dX0_canGoOn_0 rfl (lv_at hl 0 rfl) ?_
  refine lv_iload_n hx hb dX0_canGoOn_1 rfl (lv_at hl 3 rfl) ?_
  refine c_callix (v := bP (0 ≤ z ∧ z < ((2 * G.rr : Nat) : Int))) (n := 1) (As := [.int (iI z)]) (rest := []) X hC (mX0_hasSide l A G Y z (show -2147483648 ≤ z ∧ z < 2147483648 by omega) (show G.rr ≤ 12 by omega)) ⟨gX0_canGoOn_X0_hasSide, ⟨_, rfl⟩, rfl, rfl, ⟨by decide, by decide, by decide +kernel⟩, Nat.le_of_ble_eq_true rfl, Nat.le_of_ble_eq_true rfl⟩ (a_recv (y := yX0_hasSide) X hC.1 (ci := 0) (q0 := 1) rfl rfl rfl) rfl hl.1 rfl (Nat.le_of_ble_eq_true rfl) ⟨Nat.zero_le _, Nat.zero_le _⟩ dX0_canGoOn_2 (fun H locs hC => ?_)
  refine li_ifb_eq (tgt := 37) hx hb dX0_canGoOn_5 (by decide) (fun c_5 => ?_) (fun c_5 => ?_)
  · refine li_c hx hb dX0_canGoOn_37 ?_
    exact c_zret X hC hr hk (by omega) (⟨(bP_f (fun hq => by obtain ⟨h1, h2, h3⟩ := hq; omega)).symm, rfl, rfl⟩) dX0_canGoOn_38
  · refine lv_aload_n hx hb dX0_canGoOn_8 rfl (lv_at hl 0 rfl) ?_
    refine agX0_starts X hC iX0 (by decide +kernel) dX0_canGoOn_9 ?_
    refine lv_iload_n hx hb dX0_canGoOn_12 rfl (lv_at hl 3 rfl) ?_
    refine alC_sm (k0 := (z).toNat) (v := ((G.sm ((z).toNat) : Nat) : Int)) X hC (by omega) (by omega) rfl dX0_canGoOn_13 ?_
    have hb1 := hI.sm ((z).toNat)
    refine lv_iload_n hx hb dX0_canGoOn_14 rfl (lv_at hl 1 rfl) ?_
    refine li_icmp_ne (tgt := 37) hx hb dX0_canGoOn_15 (by decide) (by omega) (fun c_15 => ?_) (fun c_15 => ?_)
    · refine li_c hx hb dX0_canGoOn_37 ?_
      exact c_zret X hC hr hk (by omega) (⟨(bP_f (fun hq => by obtain ⟨h1, h2, h3⟩ := hq; omega)).symm, rfl, rfl⟩) dX0_canGoOn_38
    · refine lv_iload_n hx hb dX0_canGoOn_18 rfl (lv_at hl 3 rfl) ?_
      refine li_c hx hb dX0_canGoOn_19 ?_
      refine li_div hx hb dX0_canGoOn_20 (by omega) ?_
      refine lv_iload_n hx hb dX0_canGoOn_21 rfl (lv_at hl 2 rfl) ?_
      refine li_icmp_ne (tgt := 33) hx hb dX0_canGoOn_22 (by decide) (by omega) (fun c_22 => ?_) (fun c_22 => ?_)
      · refine li_c hx hb dX0_canGoOn_33 ?_
        refine lv_goto (tgt := 38) hx hb dX0_canGoOn_34 (by decide) ?_
        exact c_zret X hC hr hk (by omega) (⟨(bP_t (⟨by omega, by omega, by omega⟩)).symm, rfl, rfl⟩) dX0_canGoOn_38
      · refine lv_aload_n hx hb dX0_canGoOn_25 rfl (lv_at hl 0 rfl) ?_
        refine lv_iload_n hx hb dX0_canGoOn_26 rfl (lv_at hl 1 rfl) ?_
        refine c_callix (v := ((G.tu v : Nat) : Int)) (n := 1) (As := [.int (iI (v : Int))]) (rest := []) X hC (mX0_isTurningAt l A G Y v (show v < G.nn by omega) (show G.nn ≤ 8 by omega) (show G.tu v ≤ 1 by omega)) ⟨gX0_canGoOn_X0_isTurningAt, ⟨_, rfl⟩, rfl, rfl, ⟨by decide, by decide, by decide +kernel⟩, Nat.le_of_ble_eq_true rfl, Nat.le_of_ble_eq_true rfl⟩ (a_recv (y := yX0_isTurningAt) X hC.1 (ci := 0) (q0 := 1) rfl rfl rfl) rfl hl.1 rfl (Nat.le_of_ble_eq_true rfl) ⟨Nat.zero_le _, Nat.zero_le _⟩ dX0_canGoOn_27 (fun H locs hC => ?_)
        refine li_if_eq (tgt := 37) hx hb dX0_canGoOn_30 (by decide) (by omega) (fun c_30 => ?_) (fun c_30 => ?_)
        · refine li_c hx hb dX0_canGoOn_37 ?_
          exact c_zret X hC hr hk (by omega) (⟨(bP_f (fun hq => by obtain ⟨h1, h2, h3⟩ := hq; omega)).symm, rfl, rfl⟩) dX0_canGoOn_38
        · refine li_c hx hb dX0_canGoOn_33 ?_
          refine lv_goto (tgt := 38) hx hb dX0_canGoOn_34 (by decide) ?_
          exact c_zret X hC hr hk (by omega) (⟨(bP_t (⟨by omega, by omega, by omega⟩)).symm, rfl, rfl⟩) dX0_canGoOn_38

set_option maxHeartbeats 4000000 in
set_option maxRecDepth 100000 in
theorem mX0_heap (l : Launch) (A : AD) (G : GS) (Y : YS) (k : Nat) (mm : Nat) (hk1 : k < 2 * G.rr) (hr1 : G.rr ≤ 12) (hm : mm ≤ 1000) (hd : G.de k ≤ 999) : cMv l yX0_heap wsX0_heap ({ frames := 1, cells := 0, slots := 0, locals := 21 }) A [.ref (A.a 1), .int (iI (k : Int)), .int (iI (mm : Int))] G Y (xV (G.de' (up G.de k (min 999 (G.de k + mm)))) Y) := by
  intro sz
  refine c_start (cc := cX0_heap) (maxL := 3) (ret := none) (by decide) rfl rfl ?_
  intro p e s m args below meth c X hr hk hnm hsz ls hl H locs hC
  subst hsz
  obtain ⟨hx, hb, hml, hown, hts⟩ := id X.1
  have hl : lv_has ls 3 [(0, .ref (A.a 1)), (1, .int (iI (k : Int))), (2, .int (iI (mm : Int)))] := hl
  have iX0 : ∀ w ∈ u_ws RX0 TX0 9, w ∈ wsX0_heap := by decide +kernel
  refine lv_aload_n hx hb dX0_heap_0 rfl (lv_at hl 0 rfl) ?_
  refine lv_iload_n hx hb dX0_heap_1 rfl (lv_at hl 1 rfl) ?_
  refine c_callix (v := bP (0 ≤ (k : Int) ∧ (k : Int) < ((2 * G.rr : Nat) : Int))) (n := 1) (As := [.int (iI (k : Int))]) (rest := []) X hC (mX0_hasSide l A G Y (k : Int) (show -2147483648 ≤ (k : Int) ∧ (k : Int) < 2147483648 by omega) (show G.rr ≤ 12 by omega)) ⟨gX0_heap_X0_hasSide, ⟨_, rfl⟩, rfl, rfl, ⟨by decide, by decide, by decide +kernel⟩, Nat.le_of_ble_eq_true rfl, Nat.le_of_ble_eq_true rfl⟩ (a_recv (y := yX0_hasSide) X hC.1 (ci := 0) (q0 := 1) rfl rfl rfl) rfl hl.1 rfl (Nat.le_of_ble_eq_true rfl) ⟨Nat.zero_le _, Nat.zero_le _⟩ dX0_heap_2 (fun H locs hC => ?_)
  refine li_ifb_eq (tgt := 28) hx hb dX0_heap_5 (by decide) (fun c_5 => ?_) (fun c_5 => ?_)
  · omega
  · refine lv_aload_n hx hb dX0_heap_8 rfl (lv_at hl 0 rfl) ?_
    refine agX0_depths X hC iX0 (by decide +kernel) dX0_heap_9 ?_
    refine lv_iload_n hx hb dX0_heap_12 rfl (lv_at hl 1 rfl) ?_
    refine li_si hx hb dX0_heap_13 (by decide) ?_
    refine lv_aload_n hx hb dX0_heap_16 rfl (lv_at hl 0 rfl) ?_
    refine agX0_depths X hC iX0 (by decide +kernel) dX0_heap_17 ?_
    refine lv_iload_n hx hb dX0_heap_20 rfl (lv_at hl 1 rfl) ?_
    refine alC_de (k0 := k) (v := ((G.de k : Nat) : Int)) X hC (by omega) (by omega) rfl dX0_heap_21 ?_
    refine lv_iload_n hx hb dX0_heap_22 rfl (lv_at hl 2 rfl) ?_
    refine li_addN (x := G.de k) (y := mm) hx hb dX0_heap_23 rfl rfl ?_
    refine li_min hx hb (hml.trans hl.1.symm) hown (hts _ (by decide +kernel)) (hts _ (by decide +kernel)) (hts _ (by decide +kernel)) (hts _ (by decide +kernel)) (Nat.le_of_ble_eq_true rfl) (Nat.le_of_ble_eq_true rfl) (Nat.zero_le _) (Nat.zero_le _) (by omega) dX0_heap_24 ?_
    rw [show (if (((G.de k) + mm : Nat) : Int) < 999 then (((G.de k) + mm : Nat) : Int) else 999) = (((min 999 ((G.de k) + mm)) : Nat) : Int) by split <;> omega]
    refine asC_de (k0 := k) (x := (min 999 ((G.de k) + mm))) X hC (by omega) (by omega) (by omega) dX0_heap_27 (fun H locs hC => ?_)
    have hC : aH A (cAdr A) (CW A (mkG G.tu G.st G.sm G.mi G.pr (up G.de k (min 999 ((G.de k) + mm))) G.sa G.nn G.rr G.vn G.vc G.vs G.vw G.tt) Y) s H locs := hC
    exact c_vret X hC hr hk (⟨rfl, rfl⟩) dX0_heap_28

set_option maxHeartbeats 4000000 in
set_option maxRecDepth 100000 in
theorem mX0_letItSnow (l : Launch) (A : AD) (G : GS) (Y : YS) (mm : Nat) (hI : Inv G) (hm : mm ≤ 300) : cMv l yX0_letItSnow wsX0_letItSnow ({ frames := 2, cells := 0, slots := 0, locals := 43 }) A [.ref (A.a 1), .int (iI (mm : Int))] G Y (xV ((G.de' (snD G mm (2 * G.rr))).sa' (snS G (2 * G.rr))) Y) := by
  intro sz
  refine c_start (cc := cX0_letItSnow) (maxL := 3) (ret := none) (by decide) rfl rfl ?_
  intro p e s m args below meth c X hr hk hnm hsz ls hl H locs hC
  subst hsz
  obtain ⟨hx, hb, hml, hown, hts⟩ := id X.1
  have hl : lv_has ls 3 [(0, .ref (A.a 1)), (1, .int (iI (mm : Int)))] := hl
  have iX0 : ∀ w ∈ u_ws RX0 TX0 9, w ∈ wsX0_letItSnow := by decide +kernel
  have hrr := hI.rr
  refine li_c hx hb dX0_letItSnow_0 ?_
  refine lv_istore_n (lv' := [(2, .int (iI 0)), (0, .ref (A.a 1)), (1, .int (iI (mm : Int)))]) hx hb dX0_letItSnow_1 rfl hl (by decide) rfl (fun ls hl => ?_)
  have loop_2 : ∀ (n : Nat) (i : Nat) (hn : 2 * G.rr - i < n) (hi : i ≤ 2 * G.rr) (H : Heap) (locs : List Loc) (hC : aH A (cAdr A) (CW A ((G.de' (snD G mm i)).sa' (snS G i)) Y) s H locs) (ls : Array Slot) (hl : lv_has ls 3 [(2, .int (iI (i : Int))), (0, .ref (A.a 1)), (1, .int (iI (mm : Int)))]), W p l e ({ frames := 2, cells := 0, slots := 0, locals := 43 }) s m args below meth c H locs 0 0 (aQv below (cEnd A) (cAdr A) args s (xV ((G.de' (snD G mm (2 * G.rr))).sa' (snS G (2 * G.rr))) Y)) (F0 m 2 ls []) := by
    intro n
    induction n with
    | zero => intro i hn; exact absurd hn (Nat.not_lt_zero _)
    | succ n ih_2 =>
      intro i hn hi H locs hC ls hl
      have hds : snD G mm i i ≤ 999 := by rw [show snD G mm i i = G.de i from if_neg (Nat.lt_irrefl i)]; exact hI.de i
      have hss : snS G i i ≤ 1 := by rw [show snS G i i = G.sa i from if_neg (Nat.lt_irrefl i)]; exact hI.sa i
      refine lv_iload_n hx hb dX0_letItSnow_2 rfl (lv_at hl 0 rfl) ?_
      refine lv_aload_n hx hb dX0_letItSnow_3 rfl (lv_at hl 1 rfl) ?_
      refine c_callix (v := ((2 * G.rr : Nat) : Int)) (n := 0) (As := []) (rest := [.int (iI (i : Int))]) X hC (mX0_sideCount l A ((G.de' (snD G mm i)).sa' (snS G i)) Y) ⟨gX0_letItSnow_X0_sideCount, ⟨_, rfl⟩, rfl, rfl, ⟨by decide, by decide, by decide +kernel⟩, Nat.le_of_ble_eq_true rfl, Nat.le_of_ble_eq_true rfl⟩ (a_recv (y := yX0_sideCount) X hC.1 (ci := 0) (q0 := 1) rfl rfl rfl) rfl hl.1 rfl (Nat.le_of_ble_eq_true rfl) ⟨Nat.zero_le _, Nat.zero_le _⟩ dX0_letItSnow_4 (fun H locs hC => ?_)
      refine li_icmp_ge (tgt := 44) hx hb dX0_letItSnow_7 (by decide) (by omega) (fun c_7 => ?_) (fun c_7 => ?_)
      · exact c_vret X hC hr hk (⟨by rw [show 2 * G.rr = i by omega], rfl⟩) dX0_letItSnow_44
      · refine lv_aload_n hx hb dX0_letItSnow_10 rfl (lv_at hl 1 rfl) ?_
        refine lv_iload_n hx hb dX0_letItSnow_11 rfl (lv_at hl 0 rfl) ?_
        refine lv_aload_n hx hb dX0_letItSnow_12 rfl (lv_at hl 1 rfl) ?_
        refine agX0_salted X hC iX0 (by decide +kernel) dX0_letItSnow_13 ?_
        refine lv_iload_n hx hb dX0_letItSnow_16 rfl (lv_at hl 0 rfl) ?_
        refine alC_sa (k0 := i) (v := (((snS G i) i : Nat) : Int)) X hC (by omega) (by omega) rfl dX0_letItSnow_17 ?_
        refine li_if_eq (tgt := 27) hx hb dX0_letItSnow_18 (by decide) (by omega) (fun c_18 => ?_) (fun c_18 => ?_)
        · refine lv_iload_n hx hb dX0_letItSnow_27 rfl (lv_at hl 2 rfl) ?_
          refine c_callvx (n := 2) (As := [.int (iI (i : Int)), .int (iI (mm : Int))]) (rest := []) X hC (mX0_heap l A ((G.de' (snD G mm i)).sa' (snS G i)) Y i mm (show i < 2 * G.rr by omega) (show G.rr ≤ 12 by omega) (show mm ≤ 1000 by omega) (show (snD G mm i) i ≤ 999 by omega)) ⟨gX0_letItSnow_X0_heap, ⟨_, rfl⟩, rfl, rfl, ⟨by decide, by decide, by decide +kernel⟩, Nat.le_of_ble_eq_true rfl, Nat.le_of_ble_eq_true rfl⟩ (a_recv (y := yX0_heap) X hC.1 (ci := 0) (q0 := 1) rfl rfl rfl) rfl hl.1 rfl (Nat.le_of_ble_eq_true rfl) ⟨Nat.zero_le _, Nat.zero_le _⟩ dX0_letItSnow_28 (fun H locs hC => ?_)
          have hC : aH A (cAdr A) (CW A (mkG G.tu G.st G.sm G.mi G.pr (up (snD G mm i) i (min 999 ((snD G mm i) i + mm))) (snS G i) G.nn G.rr G.vn G.vc G.vs G.vw G.tt) Y) s H locs := hC
          refine lv_aload_n hx hb dX0_letItSnow_31 rfl (lv_at hl 1 rfl) ?_
          refine agX0_salted X hC iX0 (by decide +kernel) dX0_letItSnow_32 ?_
          refine lv_iload_n hx hb dX0_letItSnow_35 rfl (lv_at hl 0 rfl) ?_
          refine li_c hx hb dX0_letItSnow_36 ?_
          refine asC_sa (k0 := i) (x := 0) X hC (by omega) (by omega) (by omega) (by omega) dX0_letItSnow_37 (fun H locs hC => ?_)
          have hC : aH A (cAdr A) (CW A (mkG G.tu G.st G.sm G.mi G.pr (up (snD G mm i) i (min 999 ((snD G mm i) i + mm))) (up (snS G i) i 0) G.nn G.rr G.vn G.vc G.vs G.vw G.tt) Y) s H locs := hC
          refine li_incN (lv' := [(2, .int (iI ((i + 1 : Nat) : Int))), (0, .ref (A.a 1)), (1, .int (iI (mm : Int)))]) (x := i) (d0 := 1) hx hb dX0_letItSnow_38 hl (k := 0) rfl rfl rfl (by decide) rfl (fun ls hl => ?_)
          refine lv_goto (tgt := 2) hx hb dX0_letItSnow_41 (by decide) ?_
          have e1 : (up (snD G mm i) i (min 999 ((snD G mm i) i + mm))) = snD G mm (i + 1) := by rw [← snD_s]; first | rw [if_pos (by omega)] | rw [if_neg (by omega)]
          have hC : aH A (cAdr A) (CW A ((G.de' (snD G mm (i + 1))).sa' (snS G (i + 1))) Y) s H locs := by rw [← e1, ← snS_s]; exact hC
          exact ih_2 (i + 1) (by omega) (by omega) H locs hC ls (lv_sub hl [0, 1, 2] rfl)
        · refine lv_iload_n hx hb dX0_letItSnow_21 rfl (lv_at hl 2 rfl) ?_
          refine li_c hx hb dX0_letItSnow_22 ?_
          refine li_divN (x := mm) (y := 2) hx hb dX0_letItSnow_23 rfl rfl (by omega) ?_
          refine lv_goto (tgt := 28) hx hb dX0_letItSnow_24 (by decide) ?_
          refine c_callvx (n := 2) (As := [.int (iI (i : Int)), .int (iI ((mm / 2 : Nat) : Int))]) (rest := []) X hC (mX0_heap l A ((G.de' (snD G mm i)).sa' (snS G i)) Y i (mm / 2) (show i < 2 * G.rr by omega) (show G.rr ≤ 12 by omega) (show (mm / 2) ≤ 1000 by omega) (show (snD G mm i) i ≤ 999 by omega)) ⟨gX0_letItSnow_X0_heap, ⟨_, rfl⟩, rfl, rfl, ⟨by decide, by decide, by decide +kernel⟩, Nat.le_of_ble_eq_true rfl, Nat.le_of_ble_eq_true rfl⟩ (a_recv (y := yX0_heap) X hC.1 (ci := 0) (q0 := 1) rfl rfl rfl) rfl hl.1 rfl (Nat.le_of_ble_eq_true rfl) ⟨Nat.zero_le _, Nat.zero_le _⟩ dX0_letItSnow_28 (fun H locs hC => ?_)
          have hC : aH A (cAdr A) (CW A (mkG G.tu G.st G.sm G.mi G.pr (up (snD G mm i) i (min 999 ((snD G mm i) i + (mm / 2)))) (snS G i) G.nn G.rr G.vn G.vc G.vs G.vw G.tt) Y) s H locs := hC
          refine lv_aload_n hx hb dX0_letItSnow_31 rfl (lv_at hl 1 rfl) ?_
          refine agX0_salted X hC iX0 (by decide +kernel) dX0_letItSnow_32 ?_
          refine lv_iload_n hx hb dX0_letItSnow_35 rfl (lv_at hl 0 rfl) ?_
          refine li_c hx hb dX0_letItSnow_36 ?_
          refine asC_sa (k0 := i) (x := 0) X hC (by omega) (by omega) (by omega) (by omega) dX0_letItSnow_37 (fun H locs hC => ?_)
          have hC : aH A (cAdr A) (CW A (mkG G.tu G.st G.sm G.mi G.pr (up (snD G mm i) i (min 999 ((snD G mm i) i + (mm / 2)))) (up (snS G i) i 0) G.nn G.rr G.vn G.vc G.vs G.vw G.tt) Y) s H locs := hC
          refine li_incN (lv' := [(2, .int (iI ((i + 1 : Nat) : Int))), (0, .ref (A.a 1)), (1, .int (iI (mm : Int)))]) (x := i) (d0 := 1) hx hb dX0_letItSnow_38 hl (k := 0) rfl rfl rfl (by decide) rfl (fun ls hl => ?_)
          refine lv_goto (tgt := 2) hx hb dX0_letItSnow_41 (by decide) ?_
          have e1 : (up (snD G mm i) i (min 999 ((snD G mm i) i + (mm / 2)))) = snD G mm (i + 1) := by rw [← snD_s]; first | rw [if_pos (by omega)] | rw [if_neg (by omega)]
          have hC : aH A (cAdr A) (CW A ((G.de' (snD G mm (i + 1))).sa' (snS G (i + 1))) Y) s H locs := by rw [← e1, ← snS_s]; exact hC
          exact ih_2 (i + 1) (by omega) (by omega) H locs hC ls (lv_sub hl [0, 1, 2] rfl)
  have hC : aH A (cAdr A) (CW A ((G.de' (snD G mm 0)).sa' (snS G 0)) Y) s H locs := by rw [snD_0, snS_0]; exact hC
  exact loop_2 ((2 * G.rr) + 1) 0 (Nat.lt_succ_self _) (by omega) H locs hC ls (lv_sub hl [0, 1, 2] rfl)

set_option maxHeartbeats 4000000 in
set_option maxRecDepth 100000 in
theorem mX0_putSaltOn (l : Launch) (A : AD) (G : GS) (Y : YS) (k : Nat) (hk1 : k < 2 * G.rr) (hr1 : G.rr ≤ 12) : cMv l yX0_putSaltOn wsX0_putSaltOn ({ frames := 1, cells := 0, slots := 0, locals := 21 }) A [.ref (A.a 1), .int (iI (k : Int))] G Y (xV (G.sa' (up G.sa k 1)) Y) := by
  intro sz
  refine c_start (cc := cX0_putSaltOn) (maxL := 2) (ret := none) (by decide) rfl rfl ?_
  intro p e s m args below meth c X hr hk hnm hsz ls hl H locs hC
  subst hsz
  obtain ⟨hx, hb, hml, hown, hts⟩ := id X.1
  have hl : lv_has ls 2 [(0, .ref (A.a 1)), (1, .int (iI (k : Int)))] := hl
  have iX0 : ∀ w ∈ u_ws RX0 TX0 9, w ∈ wsX0_putSaltOn := by decide +kernel
  refine lv_aload_n hx hb dX0_putSaltOn_0 rfl (lv_at hl 0 rfl) ?_
  refine lv_iload_n hx hb dX0_putSaltOn_1 rfl (lv_at hl 1 rfl) ?_
  refine c_callix (v := bP (0 ≤ (k : Int) ∧ (k : Int) < ((2 * G.rr : Nat) : Int))) (n := 1) (As := [.int (iI (k : Int))]) (rest := []) X hC (mX0_hasSide l A G Y (k : Int) (show -2147483648 ≤ (k : Int) ∧ (k : Int) < 2147483648 by omega) (show G.rr ≤ 12 by omega)) ⟨gX0_putSaltOn_X0_hasSide, ⟨_, rfl⟩, rfl, rfl, ⟨by decide, by decide, by decide +kernel⟩, Nat.le_of_ble_eq_true rfl, Nat.le_of_ble_eq_true rfl⟩ (a_recv (y := yX0_hasSide) X hC.1 (ci := 0) (q0 := 1) rfl rfl rfl) rfl hl.1 rfl (Nat.le_of_ble_eq_true rfl) ⟨Nat.zero_le _, Nat.zero_le _⟩ dX0_putSaltOn_2 (fun H locs hC => ?_)
  refine li_ifb_eq (tgt := 15) hx hb dX0_putSaltOn_5 (by decide) (fun c_5 => ?_) (fun c_5 => ?_)
  · omega
  · refine lv_aload_n hx hb dX0_putSaltOn_8 rfl (lv_at hl 0 rfl) ?_
    refine agX0_salted X hC iX0 (by decide +kernel) dX0_putSaltOn_9 ?_
    refine lv_iload_n hx hb dX0_putSaltOn_12 rfl (lv_at hl 1 rfl) ?_
    refine li_c hx hb dX0_putSaltOn_13 ?_
    refine asC_sa (k0 := k) (x := 1) X hC (by omega) (by omega) (by omega) (by omega) dX0_putSaltOn_14 (fun H locs hC => ?_)
    have hC : aH A (cAdr A) (CW A (mkG G.tu G.st G.sm G.mi G.pr G.de (up G.sa k 1) G.nn G.rr G.vn G.vc G.vs G.vw G.tt) Y) s H locs := hC
    exact c_vret X hC hr hk (⟨rfl, rfl⟩) dX0_putSaltOn_15

set_option maxHeartbeats 4000000 in
set_option maxRecDepth 100000 in
theorem mX0_pushSnowFrom (l : Launch) (A : AD) (G : GS) (Y : YS) (k : Nat) (hk1 : k < 2 * G.rr) (hr1 : G.rr ≤ 12) (hd : ∀ k, G.de k ≤ 999) : cMv l yX0_pushSnowFrom wsX0_pushSnowFrom ({ frames := 2, cells := 0, slots := 0, locals := 43 }) A [.ref (A.a 1), .int (iI (k : Int))] G Y (xV (G.de' (up (up G.de (op k) (min 999 (G.de (op k) + G.de k / 2))) k 0)) Y) := by
  intro sz
  refine c_start (cc := cX0_pushSnowFrom) (maxL := 2) (ret := none) (by decide) rfl rfl ?_
  intro p e s m args below meth c X hr hk hnm hsz ls hl H locs hC
  subst hsz
  obtain ⟨hx, hb, hml, hown, hts⟩ := id X.1
  have hl : lv_has ls 2 [(0, .ref (A.a 1)), (1, .int (iI (k : Int)))] := hl
  have iX0 : ∀ w ∈ u_ws RX0 TX0 9, w ∈ wsX0_pushSnowFrom := by decide +kernel
  have hop := op_lt hk1
  have hd1 := hd k
  have hd2 := hd (op k)
  refine lv_aload_n hx hb dX0_pushSnowFrom_0 rfl (lv_at hl 0 rfl) ?_
  refine lv_iload_n hx hb dX0_pushSnowFrom_1 rfl (lv_at hl 1 rfl) ?_
  refine c_callix (v := bP (0 ≤ (k : Int) ∧ (k : Int) < ((2 * G.rr : Nat) : Int))) (n := 1) (As := [.int (iI (k : Int))]) (rest := []) X hC (mX0_hasSide l A G Y (k : Int) (show -2147483648 ≤ (k : Int) ∧ (k : Int) < 2147483648 by omega) (show G.rr ≤ 12 by omega)) ⟨gX0_pushSnowFrom_X0_hasSide, ⟨_, rfl⟩, rfl, rfl, ⟨by decide, by decide, by decide +kernel⟩, Nat.le_of_ble_eq_true rfl, Nat.le_of_ble_eq_true rfl⟩ (a_recv (y := yX0_hasSide) X hC.1 (ci := 0) (q0 := 1) rfl rfl rfl) rfl hl.1 rfl (Nat.le_of_ble_eq_true rfl) ⟨Nat.zero_le _, Nat.zero_le _⟩ dX0_pushSnowFrom_2 (fun H locs hC => ?_)
  refine li_ifb_eq (tgt := 30) hx hb dX0_pushSnowFrom_5 (by decide) (fun c_5 => ?_) (fun c_5 => ?_)
  · omega
  · refine lv_aload_n hx hb dX0_pushSnowFrom_8 rfl (lv_at hl 0 rfl) ?_
    refine lv_iload_n hx hb dX0_pushSnowFrom_9 rfl (lv_at hl 1 rfl) ?_
    refine li_c hx hb dX0_pushSnowFrom_10 ?_
    refine li_op (k0 := k) hx hb dX0_pushSnowFrom_11 (by omega) (by omega) ?_
    refine lv_aload_n hx hb dX0_pushSnowFrom_12 rfl (lv_at hl 0 rfl) ?_
    refine agX0_depths X hC iX0 (by decide +kernel) dX0_pushSnowFrom_13 ?_
    refine lv_iload_n hx hb dX0_pushSnowFrom_16 rfl (lv_at hl 1 rfl) ?_
    refine alC_de (k0 := k) (v := ((G.de k : Nat) : Int)) X hC (by omega) (by omega) rfl dX0_pushSnowFrom_17 ?_
    refine li_c hx hb dX0_pushSnowFrom_18 ?_
    refine li_divN (x := G.de k) (y := 2) hx hb dX0_pushSnowFrom_19 rfl rfl (by omega) ?_
    refine c_callvx (n := 2) (As := [.int (iI ((op k : Nat) : Int)), .int (iI (((G.de k) / 2 : Nat) : Int))]) (rest := []) X hC (mX0_heap l A G Y (op k) ((G.de k) / 2) (show (op k) < 2 * G.rr by omega) (show G.rr ≤ 12 by omega) (show ((G.de k) / 2) ≤ 1000 by omega) (show G.de (op k) ≤ 999 by omega)) ⟨gX0_pushSnowFrom_X0_heap, ⟨_, rfl⟩, rfl, rfl, ⟨by decide, by decide, by decide +kernel⟩, Nat.le_of_ble_eq_true rfl, Nat.le_of_ble_eq_true rfl⟩ (a_recv (y := yX0_heap) X hC.1 (ci := 0) (q0 := 1) rfl rfl rfl) rfl hl.1 rfl (Nat.le_of_ble_eq_true rfl) ⟨Nat.zero_le _, Nat.zero_le _⟩ dX0_pushSnowFrom_20 (fun H locs hC => ?_)
    have hC : aH A (cAdr A) (CW A (mkG G.tu G.st G.sm G.mi G.pr (up G.de (op k) (min 999 (G.de (op k) + ((G.de k) / 2)))) G.sa G.nn G.rr G.vn G.vc G.vs G.vw G.tt) Y) s H locs := hC
    refine lv_aload_n hx hb dX0_pushSnowFrom_23 rfl (lv_at hl 0 rfl) ?_
    refine agX0_depths X hC iX0 (by decide +kernel) dX0_pushSnowFrom_24 ?_
    refine lv_iload_n hx hb dX0_pushSnowFrom_27 rfl (lv_at hl 1 rfl) ?_
    refine li_c hx hb dX0_pushSnowFrom_28 ?_
    refine asC_de (k0 := k) (x := 0) X hC (by omega) (by omega) (by omega) dX0_pushSnowFrom_29 (fun H locs hC => ?_)
    have hC : aH A (cAdr A) (CW A (mkG G.tu G.st G.sm G.mi G.pr (up (up G.de (op k) (min 999 (G.de (op k) + ((G.de k) / 2)))) k 0) G.sa G.nn G.rr G.vn G.vc G.vs G.vw G.tt) Y) s H locs := hC
    exact c_vret X hC hr hk (⟨rfl, rfl⟩) dX0_pushSnowFrom_30

set_option maxHeartbeats 4000000 in
set_option maxRecDepth 100000 in
theorem mX0_deepestSnow (l : Launch) (A : AD) (G : GS) (Y : YS) (hI : Inv G) : cMi l yX0_deepestSnow wsX0_deepestSnow ({ frames := 1, cells := 0, slots := 0, locals := 21 }) A [.ref (A.a 1)] G Y (xI (((dmax G.de (2 * G.rr) : Nat) : Int)) G Y) := by
  intro sz
  refine c_start (cc := cX0_deepestSnow) (maxL := 3) (ret := (some .int)) (by decide) rfl rfl ?_
  intro p e s m args below meth c X hr hk hnm hsz ls hl H locs hC
  subst hsz
  obtain ⟨hx, hb, hml, hown, hts⟩ := id X.1
  have hl : lv_has ls 3 [(0, .ref (A.a 1))] := hl
  have iX0 : ∀ w ∈ u_ws RX0 TX0 9, w ∈ wsX0_deepestSnow := by decide +kernel
  have hrr := hI.rr
  refine li_c hx hb dX0_deepestSnow_0 ?_
  refine lv_istore_n (lv' := [(1, .int (iI 0)), (0, .ref (A.a 1))]) hx hb dX0_deepestSnow_1 rfl hl (by decide) rfl (fun ls hl => ?_)
  refine li_c hx hb dX0_deepestSnow_2 ?_
  refine lv_istore_n (lv' := [(2, .int (iI 0)), (1, .int (iI 0)), (0, .ref (A.a 1))]) hx hb dX0_deepestSnow_3 rfl hl (by decide) rfl (fun ls hl => ?_)
  have loop_4 : ∀ (n : Nat) (i : Nat) (hn : 2 * G.rr - i < n) (hi : i ≤ 2 * G.rr) (H : Heap) (locs : List Loc) (hC : aH A (cAdr A) (CW A G Y) s H locs) (ls : Array Slot) (hl : lv_has ls 3 [(2, .int (iI (i : Int))), (1, .int (iI ((dmax G.de i : Nat) : Int))), (0, .ref (A.a 1))]), W p l e ({ frames := 1, cells := 0, slots := 0, locals := 21 }) s m args below meth c H locs 0 0 (aQi below (cEnd A) (cAdr A) args s (xI (((dmax G.de (2 * G.rr) : Nat) : Int)) G Y)) (F0 m 4 ls []) := by
    intro n
    induction n with
    | zero => intro i hn; exact absurd hn (Nat.not_lt_zero _)
    | succ n ih_4 =>
      intro i hn hi H locs hC ls hl
      have hdm := dmax_le hI.de i
      refine lv_iload_n hx hb dX0_deepestSnow_4 rfl (lv_at hl 0 rfl) ?_
      refine lv_aload_n hx hb dX0_deepestSnow_5 rfl (lv_at hl 2 rfl) ?_
      refine c_callix (v := ((2 * G.rr : Nat) : Int)) (n := 0) (As := []) (rest := [.int (iI (i : Int))]) X hC (mX0_sideCount l A G Y) ⟨gX0_deepestSnow_X0_sideCount, ⟨_, rfl⟩, rfl, rfl, ⟨by decide, by decide, by decide +kernel⟩, Nat.le_of_ble_eq_true rfl, Nat.le_of_ble_eq_true rfl⟩ (a_recv (y := yX0_sideCount) X hC.1 (ci := 0) (q0 := 1) rfl rfl rfl) rfl hl.1 rfl (Nat.le_of_ble_eq_true rfl) ⟨Nat.zero_le _, Nat.zero_le _⟩ dX0_deepestSnow_6 (fun H locs hC => ?_)
      refine li_icmp_ge (tgt := 29) hx hb dX0_deepestSnow_9 (by decide) (by omega) (fun c_9 => ?_) (fun c_9 => ?_)
      · refine lv_iload_n hx hb dX0_deepestSnow_29 rfl (lv_at hl 1 rfl) ?_
        exact c_iret X hC hr hk (⟨by rw [show 2 * G.rr = i by omega], rfl, rfl⟩) dX0_deepestSnow_30
      · refine lv_iload_n hx hb dX0_deepestSnow_12 rfl (lv_at hl 1 rfl) ?_
        refine lv_aload_n hx hb dX0_deepestSnow_13 rfl (lv_at hl 2 rfl) ?_
        refine agX0_depths X hC iX0 (by decide +kernel) dX0_deepestSnow_14 ?_
        refine lv_iload_n hx hb dX0_deepestSnow_17 rfl (lv_at hl 0 rfl) ?_
        refine alC_de (k0 := i) (v := ((G.de i : Nat) : Int)) X hC (by omega) (by omega) rfl dX0_deepestSnow_18 ?_
        have hb1 := hI.de i
        refine li_max hx hb (hml.trans hl.1.symm) hown (hts _ (by decide +kernel)) (hts _ (by decide +kernel)) (hts _ (by decide +kernel)) (hts _ (by decide +kernel)) (Nat.le_of_ble_eq_true rfl) (Nat.le_of_ble_eq_true rfl) (Nat.zero_le _) (Nat.zero_le _) (by omega) dX0_deepestSnow_19 ?_
        rw [show (if ((dmax G.de i : Nat) : Int) < ((G.de i : Nat) : Int) then ((G.de i : Nat) : Int) else ((dmax G.de i : Nat) : Int)) = (((max (dmax G.de i) (G.de i)) : Nat) : Int) by split <;> omega]
        refine lv_istore_n (lv' := [(1, .int (iI (((max (dmax G.de i) (G.de i)) : Nat) : Int))), (2, .int (iI (i : Int))), (0, .ref (A.a 1))]) hx hb dX0_deepestSnow_22 rfl hl (by decide) rfl (fun ls hl => ?_)
        refine li_incN (lv' := [(2, .int (iI ((i + 1 : Nat) : Int))), (1, .int (iI (((max (dmax G.de i) (G.de i)) : Nat) : Int))), (0, .ref (A.a 1))]) (x := i) (d0 := 1) hx hb dX0_deepestSnow_23 hl (k := 1) rfl rfl rfl (by decide) rfl (fun ls hl => ?_)
        refine lv_goto (tgt := 4) hx hb dX0_deepestSnow_26 (by decide) ?_
        exact ih_4 (i + 1) (by omega) (by omega) H locs hC ls (lv_sub hl [0, 1, 2] rfl)
  exact loop_4 ((2 * G.rr) + 1) 0 (Nat.lt_succ_self _) (by omega) H locs hC ls (lv_sub hl [0, 1, 2] rfl)

set_option maxHeartbeats 4000000 in
set_option maxRecDepth 100000 in
theorem mX0_deepestSnowOf (l : Launch) (A : AD) (G : GS) (Y : YS) (q : Int) (hI : Inv G) (hq : -2147483648 ≤ q ∧ q < 2147483648) : cMi l yX0_deepestSnowOf wsX0_deepestSnowOf ({ frames := 1, cells := 0, slots := 0, locals := 21 }) A [.ref (A.a 1), .int (iI q)] G Y (xI ((dmaxP G.pr G.de q (2 * G.rr))) G Y) := by
  intro sz
  refine c_start (cc := cX0_deepestSnowOf) (maxL := 4) (ret := (some .int)) (by decide) rfl rfl ?_
  intro p e s m args below meth c X hr hk hnm hsz ls hl H locs hC
  subst hsz
  obtain ⟨hx, hb, hml, hown, hts⟩ := id X.1
  have hl : lv_has ls 4 [(0, .ref (A.a 1)), (1, .int (iI q))] := hl
  have iX0 : ∀ w ∈ u_ws RX0 TX0 9, w ∈ wsX0_deepestSnowOf := by decide +kernel
  have hrr := hI.rr
  refine li_c hx hb dX0_deepestSnowOf_0 ?_
  refine lv_istore_n (lv' := [(2, .int (iI (-1))), (0, .ref (A.a 1)), (1, .int (iI q))]) hx hb dX0_deepestSnowOf_1 rfl hl (by decide) rfl (fun ls hl => ?_)
  refine li_c hx hb dX0_deepestSnowOf_2 ?_
  refine lv_istore_n (lv' := [(3, .int (iI 0)), (2, .int (iI (-1))), (0, .ref (A.a 1)), (1, .int (iI q))]) hx hb dX0_deepestSnowOf_3 rfl hl (by decide) rfl (fun ls hl => ?_)
  have loop_4 : ∀ (n : Nat) (i : Nat) (hn : 2 * G.rr - i < n) (hi : i ≤ 2 * G.rr) (H : Heap) (locs : List Loc) (hC : aH A (cAdr A) (CW A G Y) s H locs) (ls : Array Slot) (hl : lv_has ls 4 [(3, .int (iI (i : Int))), (2, .int (iI (dmaxP G.pr G.de q i))), (0, .ref (A.a 1)), (1, .int (iI q))]), W p l e ({ frames := 1, cells := 0, slots := 0, locals := 21 }) s m args below meth c H locs 0 0 (aQi below (cEnd A) (cAdr A) args s (xI ((dmaxP G.pr G.de q (2 * G.rr))) G Y)) (F0 m 4 ls []) := by
    intro n
    induction n with
    | zero => intro i hn; exact absurd hn (Nat.not_lt_zero _)
    | succ n ih_4 =>
      intro i hn hi H locs hC ls hl
      have hdm := dmaxP_rng (pr := G.pr) (q := q) hI.de i
      refine lv_iload_n hx hb dX0_deepestSnowOf_4 rfl (lv_at hl 0 rfl) ?_
      refine lv_aload_n hx hb dX0_deepestSnowOf_5 rfl (lv_at hl 2 rfl) ?_
      refine c_callix (v := ((2 * G.rr : Nat) : Int)) (n := 0) (As := []) (rest := [.int (iI (i : Int))]) X hC (mX0_sideCount l A G Y) ⟨gX0_deepestSnowOf_X0_sideCount, ⟨_, rfl⟩, rfl, rfl, ⟨by decide, by decide, by decide +kernel⟩, Nat.le_of_ble_eq_true rfl, Nat.le_of_ble_eq_true rfl⟩ (a_recv (y := yX0_sideCount) X hC.1 (ci := 0) (q0 := 1) rfl rfl rfl) rfl hl.1 rfl (Nat.le_of_ble_eq_true rfl) ⟨Nat.zero_le _, Nat.zero_le _⟩ dX0_deepestSnowOf_6 (fun H locs hC => ?_)
      refine li_icmp_ge (tgt := 41) hx hb dX0_deepestSnowOf_9 (by decide) (by omega) (fun c_9 => ?_) (fun c_9 => ?_)
      · refine lv_iload_n hx hb dX0_deepestSnowOf_41 rfl (lv_at hl 1 rfl) ?_
        exact c_iret X hC hr hk (⟨by rw [show 2 * G.rr = i by omega], rfl, rfl⟩) dX0_deepestSnowOf_42
      · refine lv_aload_n hx hb dX0_deepestSnowOf_12 rfl (lv_at hl 2 rfl) ?_
        refine agX0_priorities X hC iX0 (by decide +kernel) dX0_deepestSnowOf_13 ?_
        refine lv_iload_n hx hb dX0_deepestSnowOf_16 rfl (lv_at hl 0 rfl) ?_
        refine li_c hx hb dX0_deepestSnowOf_17 ?_
        refine li_divN (x := i) (y := 2) hx hb dX0_deepestSnowOf_18 rfl rfl (by omega) ?_
        refine alC_pr (k0 := i / 2) (v := ((G.pr (i / 2) : Nat) : Int)) X hC (by omega) (by omega) rfl dX0_deepestSnowOf_19 ?_
        have hb1 := hI.pr (i / 2)
        refine lv_iload_n hx hb dX0_deepestSnowOf_20 rfl (lv_at hl 3 rfl) ?_
        refine li_icmp_ne (tgt := 35) hx hb dX0_deepestSnowOf_21 (by decide) (by omega) (fun c_21 => ?_) (fun c_21 => ?_)
        · refine li_incN (lv' := [(3, .int (iI ((i + 1 : Nat) : Int))), (2, .int (iI (dmaxP G.pr G.de q i))), (0, .ref (A.a 1)), (1, .int (iI q))]) (x := i) (d0 := 1) hx hb dX0_deepestSnowOf_35 hl (k := 0) rfl rfl rfl (by decide) rfl (fun ls hl => ?_)
          refine lv_goto (tgt := 4) hx hb dX0_deepestSnowOf_38 (by decide) ?_
          have e1 : (dmaxP G.pr G.de q i) = dmaxP G.pr G.de q (i + 1) := by rw [dmaxP_s]; first | rw [if_pos (by omega)] | rw [if_neg (by omega)]
          rw [e1] at hl
          exact ih_4 (i + 1) (by omega) (by omega) H locs hC ls (lv_sub hl [0, 1, 2, 3] rfl)
        · refine lv_iload_n hx hb dX0_deepestSnowOf_24 rfl (lv_at hl 1 rfl) ?_
          refine lv_aload_n hx hb dX0_deepestSnowOf_25 rfl (lv_at hl 2 rfl) ?_
          refine agX0_depths X hC iX0 (by decide +kernel) dX0_deepestSnowOf_26 ?_
          refine lv_iload_n hx hb dX0_deepestSnowOf_29 rfl (lv_at hl 0 rfl) ?_
          refine alC_de (k0 := i) (v := ((G.de i : Nat) : Int)) X hC (by omega) (by omega) rfl dX0_deepestSnowOf_30 ?_
          have hb2 := hI.de i
          refine li_max hx hb (hml.trans hl.1.symm) hown (hts _ (by decide +kernel)) (hts _ (by decide +kernel)) (hts _ (by decide +kernel)) (hts _ (by decide +kernel)) (Nat.le_of_ble_eq_true rfl) (Nat.le_of_ble_eq_true rfl) (Nat.zero_le _) (Nat.zero_le _) (by omega) dX0_deepestSnowOf_31 ?_
          rw [show (if (dmaxP G.pr G.de q i) < ((G.de i : Nat) : Int) then ((G.de i : Nat) : Int) else (dmaxP G.pr G.de q i)) = (max (dmaxP G.pr G.de q i) ((G.de i : Nat) : Int)) by split <;> omega]
          refine lv_istore_n (lv' := [(2, .int (iI (max (dmaxP G.pr G.de q i) ((G.de i : Nat) : Int)))), (3, .int (iI (i : Int))), (0, .ref (A.a 1)), (1, .int (iI q))]) hx hb dX0_deepestSnowOf_34 rfl hl (by decide) rfl (fun ls hl => ?_)
          refine li_incN (lv' := [(3, .int (iI ((i + 1 : Nat) : Int))), (2, .int (iI (max (dmaxP G.pr G.de q i) ((G.de i : Nat) : Int)))), (0, .ref (A.a 1)), (1, .int (iI q))]) (x := i) (d0 := 1) hx hb dX0_deepestSnowOf_35 hl (k := 1) rfl rfl rfl (by decide) rfl (fun ls hl => ?_)
          refine lv_goto (tgt := 4) hx hb dX0_deepestSnowOf_38 (by decide) ?_
          have e1 : (max (dmaxP G.pr G.de q i) ((G.de i : Nat) : Int)) = dmaxP G.pr G.de q (i + 1) := by rw [dmaxP_s]; first | rw [if_pos (by omega)] | rw [if_neg (by omega)]
          rw [e1] at hl
          exact ih_4 (i + 1) (by omega) (by omega) H locs hC ls (lv_sub hl [0, 1, 2, 3] rfl)
  exact loop_4 ((2 * G.rr) + 1) 0 (Nat.lt_succ_self _) (by omega) H locs hC ls (lv_sub hl [0, 1, 2, 3] rfl)

set_option maxHeartbeats 4000000 in
set_option maxRecDepth 100000 in
theorem mX0_sidesWithoutSnow (l : Launch) (A : AD) (G : GS) (Y : YS) (hI : Inv G) : cMi l yX0_sidesWithoutSnow wsX0_sidesWithoutSnow ({ frames := 1, cells := 0, slots := 0, locals := 20 }) A [.ref (A.a 1)] G Y (xI (((cnt0 G.de (2 * G.rr) : Nat) : Int)) G Y) := by
  intro sz
  refine c_start (cc := cX0_sidesWithoutSnow) (maxL := 3) (ret := (some .int)) (by decide) rfl rfl ?_
  intro p e s m args below meth c X hr hk hnm hsz ls hl H locs hC
  subst hsz
  obtain ⟨hx, hb, hml, hown, hts⟩ := id X.1
  have hl : lv_has ls 3 [(0, .ref (A.a 1))] := hl
  have iX0 : ∀ w ∈ u_ws RX0 TX0 9, w ∈ wsX0_sidesWithoutSnow := by decide +kernel
  have hrr := hI.rr
  refine li_c hx hb dX0_sidesWithoutSnow_0 ?_
  refine lv_istore_n (lv' := [(1, .int (iI 0)), (0, .ref (A.a 1))]) hx hb dX0_sidesWithoutSnow_1 rfl hl (by decide) rfl (fun ls hl => ?_)
  refine li_c hx hb dX0_sidesWithoutSnow_2 ?_
  refine lv_istore_n (lv' := [(2, .int (iI 0)), (1, .int (iI 0)), (0, .ref (A.a 1))]) hx hb dX0_sidesWithoutSnow_3 rfl hl (by decide) rfl (fun ls hl => ?_)
  have loop_4 : ∀ (n : Nat) (i : Nat) (hn : 2 * G.rr - i < n) (hi : i ≤ 2 * G.rr) (H : Heap) (locs : List Loc) (hC : aH A (cAdr A) (CW A G Y) s H locs) (ls : Array Slot) (hl : lv_has ls 3 [(2, .int (iI (i : Int))), (1, .int (iI ((cnt0 G.de i : Nat) : Int))), (0, .ref (A.a 1))]), W p l e ({ frames := 1, cells := 0, slots := 0, locals := 20 }) s m args below meth c H locs 0 0 (aQi below (cEnd A) (cAdr A) args s (xI (((cnt0 G.de (2 * G.rr) : Nat) : Int)) G Y)) (F0 m 4 ls []) := by
    intro n
    induction n with
    | zero => intro i hn; exact absurd hn (Nat.not_lt_zero _)
    | succ n ih_4 =>
      intro i hn hi H locs hC ls hl
      have hdm := cnt0_le G.de i
      refine lv_iload_n hx hb dX0_sidesWithoutSnow_4 rfl (lv_at hl 0 rfl) ?_
      refine lv_aload_n hx hb dX0_sidesWithoutSnow_5 rfl (lv_at hl 2 rfl) ?_
      refine c_callix (v := ((2 * G.rr : Nat) : Int)) (n := 0) (As := []) (rest := [.int (iI (i : Int))]) X hC (mX0_sideCount l A G Y) ⟨gX0_sidesWithoutSnow_X0_sideCount, ⟨_, rfl⟩, rfl, rfl, ⟨by decide, by decide, by decide +kernel⟩, Nat.le_of_ble_eq_true rfl, Nat.le_of_ble_eq_true rfl⟩ (a_recv (y := yX0_sideCount) X hC.1 (ci := 0) (q0 := 1) rfl rfl rfl) rfl hl.1 rfl (Nat.le_of_ble_eq_true rfl) ⟨Nat.zero_le _, Nat.zero_le _⟩ dX0_sidesWithoutSnow_6 (fun H locs hC => ?_)
      refine li_icmp_ge (tgt := 30) hx hb dX0_sidesWithoutSnow_9 (by decide) (by omega) (fun c_9 => ?_) (fun c_9 => ?_)
      · refine lv_iload_n hx hb dX0_sidesWithoutSnow_30 rfl (lv_at hl 1 rfl) ?_
        exact c_iret X hC hr hk (⟨by rw [show 2 * G.rr = i by omega], rfl, rfl⟩) dX0_sidesWithoutSnow_31
      · refine lv_aload_n hx hb dX0_sidesWithoutSnow_12 rfl (lv_at hl 2 rfl) ?_
        refine agX0_depths X hC iX0 (by decide +kernel) dX0_sidesWithoutSnow_13 ?_
        refine lv_iload_n hx hb dX0_sidesWithoutSnow_16 rfl (lv_at hl 0 rfl) ?_
        refine alC_de (k0 := i) (v := ((G.de i : Nat) : Int)) X hC (by omega) (by omega) rfl dX0_sidesWithoutSnow_17 ?_
        have hb1 := hI.de i
        refine li_if_ne (tgt := 24) hx hb dX0_sidesWithoutSnow_18 (by decide) (by omega) (fun c_18 => ?_) (fun c_18 => ?_)
        · refine li_incN (lv' := [(2, .int (iI ((i + 1 : Nat) : Int))), (1, .int (iI ((cnt0 G.de i : Nat) : Int))), (0, .ref (A.a 1))]) (x := i) (d0 := 1) hx hb dX0_sidesWithoutSnow_24 hl (k := 0) rfl rfl rfl (by decide) rfl (fun ls hl => ?_)
          refine lv_goto (tgt := 4) hx hb dX0_sidesWithoutSnow_27 (by decide) ?_
          have e1 : cnt0 G.de i = cnt0 G.de (i + 1) := by rw [cnt0_s]; first | rw [if_pos (by omega)] | (rw [if_neg (by omega)]; rfl)
          rw [e1] at hl
          exact ih_4 (i + 1) (by omega) (by omega) H locs hC ls (lv_sub hl [0, 1, 2] rfl)
        · refine li_incN (lv' := [(1, .int (iI (((cnt0 G.de i) + 1 : Nat) : Int))), (2, .int (iI (i : Int))), (0, .ref (A.a 1))]) (x := cnt0 G.de i) (d0 := 1) hx hb dX0_sidesWithoutSnow_21 hl (k := 1) rfl rfl rfl (by decide) rfl (fun ls hl => ?_)
          refine li_incN (lv' := [(2, .int (iI ((i + 1 : Nat) : Int))), (1, .int (iI (((cnt0 G.de i) + 1 : Nat) : Int))), (0, .ref (A.a 1))]) (x := i) (d0 := 1) hx hb dX0_sidesWithoutSnow_24 hl (k := 1) rfl rfl rfl (by decide) rfl (fun ls hl => ?_)
          refine lv_goto (tgt := 4) hx hb dX0_sidesWithoutSnow_27 (by decide) ?_
          have e1 : (cnt0 G.de i) + 1 = cnt0 G.de (i + 1) := by rw [cnt0_s]; first | rw [if_pos (by omega)] | (rw [if_neg (by omega)]; rfl)
          rw [e1] at hl
          exact ih_4 (i + 1) (by omega) (by omega) H locs hC ls (lv_sub hl [0, 1, 2] rfl)
  exact loop_4 ((2 * G.rr) + 1) 0 (Nat.lt_succ_self _) (by omega) H locs hC ls (lv_sub hl [0, 1, 2] rfl)

set_option maxHeartbeats 4000000 in
set_option maxRecDepth 100000 in
theorem mX0_withNeighbours (l : Launch) (A : AD) (G : GS) (Y : YS) (z : Nat) (hI : Inv G) (hz : z < 256) : cMi l yX0_withNeighbours wsX0_withNeighbours ({ frames := 2, cells := 0, slots := 0, locals := 42 }) A [.ref (A.a 1), .int (iI (z : Int))] G Y (xI (((wnb G z (2 * G.rr) : Nat) : Int)) G Y) := by
  intro sz
  refine c_start (cc := cX0_withNeighbours) (maxL := 4) (ret := (some .int)) (by decide) rfl rfl ?_
  intro p e s m args below meth c X hr hk hnm hsz ls hl H locs hC
  subst hsz
  obtain ⟨hx, hb, hml, hown, hts⟩ := id X.1
  have hl : lv_has ls 4 [(0, .ref (A.a 1)), (1, .int (iI (z : Int)))] := hl
  have iX0 : ∀ w ∈ u_ws RX0 TX0 9, w ∈ wsX0_withNeighbours := by decide +kernel
  have hrr := hI.rr
  have hnn := hI.nn
  refine lv_iload_n hx hb dX0_withNeighbours_0 rfl (lv_at hl 1 rfl) ?_
  refine lv_istore_n (lv' := [(2, .int (iI (z : Int))), (0, .ref (A.a 1)), (1, .int (iI (z : Int)))]) hx hb dX0_withNeighbours_1 rfl hl (by decide) rfl (fun ls hl => ?_)
  refine li_c hx hb dX0_withNeighbours_2 ?_
  refine lv_istore_n (lv' := [(3, .int (iI 0)), (2, .int (iI (z : Int))), (0, .ref (A.a 1)), (1, .int (iI (z : Int)))]) hx hb dX0_withNeighbours_3 rfl hl (by decide) rfl (fun ls hl => ?_)
  have loop_4 : ∀ (n : Nat) (i : Nat) (hn : 2 * G.rr - i < n) (hi : i ≤ 2 * G.rr) (H : Heap) (locs : List Loc) (hC : aH A (cAdr A) (CW A G Y) s H locs) (ls : Array Slot) (hl : lv_has ls 4 [(3, .int (iI (i : Int))), (2, .int (iI ((wnb G z i : Nat) : Int))), (0, .ref (A.a 1))]), W p l e ({ frames := 2, cells := 0, slots := 0, locals := 42 }) s m args below meth c H locs 0 0 (aQi below (cEnd A) (cAdr A) args s (xI (((wnb G z (2 * G.rr) : Nat) : Int)) G Y)) (F0 m 4 ls []) := by
    intro n
    induction n with
    | zero => intro i hn; exact absurd hn (Nat.not_lt_zero _)
    | succ n ih_4 =>
      intro i hn hi H locs hC ls hl
      have hw := wnb_lt hI hz i
      have hs1 := hI.sm i
      have hs2 := hI.sm (op i)
      have h9 : (wnb G z i / 2 ^ G.sm i) &&& 1 ≤ 1 := Nat.and_le_right
      refine lv_iload_n hx hb dX0_withNeighbours_4 rfl (lv_at hl 0 rfl) ?_
      refine lv_aload_n hx hb dX0_withNeighbours_5 rfl (lv_at hl 2 rfl) ?_
      refine c_callix (v := ((2 * G.rr : Nat) : Int)) (n := 0) (As := []) (rest := [.int (iI (i : Int))]) X hC (mX0_sideCount l A G Y) ⟨gX0_withNeighbours_X0_sideCount, ⟨_, rfl⟩, rfl, rfl, ⟨by decide, by decide, by decide +kernel⟩, Nat.le_of_ble_eq_true rfl, Nat.le_of_ble_eq_true rfl⟩ (a_recv (y := yX0_sideCount) X hC.1 (ci := 0) (q0 := 1) rfl rfl rfl) rfl hl.1 rfl (Nat.le_of_ble_eq_true rfl) ⟨Nat.zero_le _, Nat.zero_le _⟩ dX0_withNeighbours_6 (fun H locs hC => ?_)
      refine li_icmp_ge (tgt := 53) hx hb dX0_withNeighbours_9 (by decide) (by omega) (fun c_9 => ?_) (fun c_9 => ?_)
      · refine lv_iload_n hx hb dX0_withNeighbours_53 rfl (lv_at hl 1 rfl) ?_
        exact c_iret X hC hr hk (⟨by rw [show 2 * G.rr = i by omega], rfl, rfl⟩) dX0_withNeighbours_54
      · refine lv_aload_n hx hb dX0_withNeighbours_12 rfl (lv_at hl 2 rfl) ?_
        refine agX0_depths X hC iX0 (by decide +kernel) dX0_withNeighbours_13 ?_
        refine lv_iload_n hx hb dX0_withNeighbours_16 rfl (lv_at hl 0 rfl) ?_
        refine alC_de (k0 := i) (v := ((G.de i : Nat) : Int)) X hC (by omega) (by omega) rfl dX0_withNeighbours_17 ?_
        have hb1 := hI.de i
        refine li_si hx hb dX0_withNeighbours_18 (by decide) ?_
        refine li_icmp_ge (tgt := 47) hx hb dX0_withNeighbours_21 (by decide) (by omega) (fun c_21 => ?_) (fun c_21 => ?_)
        · refine li_incN (lv' := [(3, .int (iI ((i + 1 : Nat) : Int))), (2, .int (iI ((wnb G z i : Nat) : Int))), (0, .ref (A.a 1))]) (x := i) (d0 := 1) hx hb dX0_withNeighbours_47 hl (k := 0) rfl rfl rfl (by decide) rfl (fun ls hl => ?_)
          refine lv_goto (tgt := 4) hx hb dX0_withNeighbours_50 (by decide) ?_
          have e1 : wnb G z i = wnb G z (i + 1) := by rw [wnb_s]; first | rw [if_pos ⟨by omega, by omega⟩] | rw [if_neg (fun hq => by obtain ⟨h1, h2⟩ := hq; omega)]
          rw [e1] at hl
          exact ih_4 (i + 1) (by omega) (by omega) H locs hC ls (lv_sub hl [0, 1, 2] rfl)
        · refine lv_iload_n hx hb dX0_withNeighbours_24 rfl (lv_at hl 1 rfl) ?_
          refine lv_aload_n hx hb dX0_withNeighbours_25 rfl (lv_at hl 2 rfl) ?_
          refine lv_iload_n hx hb dX0_withNeighbours_26 rfl (lv_at hl 0 rfl) ?_
          refine c_callix (v := ((G.sm i : Nat) : Int)) (n := 1) (As := [.int (iI (i : Int))]) (rest := [.int (iI ((wnb G z i : Nat) : Int))]) X hC (mX0_startOf l A G Y i (show i < 2 * G.rr by omega) (show G.rr ≤ 12 by omega)) ⟨gX0_withNeighbours_X0_startOf, ⟨_, rfl⟩, rfl, rfl, ⟨by decide, by decide, by decide +kernel⟩, Nat.le_of_ble_eq_true rfl, Nat.le_of_ble_eq_true rfl⟩ (a_recv (y := yX0_startOf) X hC.1 (ci := 0) (q0 := 1) rfl rfl rfl) rfl hl.1 rfl (Nat.le_of_ble_eq_true rfl) ⟨Nat.zero_le _, Nat.zero_le _⟩ dX0_withNeighbours_27 (fun H locs hC => ?_)
          refine li_shr (a0 := wnb G z i) (k0 := G.sm i) hx hb dX0_withNeighbours_30 (by omega) (by omega) (by omega) ?_
          refine li_c hx hb dX0_withNeighbours_31 ?_
          refine li_and (a0 := (wnb G z i) / 2 ^ (G.sm i)) (b0 := 1) hx hb dX0_withNeighbours_32 (by omega) (by omega) ?_
          refine li_c hx hb dX0_withNeighbours_33 ?_
          refine li_icmp_ne (tgt := 47) hx hb dX0_withNeighbours_34 (by decide) (by omega) (fun c_34 => ?_) (fun c_34 => ?_)
          · refine li_incN (lv' := [(3, .int (iI ((i + 1 : Nat) : Int))), (2, .int (iI ((wnb G z i : Nat) : Int))), (0, .ref (A.a 1))]) (x := i) (d0 := 1) hx hb dX0_withNeighbours_47 hl (k := 0) rfl rfl rfl (by decide) rfl (fun ls hl => ?_)
            refine lv_goto (tgt := 4) hx hb dX0_withNeighbours_50 (by decide) ?_
            have e1 : wnb G z i = wnb G z (i + 1) := by rw [wnb_s]; first | rw [if_pos ⟨by omega, by omega⟩] | rw [if_neg (fun hq => by obtain ⟨h1, h2⟩ := hq; omega)]
            rw [e1] at hl
            exact ih_4 (i + 1) (by omega) (by omega) H locs hC ls (lv_sub hl [0, 1, 2] rfl)
          · refine lv_iload_n hx hb dX0_withNeighbours_37 rfl (lv_at hl 1 rfl) ?_
            refine li_c hx hb dX0_withNeighbours_38 ?_
            refine lv_aload_n hx hb dX0_withNeighbours_39 rfl (lv_at hl 2 rfl) ?_
            refine lv_iload_n hx hb dX0_withNeighbours_40 rfl (lv_at hl 0 rfl) ?_
            refine c_callix (v := ((G.sm (op i) : Nat) : Int)) (n := 1) (As := [.int (iI (i : Int))]) (rest := [.int (iI 1), .int (iI ((wnb G z i : Nat) : Int))]) X hC (mX0_endOf l A G Y i (show i < 2 * G.rr by omega) (show G.rr ≤ 12 by omega)) ⟨gX0_withNeighbours_X0_endOf, ⟨_, rfl⟩, rfl, rfl, ⟨by decide, by decide, by decide +kernel⟩, Nat.le_of_ble_eq_true rfl, Nat.le_of_ble_eq_true rfl⟩ (a_recv (y := yX0_endOf) X hC.1 (ci := 0) (q0 := 1) rfl rfl rfl) rfl hl.1 rfl (Nat.le_of_ble_eq_true rfl) ⟨Nat.zero_le _, Nat.zero_le _⟩ dX0_withNeighbours_41 (fun H locs hC => ?_)
            refine li_shl1 (k0 := G.sm (op i)) hx hb dX0_withNeighbours_44 (by omega) (by omega) ?_
            refine li_or (a0 := wnb G z i) (b0 := 2 ^ (G.sm (op i))) hx hb dX0_withNeighbours_45 (by omega) (by omega) ?_
            refine lv_istore_n (lv' := [(2, .int (iI (((wnb G z i) ||| (2 ^ (G.sm (op i))) : Nat) : Int))), (3, .int (iI (i : Int))), (0, .ref (A.a 1))]) hx hb dX0_withNeighbours_46 rfl hl (by decide) rfl (fun ls hl => ?_)
            refine li_incN (lv' := [(3, .int (iI ((i + 1 : Nat) : Int))), (2, .int (iI (((wnb G z i) ||| (2 ^ (G.sm (op i))) : Nat) : Int))), (0, .ref (A.a 1))]) (x := i) (d0 := 1) hx hb dX0_withNeighbours_47 hl (k := 1) rfl rfl rfl (by decide) rfl (fun ls hl => ?_)
            refine lv_goto (tgt := 4) hx hb dX0_withNeighbours_50 (by decide) ?_
            have e1 : (wnb G z i) ||| (2 ^ (G.sm (op i))) = wnb G z (i + 1) := by rw [wnb_s]; first | rw [if_pos ⟨by omega, by omega⟩] | rw [if_neg (fun hq => by obtain ⟨h1, h2⟩ := hq; omega)]
            rw [e1] at hl
            exact ih_4 (i + 1) (by omega) (by omega) H locs hC ls (lv_sub hl [0, 1, 2] rfl)
  exact loop_4 ((2 * G.rr) + 1) 0 (Nat.lt_succ_self _) (by omega) H locs hC ls (lv_sub hl [0, 1, 2] rfl)

set_option maxHeartbeats 4000000 in
set_option maxRecDepth 100000 in
theorem mX0_nodesOpenFrom (l : Launch) (A : AD) (G : GS) (Y : YS) (k : Nat) (hI : Inv G) (hk1 : k < G.nn) : cMi l yX0_nodesOpenFrom wsX0_nodesOpenFrom ({ frames := 3, cells := 0, slots := 0, locals := 65 }) A [.ref (A.a 1), .int (iI (k : Int))] G Y (xI (((itw G (2 ^ k) (G.nn - 1) : Nat) : Int)) G Y) := by
  intro sz
  refine c_start (cc := cX0_nodesOpenFrom) (maxL := 4) (ret := (some .int)) (by decide) rfl rfl ?_
  intro p e s m args below meth c X hr hk hnm hsz ls hl H locs hC
  subst hsz
  obtain ⟨hx, hb, hml, hown, hts⟩ := id X.1
  have hl : lv_has ls 4 [(0, .ref (A.a 1)), (1, .int (iI (k : Int)))] := hl
  have iX0 : ∀ w ∈ u_ws RX0 TX0 9, w ∈ wsX0_nodesOpenFrom := by decide +kernel
  have hrr := hI.rr
  have hnn := hI.nn
  have hp : 2 ^ k < 256 := Nat.pow_lt_pow_right (n := 8) (by decide) (by omega)
  refine li_c hx hb dX0_nodesOpenFrom_0 ?_
  refine lv_iload_n hx hb dX0_nodesOpenFrom_1 rfl (lv_at hl 1 rfl) ?_
  refine li_shl1 (k0 := k) hx hb dX0_nodesOpenFrom_2 (by omega) (by omega) ?_
  refine lv_istore_n (lv' := [(2, .int (iI ((2 ^ k : Nat) : Int))), (0, .ref (A.a 1)), (1, .int (iI (k : Int)))]) hx hb dX0_nodesOpenFrom_3 rfl hl (by decide) rfl (fun ls hl => ?_)
  refine li_c hx hb dX0_nodesOpenFrom_4 ?_
  refine lv_istore_n (lv' := [(3, .int (iI 1)), (2, .int (iI ((2 ^ k : Nat) : Int))), (0, .ref (A.a 1)), (1, .int (iI (k : Int)))]) hx hb dX0_nodesOpenFrom_5 rfl hl (by decide) rfl (fun ls hl => ?_)
  have loop_6 : ∀ (n : Nat) (i : Nat) (hn : G.nn - i < n) (hi : i + 1 ≤ G.nn) (H : Heap) (locs : List Loc) (hC : aH A (cAdr A) (CW A G Y) s H locs) (ls : Array Slot) (hl : lv_has ls 4 [(3, .int (iI ((i + 1 : Nat) : Int))), (2, .int (iI ((itw G (2 ^ k) i : Nat) : Int))), (0, .ref (A.a 1))]), W p l e ({ frames := 3, cells := 0, slots := 0, locals := 65 }) s m args below meth c H locs 0 0 (aQi below (cEnd A) (cAdr A) args s (xI (((itw G (2 ^ k) (G.nn - 1) : Nat) : Int)) G Y)) (F0 m 6 ls []) := by
    intro n
    induction n with
    | zero => intro i hn; exact absurd hn (Nat.not_lt_zero _)
    | succ n ih_6 =>
      intro i hn hi H locs hC ls hl
      have hw := itw_lt hI hp i
      refine lv_iload_n hx hb dX0_nodesOpenFrom_6 rfl (lv_at hl 0 rfl) ?_
      refine lv_aload_n hx hb dX0_nodesOpenFrom_7 rfl (lv_at hl 2 rfl) ?_
      refine agX0_nodes X hC iX0 (by decide +kernel) dX0_nodesOpenFrom_8 (v := (G.nn : Int)) rfl ?_
      refine li_icmp_ge (tgt := 26) hx hb dX0_nodesOpenFrom_11 (by decide) (by omega) (fun c_11 => ?_) (fun c_11 => ?_)
      · refine lv_iload_n hx hb dX0_nodesOpenFrom_26 rfl (lv_at hl 1 rfl) ?_
        exact c_iret X hC hr hk (⟨by rw [show G.nn - 1 = i by omega], rfl, rfl⟩) dX0_nodesOpenFrom_27
      · refine lv_aload_n hx hb dX0_nodesOpenFrom_14 rfl (lv_at hl 2 rfl) ?_
        refine lv_iload_n hx hb dX0_nodesOpenFrom_15 rfl (lv_at hl 1 rfl) ?_
        refine c_callix (v := ((wnb G (itw G (2 ^ k) i) (2 * G.rr) : Nat) : Int)) (n := 1) (As := [.int (iI ((itw G (2 ^ k) i : Nat) : Int))]) (rest := []) X hC (mX0_withNeighbours l A G Y (itw G (2 ^ k) i) hI (show (itw G (2 ^ k) i) < 256 by omega)) ⟨gX0_nodesOpenFrom_X0_withNeighbours, ⟨_, rfl⟩, rfl, rfl, ⟨by decide, by decide, by decide +kernel⟩, Nat.le_of_ble_eq_true rfl, Nat.le_of_ble_eq_true rfl⟩ (a_recv (y := yX0_withNeighbours) X hC.1 (ci := 0) (q0 := 1) rfl rfl rfl) rfl hl.1 rfl (Nat.le_of_ble_eq_true rfl) ⟨Nat.zero_le _, Nat.zero_le _⟩ dX0_nodesOpenFrom_16 (fun H locs hC => ?_)
        refine lv_istore_n (lv' := [(2, .int (iI ((wnb G (itw G (2 ^ k) i) (2 * G.rr) : Nat) : Int))), (3, .int (iI ((i + 1 : Nat) : Int))), (0, .ref (A.a 1))]) hx hb dX0_nodesOpenFrom_19 rfl hl (by decide) rfl (fun ls hl => ?_)
        refine li_incN (lv' := [(3, .int (iI (((i + 1) + 1 : Nat) : Int))), (2, .int (iI ((wnb G (itw G (2 ^ k) i) (2 * G.rr) : Nat) : Int))), (0, .ref (A.a 1))]) (x := i + 1) (d0 := 1) hx hb dX0_nodesOpenFrom_20 hl (k := 1) rfl rfl rfl (by decide) rfl (fun ls hl => ?_)
        refine lv_goto (tgt := 6) hx hb dX0_nodesOpenFrom_23 (by decide) ?_
        exact ih_6 (i + 1) (by omega) (by omega) H locs hC ls (lv_sub hl [0, 1, 2] rfl)
  exact loop_6 (G.nn + 1) 0 (Nat.lt_succ_self _) (by omega) H locs hC ls (lv_sub hl [0, 1, 2] rfl)

set_option maxHeartbeats 4000000 in
set_option maxRecDepth 100000 in
theorem mX0_addTo (l : Launch) (A : AD) (G : GS) (Y : YS) (d : Int64) (hI : Inv G) : cMl l yX0_addTo wsX0_addTo ({ frames := 2, cells := 0, slots := 0, locals := 42 }) A [.ref (A.a 1), .long d] G Y (xL ((dgR G d G.rr)) G Y) := by
  intro sz
  refine c_start (cc := cX0_addTo) (maxL := 6) (ret := (some .long)) (by decide) rfl rfl ?_
  intro p e s m args below meth c X hr hk hnm hsz ls hl H locs hC
  subst hsz
  obtain ⟨hx, hb, hml, hown, hts⟩ := id X.1
  have hl : lv_has ls 6 [(0, .ref (A.a 1)), (1, .long d)] := hl
  have iX0 : ∀ w ∈ u_ws RX0 TX0 9, w ∈ wsX0_addTo := by decide +kernel
  have hrr := hI.rr
  have hnn := hI.nn
  refine lv_lload_n hx hb dX0_addTo_0 rfl (lv_at hl 1 rfl) ?_
  refine lv_ldc2 (v := 31) hx hb hown (hts _ (by decide +kernel)) dX0_addTo_1 ?_
  refine lv_lmul hx hb dX0_addTo_4 ?_
  refine lv_aload_n hx hb dX0_addTo_5 rfl (lv_at hl 0 rfl) ?_
  refine agX0_nodes X hC iX0 (by decide +kernel) dX0_addTo_6 (v := (G.nn : Int)) rfl ?_
  refine lv_i2l hx hb dX0_addTo_9 rfl ?_
  refine lv_ladd hx hb dX0_addTo_10 ?_
  refine lv_lstore_n (lv' := [(3, .long ((d * 31) + (iI (G.nn : Int)).toInt64)), (0, .ref (A.a 1)), (1, .long d)]) hx hb dX0_addTo_11 rfl hl (by decide) rfl (fun ls hl => ?_)
  refine li_c hx hb dX0_addTo_12 ?_
  refine lv_istore (lv' := [(5, .int (iI 0)), (3, .long ((d * 31) + (iI (G.nn : Int)).toInt64)), (0, .ref (A.a 1)), (1, .long d)]) hx hb dX0_addTo_13 hl (by decide) rfl (fun ls hl => ?_)
  have loop_15 : ∀ (n : Nat) (i : Nat) (hn : G.nn - i < n) (hi : i ≤ G.nn) (H : Heap) (locs : List Loc) (hC : aH A (cAdr A) (CW A G Y) s H locs) (ls : Array Slot) (hl : lv_has ls 6 [(5, .int (iI (i : Int))), (3, .long (dgN G d i)), (0, .ref (A.a 1))]), W p l e ({ frames := 2, cells := 0, slots := 0, locals := 42 }) s m args below meth c H locs 0 0 (aQl below (cEnd A) (cAdr A) args s (xL ((dgR G d G.rr)) G Y)) (F0 m 15 ls []) := by
    intro n
    induction n with
    | zero => intro i hn; exact absurd hn (Nat.not_lt_zero _)
    | succ n ih_15 =>
      intro i hn hi H locs hC ls hl
      refine lv_iload hx hb dX0_addTo_15 (lv_at hl 0 rfl) ?_
      refine lv_aload_n hx hb dX0_addTo_17 rfl (lv_at hl 2 rfl) ?_
      refine agX0_nodes X hC iX0 (by decide +kernel) dX0_addTo_18 (v := (G.nn : Int)) rfl ?_
      refine li_icmp_ge (tgt := 70) hx hb dX0_addTo_21 (by decide) (by omega) (fun c_21 => ?_) (fun c_21 => ?_)
      · refine lv_lload_n hx hb dX0_addTo_70 rfl (lv_at hl 1 rfl) ?_
        refine lv_ldc2 (v := 31) hx hb hown (hts _ (by decide +kernel)) dX0_addTo_71 ?_
        refine lv_lmul hx hb dX0_addTo_74 ?_
        refine lv_aload_n hx hb dX0_addTo_75 rfl (lv_at hl 2 rfl) ?_
        refine agX0_roads X hC iX0 (by decide +kernel) dX0_addTo_76 (v := (G.rr : Int)) rfl ?_
        refine lv_i2l hx hb dX0_addTo_79 rfl ?_
        refine lv_ladd hx hb dX0_addTo_80 ?_
        refine lv_lstore_n (lv' := [(3, .long (((dgN G d i) * 31) + (iI (G.rr : Int)).toInt64)), (5, .int (iI (i : Int))), (0, .ref (A.a 1))]) hx hb dX0_addTo_81 rfl hl (by decide) rfl (fun ls hl => ?_)
        refine li_c hx hb dX0_addTo_82 ?_
        refine lv_istore (lv' := [(5, .int (iI 0)), (3, .long (((dgN G d i) * 31) + (iI (G.rr : Int)).toInt64)), (0, .ref (A.a 1))]) hx hb dX0_addTo_83 hl (by decide) rfl (fun ls hl => ?_)
        have loop_85 : ∀ (n : Nat) (j : Nat) (hn : G.rr - j < n) (hj : j ≤ G.rr) (H : Heap) (locs : List Loc) (hC : aH A (cAdr A) (CW A G Y) s H locs) (ls : Array Slot) (hl : lv_has ls 6 [(5, .int (iI ((2 * j : Nat) : Int))), (3, .long (dgR G d j)), (0, .ref (A.a 1))]), W p l e ({ frames := 2, cells := 0, slots := 0, locals := 42 }) s m args below meth c H locs 0 0 (aQl below (cEnd A) (cAdr A) args s (xL ((dgR G d G.rr)) G Y)) (F0 m 85 ls []) := by
          intro n
          induction n with
          | zero => intro j hn; exact absurd hn (Nat.not_lt_zero _)
          | succ n ih_85 =>
            intro j hn hj H locs hC ls hl
            have hs1 := hI.sa (2 * j)
            have hs2 := hI.sa (2 * j + 1)
            have hd1 := hI.de (2 * j)
            have hd2 := hI.de (2 * j + 1)
            refine lv_iload hx hb dX0_addTo_85 (lv_at hl 0 rfl) ?_
            refine lv_aload_n hx hb dX0_addTo_87 rfl (lv_at hl 2 rfl) ?_
            refine c_callix (v := ((2 * G.rr : Nat) : Int)) (n := 0) (As := []) (rest := [.int (iI ((2 * j : Nat) : Int))]) X hC (mX0_sideCount l A G Y) ⟨gX0_addTo_X0_sideCount, ⟨_, rfl⟩, rfl, rfl, ⟨by decide, by decide, by decide +kernel⟩, Nat.le_of_ble_eq_true rfl, Nat.le_of_ble_eq_true rfl⟩ (a_recv (y := yX0_sideCount) X hC.1 (ci := 0) (q0 := 1) rfl rfl rfl) rfl hl.1 rfl (Nat.le_of_ble_eq_true rfl) ⟨Nat.zero_le _, Nat.zero_le _⟩ dX0_addTo_88 (fun H locs hC => ?_)
            refine li_icmp_ge (tgt := 170) hx hb dX0_addTo_91 (by decide) (by omega) (fun c_91 => ?_) (fun c_91 => ?_)
            · refine lv_lload_n hx hb dX0_addTo_170 rfl (lv_at hl 1 rfl) ?_
              exact c_lret X hC hr hk (⟨by rw [show G.rr = j by omega], rfl, rfl⟩) dX0_addTo_171
            · refine lv_lload_n hx hb dX0_addTo_94 rfl (lv_at hl 1 rfl) ?_
              refine lv_ldc2 (v := 31) hx hb hown (hts _ (by decide +kernel)) dX0_addTo_95 ?_
              refine lv_lmul hx hb dX0_addTo_98 ?_
              refine lv_aload_n hx hb dX0_addTo_99 rfl (lv_at hl 2 rfl) ?_
              refine lv_iload hx hb dX0_addTo_100 (lv_at hl 0 rfl) ?_
              refine c_callix (v := ((G.de (2 * j) : Nat) : Int)) (n := 1) (As := [.int (iI ((2 * j : Nat) : Int))]) (rest := [.long ((dgR G d j) * 31)]) X hC (mX0_snowOn l A G Y (2 * j) (show (2 * j) < 2 * G.rr by omega) (show G.rr ≤ 12 by omega)) ⟨gX0_addTo_X0_snowOn, ⟨_, rfl⟩, rfl, rfl, ⟨by decide, by decide, by decide +kernel⟩, Nat.le_of_ble_eq_true rfl, Nat.le_of_ble_eq_true rfl⟩ (a_recv (y := yX0_snowOn) X hC.1 (ci := 0) (q0 := 1) rfl rfl rfl) rfl hl.1 rfl (Nat.le_of_ble_eq_true rfl) ⟨Nat.zero_le _, Nat.zero_le _⟩ dX0_addTo_102 (fun H locs hC => ?_)
              refine lv_i2l hx hb dX0_addTo_105 rfl ?_
              refine lv_ladd hx hb dX0_addTo_106 ?_
              refine lv_lstore_n (lv' := [(3, .long (((dgR G d j) * 31) + (iI ((G.de (2 * j) : Nat) : Int)).toInt64)), (5, .int (iI ((2 * j : Nat) : Int))), (0, .ref (A.a 1))]) hx hb dX0_addTo_107 rfl hl (by decide) rfl (fun ls hl => ?_)
              refine lv_lload_n hx hb dX0_addTo_108 rfl (lv_at hl 0 rfl) ?_
              refine lv_ldc2 (v := 31) hx hb hown (hts _ (by decide +kernel)) dX0_addTo_109 ?_
              refine lv_lmul hx hb dX0_addTo_112 ?_
              refine lv_aload_n hx hb dX0_addTo_113 rfl (lv_at hl 2 rfl) ?_
              refine lv_iload hx hb dX0_addTo_114 (lv_at hl 1 rfl) ?_
              refine li_c hx hb dX0_addTo_116 ?_
              refine li_addN (x := 2 * j) (y := 1) hx hb dX0_addTo_117 rfl rfl ?_
              refine c_callix (v := ((G.de ((2 * j) + 1) : Nat) : Int)) (n := 1) (As := [.int (iI (((2 * j) + 1 : Nat) : Int))]) (rest := [.long ((((dgR G d j) * 31) + (iI ((G.de (2 * j) : Nat) : Int)).toInt64) * 31)]) X hC (mX0_snowOn l A G Y ((2 * j) + 1) (show ((2 * j) + 1) < 2 * G.rr by omega) (show G.rr ≤ 12 by omega)) ⟨gX0_addTo_X0_snowOn, ⟨_, rfl⟩, rfl, rfl, ⟨by decide, by decide, by decide +kernel⟩, Nat.le_of_ble_eq_true rfl, Nat.le_of_ble_eq_true rfl⟩ (a_recv (y := yX0_snowOn) X hC.1 (ci := 0) (q0 := 1) rfl rfl rfl) rfl hl.1 rfl (Nat.le_of_ble_eq_true rfl) ⟨Nat.zero_le _, Nat.zero_le _⟩ dX0_addTo_118 (fun H locs hC => ?_)
              refine lv_i2l hx hb dX0_addTo_121 rfl ?_
              refine lv_ladd hx hb dX0_addTo_122 ?_
              refine lv_lstore_n (lv' := [(3, .long (((((dgR G d j) * 31) + (iI ((G.de (2 * j) : Nat) : Int)).toInt64) * 31) + (iI ((G.de ((2 * j) + 1) : Nat) : Int)).toInt64)), (5, .int (iI ((2 * j : Nat) : Int))), (0, .ref (A.a 1))]) hx hb dX0_addTo_123 rfl hl (by decide) rfl (fun ls hl => ?_)
              refine lv_lload_n hx hb dX0_addTo_124 rfl (lv_at hl 0 rfl) ?_
              refine lv_ldc2 (v := 31) hx hb hown (hts _ (by decide +kernel)) dX0_addTo_125 ?_
              refine lv_lmul hx hb dX0_addTo_128 ?_
              refine lv_aload_n hx hb dX0_addTo_129 rfl (lv_at hl 2 rfl) ?_
              refine lv_iload hx hb dX0_addTo_130 (lv_at hl 1 rfl) ?_
              refine c_callix (v := ((G.sa (2 * j) : Nat) : Int)) (n := 1) (As := [.int (iI ((2 * j : Nat) : Int))]) (rest := [.long ((((((dgR G d j) * 31) + (iI ((G.de (2 * j) : Nat) : Int)).toInt64) * 31) + (iI ((G.de ((2 * j) + 1) : Nat) : Int)).toInt64) * 31)]) X hC (mX0_hasSaltOn l A G Y (2 * j) (show (2 * j) < 2 * G.rr by omega) (show G.rr ≤ 12 by omega) (show G.sa (2 * j) ≤ 1 by omega)) ⟨gX0_addTo_X0_hasSaltOn, ⟨_, rfl⟩, rfl, rfl, ⟨by decide, by decide, by decide +kernel⟩, Nat.le_of_ble_eq_true rfl, Nat.le_of_ble_eq_true rfl⟩ (a_recv (y := yX0_hasSaltOn) X hC.1 (ci := 0) (q0 := 1) rfl rfl rfl) rfl hl.1 rfl (Nat.le_of_ble_eq_true rfl) ⟨Nat.zero_le _, Nat.zero_le _⟩ dX0_addTo_132 (fun H locs hC => ?_)
              refine li_if_eq (tgt := 142) hx hb dX0_addTo_135 (by decide) (by omega) (fun c_135 => ?_) (fun c_135 => ?_)
              · refine li_c hx hb dX0_addTo_142 ?_
                refine lv_i2l hx hb dX0_addTo_143 rfl ?_
                refine lv_ladd hx hb dX0_addTo_144 ?_
                refine lv_aload_n hx hb dX0_addTo_145 rfl (lv_at hl 2 rfl) ?_
                refine lv_iload hx hb dX0_addTo_146 (lv_at hl 1 rfl) ?_
                refine li_c hx hb dX0_addTo_148 ?_
                refine li_addN (x := 2 * j) (y := 1) hx hb dX0_addTo_149 rfl rfl ?_
                refine c_callix (v := ((G.sa ((2 * j) + 1) : Nat) : Int)) (n := 1) (As := [.int (iI (((2 * j) + 1 : Nat) : Int))]) (rest := [.long (((((((dgR G d j) * 31) + (iI ((G.de (2 * j) : Nat) : Int)).toInt64) * 31) + (iI ((G.de ((2 * j) + 1) : Nat) : Int)).toInt64) * 31) + (iI 0).toInt64)]) X hC (mX0_hasSaltOn l A G Y ((2 * j) + 1) (show ((2 * j) + 1) < 2 * G.rr by omega) (show G.rr ≤ 12 by omega) (show G.sa ((2 * j) + 1) ≤ 1 by omega)) ⟨gX0_addTo_X0_hasSaltOn, ⟨_, rfl⟩, rfl, rfl, ⟨by decide, by decide, by decide +kernel⟩, Nat.le_of_ble_eq_true rfl, Nat.le_of_ble_eq_true rfl⟩ (a_recv (y := yX0_hasSaltOn) X hC.1 (ci := 0) (q0 := 1) rfl rfl rfl) rfl hl.1 rfl (Nat.le_of_ble_eq_true rfl) ⟨Nat.zero_le _, Nat.zero_le _⟩ dX0_addTo_150 (fun H locs hC => ?_)
                refine li_if_eq (tgt := 160) hx hb dX0_addTo_153 (by decide) (by omega) (fun c_153 => ?_) (fun c_153 => ?_)
                · refine li_c hx hb dX0_addTo_160 ?_
                  refine lv_i2l hx hb dX0_addTo_161 rfl ?_
                  refine lv_ladd hx hb dX0_addTo_162 ?_
                  refine lv_lstore_n (lv' := [(3, .long ((((((((dgR G d j) * 31) + (iI ((G.de (2 * j) : Nat) : Int)).toInt64) * 31) + (iI ((G.de ((2 * j) + 1) : Nat) : Int)).toInt64) * 31) + (iI 0).toInt64) + (iI 0).toInt64)), (5, .int (iI ((2 * j : Nat) : Int))), (0, .ref (A.a 1))]) hx hb dX0_addTo_163 rfl hl (by decide) rfl (fun ls hl => ?_)
                  refine li_incN (lv' := [(5, .int (iI (((2 * j) + 2 : Nat) : Int))), (3, .long ((((((((dgR G d j) * 31) + (iI ((G.de (2 * j) : Nat) : Int)).toInt64) * 31) + (iI ((G.de ((2 * j) + 1) : Nat) : Int)).toInt64) * 31) + (iI 0).toInt64) + (iI 0).toInt64)), (0, .ref (A.a 1))]) (x := 2 * j) (d0 := 2) hx hb dX0_addTo_164 hl (k := 1) rfl rfl rfl (by decide) rfl (fun ls hl => ?_)
                  refine lv_goto (tgt := 85) hx hb dX0_addTo_167 (by decide) ?_
                  have e1 : ((((((((dgR G d j) * 31) + (iI ((G.de (2 * j) : Nat) : Int)).toInt64) * 31) + (iI ((G.de ((2 * j) + 1) : Nat) : Int)).toInt64) * 31) + (iI 0).toInt64) + (iI 0).toInt64) = dgR G d (j + 1) := by rw [dgR_s]; first | rw [if_pos (by omega), if_pos (by omega)] | rw [if_pos (by omega), if_neg (by omega)] | rw [if_neg (by omega), if_pos (by omega)] | rw [if_neg (by omega), if_neg (by omega)]
                  rw [e1] at hl
                  exact ih_85 (j + 1) (by omega) (by omega) H locs hC ls (lv_sub hl [0, 1, 2] rfl)
                · refine li_c hx hb dX0_addTo_156 ?_
                  refine lv_goto (tgt := 161) hx hb dX0_addTo_157 (by decide) ?_
                  refine lv_i2l hx hb dX0_addTo_161 rfl ?_
                  refine lv_ladd hx hb dX0_addTo_162 ?_
                  refine lv_lstore_n (lv' := [(3, .long ((((((((dgR G d j) * 31) + (iI ((G.de (2 * j) : Nat) : Int)).toInt64) * 31) + (iI ((G.de ((2 * j) + 1) : Nat) : Int)).toInt64) * 31) + (iI 0).toInt64) + (iI 2).toInt64)), (5, .int (iI ((2 * j : Nat) : Int))), (0, .ref (A.a 1))]) hx hb dX0_addTo_163 rfl hl (by decide) rfl (fun ls hl => ?_)
                  refine li_incN (lv' := [(5, .int (iI (((2 * j) + 2 : Nat) : Int))), (3, .long ((((((((dgR G d j) * 31) + (iI ((G.de (2 * j) : Nat) : Int)).toInt64) * 31) + (iI ((G.de ((2 * j) + 1) : Nat) : Int)).toInt64) * 31) + (iI 0).toInt64) + (iI 2).toInt64)), (0, .ref (A.a 1))]) (x := 2 * j) (d0 := 2) hx hb dX0_addTo_164 hl (k := 1) rfl rfl rfl (by decide) rfl (fun ls hl => ?_)
                  refine lv_goto (tgt := 85) hx hb dX0_addTo_167 (by decide) ?_
                  have e1 : ((((((((dgR G d j) * 31) + (iI ((G.de (2 * j) : Nat) : Int)).toInt64) * 31) + (iI ((G.de ((2 * j) + 1) : Nat) : Int)).toInt64) * 31) + (iI 0).toInt64) + (iI 2).toInt64) = dgR G d (j + 1) := by rw [dgR_s]; first | rw [if_pos (by omega), if_pos (by omega)] | rw [if_pos (by omega), if_neg (by omega)] | rw [if_neg (by omega), if_pos (by omega)] | rw [if_neg (by omega), if_neg (by omega)]
                  rw [e1] at hl
                  exact ih_85 (j + 1) (by omega) (by omega) H locs hC ls (lv_sub hl [0, 1, 2] rfl)
              · refine li_c hx hb dX0_addTo_138 ?_
                refine lv_goto (tgt := 143) hx hb dX0_addTo_139 (by decide) ?_
                refine lv_i2l hx hb dX0_addTo_143 rfl ?_
                refine lv_ladd hx hb dX0_addTo_144 ?_
                refine lv_aload_n hx hb dX0_addTo_145 rfl (lv_at hl 2 rfl) ?_
                refine lv_iload hx hb dX0_addTo_146 (lv_at hl 1 rfl) ?_
                refine li_c hx hb dX0_addTo_148 ?_
                refine li_addN (x := 2 * j) (y := 1) hx hb dX0_addTo_149 rfl rfl ?_
                refine c_callix (v := ((G.sa ((2 * j) + 1) : Nat) : Int)) (n := 1) (As := [.int (iI (((2 * j) + 1 : Nat) : Int))]) (rest := [.long (((((((dgR G d j) * 31) + (iI ((G.de (2 * j) : Nat) : Int)).toInt64) * 31) + (iI ((G.de ((2 * j) + 1) : Nat) : Int)).toInt64) * 31) + (iI 1).toInt64)]) X hC (mX0_hasSaltOn l A G Y ((2 * j) + 1) (show ((2 * j) + 1) < 2 * G.rr by omega) (show G.rr ≤ 12 by omega) (show G.sa ((2 * j) + 1) ≤ 1 by omega)) ⟨gX0_addTo_X0_hasSaltOn, ⟨_, rfl⟩, rfl, rfl, ⟨by decide, by decide, by decide +kernel⟩, Nat.le_of_ble_eq_true rfl, Nat.le_of_ble_eq_true rfl⟩ (a_recv (y := yX0_hasSaltOn) X hC.1 (ci := 0) (q0 := 1) rfl rfl rfl) rfl hl.1 rfl (Nat.le_of_ble_eq_true rfl) ⟨Nat.zero_le _, Nat.zero_le _⟩ dX0_addTo_150 (fun H locs hC => ?_)
                refine li_if_eq (tgt := 160) hx hb dX0_addTo_153 (by decide) (by omega) (fun c_153 => ?_) (fun c_153 => ?_)
                · refine li_c hx hb dX0_addTo_160 ?_
                  refine lv_i2l hx hb dX0_addTo_161 rfl ?_
                  refine lv_ladd hx hb dX0_addTo_162 ?_
                  refine lv_lstore_n (lv' := [(3, .long ((((((((dgR G d j) * 31) + (iI ((G.de (2 * j) : Nat) : Int)).toInt64) * 31) + (iI ((G.de ((2 * j) + 1) : Nat) : Int)).toInt64) * 31) + (iI 1).toInt64) + (iI 0).toInt64)), (5, .int (iI ((2 * j : Nat) : Int))), (0, .ref (A.a 1))]) hx hb dX0_addTo_163 rfl hl (by decide) rfl (fun ls hl => ?_)
                  refine li_incN (lv' := [(5, .int (iI (((2 * j) + 2 : Nat) : Int))), (3, .long ((((((((dgR G d j) * 31) + (iI ((G.de (2 * j) : Nat) : Int)).toInt64) * 31) + (iI ((G.de ((2 * j) + 1) : Nat) : Int)).toInt64) * 31) + (iI 1).toInt64) + (iI 0).toInt64)), (0, .ref (A.a 1))]) (x := 2 * j) (d0 := 2) hx hb dX0_addTo_164 hl (k := 1) rfl rfl rfl (by decide) rfl (fun ls hl => ?_)
                  refine lv_goto (tgt := 85) hx hb dX0_addTo_167 (by decide) ?_
                  have e1 : ((((((((dgR G d j) * 31) + (iI ((G.de (2 * j) : Nat) : Int)).toInt64) * 31) + (iI ((G.de ((2 * j) + 1) : Nat) : Int)).toInt64) * 31) + (iI 1).toInt64) + (iI 0).toInt64) = dgR G d (j + 1) := by rw [dgR_s]; first | rw [if_pos (by omega), if_pos (by omega)] | rw [if_pos (by omega), if_neg (by omega)] | rw [if_neg (by omega), if_pos (by omega)] | rw [if_neg (by omega), if_neg (by omega)]
                  rw [e1] at hl
                  exact ih_85 (j + 1) (by omega) (by omega) H locs hC ls (lv_sub hl [0, 1, 2] rfl)
                · refine li_c hx hb dX0_addTo_156 ?_
                  refine lv_goto (tgt := 161) hx hb dX0_addTo_157 (by decide) ?_
                  refine lv_i2l hx hb dX0_addTo_161 rfl ?_
                  refine lv_ladd hx hb dX0_addTo_162 ?_
                  refine lv_lstore_n (lv' := [(3, .long ((((((((dgR G d j) * 31) + (iI ((G.de (2 * j) : Nat) : Int)).toInt64) * 31) + (iI ((G.de ((2 * j) + 1) : Nat) : Int)).toInt64) * 31) + (iI 1).toInt64) + (iI 2).toInt64)), (5, .int (iI ((2 * j : Nat) : Int))), (0, .ref (A.a 1))]) hx hb dX0_addTo_163 rfl hl (by decide) rfl (fun ls hl => ?_)
                  refine li_incN (lv' := [(5, .int (iI (((2 * j) + 2 : Nat) : Int))), (3, .long ((((((((dgR G d j) * 31) + (iI ((G.de (2 * j) : Nat) : Int)).toInt64) * 31) + (iI ((G.de ((2 * j) + 1) : Nat) : Int)).toInt64) * 31) + (iI 1).toInt64) + (iI 2).toInt64)), (0, .ref (A.a 1))]) (x := 2 * j) (d0 := 2) hx hb dX0_addTo_164 hl (k := 1) rfl rfl rfl (by decide) rfl (fun ls hl => ?_)
                  refine lv_goto (tgt := 85) hx hb dX0_addTo_167 (by decide) ?_
                  have e1 : ((((((((dgR G d j) * 31) + (iI ((G.de (2 * j) : Nat) : Int)).toInt64) * 31) + (iI ((G.de ((2 * j) + 1) : Nat) : Int)).toInt64) * 31) + (iI 1).toInt64) + (iI 2).toInt64) = dgR G d (j + 1) := by rw [dgR_s]; first | rw [if_pos (by omega), if_pos (by omega)] | rw [if_pos (by omega), if_neg (by omega)] | rw [if_neg (by omega), if_pos (by omega)] | rw [if_neg (by omega), if_neg (by omega)]
                  rw [e1] at hl
                  exact ih_85 (j + 1) (by omega) (by omega) H locs hC ls (lv_sub hl [0, 1, 2] rfl)
        have e0 : dgN G d i * 31 + (iI (G.rr : Int)).toInt64 = dgR G d 0 := by rw [show i = G.nn by omega]; rfl
        rw [e0] at hl
        exact loop_85 (G.rr + 1) 0 (Nat.lt_succ_self _) (by omega) H locs hC ls (lv_sub hl [0, 1, 2] rfl)
      · refine lv_lload_n hx hb dX0_addTo_24 rfl (lv_at hl 1 rfl) ?_
        refine lv_ldc2 (v := 31) hx hb hown (hts _ (by decide +kernel)) dX0_addTo_25 ?_
        refine lv_lmul hx hb dX0_addTo_28 ?_
        refine lv_aload_n hx hb dX0_addTo_29 rfl (lv_at hl 2 rfl) ?_
        refine agX0_turning X hC iX0 (by decide +kernel) dX0_addTo_30 ?_
        refine lv_iload hx hb dX0_addTo_33 (lv_at hl 0 rfl) ?_
        refine alC_tu (k0 := i) (v := ((G.tu i : Nat) : Int)) X hC (by omega) (by omega) rfl dX0_addTo_35 ?_
        have hb1 := hI.tu i
        refine li_if_eq (tgt := 43) hx hb dX0_addTo_36 (by decide) (by omega) (fun c_36 => ?_) (fun c_36 => ?_)
        · refine li_c hx hb dX0_addTo_43 ?_
          refine lv_i2l hx hb dX0_addTo_44 rfl ?_
          refine lv_ladd hx hb dX0_addTo_45 ?_
          refine lv_aload_n hx hb dX0_addTo_46 rfl (lv_at hl 2 rfl) ?_
          refine agX0_stores X hC iX0 (by decide +kernel) dX0_addTo_47 ?_
          refine lv_iload hx hb dX0_addTo_50 (lv_at hl 0 rfl) ?_
          refine alC_st (k0 := i) (v := ((G.st i : Nat) : Int)) X hC (by omega) (by omega) rfl dX0_addTo_52 ?_
          have hb2 := hI.st i
          refine li_if_eq (tgt := 60) hx hb dX0_addTo_53 (by decide) (by omega) (fun c_53 => ?_) (fun c_53 => ?_)
          · refine li_c hx hb dX0_addTo_60 ?_
            refine lv_i2l hx hb dX0_addTo_61 rfl ?_
            refine lv_ladd hx hb dX0_addTo_62 ?_
            refine lv_lstore_n (lv' := [(3, .long ((((dgN G d i) * 31) + (iI 0).toInt64) + (iI 0).toInt64)), (5, .int (iI (i : Int))), (0, .ref (A.a 1))]) hx hb dX0_addTo_63 rfl hl (by decide) rfl (fun ls hl => ?_)
            refine li_incN (lv' := [(5, .int (iI ((i + 1 : Nat) : Int))), (3, .long ((((dgN G d i) * 31) + (iI 0).toInt64) + (iI 0).toInt64)), (0, .ref (A.a 1))]) (x := i) (d0 := 1) hx hb dX0_addTo_64 hl (k := 1) rfl rfl rfl (by decide) rfl (fun ls hl => ?_)
            refine lv_goto (tgt := 15) hx hb dX0_addTo_67 (by decide) ?_
            have e1 : ((((dgN G d i) * 31) + (iI 0).toInt64) + (iI 0).toInt64) = dgN G d (i + 1) := by rw [dgN_s]; first | rw [if_pos (by omega), if_pos (by omega)] | rw [if_pos (by omega), if_neg (by omega)] | rw [if_neg (by omega), if_pos (by omega)] | rw [if_neg (by omega), if_neg (by omega)]
            rw [e1] at hl
            exact ih_15 (i + 1) (by omega) (by omega) H locs hC ls (lv_sub hl [0, 1, 2] rfl)
          · refine li_c hx hb dX0_addTo_56 ?_
            refine lv_goto (tgt := 61) hx hb dX0_addTo_57 (by decide) ?_
            refine lv_i2l hx hb dX0_addTo_61 rfl ?_
            refine lv_ladd hx hb dX0_addTo_62 ?_
            refine lv_lstore_n (lv' := [(3, .long ((((dgN G d i) * 31) + (iI 0).toInt64) + (iI 2).toInt64)), (5, .int (iI (i : Int))), (0, .ref (A.a 1))]) hx hb dX0_addTo_63 rfl hl (by decide) rfl (fun ls hl => ?_)
            refine li_incN (lv' := [(5, .int (iI ((i + 1 : Nat) : Int))), (3, .long ((((dgN G d i) * 31) + (iI 0).toInt64) + (iI 2).toInt64)), (0, .ref (A.a 1))]) (x := i) (d0 := 1) hx hb dX0_addTo_64 hl (k := 1) rfl rfl rfl (by decide) rfl (fun ls hl => ?_)
            refine lv_goto (tgt := 15) hx hb dX0_addTo_67 (by decide) ?_
            have e1 : ((((dgN G d i) * 31) + (iI 0).toInt64) + (iI 2).toInt64) = dgN G d (i + 1) := by rw [dgN_s]; first | rw [if_pos (by omega), if_pos (by omega)] | rw [if_pos (by omega), if_neg (by omega)] | rw [if_neg (by omega), if_pos (by omega)] | rw [if_neg (by omega), if_neg (by omega)]
            rw [e1] at hl
            exact ih_15 (i + 1) (by omega) (by omega) H locs hC ls (lv_sub hl [0, 1, 2] rfl)
        · refine li_c hx hb dX0_addTo_39 ?_
          refine lv_goto (tgt := 44) hx hb dX0_addTo_40 (by decide) ?_
          refine lv_i2l hx hb dX0_addTo_44 rfl ?_
          refine lv_ladd hx hb dX0_addTo_45 ?_
          refine lv_aload_n hx hb dX0_addTo_46 rfl (lv_at hl 2 rfl) ?_
          refine agX0_stores X hC iX0 (by decide +kernel) dX0_addTo_47 ?_
          refine lv_iload hx hb dX0_addTo_50 (lv_at hl 0 rfl) ?_
          refine alC_st (k0 := i) (v := ((G.st i : Nat) : Int)) X hC (by omega) (by omega) rfl dX0_addTo_52 ?_
          have hb3 := hI.st i
          refine li_if_eq (tgt := 60) hx hb dX0_addTo_53 (by decide) (by omega) (fun c_53 => ?_) (fun c_53 => ?_)
          · refine li_c hx hb dX0_addTo_60 ?_
            refine lv_i2l hx hb dX0_addTo_61 rfl ?_
            refine lv_ladd hx hb dX0_addTo_62 ?_
            refine lv_lstore_n (lv' := [(3, .long ((((dgN G d i) * 31) + (iI 1).toInt64) + (iI 0).toInt64)), (5, .int (iI (i : Int))), (0, .ref (A.a 1))]) hx hb dX0_addTo_63 rfl hl (by decide) rfl (fun ls hl => ?_)
            refine li_incN (lv' := [(5, .int (iI ((i + 1 : Nat) : Int))), (3, .long ((((dgN G d i) * 31) + (iI 1).toInt64) + (iI 0).toInt64)), (0, .ref (A.a 1))]) (x := i) (d0 := 1) hx hb dX0_addTo_64 hl (k := 1) rfl rfl rfl (by decide) rfl (fun ls hl => ?_)
            refine lv_goto (tgt := 15) hx hb dX0_addTo_67 (by decide) ?_
            have e1 : ((((dgN G d i) * 31) + (iI 1).toInt64) + (iI 0).toInt64) = dgN G d (i + 1) := by rw [dgN_s]; first | rw [if_pos (by omega), if_pos (by omega)] | rw [if_pos (by omega), if_neg (by omega)] | rw [if_neg (by omega), if_pos (by omega)] | rw [if_neg (by omega), if_neg (by omega)]
            rw [e1] at hl
            exact ih_15 (i + 1) (by omega) (by omega) H locs hC ls (lv_sub hl [0, 1, 2] rfl)
          · refine li_c hx hb dX0_addTo_56 ?_
            refine lv_goto (tgt := 61) hx hb dX0_addTo_57 (by decide) ?_
            refine lv_i2l hx hb dX0_addTo_61 rfl ?_
            refine lv_ladd hx hb dX0_addTo_62 ?_
            refine lv_lstore_n (lv' := [(3, .long ((((dgN G d i) * 31) + (iI 1).toInt64) + (iI 2).toInt64)), (5, .int (iI (i : Int))), (0, .ref (A.a 1))]) hx hb dX0_addTo_63 rfl hl (by decide) rfl (fun ls hl => ?_)
            refine li_incN (lv' := [(5, .int (iI ((i + 1 : Nat) : Int))), (3, .long ((((dgN G d i) * 31) + (iI 1).toInt64) + (iI 2).toInt64)), (0, .ref (A.a 1))]) (x := i) (d0 := 1) hx hb dX0_addTo_64 hl (k := 1) rfl rfl rfl (by decide) rfl (fun ls hl => ?_)
            refine lv_goto (tgt := 15) hx hb dX0_addTo_67 (by decide) ?_
            have e1 : ((((dgN G d i) * 31) + (iI 1).toInt64) + (iI 2).toInt64) = dgN G d (i + 1) := by rw [dgN_s]; first | rw [if_pos (by omega), if_pos (by omega)] | rw [if_pos (by omega), if_neg (by omega)] | rw [if_neg (by omega), if_pos (by omega)] | rw [if_neg (by omega), if_neg (by omega)]
            rw [e1] at hl
            exact ih_15 (i + 1) (by omega) (by omega) H locs hC ls (lv_sub hl [0, 1, 2] rfl)
  exact loop_15 (G.nn + 1) 0 (Nat.lt_succ_self _) (by omega) H locs hC ls (lv_sub hl [0, 1, 2] rfl)
