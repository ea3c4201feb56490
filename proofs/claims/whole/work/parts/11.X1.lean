/-! 11: the vehicle -/
set_option maxHeartbeats 4000000 in
set_option maxRecDepth 100000 in
theorem mX1_node (l : Launch) (A : AD) (G : GS) (Y : YS) : cMi l yX1_node wsX1_node ({ frames := 0, cells := 0, slots := 0, locals := 0 }) A [.ref (A.a 2)] G Y (xI ((G.vn : Int)) G Y) := by
  intro sz
  refine c_start (cc := cX1_node) (maxL := 1) (ret := (some .int)) (by decide) rfl rfl ?_
  intro p e s m args below meth c X hr hk hnm hsz ls hl H locs hC
  subst hsz
  obtain ⟨hx, hb, hml, hown, hts⟩ := id X.1
  have hl : lv_has ls 1 [(0, .ref (A.a 2))] := hl
  have iX1 : ∀ w ∈ u_ws RX1 TX1 9, w ∈ wsX1_node := by decide +kernel
  refine lv_aload_n hx hb dX1_node_0 rfl (lv_at hl 0 rfl) ?_
  refine agX1_node X hC iX1 (by decide +kernel) dX1_node_1 (v := (G.vn : Int)) rfl ?_
  exact c_iret X hC hr hk (⟨rfl, rfl, rfl⟩) dX1_node_4

set_option maxHeartbeats 4000000 in
set_option maxRecDepth 100000 in
theorem mX1_cameBy (l : Launch) (A : AD) (G : GS) (Y : YS) : cMi l yX1_cameBy wsX1_cameBy ({ frames := 0, cells := 0, slots := 0, locals := 0 }) A [.ref (A.a 2)] G Y (xI (G.vc) G Y) := by
  intro sz
  refine c_start (cc := cX1_cameBy) (maxL := 1) (ret := (some .int)) (by decide) rfl rfl ?_
  intro p e s m args below meth c X hr hk hnm hsz ls hl H locs hC
  subst hsz
  obtain ⟨hx, hb, hml, hown, hts⟩ := id X.1
  have hl : lv_has ls 1 [(0, .ref (A.a 2))] := hl
  have iX1 : ∀ w ∈ u_ws RX1 TX1 9, w ∈ wsX1_cameBy := by decide +kernel
  refine lv_aload_n hx hb dX1_cameBy_0 rfl (lv_at hl 0 rfl) ?_
  refine agX1_cameBy X hC iX1 (by decide +kernel) dX1_cameBy_1 (v := G.vc) rfl ?_
  exact c_iret X hC hr hk (⟨rfl, rfl, rfl⟩) dX1_cameBy_4

set_option maxHeartbeats 4000000 in
set_option maxRecDepth 100000 in
theorem mX1_switchStrewing (l : Launch) (A : AD) (G : GS) (Y : YS) (b : Nat) (hb1 : b ≤ 1) (hw : G.vw ≤ 1) : cMi l yX1_switchStrewing wsX1_switchStrewing ({ frames := 0, cells := 0, slots := 0, locals := 0 }) A [.ref (A.a 2), .int (iI (b : Int))] G Y (xI ((G.vw : Int)) (G.vw' b) Y) := by
  intro sz
  refine c_start (cc := cX1_switchStrewing) (maxL := 3) (ret := (some .boolean)) (by decide) rfl rfl ?_
  intro p e s m args below meth c X hr hk hnm hsz ls hl H locs hC
  subst hsz
  obtain ⟨hx, hb, hml, hown, hts⟩ := id X.1
  have hl : lv_has ls 3 [(0, .ref (A.a 2)), (1, .int (iI (b : Int)))] := hl
  have iX1 : ∀ w ∈ u_ws RX1 TX1 9, w ∈ wsX1_switchStrewing := by decide +kernel
  refine lv_aload_n hx hb dX1_switchStrewing_0 rfl (lv_at hl 0 rfl) ?_
  refine agX1_strewing X hC iX1 (by decide +kernel) dX1_switchStrewing_1 (v := (G.vw : Int)) rfl ?_
  refine lv_istore_n (lv' := [(2, .int (iI (G.vw : Int))), (0, .ref (A.a 2)), (1, .int (iI (b : Int)))]) hx hb dX1_switchStrewing_4 rfl hl (by decide) rfl (fun ls hl => ?_)
  refine lv_aload_n hx hb dX1_switchStrewing_5 rfl (lv_at hl 1 rfl) ?_
  refine lv_iload_n hx hb dX1_switchStrewing_6 rfl (lv_at hl 2 rfl) ?_
  refine apX1_strewing X hC iX1 (by decide +kernel) dX1_switchStrewing_7 (x := b) (by omega) (by omega) (fun H locs hC => ?_)
  have hC : aH A (cAdr A) (CW A (mkG G.tu G.st G.sm G.mi G.pr G.de G.sa G.nn G.rr G.vn G.vc G.vs b G.tt) Y) s H locs := hC
  refine lv_iload_n hx hb dX1_switchStrewing_10 rfl (lv_at hl 0 rfl) ?_
  exact c_zret X hC hr hk (by omega) (⟨rfl, rfl, rfl⟩) dX1_switchStrewing_11

set_option maxHeartbeats 4000000 in
set_option maxRecDepth 100000 in
theorem mX1_lacksSaltFor (l : Launch) (A : AD) (G : GS) (Y : YS) (k : Nat) (hI : Inv G) (hk1 : k < G.rr) : cMi l yX1_lacksSaltFor wsX1_lacksSaltFor ({ frames := 2, cells := 0, slots := 0, locals := 42 }) A [.ref (A.a 2), .int (iI (k : Int))] G Y (xI (bP (G.vw ≠ 0 ∧ G.vs < G.mi k)) G Y) := by
  intro sz
  refine c_start (cc := cX1_lacksSaltFor) (maxL := 2) (ret := (some .boolean)) (by decide) rfl rfl ?_
  intro p e s m args below meth c X hr hk hnm hsz ls hl H locs hC
  subst hsz
  obtain ⟨hx, hb, hml, hown, hts⟩ := id X.1
  have hl : lv_has ls 2 [(0, .ref (A.a 2)), (1, .int (iI (k : Int)))] := hl
  have iX1 : ∀ w ∈ u_ws RX1 TX1 9, w ∈ wsX1_lacksSaltFor := by decide +kernel
  have hrr := hI.rr
  have hw := hI.vw
  have hv := hI.vs
  have hm := hI.mi k
  refine lv_aload_n hx hb dX1_lacksSaltFor_0 rfl (lv_at hl 0 rfl) ?_
  refine agX1_strewing X hC iX1 (by decide +kernel) dX1_lacksSaltFor_1 (v := (G.vw : Int)) rfl ?_
  refine li_if_eq (tgt := 26) hx hb dX1_lacksSaltFor_4 (by decide) (by omega) (fun c_4 => ?_) (fun c_4 => ?_)
  · refine li_c hx hb dX1_lacksSaltFor_26 ?_
    exact c_zret X hC hr hk (by omega) (⟨(bP_f (by omega)).symm, rfl, rfl⟩) dX1_lacksSaltFor_27
  · refine lv_aload_n hx hb dX1_lacksSaltFor_7 rfl (lv_at hl 0 rfl) ?_
    refine agX1_salt X hC iX1 (by decide +kernel) dX1_lacksSaltFor_8 (v := (G.vs : Int)) rfl ?_
    refine lv_aload_n hx hb dX1_lacksSaltFor_11 rfl (lv_at hl 0 rfl) ?_
    refine agX1_town X hC iX1 (by decide +kernel) dX1_lacksSaltFor_12 ?_
    refine lv_iload_n hx hb dX1_lacksSaltFor_15 rfl (lv_at hl 1 rfl) ?_
    refine c_callix (v := ((G.mi k : Nat) : Int)) (n := 1) (As := [.int (iI (k : Int))]) (rest := [.int (iI (G.vs : Int))]) X hC (mX0_minutesOf l A G Y k (show k < G.rr by omega) (show G.rr ≤ 12 by omega)) ⟨gX1_lacksSaltFor_X0_minutesOf, ⟨_, rfl⟩, rfl, rfl, ⟨by decide, by decide, by decide +kernel⟩, Nat.le_of_ble_eq_true rfl, Nat.le_of_ble_eq_true rfl⟩ (a_recv (y := yX0_minutesOf) X hC.1 (ci := 0) (q0 := 1) rfl rfl rfl) rfl hl.1 rfl (Nat.le_of_ble_eq_true rfl) ⟨Nat.zero_le _, Nat.zero_le _⟩ dX1_lacksSaltFor_16 (fun H locs hC => ?_)
    refine li_icmp_ge (tgt := 26) hx hb dX1_lacksSaltFor_19 (by decide) (by omega) (fun c_19 => ?_) (fun c_19 => ?_)
    · refine li_c hx hb dX1_lacksSaltFor_26 ?_
      exact c_zret X hC hr hk (by omega) (⟨(bP_f (by omega)).symm, rfl, rfl⟩) dX1_lacksSaltFor_27
    · refine li_c hx hb dX1_lacksSaltFor_22 ?_
      refine lv_goto (tgt := 27) hx hb dX1_lacksSaltFor_23 (by decide) ?_
      exact c_zret X hC hr hk (by omega) (⟨(bP_t (by omega)).symm, rfl, rfl⟩) dX1_lacksSaltFor_27

set_option maxHeartbeats 4000000 in
set_option maxRecDepth 100000 in
theorem mX1_canGoBy (l : Launch) (A : AD) (G : GS) (Y : YS) (k : Nat) (hI : Inv G) (hk1 : k < G.rr) : cMi l yX1_canGoBy wsX1_canGoBy ({ frames := 3, cells := 0, slots := 0, locals := 65 }) A [.ref (A.a 2), .int (iI (k : Int))] G Y (xI (bP (cG G G.vn G.vc (sF G G.vn k))) G Y) := by
  intro sz
  refine c_start (cc := cX1_canGoBy) (maxL := 2) (ret := (some .boolean)) (by decide) rfl rfl ?_
  intro p e s m args below meth c X hr hk hnm hsz ls hl H locs hC
  subst hsz
  obtain ⟨hx, hb, hml, hown, hts⟩ := id X.1
  have hl : lv_has ls 2 [(0, .ref (A.a 2)), (1, .int (iI (k : Int)))] := hl
  have iX1 : ∀ w ∈ u_ws RX1 TX1 9, w ∈ wsX1_canGoBy := by decide +kernel
  have hrr := hI.rr
  have hnn := hI.nn
  have hv := hI.vn
  have hc := hI.vc
  have hsf := sF_rng (v := G.vn) hk1
  refine lv_aload_n hx hb dX1_canGoBy_0 rfl (lv_at hl 0 rfl) ?_
  refine agX1_town X hC iX1 (by decide +kernel) dX1_canGoBy_1 ?_
  refine lv_aload_n hx hb dX1_canGoBy_4 rfl (lv_at hl 0 rfl) ?_
  refine agX1_node X hC iX1 (by decide +kernel) dX1_canGoBy_5 (v := (G.vn : Int)) rfl ?_
  refine lv_aload_n hx hb dX1_canGoBy_8 rfl (lv_at hl 0 rfl) ?_
  refine agX1_cameBy X hC iX1 (by decide +kernel) dX1_canGoBy_9 (v := G.vc) rfl ?_
  refine lv_aload_n hx hb dX1_canGoBy_12 rfl (lv_at hl 0 rfl) ?_
  refine agX1_town X hC iX1 (by decide +kernel) dX1_canGoBy_13 ?_
  refine lv_aload_n hx hb dX1_canGoBy_16 rfl (lv_at hl 0 rfl) ?_
  refine agX1_node X hC iX1 (by decide +kernel) dX1_canGoBy_17 (v := (G.vn : Int)) rfl ?_
  refine lv_iload_n hx hb dX1_canGoBy_20 rfl (lv_at hl 1 rfl) ?_
  refine c_callix (v := (sF G G.vn k)) (n := 2) (As := [.int (iI (G.vn : Int)), .int (iI (k : Int))]) (rest := [.int (iI G.vc), .int (iI (G.vn : Int)), .ref (A.a 1)]) X hC (mX0_sideFrom l A G Y G.vn k hI (show k < G.rr by omega) (show G.vn < G.nn by omega)) ⟨gX1_canGoBy_X0_sideFrom, ⟨_, rfl⟩, rfl, rfl, ⟨by decide, by decide, by decide +kernel⟩, Nat.le_of_ble_eq_true rfl, Nat.le_of_ble_eq_true rfl⟩ (a_recv (y := yX0_sideFrom) X hC.1 (ci := 0) (q0 := 1) rfl rfl rfl) rfl hl.1 rfl (Nat.le_of_ble_eq_true rfl) ⟨Nat.zero_le _, Nat.zero_le _⟩ dX1_canGoBy_21 (fun H locs hC => ?_)
  refine c_callix (v := bP (cG G G.vn G.vc (sF G G.vn k))) (n := 3) (As := [.int (iI (G.vn : Int)), .int (iI G.vc), .int (iI (sF G G.vn k))]) (rest := []) X hC (mX0_canGoOn l A G Y G.vn G.vc (sF G G.vn k) hI (show G.vn < G.nn by omega) (show -2147483648 ≤ G.vc ∧ G.vc < 2147483648 by omega) (show -2147483648 ≤ (sF G G.vn k) ∧ (sF G G.vn k) < 2147483648 by omega)) ⟨gX1_canGoBy_X0_canGoOn, ⟨_, rfl⟩, rfl, rfl, ⟨by decide, by decide, by decide +kernel⟩, Nat.le_of_ble_eq_true rfl, Nat.le_of_ble_eq_true rfl⟩ (a_recv (y := yX0_canGoOn) X hC.1 (ci := 0) (q0 := 1) rfl rfl rfl) rfl hl.1 rfl (Nat.le_of_ble_eq_true rfl) ⟨Nat.zero_le _, Nat.zero_le _⟩ dX1_canGoBy_24 (fun H locs hC => ?_)
  exact c_zret X hC hr hk (bP_01 _) (⟨rfl, rfl, rfl⟩) dX1_canGoBy_27

set_option maxHeartbeats 4000000 in
set_option maxRecDepth 100000 in
theorem mX1_strewOn (l : Launch) (A : AD) (G : GS) (Y : YS) (k : Nat) (q : Nat) (hk1 : k < 2 * G.rr) (hr1 : G.rr ≤ 12) (hd : G.de k ≤ 999) (hw : G.vw ≤ 1) (hv : G.vs ≤ 120) (hq : q ≤ 30) : cMv l yX1_strewOn wsX1_strewOn ({ frames := 2, cells := 0, slots := 0, locals := 42 }) A [.ref (A.a 2), .int (iI (k : Int)), .int (iI (q : Int))] G Y (xV (((G.sa' (if 0 < G.de k ∧ G.vw ≠ 0 ∧ q ≤ G.vs then up G.sa k 1 else G.sa)).vs' (if 0 < G.de k ∧ G.vw ≠ 0 ∧ q ≤ G.vs then G.vs - q else G.vs)).tt' (if 0 < G.de k ∧ G.vw ≠ 0 ∧ q ≤ G.vs then up G.tt 1 (G.tt 1 + (iI (q : Int)).toInt64) else G.tt)) Y) := by
  intro sz
  refine c_start (cc := cX1_strewOn) (maxL := 3) (ret := none) (by decide) rfl rfl ?_
  intro p e s m args below meth c X hr hk hnm hsz ls hl H locs hC
  subst hsz
  obtain ⟨hx, hb, hml, hown, hts⟩ := id X.1
  have hl : lv_has ls 3 [(0, .ref (A.a 2)), (1, .int (iI (k : Int))), (2, .int (iI (q : Int)))] := hl
  have iX1 : ∀ w ∈ u_ws RX1 TX1 9, w ∈ wsX1_strewOn := by decide +kernel
  refine lv_aload_n hx hb dX1_strewOn_0 rfl (lv_at hl 0 rfl) ?_
  refine agX1_town X hC iX1 (by decide +kernel) dX1_strewOn_1 ?_
  refine lv_iload_n hx hb dX1_strewOn_4 rfl (lv_at hl 1 rfl) ?_
  refine c_callix (v := ((G.de k : Nat) : Int)) (n := 1) (As := [.int (iI (k : Int))]) (rest := []) X hC (mX0_snowOn l A G Y k (show k < 2 * G.rr by omega) (show G.rr ≤ 12 by omega)) ⟨gX1_strewOn_X0_snowOn, ⟨_, rfl⟩, rfl, rfl, ⟨by decide, by decide, by decide +kernel⟩, Nat.le_of_ble_eq_true rfl, Nat.le_of_ble_eq_true rfl⟩ (a_recv (y := yX0_snowOn) X hC.1 (ci := 0) (q0 := 1) rfl rfl rfl) rfl hl.1 rfl (Nat.le_of_ble_eq_true rfl) ⟨Nat.zero_le _, Nat.zero_le _⟩ dX1_strewOn_5 (fun H locs hC => ?_)
  refine li_if_le (tgt := 55) hx hb dX1_strewOn_8 (by decide) (by omega) (fun c_8 => ?_) (fun c_8 => ?_)
  · exact c_vret X hC hr hk (⟨by rw [if_neg (fun hq => by obtain ⟨h1, h2, h3⟩ := hq; omega), if_neg (fun hq => by obtain ⟨h1, h2, h3⟩ := hq; omega), if_neg (fun hq => by obtain ⟨h1, h2, h3⟩ := hq; omega)]; rfl, rfl⟩) dX1_strewOn_55
  · refine lv_aload_n hx hb dX1_strewOn_11 rfl (lv_at hl 0 rfl) ?_
    refine agX1_strewing X hC iX1 (by decide +kernel) dX1_strewOn_12 (v := (G.vw : Int)) rfl ?_
    refine li_if_eq (tgt := 55) hx hb dX1_strewOn_15 (by decide) (by omega) (fun c_15 => ?_) (fun c_15 => ?_)
    · exact c_vret X hC hr hk (⟨by rw [if_neg (fun hq => by obtain ⟨h1, h2, h3⟩ := hq; omega), if_neg (fun hq => by obtain ⟨h1, h2, h3⟩ := hq; omega), if_neg (fun hq => by obtain ⟨h1, h2, h3⟩ := hq; omega)]; rfl, rfl⟩) dX1_strewOn_55
    · refine lv_aload_n hx hb dX1_strewOn_18 rfl (lv_at hl 0 rfl) ?_
      refine agX1_salt X hC iX1 (by decide +kernel) dX1_strewOn_19 (v := (G.vs : Int)) rfl ?_
      refine lv_iload_n hx hb dX1_strewOn_22 rfl (lv_at hl 2 rfl) ?_
      refine li_icmp_lt (tgt := 55) hx hb dX1_strewOn_23 (by decide) (by omega) (fun c_23 => ?_) (fun c_23 => ?_)
      · exact c_vret X hC hr hk (⟨by rw [if_neg (fun hq => by obtain ⟨h1, h2, h3⟩ := hq; omega), if_neg (fun hq => by obtain ⟨h1, h2, h3⟩ := hq; omega), if_neg (fun hq => by obtain ⟨h1, h2, h3⟩ := hq; omega)]; rfl, rfl⟩) dX1_strewOn_55
      · refine lv_aload_n hx hb dX1_strewOn_26 rfl (lv_at hl 0 rfl) ?_
        refine agX1_town X hC iX1 (by decide +kernel) dX1_strewOn_27 ?_
        refine lv_iload_n hx hb dX1_strewOn_30 rfl (lv_at hl 1 rfl) ?_
        refine c_callvx (n := 1) (As := [.int (iI (k : Int))]) (rest := []) X hC (mX0_putSaltOn l A G Y k (show k < 2 * G.rr by omega) (show G.rr ≤ 12 by omega)) ⟨gX1_strewOn_X0_putSaltOn, ⟨_, rfl⟩, rfl, rfl, ⟨by decide, by decide, by decide +kernel⟩, Nat.le_of_ble_eq_true rfl, Nat.le_of_ble_eq_true rfl⟩ (a_recv (y := yX0_putSaltOn) X hC.1 (ci := 0) (q0 := 1) rfl rfl rfl) rfl hl.1 rfl (Nat.le_of_ble_eq_true rfl) ⟨Nat.zero_le _, Nat.zero_le _⟩ dX1_strewOn_31 (fun H locs hC => ?_)
        have hC : aH A (cAdr A) (CW A (mkG G.tu G.st G.sm G.mi G.pr G.de (up G.sa k 1) G.nn G.rr G.vn G.vc G.vs G.vw G.tt) Y) s H locs := hC
        refine lv_aload_n hx hb dX1_strewOn_34 rfl (lv_at hl 0 rfl) ?_
        refine lv_dup hx hb dX1_strewOn_35 rfl ?_
        refine agX1_salt X hC iX1 (by decide +kernel) dX1_strewOn_36 (v := (G.vs : Int)) rfl ?_
        refine lv_iload_n hx hb dX1_strewOn_39 rfl (lv_at hl 2 rfl) ?_
        refine li_subN (x := G.vs) (y := q) hx hb dX1_strewOn_40 rfl rfl (by omega) ?_
        refine apX1_salt X hC iX1 (by decide +kernel) dX1_strewOn_41 (x := G.vs - q) (by omega) (fun H locs hC => ?_)
        have hC : aH A (cAdr A) (CW A (mkG G.tu G.st G.sm G.mi G.pr G.de (up G.sa k 1) G.nn G.rr G.vn G.vc (G.vs - q) G.vw G.tt) Y) s H locs := hC
        refine lv_aload_n hx hb dX1_strewOn_44 rfl (lv_at hl 0 rfl) ?_
        refine lv_dup hx hb dX1_strewOn_45 rfl ?_
        refine agX1_saltStrewn X hC iX1 (by decide +kernel) dX1_strewOn_46 (v := G.tt 1) rfl ?_
        refine lv_iload_n hx hb dX1_strewOn_49 rfl (lv_at hl 2 rfl) ?_
        refine lv_i2l hx hb dX1_strewOn_50 rfl ?_
        refine lv_ladd hx hb dX1_strewOn_51 ?_
        refine apX1_saltStrewn X hC iX1 (by decide +kernel) dX1_strewOn_52 (fun H locs hC => ?_)
        have hC : aH A (cAdr A) (CW A (mkG G.tu G.st G.sm G.mi G.pr G.de (up G.sa k 1) G.nn G.rr G.vn G.vc (G.vs - q) G.vw (up G.tt 1 (G.tt 1 + (iI (q : Int)).toInt64))) Y) s H locs := hC
        exact c_vret X hC hr hk (⟨by rw [if_pos ⟨by omega, by omega, by omega⟩, if_pos ⟨by omega, by omega, by omega⟩, if_pos ⟨by omega, by omega, by omega⟩]; rfl, rfl⟩) dX1_strewOn_55

set_option maxHeartbeats 4000000 in
set_option maxRecDepth 100000 in
theorem mX1_takeSalt (l : Launch) (A : AD) (G : GS) (Y : YS) (hv : G.vs ≤ 120) : cMi l yX1_takeSalt wsX1_takeSalt ({ frames := 0, cells := 0, slots := 0, locals := 0 }) A [.ref (A.a 2)] G Y (xI (((120 - G.vs : Nat) : Int)) ((G.vs' 120).tt' (up G.tt 0 (G.tt 0 + 4))) Y) := by
  intro sz
  refine c_start (cc := cX1_takeSalt) (maxL := 2) (ret := (some .int)) (by decide) rfl rfl ?_
  intro p e s m args below meth c X hr hk hnm hsz ls hl H locs hC
  subst hsz
  obtain ⟨hx, hb, hml, hown, hts⟩ := id X.1
  have hl : lv_has ls 2 [(0, .ref (A.a 2))] := hl
  have iX1 : ∀ w ∈ u_ws RX1 TX1 9, w ∈ wsX1_takeSalt := by decide +kernel
  refine li_bi hx hb dX1_takeSalt_0 (by decide) ?_
  refine lv_aload_n hx hb dX1_takeSalt_2 rfl (lv_at hl 0 rfl) ?_
  refine agX1_salt X hC iX1 (by decide +kernel) dX1_takeSalt_3 (v := (G.vs : Int)) rfl ?_
  refine li_subN (x := 120) (y := G.vs) hx hb dX1_takeSalt_6 rfl rfl (by omega) ?_
  refine lv_istore_n (lv' := [(1, .int (iI ((120 - G.vs : Nat) : Int))), (0, .ref (A.a 2))]) hx hb dX1_takeSalt_7 rfl hl (by decide) rfl (fun ls hl => ?_)
  refine lv_aload_n hx hb dX1_takeSalt_8 rfl (lv_at hl 1 rfl) ?_
  refine li_bi hx hb dX1_takeSalt_9 (by decide) ?_
  refine apX1_salt X hC iX1 (by decide +kernel) dX1_takeSalt_11 (x := 120) (by omega) (fun H locs hC => ?_)
  have hC : aH A (cAdr A) (CW A (mkG G.tu G.st G.sm G.mi G.pr G.de G.sa G.nn G.rr G.vn G.vc 120 G.vw G.tt) Y) s H locs := hC
  refine lv_aload_n hx hb dX1_takeSalt_14 rfl (lv_at hl 1 rfl) ?_
  refine lv_dup hx hb dX1_takeSalt_15 rfl ?_
  refine agX1_minutesSpent X hC iX1 (by decide +kernel) dX1_takeSalt_16 (v := G.tt 0) rfl ?_
  refine lv_ldc2 (v := 4) hx hb hown (hts _ (by decide +kernel)) dX1_takeSalt_19 ?_
  refine lv_ladd hx hb dX1_takeSalt_22 ?_
  refine apX1_minutesSpent X hC iX1 (by decide +kernel) dX1_takeSalt_23 (fun H locs hC => ?_)
  have hC : aH A (cAdr A) (CW A (mkG G.tu G.st G.sm G.mi G.pr G.de G.sa G.nn G.rr G.vn G.vc 120 G.vw (up G.tt 0 (G.tt 0 + 4))) Y) s H locs := hC
  refine lv_iload_n hx hb dX1_takeSalt_26 rfl (lv_at hl 0 rfl) ?_
  exact c_iret X hC hr hk (⟨rfl, rfl, rfl⟩) dX1_takeSalt_27

set_option maxHeartbeats 4000000 in
set_option maxRecDepth 100000 in
theorem mX1_stateFact (l : Launch) (A : AD) (G : GS) (Y : YS) (z : Int) (hz : -2147483648 ≤ z ∧ z < 2147483648) (hw : G.vw ≤ 1) : cMi l yX1_stateFact wsX1_stateFact ({ frames := 0, cells := 0, slots := 0, locals := 0 }) A [.ref (A.a 2), .int (iI z)] G Y (xI ((stf G z)) G Y) := by
  intro sz
  refine c_start (cc := cX1_stateFact) (maxL := 2) (ret := (some .int)) (by decide) rfl rfl ?_
  intro p e s m args below meth c X hr hk hnm hsz ls hl H locs hC
  subst hsz
  obtain ⟨hx, hb, hml, hown, hts⟩ := id X.1
  have hl : lv_has ls 2 [(0, .ref (A.a 2)), (1, .int (iI z))] := hl
  have iX1 : ∀ w ∈ u_ws RX1 TX1 9, w ∈ wsX1_stateFact := by decide +kernel
  refine lv_iload_n hx hb dX1_stateFact_0 rfl (lv_at hl 1 rfl) ?_
  rcases (show z = 0 ∨ z = 1 ∨ z = 2 ∨ (z < 0 ∨ 2 < z) by omega) with rfl | rfl | rfl | hz4
  · refine lv_tableIn (tgt := 28) hx hb dX1_stateFact_1 (by decide) (by decide) (by rfl) (by decide) ?_
    refine lv_aload_n hx hb dX1_stateFact_28 rfl (lv_at hl 0 rfl) ?_
    refine agX1_node X hC iX1 (by decide +kernel) dX1_stateFact_29 (v := (G.vn : Int)) rfl ?_
    exact c_iret X hC hr hk (⟨rfl, rfl, rfl⟩) dX1_stateFact_32
  · refine lv_tableIn (tgt := 33) hx hb dX1_stateFact_1 (by decide) (by decide) (by rfl) (by decide) ?_
    refine lv_aload_n hx hb dX1_stateFact_33 rfl (lv_at hl 0 rfl) ?_
    refine agX1_cameBy X hC iX1 (by decide +kernel) dX1_stateFact_34 (v := G.vc) rfl ?_
    exact c_iret X hC hr hk (⟨rfl, rfl, rfl⟩) dX1_stateFact_37
  · refine lv_tableIn (tgt := 38) hx hb dX1_stateFact_1 (by decide) (by decide) (by rfl) (by decide) ?_
    refine lv_aload_n hx hb dX1_stateFact_38 rfl (lv_at hl 0 rfl) ?_
    refine agX1_salt X hC iX1 (by decide +kernel) dX1_stateFact_39 (v := (G.vs : Int)) rfl ?_
    exact c_iret X hC hr hk (⟨rfl, rfl, rfl⟩) dX1_stateFact_42
  · refine lv_tableOut (tgt := 43) hx hb dX1_stateFact_1 (by rw [iI_t (by omega)]; omega) (by decide) ?_
    refine lv_aload_n hx hb dX1_stateFact_43 rfl (lv_at hl 0 rfl) ?_
    refine agX1_strewing X hC iX1 (by decide +kernel) dX1_stateFact_44 (v := (G.vw : Int)) rfl ?_
    refine li_if_eq (tgt := 54) hx hb dX1_stateFact_47 (by decide) (by omega) (fun c_47 => ?_) (fun c_47 => ?_)
    · refine li_c hx hb dX1_stateFact_54 ?_
      exact c_iret X hC hr hk (⟨by unfold stf; rw [if_neg (by omega), if_neg (by omega), if_neg (by omega)]; omega, rfl, rfl⟩) dX1_stateFact_55
    · refine li_c hx hb dX1_stateFact_50 ?_
      refine lv_goto (tgt := 55) hx hb dX1_stateFact_51 (by decide) ?_
      exact c_iret X hC hr hk (⟨by unfold stf; rw [if_neg (by omega), if_neg (by omega), if_neg (by omega)]; omega, rfl, rfl⟩) dX1_stateFact_55

set_option maxHeartbeats 4000000 in
set_option maxRecDepth 100000 in
theorem mX1_totalFact (l : Launch) (A : AD) (G : GS) (Y : YS) (z : Int) (hz : -2147483648 ≤ z ∧ z < 2147483648) : cMl l yX1_totalFact wsX1_totalFact ({ frames := 0, cells := 0, slots := 0, locals := 0 }) A [.ref (A.a 2), .int (iI z)] G Y (xL ((ttf G z)) G Y) := by
  intro sz
  refine c_start (cc := cX1_totalFact) (maxL := 2) (ret := (some .long)) (by decide) rfl rfl ?_
  intro p e s m args below meth c X hr hk hnm hsz ls hl H locs hC
  subst hsz
  obtain ⟨hx, hb, hml, hown, hts⟩ := id X.1
  have hl : lv_has ls 2 [(0, .ref (A.a 2)), (1, .int (iI z))] := hl
  have iX1 : ∀ w ∈ u_ws RX1 TX1 9, w ∈ wsX1_totalFact := by decide +kernel
  refine lv_iload_n hx hb dX1_totalFact_0 rfl (lv_at hl 1 rfl) ?_
  rcases (show z = 0 ∨ z = 1 ∨ z = 2 ∨ (z < 0 ∨ 2 < z) by omega) with rfl | rfl | rfl | hz4
  · refine lv_tableIn (tgt := 28) hx hb dX1_totalFact_1 (by decide) (by decide) (by rfl) (by decide) ?_
    refine lv_aload_n hx hb dX1_totalFact_28 rfl (lv_at hl 0 rfl) ?_
    refine agX1_minutesSpent X hC iX1 (by decide +kernel) dX1_totalFact_29 (v := G.tt 0) rfl ?_
    exact c_lret X hC hr hk (⟨rfl, rfl, rfl⟩) dX1_totalFact_32
  · refine lv_tableIn (tgt := 33) hx hb dX1_totalFact_1 (by decide) (by decide) (by rfl) (by decide) ?_
    refine lv_aload_n hx hb dX1_totalFact_33 rfl (lv_at hl 0 rfl) ?_
    refine agX1_saltStrewn X hC iX1 (by decide +kernel) dX1_totalFact_34 (v := G.tt 1) rfl ?_
    exact c_lret X hC hr hk (⟨rfl, rfl, rfl⟩) dX1_totalFact_37
  · refine lv_tableIn (tgt := 38) hx hb dX1_totalFact_1 (by decide) (by decide) (by rfl) (by decide) ?_
    refine lv_aload_n hx hb dX1_totalFact_38 rfl (lv_at hl 0 rfl) ?_
    refine agX1_turns X hC iX1 (by decide +kernel) dX1_totalFact_39 (v := G.tt 2) rfl ?_
    exact c_lret X hC hr hk (⟨rfl, rfl, rfl⟩) dX1_totalFact_42
  · refine lv_tableOut (tgt := 43) hx hb dX1_totalFact_1 (by rw [iI_t (by omega)]; omega) (by decide) ?_
    refine lv_aload_n hx hb dX1_totalFact_43 rfl (lv_at hl 0 rfl) ?_
    refine agX1_roadsGone X hC iX1 (by decide +kernel) dX1_totalFact_44 (v := G.tt 3) rfl ?_
    exact c_lret X hC hr hk (⟨by unfold ttf; rw [if_neg (by omega), if_neg (by omega), if_neg (by omega)], rfl, rfl⟩) dX1_totalFact_47

set_option maxHeartbeats 4000000 in
set_option maxRecDepth 100000 in
theorem mX1_driveBy (l : Launch) (A : AD) (G : GS) (Y : YS) (r : Nat) (k : Nat) (hI : Inv G) (hk1 : r < G.rr) (hk2 : k < 2 * G.rr) (hs : sF G G.vn r = (k : Int)) : cMi l yX1_driveBy wsX1_driveBy ({ frames := 3, cells := 0, slots := 0, locals := 64 }) A [.ref (A.a 2), .int (iI (r : Int))] G Y (xI ((dMin G r k)) (drv G r k) Y) := by
  intro sz
  refine c_start (cc := cX1_driveBy) (maxL := 4) (ret := (some .int)) (by decide) rfl rfl ?_
  intro p e s m args below meth c X hr hk hnm hsz ls hl H locs hC
  subst hsz
  obtain ⟨hx, hb, hml, hown, hts⟩ := id X.1
  have hl : lv_has ls 4 [(0, .ref (A.a 2)), (1, .int (iI (r : Int)))] := hl
  have iX1 : ∀ w ∈ u_ws RX1 TX1 9, w ∈ wsX1_driveBy := by decide +kernel
  have hrr := hI.rr
  have hnn := hI.nn
  have hv := hI.vn
  have hc := hI.vc
  have hsf := sF_rng (v := G.vn) hk1
  have hm := hI.mi r
  have hd := hI.de k
  have hw := hI.vw
  have hvs := hI.vs
  refine lv_aload_n hx hb dX1_driveBy_0 rfl (lv_at hl 0 rfl) ?_
  refine agX1_town X hC iX1 (by decide +kernel) dX1_driveBy_1 ?_
  refine lv_aload_n hx hb dX1_driveBy_4 rfl (lv_at hl 0 rfl) ?_
  refine agX1_node X hC iX1 (by decide +kernel) dX1_driveBy_5 (v := (G.vn : Int)) rfl ?_
  refine lv_iload_n hx hb dX1_driveBy_8 rfl (lv_at hl 1 rfl) ?_
  refine c_callix (v := (sF G G.vn r)) (n := 2) (As := [.int (iI (G.vn : Int)), .int (iI (r : Int))]) (rest := []) X hC (mX0_sideFrom l A G Y G.vn r hI (show r < G.rr by omega) (show G.vn < G.nn by omega)) ⟨gX1_driveBy_X0_sideFrom, ⟨_, rfl⟩, rfl, rfl, ⟨by decide, by decide, by decide +kernel⟩, Nat.le_of_ble_eq_true rfl, Nat.le_of_ble_eq_true rfl⟩ (a_recv (y := yX0_sideFrom) X hC.1 (ci := 0) (q0 := 1) rfl rfl rfl) rfl hl.1 rfl (Nat.le_of_ble_eq_true rfl) ⟨Nat.zero_le _, Nat.zero_le _⟩ dX1_driveBy_9 (fun H locs hC => ?_)
  rw [hs]
  refine lv_istore_n (lv' := [(2, .int (iI (k : Int))), (0, .ref (A.a 2)), (1, .int (iI (r : Int)))]) hx hb dX1_driveBy_12 rfl hl (by decide) rfl (fun ls hl => ?_)
  refine lv_iload_n hx hb dX1_driveBy_13 rfl (lv_at hl 0 rfl) ?_
  refine li_c hx hb dX1_driveBy_14 ?_
  refine li_icmp_ne (tgt := 20) hx hb dX1_driveBy_15 (by decide) (by omega) (fun c_15 => ?_) (fun c_15 => ?_)
  · refine lv_aload_n hx hb dX1_driveBy_20 rfl (lv_at hl 1 rfl) ?_
    refine agX1_town X hC iX1 (by decide +kernel) dX1_driveBy_21 ?_
    refine lv_iload_n hx hb dX1_driveBy_24 rfl (lv_at hl 2 rfl) ?_
    refine c_callix (v := ((G.mi r : Nat) : Int)) (n := 1) (As := [.int (iI (r : Int))]) (rest := []) X hC (mX0_minutesOf l A G Y r (show r < G.rr by omega) (show G.rr ≤ 12 by omega)) ⟨gX1_driveBy_X0_minutesOf, ⟨_, rfl⟩, rfl, rfl, ⟨by decide, by decide, by decide +kernel⟩, Nat.le_of_ble_eq_true rfl, Nat.le_of_ble_eq_true rfl⟩ (a_recv (y := yX0_minutesOf) X hC.1 (ci := 0) (q0 := 1) rfl rfl rfl) rfl hl.1 rfl (Nat.le_of_ble_eq_true rfl) ⟨Nat.zero_le _, Nat.zero_le _⟩ dX1_driveBy_25 (fun H locs hC => ?_)
    refine lv_istore_n (lv' := [(3, .int (iI ((G.mi r : Nat) : Int))), (2, .int (iI (k : Int))), (0, .ref (A.a 2)), (1, .int (iI (r : Int)))]) hx hb dX1_driveBy_28 rfl hl (by decide) rfl (fun ls hl => ?_)
    refine lv_aload_n hx hb dX1_driveBy_29 rfl (lv_at hl 2 rfl) ?_
    refine agX1_town X hC iX1 (by decide +kernel) dX1_driveBy_30 ?_
    refine lv_iload_n hx hb dX1_driveBy_33 rfl (lv_at hl 1 rfl) ?_
    refine c_callix (v := ((G.de k : Nat) : Int)) (n := 1) (As := [.int (iI (k : Int))]) (rest := []) X hC (mX0_snowOn l A G Y k (show k < 2 * G.rr by omega) (show G.rr ≤ 12 by omega)) ⟨gX1_driveBy_X0_snowOn, ⟨_, rfl⟩, rfl, rfl, ⟨by decide, by decide, by decide +kernel⟩, Nat.le_of_ble_eq_true rfl, Nat.le_of_ble_eq_true rfl⟩ (a_recv (y := yX0_snowOn) X hC.1 (ci := 0) (q0 := 1) rfl rfl rfl) rfl hl.1 rfl (Nat.le_of_ble_eq_true rfl) ⟨Nat.zero_le _, Nat.zero_le _⟩ dX1_driveBy_34 (fun H locs hC => ?_)
    refine li_bi hx hb dX1_driveBy_37 (by decide) ?_
    refine li_icmp_lt (tgt := 46) hx hb dX1_driveBy_39 (by decide) (by omega) (fun c_39 => ?_) (fun c_39 => ?_)
    · refine lv_iload_n hx hb dX1_driveBy_46 rfl (lv_at hl 3 rfl) ?_
      refine lv_aload_n hx hb dX1_driveBy_47 rfl (lv_at hl 2 rfl) ?_
      refine agX1_cameBy X hC iX1 (by decide +kernel) dX1_driveBy_48 (v := G.vc) rfl ?_
      refine li_icmp_ne (tgt := 67) hx hb dX1_driveBy_51 (by decide) (by omega) (fun c_51 => ?_) (fun c_51 => ?_)
      · refine lv_aload_n hx hb dX1_driveBy_67 rfl (lv_at hl 2 rfl) ?_
        refine lv_iload_n hx hb dX1_driveBy_68 rfl (lv_at hl 1 rfl) ?_
        refine lv_aload_n hx hb dX1_driveBy_69 rfl (lv_at hl 2 rfl) ?_
        refine agX1_town X hC iX1 (by decide +kernel) dX1_driveBy_70 ?_
        refine lv_iload_n hx hb dX1_driveBy_73 rfl (lv_at hl 3 rfl) ?_
        refine c_callix (v := ((G.mi r : Nat) : Int)) (n := 1) (As := [.int (iI (r : Int))]) (rest := [.int (iI (k : Int)), .ref (A.a 2)]) X hC (mX0_minutesOf l A G Y r (show r < G.rr by omega) (show G.rr ≤ 12 by omega)) ⟨gX1_driveBy_X0_minutesOf, ⟨_, rfl⟩, rfl, rfl, ⟨by decide, by decide, by decide +kernel⟩, Nat.le_of_ble_eq_true rfl, Nat.le_of_ble_eq_true rfl⟩ (a_recv (y := yX0_minutesOf) X hC.1 (ci := 0) (q0 := 1) rfl rfl rfl) rfl hl.1 rfl (Nat.le_of_ble_eq_true rfl) ⟨Nat.zero_le _, Nat.zero_le _⟩ dX1_driveBy_74 (fun H locs hC => ?_)
        refine c_callvx (n := 2) (As := [.int (iI (k : Int)), .int (iI ((G.mi r : Nat) : Int))]) (rest := []) X hC (mX1_strewOn l A G Y k (G.mi r) (show k < 2 * G.rr by omega) (show G.rr ≤ 12 by omega) (show G.de k ≤ 999 by omega) (show G.vw ≤ 1 by omega) (show G.vs ≤ 120 by omega) (show (G.mi r) ≤ 30 by omega)) ⟨gX1_driveBy_X1_strewOn, ⟨_, rfl⟩, rfl, rfl, ⟨by decide, by decide, by decide +kernel⟩, Nat.le_of_ble_eq_true rfl, Nat.le_of_ble_eq_true rfl⟩ (a_recv (y := yX1_strewOn) X hC.1 (ci := 1) (q0 := 2) rfl rfl rfl) rfl hl.1 rfl (Nat.le_of_ble_eq_true rfl) ⟨Nat.zero_le _, Nat.zero_le _⟩ dX1_driveBy_77 (fun H locs hC => ?_)
        have hC : aH A (cAdr A) (CW A (mkG G.tu G.st G.sm G.mi G.pr G.de (if 0 < G.de k ∧ G.vw ≠ 0 ∧ (G.mi r) ≤ G.vs then up G.sa k 1 else G.sa) G.nn G.rr G.vn G.vc (if 0 < G.de k ∧ G.vw ≠ 0 ∧ (G.mi r) ≤ G.vs then G.vs - (G.mi r) else G.vs) G.vw (if 0 < G.de k ∧ G.vw ≠ 0 ∧ (G.mi r) ≤ G.vs then up G.tt 1 (G.tt 1 + (iI ((G.mi r) : Int)).toInt64) else G.tt)) Y) s H locs := hC
        refine lv_aload_n hx hb dX1_driveBy_80 rfl (lv_at hl 2 rfl) ?_
        refine agX1_town X hC iX1 (by decide +kernel) dX1_driveBy_81 ?_
        refine lv_iload_n hx hb dX1_driveBy_84 rfl (lv_at hl 1 rfl) ?_
        refine c_callvx (n := 1) (As := [.int (iI (k : Int))]) (rest := []) X hC (mX0_pushSnowFrom l A (mkG G.tu G.st G.sm G.mi G.pr G.de (if 0 < G.de k ∧ G.vw ≠ 0 ∧ (G.mi r) ≤ G.vs then up G.sa k 1 else G.sa) G.nn G.rr G.vn G.vc (if 0 < G.de k ∧ G.vw ≠ 0 ∧ (G.mi r) ≤ G.vs then G.vs - (G.mi r) else G.vs) G.vw (if 0 < G.de k ∧ G.vw ≠ 0 ∧ (G.mi r) ≤ G.vs then up G.tt 1 (G.tt 1 + (iI ((G.mi r) : Int)).toInt64) else G.tt)) Y k (show k < 2 * G.rr by omega) (show G.rr ≤ 12 by omega) (show ∀ k, G.de k ≤ 999 from hI.de)) ⟨gX1_driveBy_X0_pushSnowFrom, ⟨_, rfl⟩, rfl, rfl, ⟨by decide, by decide, by decide +kernel⟩, Nat.le_of_ble_eq_true rfl, Nat.le_of_ble_eq_true rfl⟩ (a_recv (y := yX0_pushSnowFrom) X hC.1 (ci := 0) (q0 := 1) rfl rfl rfl) rfl hl.1 rfl (Nat.le_of_ble_eq_true rfl) ⟨Nat.zero_le _, Nat.zero_le _⟩ dX1_driveBy_85 (fun H locs hC => ?_)
        have hC : aH A (cAdr A) (CW A (mkG G.tu G.st G.sm G.mi G.pr (up (up G.de (op k) (min 999 (G.de (op k) + G.de k / 2))) k 0) (if 0 < G.de k ∧ G.vw ≠ 0 ∧ (G.mi r) ≤ G.vs then up G.sa k 1 else G.sa) G.nn G.rr G.vn G.vc (if 0 < G.de k ∧ G.vw ≠ 0 ∧ (G.mi r) ≤ G.vs then G.vs - (G.mi r) else G.vs) G.vw (if 0 < G.de k ∧ G.vw ≠ 0 ∧ (G.mi r) ≤ G.vs then up G.tt 1 (G.tt 1 + (iI ((G.mi r) : Int)).toInt64) else G.tt)) Y) s H locs := hC
        refine lv_aload_n hx hb dX1_driveBy_88 rfl (lv_at hl 2 rfl) ?_
        refine lv_aload_n hx hb dX1_driveBy_89 rfl (lv_at hl 2 rfl) ?_
        refine agX1_town X hC iX1 (by decide +kernel) dX1_driveBy_90 ?_
        refine lv_iload_n hx hb dX1_driveBy_93 rfl (lv_at hl 1 rfl) ?_
        refine c_callix (v := ((G.sm (op k) : Nat) : Int)) (n := 1) (As := [.int (iI (k : Int))]) (rest := [.ref (A.a 2)]) X hC (mX0_endOf l A (mkG G.tu G.st G.sm G.mi G.pr (up (up G.de (op k) (min 999 (G.de (op k) + G.de k / 2))) k 0) (if 0 < G.de k ∧ G.vw ≠ 0 ∧ (G.mi r) ≤ G.vs then up G.sa k 1 else G.sa) G.nn G.rr G.vn G.vc (if 0 < G.de k ∧ G.vw ≠ 0 ∧ (G.mi r) ≤ G.vs then G.vs - (G.mi r) else G.vs) G.vw (if 0 < G.de k ∧ G.vw ≠ 0 ∧ (G.mi r) ≤ G.vs then up G.tt 1 (G.tt 1 + (iI ((G.mi r) : Int)).toInt64) else G.tt)) Y k (show k < 2 * G.rr by omega) (show G.rr ≤ 12 by omega)) ⟨gX1_driveBy_X0_endOf, ⟨_, rfl⟩, rfl, rfl, ⟨by decide, by decide, by decide +kernel⟩, Nat.le_of_ble_eq_true rfl, Nat.le_of_ble_eq_true rfl⟩ (a_recv (y := yX0_endOf) X hC.1 (ci := 0) (q0 := 1) rfl rfl rfl) rfl hl.1 rfl (Nat.le_of_ble_eq_true rfl) ⟨Nat.zero_le _, Nat.zero_le _⟩ dX1_driveBy_94 (fun H locs hC => ?_)
        refine apX1_node X hC iX1 (by decide +kernel) dX1_driveBy_97 (x := G.sm (op k)) (by omega) (fun H locs hC => ?_)
        have hC : aH A (cAdr A) (CW A (mkG G.tu G.st G.sm G.mi G.pr (up (up G.de (op k) (min 999 (G.de (op k) + G.de k / 2))) k 0) (if 0 < G.de k ∧ G.vw ≠ 0 ∧ (G.mi r) ≤ G.vs then up G.sa k 1 else G.sa) G.nn G.rr (G.sm (op k)) G.vc (if 0 < G.de k ∧ G.vw ≠ 0 ∧ (G.mi r) ≤ G.vs then G.vs - (G.mi r) else G.vs) G.vw (if 0 < G.de k ∧ G.vw ≠ 0 ∧ (G.mi r) ≤ G.vs then up G.tt 1 (G.tt 1 + (iI ((G.mi r) : Int)).toInt64) else G.tt)) Y) s H locs := hC
        refine lv_aload_n hx hb dX1_driveBy_100 rfl (lv_at hl 2 rfl) ?_
        refine lv_iload_n hx hb dX1_driveBy_101 rfl (lv_at hl 3 rfl) ?_
        refine apX1_cameBy X hC iX1 (by decide +kernel) dX1_driveBy_102 rfl (fun H locs hC => ?_)
        have hC : aH A (cAdr A) (CW A (mkG G.tu G.st G.sm G.mi G.pr (up (up G.de (op k) (min 999 (G.de (op k) + G.de k / 2))) k 0) (if 0 < G.de k ∧ G.vw ≠ 0 ∧ (G.mi r) ≤ G.vs then up G.sa k 1 else G.sa) G.nn G.rr (G.sm (op k)) (r : Int) (if 0 < G.de k ∧ G.vw ≠ 0 ∧ (G.mi r) ≤ G.vs then G.vs - (G.mi r) else G.vs) G.vw (if 0 < G.de k ∧ G.vw ≠ 0 ∧ (G.mi r) ≤ G.vs then up G.tt 1 (G.tt 1 + (iI ((G.mi r) : Int)).toInt64) else G.tt)) Y) s H locs := hC
        refine lv_aload_n hx hb dX1_driveBy_105 rfl (lv_at hl 2 rfl) ?_
        refine lv_dup hx hb dX1_driveBy_106 rfl ?_
        refine agX1_roadsGone X hC iX1 (by decide +kernel) dX1_driveBy_107 (v := (if 0 < G.de k ∧ G.vw ≠ 0 ∧ (G.mi r) ≤ G.vs then up G.tt 1 (G.tt 1 + (iI ((G.mi r) : Int)).toInt64) else G.tt) 3) rfl ?_
        refine lv_lconst (v := 1) hx hb dX1_driveBy_110 rfl ?_
        refine lv_ladd hx hb dX1_driveBy_111 ?_
        refine apX1_roadsGone X hC iX1 (by decide +kernel) dX1_driveBy_112 (fun H locs hC => ?_)
        have hC : aH A (cAdr A) (CW A (mkG G.tu G.st G.sm G.mi G.pr (up (up G.de (op k) (min 999 (G.de (op k) + G.de k / 2))) k 0) (if 0 < G.de k ∧ G.vw ≠ 0 ∧ (G.mi r) ≤ G.vs then up G.sa k 1 else G.sa) G.nn G.rr (G.sm (op k)) (r : Int) (if 0 < G.de k ∧ G.vw ≠ 0 ∧ (G.mi r) ≤ G.vs then G.vs - (G.mi r) else G.vs) G.vw (up (if 0 < G.de k ∧ G.vw ≠ 0 ∧ (G.mi r) ≤ G.vs then up G.tt 1 (G.tt 1 + (iI ((G.mi r) : Int)).toInt64) else G.tt) 3 ((if 0 < G.de k ∧ G.vw ≠ 0 ∧ (G.mi r) ≤ G.vs then up G.tt 1 (G.tt 1 + (iI ((G.mi r) : Int)).toInt64) else G.tt) 3 + 1))) Y) s H locs := hC
        refine lv_aload_n hx hb dX1_driveBy_115 rfl (lv_at hl 2 rfl) ?_
        refine lv_dup hx hb dX1_driveBy_116 rfl ?_
        refine agX1_minutesSpent X hC iX1 (by decide +kernel) dX1_driveBy_117 (v := (if 0 < G.de k ∧ G.vw ≠ 0 ∧ (G.mi r) ≤ G.vs then up G.tt 1 (G.tt 1 + (iI ((G.mi r) : Int)).toInt64) else G.tt) 0) rfl ?_
        refine lv_iload_n hx hb dX1_driveBy_120 rfl (lv_at hl 0 rfl) ?_
        refine lv_i2l hx hb dX1_driveBy_121 rfl ?_
        refine lv_ladd hx hb dX1_driveBy_122 ?_
        refine apX1_minutesSpent X hC iX1 (by decide +kernel) dX1_driveBy_123 (fun H locs hC => ?_)
        have hC : aH A (cAdr A) (CW A (mkG G.tu G.st G.sm G.mi G.pr (up (up G.de (op k) (min 999 (G.de (op k) + G.de k / 2))) k 0) (if 0 < G.de k ∧ G.vw ≠ 0 ∧ (G.mi r) ≤ G.vs then up G.sa k 1 else G.sa) G.nn G.rr (G.sm (op k)) (r : Int) (if 0 < G.de k ∧ G.vw ≠ 0 ∧ (G.mi r) ≤ G.vs then G.vs - (G.mi r) else G.vs) G.vw (up (up (if 0 < G.de k ∧ G.vw ≠ 0 ∧ (G.mi r) ≤ G.vs then up G.tt 1 (G.tt 1 + (iI ((G.mi r) : Int)).toInt64) else G.tt) 3 ((if 0 < G.de k ∧ G.vw ≠ 0 ∧ (G.mi r) ≤ G.vs then up G.tt 1 (G.tt 1 + (iI ((G.mi r) : Int)).toInt64) else G.tt) 3 + 1)) 0 ((if 0 < G.de k ∧ G.vw ≠ 0 ∧ (G.mi r) ≤ G.vs then up G.tt 1 (G.tt 1 + (iI ((G.mi r) : Int)).toInt64) else G.tt) 0 + (iI ((G.mi r : Nat) : Int)).toInt64))) Y) s H locs := hC
        refine lv_iload_n hx hb dX1_driveBy_126 rfl (lv_at hl 0 rfl) ?_
        exact c_iret X hC hr hk (by
    have em : ((G.mi r : Nat) : Int) = dMin G r k := by unfold dMin; first | (rw [if_pos (by omega), if_pos (by omega)] <;> omega) | (rw [if_pos (by omega), if_neg (by omega)] <;> omega) | (rw [if_neg (by omega), if_pos (by omega)] <;> omega) | (rw [if_neg (by omega), if_neg (by omega)] <;> omega)
    refine ⟨em, ?_, rfl⟩
    unfold drv
    rw [← em, dTt_c _ _ _ (show ((r : Int) = G.vc) ↔ False from ⟨fun h => absurd h (by omega), fun h => h.elim⟩), ← dTt_1 G.tt (dSt G r k) (G.mi r) ((G.mi r : Nat) : Int) _ rfl]
    rfl) dX1_driveBy_127
      · refine li_incN (lv' := [(3, .int (iI (((G.mi r) + 2 : Nat) : Int))), (2, .int (iI (k : Int))), (0, .ref (A.a 2)), (1, .int (iI (r : Int)))]) (x := G.mi r) (d0 := 2) hx hb dX1_driveBy_54 hl (k := 0) rfl rfl rfl (by decide) rfl (fun ls hl => ?_)
        refine lv_aload_n hx hb dX1_driveBy_57 rfl (lv_at hl 2 rfl) ?_
        refine lv_dup hx hb dX1_driveBy_58 rfl ?_
        refine agX1_turns X hC iX1 (by decide +kernel) dX1_driveBy_59 (v := G.tt 2) rfl ?_
        refine lv_lconst (v := 1) hx hb dX1_driveBy_62 rfl ?_
        refine lv_ladd hx hb dX1_driveBy_63 ?_
        refine apX1_turns X hC iX1 (by decide +kernel) dX1_driveBy_64 (fun H locs hC => ?_)
        have hC : aH A (cAdr A) (CW A (mkG G.tu G.st G.sm G.mi G.pr G.de G.sa G.nn G.rr G.vn G.vc G.vs G.vw (up G.tt 2 (G.tt 2 + 1))) Y) s H locs := hC
        refine lv_aload_n hx hb dX1_driveBy_67 rfl (lv_at hl 2 rfl) ?_
        refine lv_iload_n hx hb dX1_driveBy_68 rfl (lv_at hl 1 rfl) ?_
        refine lv_aload_n hx hb dX1_driveBy_69 rfl (lv_at hl 2 rfl) ?_
        refine agX1_town X hC iX1 (by decide +kernel) dX1_driveBy_70 ?_
        refine lv_iload_n hx hb dX1_driveBy_73 rfl (lv_at hl 3 rfl) ?_
        refine c_callix (v := ((G.mi r : Nat) : Int)) (n := 1) (As := [.int (iI (r : Int))]) (rest := [.int (iI (k : Int)), .ref (A.a 2)]) X hC (mX0_minutesOf l A (mkG G.tu G.st G.sm G.mi G.pr G.de G.sa G.nn G.rr G.vn G.vc G.vs G.vw (up G.tt 2 (G.tt 2 + 1))) Y r (show r < G.rr by omega) (show G.rr ≤ 12 by omega)) ⟨gX1_driveBy_X0_minutesOf, ⟨_, rfl⟩, rfl, rfl, ⟨by decide, by decide, by decide +kernel⟩, Nat.le_of_ble_eq_true rfl, Nat.le_of_ble_eq_true rfl⟩ (a_recv (y := yX0_minutesOf) X hC.1 (ci := 0) (q0 := 1) rfl rfl rfl) rfl hl.1 rfl (Nat.le_of_ble_eq_true rfl) ⟨Nat.zero_le _, Nat.zero_le _⟩ dX1_driveBy_74 (fun H locs hC => ?_)
        refine c_callvx (n := 2) (As := [.int (iI (k : Int)), .int (iI ((G.mi r : Nat) : Int))]) (rest := []) X hC (mX1_strewOn l A (mkG G.tu G.st G.sm G.mi G.pr G.de G.sa G.nn G.rr G.vn G.vc G.vs G.vw (up G.tt 2 (G.tt 2 + 1))) Y k (G.mi r) (show k < 2 * G.rr by omega) (show G.rr ≤ 12 by omega) (show G.de k ≤ 999 by omega) (show G.vw ≤ 1 by omega) (show G.vs ≤ 120 by omega) (show (G.mi r) ≤ 30 by omega)) ⟨gX1_driveBy_X1_strewOn, ⟨_, rfl⟩, rfl, rfl, ⟨by decide, by decide, by decide +kernel⟩, Nat.le_of_ble_eq_true rfl, Nat.le_of_ble_eq_true rfl⟩ (a_recv (y := yX1_strewOn) X hC.1 (ci := 1) (q0 := 2) rfl rfl rfl) rfl hl.1 rfl (Nat.le_of_ble_eq_true rfl) ⟨Nat.zero_le _, Nat.zero_le _⟩ dX1_driveBy_77 (fun H locs hC => ?_)
        have hC : aH A (cAdr A) (CW A (mkG G.tu G.st G.sm G.mi G.pr G.de (if 0 < G.de k ∧ G.vw ≠ 0 ∧ (G.mi r) ≤ G.vs then up G.sa k 1 else G.sa) G.nn G.rr G.vn G.vc (if 0 < G.de k ∧ G.vw ≠ 0 ∧ (G.mi r) ≤ G.vs then G.vs - (G.mi r) else G.vs) G.vw (if 0 < G.de k ∧ G.vw ≠ 0 ∧ (G.mi r) ≤ G.vs then up (up G.tt 2 (G.tt 2 + 1)) 1 ((up G.tt 2 (G.tt 2 + 1)) 1 + (iI ((G.mi r) : Int)).toInt64) else (up G.tt 2 (G.tt 2 + 1)))) Y) s H locs := hC
        refine lv_aload_n hx hb dX1_driveBy_80 rfl (lv_at hl 2 rfl) ?_
        refine agX1_town X hC iX1 (by decide +kernel) dX1_driveBy_81 ?_
        refine lv_iload_n hx hb dX1_driveBy_84 rfl (lv_at hl 1 rfl) ?_
        refine c_callvx (n := 1) (As := [.int (iI (k : Int))]) (rest := []) X hC (mX0_pushSnowFrom l A (mkG G.tu G.st G.sm G.mi G.pr G.de (if 0 < G.de k ∧ G.vw ≠ 0 ∧ (G.mi r) ≤ G.vs then up G.sa k 1 else G.sa) G.nn G.rr G.vn G.vc (if 0 < G.de k ∧ G.vw ≠ 0 ∧ (G.mi r) ≤ G.vs then G.vs - (G.mi r) else G.vs) G.vw (if 0 < G.de k ∧ G.vw ≠ 0 ∧ (G.mi r) ≤ G.vs then up (up G.tt 2 (G.tt 2 + 1)) 1 ((up G.tt 2 (G.tt 2 + 1)) 1 + (iI ((G.mi r) : Int)).toInt64) else (up G.tt 2 (G.tt 2 + 1)))) Y k (show k < 2 * G.rr by omega) (show G.rr ≤ 12 by omega) (show ∀ k, G.de k ≤ 999 from hI.de)) ⟨gX1_driveBy_X0_pushSnowFrom, ⟨_, rfl⟩, rfl, rfl, ⟨by decide, by decide, by decide +kernel⟩, Nat.le_of_ble_eq_true rfl, Nat.le_of_ble_eq_true rfl⟩ (a_recv (y := yX0_pushSnowFrom) X hC.1 (ci := 0) (q0 := 1) rfl rfl rfl) rfl hl.1 rfl (Nat.le_of_ble_eq_true rfl) ⟨Nat.zero_le _, Nat.zero_le _⟩ dX1_driveBy_85 (fun H locs hC => ?_)
        have hC : aH A (cAdr A) (CW A (mkG G.tu G.st G.sm G.mi G.pr (up (up G.de (op k) (min 999 (G.de (op k) + G.de k / 2))) k 0) (if 0 < G.de k ∧ G.vw ≠ 0 ∧ (G.mi r) ≤ G.vs then up G.sa k 1 else G.sa) G.nn G.rr G.vn G.vc (if 0 < G.de k ∧ G.vw ≠ 0 ∧ (G.mi r) ≤ G.vs then G.vs - (G.mi r) else G.vs) G.vw (if 0 < G.de k ∧ G.vw ≠ 0 ∧ (G.mi r) ≤ G.vs then up (up G.tt 2 (G.tt 2 + 1)) 1 ((up G.tt 2 (G.tt 2 + 1)) 1 + (iI ((G.mi r) : Int)).toInt64) else (up G.tt 2 (G.tt 2 + 1)))) Y) s H locs := hC
        refine lv_aload_n hx hb dX1_driveBy_88 rfl (lv_at hl 2 rfl) ?_
        refine lv_aload_n hx hb dX1_driveBy_89 rfl (lv_at hl 2 rfl) ?_
        refine agX1_town X hC iX1 (by decide +kernel) dX1_driveBy_90 ?_
        refine lv_iload_n hx hb dX1_driveBy_93 rfl (lv_at hl 1 rfl) ?_
        refine c_callix (v := ((G.sm (op k) : Nat) : Int)) (n := 1) (As := [.int (iI (k : Int))]) (rest := [.ref (A.a 2)]) X hC (mX0_endOf l A (mkG G.tu G.st G.sm G.mi G.pr (up (up G.de (op k) (min 999 (G.de (op k) + G.de k / 2))) k 0) (if 0 < G.de k ∧ G.vw ≠ 0 ∧ (G.mi r) ≤ G.vs then up G.sa k 1 else G.sa) G.nn G.rr G.vn G.vc (if 0 < G.de k ∧ G.vw ≠ 0 ∧ (G.mi r) ≤ G.vs then G.vs - (G.mi r) else G.vs) G.vw (if 0 < G.de k ∧ G.vw ≠ 0 ∧ (G.mi r) ≤ G.vs then up (up G.tt 2 (G.tt 2 + 1)) 1 ((up G.tt 2 (G.tt 2 + 1)) 1 + (iI ((G.mi r) : Int)).toInt64) else (up G.tt 2 (G.tt 2 + 1)))) Y k (show k < 2 * G.rr by omega) (show G.rr ≤ 12 by omega)) ⟨gX1_driveBy_X0_endOf, ⟨_, rfl⟩, rfl, rfl, ⟨by decide, by decide, by decide +kernel⟩, Nat.le_of_ble_eq_true rfl, Nat.le_of_ble_eq_true rfl⟩ (a_recv (y := yX0_endOf) X hC.1 (ci := 0) (q0 := 1) rfl rfl rfl) rfl hl.1 rfl (Nat.le_of_ble_eq_true rfl) ⟨Nat.zero_le _, Nat.zero_le _⟩ dX1_driveBy_94 (fun H locs hC => ?_)
        refine apX1_node X hC iX1 (by decide +kernel) dX1_driveBy_97 (x := G.sm (op k)) (by omega) (fun H locs hC => ?_)
        have hC : aH A (cAdr A) (CW A (mkG G.tu G.st G.sm G.mi G.pr (up (up G.de (op k) (min 999 (G.de (op k) + G.de k / 2))) k 0) (if 0 < G.de k ∧ G.vw ≠ 0 ∧ (G.mi r) ≤ G.vs then up G.sa k 1 else G.sa) G.nn G.rr (G.sm (op k)) G.vc (if 0 < G.de k ∧ G.vw ≠ 0 ∧ (G.mi r) ≤ G.vs then G.vs - (G.mi r) else G.vs) G.vw (if 0 < G.de k ∧ G.vw ≠ 0 ∧ (G.mi r) ≤ G.vs then up (up G.tt 2 (G.tt 2 + 1)) 1 ((up G.tt 2 (G.tt 2 + 1)) 1 + (iI ((G.mi r) : Int)).toInt64) else (up G.tt 2 (G.tt 2 + 1)))) Y) s H locs := hC
        refine lv_aload_n hx hb dX1_driveBy_100 rfl (lv_at hl 2 rfl) ?_
        refine lv_iload_n hx hb dX1_driveBy_101 rfl (lv_at hl 3 rfl) ?_
        refine apX1_cameBy X hC iX1 (by decide +kernel) dX1_driveBy_102 rfl (fun H locs hC => ?_)
        have hC : aH A (cAdr A) (CW A (mkG G.tu G.st G.sm G.mi G.pr (up (up G.de (op k) (min 999 (G.de (op k) + G.de k / 2))) k 0) (if 0 < G.de k ∧ G.vw ≠ 0 ∧ (G.mi r) ≤ G.vs then up G.sa k 1 else G.sa) G.nn G.rr (G.sm (op k)) (r : Int) (if 0 < G.de k ∧ G.vw ≠ 0 ∧ (G.mi r) ≤ G.vs then G.vs - (G.mi r) else G.vs) G.vw (if 0 < G.de k ∧ G.vw ≠ 0 ∧ (G.mi r) ≤ G.vs then up (up G.tt 2 (G.tt 2 + 1)) 1 ((up G.tt 2 (G.tt 2 + 1)) 1 + (iI ((G.mi r) : Int)).toInt64) else (up G.tt 2 (G.tt 2 + 1)))) Y) s H locs := hC
        refine lv_aload_n hx hb dX1_driveBy_105 rfl (lv_at hl 2 rfl) ?_
        refine lv_dup hx hb dX1_driveBy_106 rfl ?_
        refine agX1_roadsGone X hC iX1 (by decide +kernel) dX1_driveBy_107 (v := (if 0 < G.de k ∧ G.vw ≠ 0 ∧ (G.mi r) ≤ G.vs then up (up G.tt 2 (G.tt 2 + 1)) 1 ((up G.tt 2 (G.tt 2 + 1)) 1 + (iI ((G.mi r) : Int)).toInt64) else (up G.tt 2 (G.tt 2 + 1))) 3) rfl ?_
        refine lv_lconst (v := 1) hx hb dX1_driveBy_110 rfl ?_
        refine lv_ladd hx hb dX1_driveBy_111 ?_
        refine apX1_roadsGone X hC iX1 (by decide +kernel) dX1_driveBy_112 (fun H locs hC => ?_)
        have hC : aH A (cAdr A) (CW A (mkG G.tu G.st G.sm G.mi G.pr (up (up G.de (op k) (min 999 (G.de (op k) + G.de k / 2))) k 0) (if 0 < G.de k ∧ G.vw ≠ 0 ∧ (G.mi r) ≤ G.vs then up G.sa k 1 else G.sa) G.nn G.rr (G.sm (op k)) (r : Int) (if 0 < G.de k ∧ G.vw ≠ 0 ∧ (G.mi r) ≤ G.vs then G.vs - (G.mi r) else G.vs) G.vw (up (if 0 < G.de k ∧ G.vw ≠ 0 ∧ (G.mi r) ≤ G.vs then up (up G.tt 2 (G.tt 2 + 1)) 1 ((up G.tt 2 (G.tt 2 + 1)) 1 + (iI ((G.mi r) : Int)).toInt64) else (up G.tt 2 (G.tt 2 + 1))) 3 ((if 0 < G.de k ∧ G.vw ≠ 0 ∧ (G.mi r) ≤ G.vs then up (up G.tt 2 (G.tt 2 + 1)) 1 ((up G.tt 2 (G.tt 2 + 1)) 1 + (iI ((G.mi r) : Int)).toInt64) else (up G.tt 2 (G.tt 2 + 1))) 3 + 1))) Y) s H locs := hC
        refine lv_aload_n hx hb dX1_driveBy_115 rfl (lv_at hl 2 rfl) ?_
        refine lv_dup hx hb dX1_driveBy_116 rfl ?_
        refine agX1_minutesSpent X hC iX1 (by decide +kernel) dX1_driveBy_117 (v := (if 0 < G.de k ∧ G.vw ≠ 0 ∧ (G.mi r) ≤ G.vs then up (up G.tt 2 (G.tt 2 + 1)) 1 ((up G.tt 2 (G.tt 2 + 1)) 1 + (iI ((G.mi r) : Int)).toInt64) else (up G.tt 2 (G.tt 2 + 1))) 0) rfl ?_
        refine lv_iload_n hx hb dX1_driveBy_120 rfl (lv_at hl 0 rfl) ?_
        refine lv_i2l hx hb dX1_driveBy_121 rfl ?_
        refine lv_ladd hx hb dX1_driveBy_122 ?_
        refine apX1_minutesSpent X hC iX1 (by decide +kernel) dX1_driveBy_123 (fun H locs hC => ?_)
        have hC : aH A (cAdr A) (CW A (mkG G.tu G.st G.sm G.mi G.pr (up (up G.de (op k) (min 999 (G.de (op k) + G.de k / 2))) k 0) (if 0 < G.de k ∧ G.vw ≠ 0 ∧ (G.mi r) ≤ G.vs then up G.sa k 1 else G.sa) G.nn G.rr (G.sm (op k)) (r : Int) (if 0 < G.de k ∧ G.vw ≠ 0 ∧ (G.mi r) ≤ G.vs then G.vs - (G.mi r) else G.vs) G.vw (up (up (if 0 < G.de k ∧ G.vw ≠ 0 ∧ (G.mi r) ≤ G.vs then up (up G.tt 2 (G.tt 2 + 1)) 1 ((up G.tt 2 (G.tt 2 + 1)) 1 + (iI ((G.mi r) : Int)).toInt64) else (up G.tt 2 (G.tt 2 + 1))) 3 ((if 0 < G.de k ∧ G.vw ≠ 0 ∧ (G.mi r) ≤ G.vs then up (up G.tt 2 (G.tt 2 + 1)) 1 ((up G.tt 2 (G.tt 2 + 1)) 1 + (iI ((G.mi r) : Int)).toInt64) else (up G.tt 2 (G.tt 2 + 1))) 3 + 1)) 0 ((if 0 < G.de k ∧ G.vw ≠ 0 ∧ (G.mi r) ≤ G.vs then up (up G.tt 2 (G.tt 2 + 1)) 1 ((up G.tt 2 (G.tt 2 + 1)) 1 + (iI ((G.mi r) : Int)).toInt64) else (up G.tt 2 (G.tt 2 + 1))) 0 + (iI (((G.mi r) + 2 : Nat) : Int)).toInt64))) Y) s H locs := hC
        refine lv_iload_n hx hb dX1_driveBy_126 rfl (lv_at hl 0 rfl) ?_
        exact c_iret X hC hr hk (by
    have em : (((G.mi r) + 2 : Nat) : Int) = dMin G r k := by unfold dMin; first | (rw [if_pos (by omega), if_pos (by omega)] <;> omega) | (rw [if_pos (by omega), if_neg (by omega)] <;> omega) | (rw [if_neg (by omega), if_pos (by omega)] <;> omega) | (rw [if_neg (by omega), if_neg (by omega)] <;> omega)
    refine ⟨em, ?_, rfl⟩
    unfold drv
    rw [← em, dTt_c _ _ _ (show ((r : Int) = G.vc) ↔ True from ⟨fun _ => trivial, fun _ => by omega⟩), ← dTt_2 G.tt (dSt G r k) (G.mi r) (((G.mi r) + 2 : Nat) : Int) _ rfl]
    rfl) dX1_driveBy_127
    · refine lv_iload_n hx hb dX1_driveBy_42 rfl (lv_at hl 0 rfl) ?_
      refine li_c hx hb dX1_driveBy_43 ?_
      refine li_mulN (x := G.mi r) (y := 2) hx hb dX1_driveBy_44 rfl rfl ?_
      refine lv_istore_n (lv' := [(3, .int (iI (((G.mi r) * 2 : Nat) : Int))), (2, .int (iI (k : Int))), (0, .ref (A.a 2)), (1, .int (iI (r : Int)))]) hx hb dX1_driveBy_45 rfl hl (by decide) rfl (fun ls hl => ?_)
      refine lv_iload_n hx hb dX1_driveBy_46 rfl (lv_at hl 3 rfl) ?_
      refine lv_aload_n hx hb dX1_driveBy_47 rfl (lv_at hl 2 rfl) ?_
      refine agX1_cameBy X hC iX1 (by decide +kernel) dX1_driveBy_48 (v := G.vc) rfl ?_
      refine li_icmp_ne (tgt := 67) hx hb dX1_driveBy_51 (by decide) (by omega) (fun c_51 => ?_) (fun c_51 => ?_)
      · refine lv_aload_n hx hb dX1_driveBy_67 rfl (lv_at hl 2 rfl) ?_
        refine lv_iload_n hx hb dX1_driveBy_68 rfl (lv_at hl 1 rfl) ?_
        refine lv_aload_n hx hb dX1_driveBy_69 rfl (lv_at hl 2 rfl) ?_
        refine agX1_town X hC iX1 (by decide +kernel) dX1_driveBy_70 ?_
        refine lv_iload_n hx hb dX1_driveBy_73 rfl (lv_at hl 3 rfl) ?_
        refine c_callix (v := ((G.mi r : Nat) : Int)) (n := 1) (As := [.int (iI (r : Int))]) (rest := [.int (iI (k : Int)), .ref (A.a 2)]) X hC (mX0_minutesOf l A G Y r (show r < G.rr by omega) (show G.rr ≤ 12 by omega)) ⟨gX1_driveBy_X0_minutesOf, ⟨_, rfl⟩, rfl, rfl, ⟨by decide, by decide, by decide +kernel⟩, Nat.le_of_ble_eq_true rfl, Nat.le_of_ble_eq_true rfl⟩ (a_recv (y := yX0_minutesOf) X hC.1 (ci := 0) (q0 := 1) rfl rfl rfl) rfl hl.1 rfl (Nat.le_of_ble_eq_true rfl) ⟨Nat.zero_le _, Nat.zero_le _⟩ dX1_driveBy_74 (fun H locs hC => ?_)
        refine c_callvx (n := 2) (As := [.int (iI (k : Int)), .int (iI ((G.mi r : Nat) : Int))]) (rest := []) X hC (mX1_strewOn l A G Y k (G.mi r) (show k < 2 * G.rr by omega) (show G.rr ≤ 12 by omega) (show G.de k ≤ 999 by omega) (show G.vw ≤ 1 by omega) (show G.vs ≤ 120 by omega) (show (G.mi r) ≤ 30 by omega)) ⟨gX1_driveBy_X1_strewOn, ⟨_, rfl⟩, rfl, rfl, ⟨by decide, by decide, by decide +kernel⟩, Nat.le_of_ble_eq_true rfl, Nat.le_of_ble_eq_true rfl⟩ (a_recv (y := yX1_strewOn) X hC.1 (ci := 1) (q0 := 2) rfl rfl rfl) rfl hl.1 rfl (Nat.le_of_ble_eq_true rfl) ⟨Nat.zero_le _, Nat.zero_le _⟩ dX1_driveBy_77 (fun H locs hC => ?_)
        have hC : aH A (cAdr A) (CW A (mkG G.tu G.st G.sm G.mi G.pr G.de (if 0 < G.de k ∧ G.vw ≠ 0 ∧ (G.mi r) ≤ G.vs then up G.sa k 1 else G.sa) G.nn G.rr G.vn G.vc (if 0 < G.de k ∧ G.vw ≠ 0 ∧ (G.mi r) ≤ G.vs then G.vs - (G.mi r) else G.vs) G.vw (if 0 < G.de k ∧ G.vw ≠ 0 ∧ (G.mi r) ≤ G.vs then up G.tt 1 (G.tt 1 + (iI ((G.mi r) : Int)).toInt64) else G.tt)) Y) s H locs := hC
        refine lv_aload_n hx hb dX1_driveBy_80 rfl (lv_at hl 2 rfl) ?_
        refine agX1_town X hC iX1 (by decide +kernel) dX1_driveBy_81 ?_
        refine lv_iload_n hx hb dX1_driveBy_84 rfl (lv_at hl 1 rfl) ?_
        refine c_callvx (n := 1) (As := [.int (iI (k : Int))]) (rest := []) X hC (mX0_pushSnowFrom l A (mkG G.tu G.st G.sm G.mi G.pr G.de (if 0 < G.de k ∧ G.vw ≠ 0 ∧ (G.mi r) ≤ G.vs then up G.sa k 1 else G.sa) G.nn G.rr G.vn G.vc (if 0 < G.de k ∧ G.vw ≠ 0 ∧ (G.mi r) ≤ G.vs then G.vs - (G.mi r) else G.vs) G.vw (if 0 < G.de k ∧ G.vw ≠ 0 ∧ (G.mi r) ≤ G.vs then up G.tt 1 (G.tt 1 + (iI ((G.mi r) : Int)).toInt64) else G.tt)) Y k (show k < 2 * G.rr by omega) (show G.rr ≤ 12 by omega) (show ∀ k, G.de k ≤ 999 from hI.de)) ⟨gX1_driveBy_X0_pushSnowFrom, ⟨_, rfl⟩, rfl, rfl, ⟨by decide, by decide, by decide +kernel⟩, Nat.le_of_ble_eq_true rfl, Nat.le_of_ble_eq_true rfl⟩ (a_recv (y := yX0_pushSnowFrom) X hC.1 (ci := 0) (q0 := 1) rfl rfl rfl) rfl hl.1 rfl (Nat.le_of_ble_eq_true rfl) ⟨Nat.zero_le _, Nat.zero_le _⟩ dX1_driveBy_85 (fun H locs hC => ?_)
        have hC : aH A (cAdr A) (CW A (mkG G.tu G.st G.sm G.mi G.pr (up (up G.de (op k) (min 999 (G.de (op k) + G.de k / 2))) k 0) (if 0 < G.de k ∧ G.vw ≠ 0 ∧ (G.mi r) ≤ G.vs then up G.sa k 1 else G.sa) G.nn G.rr G.vn G.vc (if 0 < G.de k ∧ G.vw ≠ 0 ∧ (G.mi r) ≤ G.vs then G.vs - (G.mi r) else G.vs) G.vw (if 0 < G.de k ∧ G.vw ≠ 0 ∧ (G.mi r) ≤ G.vs then up G.tt 1 (G.tt 1 + (iI ((G.mi r) : Int)).toInt64) else G.tt)) Y) s H locs := hC
        refine lv_aload_n hx hb dX1_driveBy_88 rfl (lv_at hl 2 rfl) ?_
        refine lv_aload_n hx hb dX1_driveBy_89 rfl (lv_at hl 2 rfl) ?_
        refine agX1_town X hC iX1 (by decide +kernel) dX1_driveBy_90 ?_
        refine lv_iload_n hx hb dX1_driveBy_93 rfl (lv_at hl 1 rfl) ?_
        refine c_callix (v := ((G.sm (op k) : Nat) : Int)) (n := 1) (As := [.int (iI (k : Int))]) (rest := [.ref (A.a 2)]) X hC (mX0_endOf l A (mkG G.tu G.st G.sm G.mi G.pr (up (up G.de (op k) (min 999 (G.de (op k) + G.de k / 2))) k 0) (if 0 < G.de k ∧ G.vw ≠ 0 ∧ (G.mi r) ≤ G.vs then up G.sa k 1 else G.sa) G.nn G.rr G.vn G.vc (if 0 < G.de k ∧ G.vw ≠ 0 ∧ (G.mi r) ≤ G.vs then G.vs - (G.mi r) else G.vs) G.vw (if 0 < G.de k ∧ G.vw ≠ 0 ∧ (G.mi r) ≤ G.vs then up G.tt 1 (G.tt 1 + (iI ((G.mi r) : Int)).toInt64) else G.tt)) Y k (show k < 2 * G.rr by omega) (show G.rr ≤ 12 by omega)) ⟨gX1_driveBy_X0_endOf, ⟨_, rfl⟩, rfl, rfl, ⟨by decide, by decide, by decide +kernel⟩, Nat.le_of_ble_eq_true rfl, Nat.le_of_ble_eq_true rfl⟩ (a_recv (y := yX0_endOf) X hC.1 (ci := 0) (q0 := 1) rfl rfl rfl) rfl hl.1 rfl (Nat.le_of_ble_eq_true rfl) ⟨Nat.zero_le _, Nat.zero_le _⟩ dX1_driveBy_94 (fun H locs hC => ?_)
        refine apX1_node X hC iX1 (by decide +kernel) dX1_driveBy_97 (x := G.sm (op k)) (by omega) (fun H locs hC => ?_)
        have hC : aH A (cAdr A) (CW A (mkG G.tu G.st G.sm G.mi G.pr (up (up G.de (op k) (min 999 (G.de (op k) + G.de k / 2))) k 0) (if 0 < G.de k ∧ G.vw ≠ 0 ∧ (G.mi r) ≤ G.vs then up G.sa k 1 else G.sa) G.nn G.rr (G.sm (op k)) G.vc (if 0 < G.de k ∧ G.vw ≠ 0 ∧ (G.mi r) ≤ G.vs then G.vs - (G.mi r) else G.vs) G.vw (if 0 < G.de k ∧ G.vw ≠ 0 ∧ (G.mi r) ≤ G.vs then up G.tt 1 (G.tt 1 + (iI ((G.mi r) : Int)).toInt64) else G.tt)) Y) s H locs := hC
        refine lv_aload_n hx hb dX1_driveBy_100 rfl (lv_at hl 2 rfl) ?_
        refine lv_iload_n hx hb dX1_driveBy_101 rfl (lv_at hl 3 rfl) ?_
        refine apX1_cameBy X hC iX1 (by decide +kernel) dX1_driveBy_102 rfl (fun H locs hC => ?_)
        have hC : aH A (cAdr A) (CW A (mkG G.tu G.st G.sm G.mi G.pr (up (up G.de (op k) (min 999 (G.de (op k) + G.de k / 2))) k 0) (if 0 < G.de k ∧ G.vw ≠ 0 ∧ (G.mi r) ≤ G.vs then up G.sa k 1 else G.sa) G.nn G.rr (G.sm (op k)) (r : Int) (if 0 < G.de k ∧ G.vw ≠ 0 ∧ (G.mi r) ≤ G.vs then G.vs - (G.mi r) else G.vs) G.vw (if 0 < G.de k ∧ G.vw ≠ 0 ∧ (G.mi r) ≤ G.vs then up G.tt 1 (G.tt 1 + (iI ((G.mi r) : Int)).toInt64) else G.tt)) Y) s H locs := hC
        refine lv_aload_n hx hb dX1_driveBy_105 rfl (lv_at hl 2 rfl) ?_
        refine lv_dup hx hb dX1_driveBy_106 rfl ?_
        refine agX1_roadsGone X hC iX1 (by decide +kernel) dX1_driveBy_107 (v := (if 0 < G.de k ∧ G.vw ≠ 0 ∧ (G.mi r) ≤ G.vs then up G.tt 1 (G.tt 1 + (iI ((G.mi r) : Int)).toInt64) else G.tt) 3) rfl ?_
        refine lv_lconst (v := 1) hx hb dX1_driveBy_110 rfl ?_
        refine lv_ladd hx hb dX1_driveBy_111 ?_
        refine apX1_roadsGone X hC iX1 (by decide +kernel) dX1_driveBy_112 (fun H locs hC => ?_)
        have hC : aH A (cAdr A) (CW A (mkG G.tu G.st G.sm G.mi G.pr (up (up G.de (op k) (min 999 (G.de (op k) + G.de k / 2))) k 0) (if 0 < G.de k ∧ G.vw ≠ 0 ∧ (G.mi r) ≤ G.vs then up G.sa k 1 else G.sa) G.nn G.rr (G.sm (op k)) (r : Int) (if 0 < G.de k ∧ G.vw ≠ 0 ∧ (G.mi r) ≤ G.vs then G.vs - (G.mi r) else G.vs) G.vw (up (if 0 < G.de k ∧ G.vw ≠ 0 ∧ (G.mi r) ≤ G.vs then up G.tt 1 (G.tt 1 + (iI ((G.mi r) : Int)).toInt64) else G.tt) 3 ((if 0 < G.de k ∧ G.vw ≠ 0 ∧ (G.mi r) ≤ G.vs then up G.tt 1 (G.tt 1 + (iI ((G.mi r) : Int)).toInt64) else G.tt) 3 + 1))) Y) s H locs := hC
        refine lv_aload_n hx hb dX1_driveBy_115 rfl (lv_at hl 2 rfl) ?_
        refine lv_dup hx hb dX1_driveBy_116 rfl ?_
        refine agX1_minutesSpent X hC iX1 (by decide +kernel) dX1_driveBy_117 (v := (if 0 < G.de k ∧ G.vw ≠ 0 ∧ (G.mi r) ≤ G.vs then up G.tt 1 (G.tt 1 + (iI ((G.mi r) : Int)).toInt64) else G.tt) 0) rfl ?_
        refine lv_iload_n hx hb dX1_driveBy_120 rfl (lv_at hl 0 rfl) ?_
        refine lv_i2l hx hb dX1_driveBy_121 rfl ?_
        refine lv_ladd hx hb dX1_driveBy_122 ?_
        refine apX1_minutesSpent X hC iX1 (by decide +kernel) dX1_driveBy_123 (fun H locs hC => ?_)
        have hC : aH A (cAdr A) (CW A (mkG G.tu G.st G.sm G.mi G.pr (up (up G.de (op k) (min 999 (G.de (op k) + G.de k / 2))) k 0) (if 0 < G.de k ∧ G.vw ≠ 0 ∧ (G.mi r) ≤ G.vs then up G.sa k 1 else G.sa) G.nn G.rr (G.sm (op k)) (r : Int) (if 0 < G.de k ∧ G.vw ≠ 0 ∧ (G.mi r) ≤ G.vs then G.vs - (G.mi r) else G.vs) G.vw (up (up (if 0 < G.de k ∧ G.vw ≠ 0 ∧ (G.mi r) ≤ G.vs then up G.tt 1 (G.tt 1 + (iI ((G.mi r) : Int)).toInt64) else G.tt) 3 ((if 0 < G.de k ∧ G.vw ≠ 0 ∧ (G.mi r) ≤ G.vs then up G.tt 1 (G.tt 1 + (iI ((G.mi r) : Int)).toInt64) else G.tt) 3 + 1)) 0 ((if 0 < G.de k ∧ G.vw ≠ 0 ∧ (G.mi r) ≤ G.vs then up G.tt 1 (G.tt 1 + (iI ((G.mi r) : Int)).toInt64) else G.tt) 0 + (iI (((G.mi r) * 2 : Nat) : Int)).toInt64))) Y) s H locs := hC
        refine lv_iload_n hx hb dX1_driveBy_126 rfl (lv_at hl 0 rfl) ?_
        exact c_iret X hC hr hk (by
    have em : (((G.mi r) * 2 : Nat) : Int) = dMin G r k := by unfold dMin; first | (rw [if_pos (by omega), if_pos (by omega)] <;> omega) | (rw [if_pos (by omega), if_neg (by omega)] <;> omega) | (rw [if_neg (by omega), if_pos (by omega)] <;> omega) | (rw [if_neg (by omega), if_neg (by omega)] <;> omega)
    refine ⟨em, ?_, rfl⟩
    unfold drv
    rw [← em, dTt_c _ _ _ (show ((r : Int) = G.vc) ↔ False from ⟨fun h => absurd h (by omega), fun h => h.elim⟩), ← dTt_1 G.tt (dSt G r k) (G.mi r) (((G.mi r) * 2 : Nat) : Int) _ rfl]
    rfl) dX1_driveBy_127
      · refine li_incN (lv' := [(3, .int (iI ((((G.mi r) * 2) + 2 : Nat) : Int))), (2, .int (iI (k : Int))), (0, .ref (A.a 2)), (1, .int (iI (r : Int)))]) (x := (G.mi r) * 2) (d0 := 2) hx hb dX1_driveBy_54 hl (k := 0) rfl rfl rfl (by decide) rfl (fun ls hl => ?_)
        refine lv_aload_n hx hb dX1_driveBy_57 rfl (lv_at hl 2 rfl) ?_
        refine lv_dup hx hb dX1_driveBy_58 rfl ?_
        refine agX1_turns X hC iX1 (by decide +kernel) dX1_driveBy_59 (v := G.tt 2) rfl ?_
        refine lv_lconst (v := 1) hx hb dX1_driveBy_62 rfl ?_
        refine lv_ladd hx hb dX1_driveBy_63 ?_
        refine apX1_turns X hC iX1 (by decide +kernel) dX1_driveBy_64 (fun H locs hC => ?_)
        have hC : aH A (cAdr A) (CW A (mkG G.tu G.st G.sm G.mi G.pr G.de G.sa G.nn G.rr G.vn G.vc G.vs G.vw (up G.tt 2 (G.tt 2 + 1))) Y) s H locs := hC
        refine lv_aload_n hx hb dX1_driveBy_67 rfl (lv_at hl 2 rfl) ?_
        refine lv_iload_n hx hb dX1_driveBy_68 rfl (lv_at hl 1 rfl) ?_
        refine lv_aload_n hx hb dX1_driveBy_69 rfl (lv_at hl 2 rfl) ?_
        refine agX1_town X hC iX1 (by decide +kernel) dX1_driveBy_70 ?_
        refine lv_iload_n hx hb dX1_driveBy_73 rfl (lv_at hl 3 rfl) ?_
        refine c_callix (v := ((G.mi r : Nat) : Int)) (n := 1) (As := [.int (iI (r : Int))]) (rest := [.int (iI (k : Int)), .ref (A.a 2)]) X hC (mX0_minutesOf l A (mkG G.tu G.st G.sm G.mi G.pr G.de G.sa G.nn G.rr G.vn G.vc G.vs G.vw (up G.tt 2 (G.tt 2 + 1))) Y r (show r < G.rr by omega) (show G.rr ≤ 12 by omega)) ⟨gX1_driveBy_X0_minutesOf, ⟨_, rfl⟩, rfl, rfl, ⟨by decide, by decide, by decide +kernel⟩, Nat.le_of_ble_eq_true rfl, Nat.le_of_ble_eq_true rfl⟩ (a_recv (y := yX0_minutesOf) X hC.1 (ci := 0) (q0 := 1) rfl rfl rfl) rfl hl.1 rfl (Nat.le_of_ble_eq_true rfl) ⟨Nat.zero_le _, Nat.zero_le _⟩ dX1_driveBy_74 (fun H locs hC => ?_)
        refine c_callvx (n := 2) (As := [.int (iI (k : Int)), .int (iI ((G.mi r : Nat) : Int))]) (rest := []) X hC (mX1_strewOn l A (mkG G.tu G.st G.sm G.mi G.pr G.de G.sa G.nn G.rr G.vn G.vc G.vs G.vw (up G.tt 2 (G.tt 2 + 1))) Y k (G.mi r) (show k < 2 * G.rr by omega) (show G.rr ≤ 12 by omega) (show G.de k ≤ 999 by omega) (show G.vw ≤ 1 by omega) (show G.vs ≤ 120 by omega) (show (G.mi r) ≤ 30 by omega)) ⟨gX1_driveBy_X1_strewOn, ⟨_, rfl⟩, rfl, rfl, ⟨by decide, by decide, by decide +kernel⟩, Nat.le_of_ble_eq_true rfl, Nat.le_of_ble_eq_true rfl⟩ (a_recv (y := yX1_strewOn) X hC.1 (ci := 1) (q0 := 2) rfl rfl rfl) rfl hl.1 rfl (Nat.le_of_ble_eq_true rfl) ⟨Nat.zero_le _, Nat.zero_le _⟩ dX1_driveBy_77 (fun H locs hC => ?_)
        have hC : aH A (cAdr A) (CW A (mkG G.tu G.st G.sm G.mi G.pr G.de (if 0 < G.de k ∧ G.vw ≠ 0 ∧ (G.mi r) ≤ G.vs then up G.sa k 1 else G.sa) G.nn G.rr G.vn G.vc (if 0 < G.de k ∧ G.vw ≠ 0 ∧ (G.mi r) ≤ G.vs then G.vs - (G.mi r) else G.vs) G.vw (if 0 < G.de k ∧ G.vw ≠ 0 ∧ (G.mi r) ≤ G.vs then up (up G.tt 2 (G.tt 2 + 1)) 1 ((up G.tt 2 (G.tt 2 + 1)) 1 + (iI ((G.mi r) : Int)).toInt64) else (up G.tt 2 (G.tt 2 + 1)))) Y) s H locs := hC
        refine lv_aload_n hx hb dX1_driveBy_80 rfl (lv_at hl 2 rfl) ?_
        refine agX1_town X hC iX1 (by decide +kernel) dX1_driveBy_81 ?_
        refine lv_iload_n hx hb dX1_driveBy_84 rfl (lv_at hl 1 rfl) ?_
        refine c_callvx (n := 1) (As := [.int (iI (k : Int))]) (rest := []) X hC (mX0_pushSnowFrom l A (mkG G.tu G.st G.sm G.mi G.pr G.de (if 0 < G.de k ∧ G.vw ≠ 0 ∧ (G.mi r) ≤ G.vs then up G.sa k 1 else G.sa) G.nn G.rr G.vn G.vc (if 0 < G.de k ∧ G.vw ≠ 0 ∧ (G.mi r) ≤ G.vs then G.vs - (G.mi r) else G.vs) G.vw (if 0 < G.de k ∧ G.vw ≠ 0 ∧ (G.mi r) ≤ G.vs then up (up G.tt 2 (G.tt 2 + 1)) 1 ((up G.tt 2 (G.tt 2 + 1)) 1 + (iI ((G.mi r) : Int)).toInt64) else (up G.tt 2 (G.tt 2 + 1)))) Y k (show k < 2 * G.rr by omega) (show G.rr ≤ 12 by omega) (show ∀ k, G.de k ≤ 999 from hI.de)) ⟨gX1_driveBy_X0_pushSnowFrom, ⟨_, rfl⟩, rfl, rfl, ⟨by decide, by decide, by decide +kernel⟩, Nat.le_of_ble_eq_true rfl, Nat.le_of_ble_eq_true rfl⟩ (a_recv (y := yX0_pushSnowFrom) X hC.1 (ci := 0) (q0 := 1) rfl rfl rfl) rfl hl.1 rfl (Nat.le_of_ble_eq_true rfl) ⟨Nat.zero_le _, Nat.zero_le _⟩ dX1_driveBy_85 (fun H locs hC => ?_)
        have hC : aH A (cAdr A) (CW A (mkG G.tu G.st G.sm G.mi G.pr (up (up G.de (op k) (min 999 (G.de (op k) + G.de k / 2))) k 0) (if 0 < G.de k ∧ G.vw ≠ 0 ∧ (G.mi r) ≤ G.vs then up G.sa k 1 else G.sa) G.nn G.rr G.vn G.vc (if 0 < G.de k ∧ G.vw ≠ 0 ∧ (G.mi r) ≤ G.vs then G.vs - (G.mi r) else G.vs) G.vw (if 0 < G.de k ∧ G.vw ≠ 0 ∧ (G.mi r) ≤ G.vs then up (up G.tt 2 (G.tt 2 + 1)) 1 ((up G.tt 2 (G.tt 2 + 1)) 1 + (iI ((G.mi r) : Int)).toInt64) else (up G.tt 2 (G.tt 2 + 1)))) Y) s H locs := hC
        refine lv_aload_n hx hb dX1_driveBy_88 rfl (lv_at hl 2 rfl) ?_
        refine lv_aload_n hx hb dX1_driveBy_89 rfl (lv_at hl 2 rfl) ?_
        refine agX1_town X hC iX1 (by decide +kernel) dX1_driveBy_90 ?_
        refine lv_iload_n hx hb dX1_driveBy_93 rfl (lv_at hl 1 rfl) ?_
        refine c_callix (v := ((G.sm (op k) : Nat) : Int)) (n := 1) (As := [.int (iI (k : Int))]) (rest := [.ref (A.a 2)]) X hC (mX0_endOf l A (mkG G.tu G.st G.sm G.mi G.pr (up (up G.de (op k) (min 999 (G.de (op k) + G.de k / 2))) k 0) (if 0 < G.de k ∧ G.vw ≠ 0 ∧ (G.mi r) ≤ G.vs then up G.sa k 1 else G.sa) G.nn G.rr G.vn G.vc (if 0 < G.de k ∧ G.vw ≠ 0 ∧ (G.mi r) ≤ G.vs then G.vs - (G.mi r) else G.vs) G.vw (if 0 < G.de k ∧ G.vw ≠ 0 ∧ (G.mi r) ≤ G.vs then up (up G.tt 2 (G.tt 2 + 1)) 1 ((up G.tt 2 (G.tt 2 + 1)) 1 + (iI ((G.mi r) : Int)).toInt64) else (up G.tt 2 (G.tt 2 + 1)))) Y k (show k < 2 * G.rr by omega) (show G.rr ≤ 12 by omega)) ⟨gX1_driveBy_X0_endOf, ⟨_, rfl⟩, rfl, rfl, ⟨by decide, by decide, by decide +kernel⟩, Nat.le_of_ble_eq_true rfl, Nat.le_of_ble_eq_true rfl⟩ (a_recv (y := yX0_endOf) X hC.1 (ci := 0) (q0 := 1) rfl rfl rfl) rfl hl.1 rfl (Nat.le_of_ble_eq_true rfl) ⟨Nat.zero_le _, Nat.zero_le _⟩ dX1_driveBy_94 (fun H locs hC => ?_)
        refine apX1_node X hC iX1 (by decide +kernel) dX1_driveBy_97 (x := G.sm (op k)) (by omega) (fun H locs hC => ?_)
        have hC : aH A (cAdr A) (CW A (mkG G.tu G.st G.sm G.mi G.pr (up (up G.de (op k) (min 999 (G.de (op k) + G.de k / 2))) k 0) (if 0 < G.de k ∧ G.vw ≠ 0 ∧ (G.mi r) ≤ G.vs then up G.sa k 1 else G.sa) G.nn G.rr (G.sm (op k)) G.vc (if 0 < G.de k ∧ G.vw ≠ 0 ∧ (G.mi r) ≤ G.vs then G.vs - (G.mi r) else G.vs) G.vw (if 0 < G.de k ∧ G.vw ≠ 0 ∧ (G.mi r) ≤ G.vs then up (up G.tt 2 (G.tt 2 + 1)) 1 ((up G.tt 2 (G.tt 2 + 1)) 1 + (iI ((G.mi r) : Int)).toInt64) else (up G.tt 2 (G.tt 2 + 1)))) Y) s H locs := hC
        refine lv_aload_n hx hb dX1_driveBy_100 rfl (lv_at hl 2 rfl) ?_
        refine lv_iload_n hx hb dX1_driveBy_101 rfl (lv_at hl 3 rfl) ?_
        refine apX1_cameBy X hC iX1 (by decide +kernel) dX1_driveBy_102 rfl (fun H locs hC => ?_)
        have hC : aH A (cAdr A) (CW A (mkG G.tu G.st G.sm G.mi G.pr (up (up G.de (op k) (min 999 (G.de (op k) + G.de k / 2))) k 0) (if 0 < G.de k ∧ G.vw ≠ 0 ∧ (G.mi r) ≤ G.vs then up G.sa k 1 else G.sa) G.nn G.rr (G.sm (op k)) (r : Int) (if 0 < G.de k ∧ G.vw ≠ 0 ∧ (G.mi r) ≤ G.vs then G.vs - (G.mi r) else G.vs) G.vw (if 0 < G.de k ∧ G.vw ≠ 0 ∧ (G.mi r) ≤ G.vs then up (up G.tt 2 (G.tt 2 + 1)) 1 ((up G.tt 2 (G.tt 2 + 1)) 1 + (iI ((G.mi r) : Int)).toInt64) else (up G.tt 2 (G.tt 2 + 1)))) Y) s H locs := hC
        refine lv_aload_n hx hb dX1_driveBy_105 rfl (lv_at hl 2 rfl) ?_
        refine lv_dup hx hb dX1_driveBy_106 rfl ?_
        refine agX1_roadsGone X hC iX1 (by decide +kernel) dX1_driveBy_107 (v := (if 0 < G.de k ∧ G.vw ≠ 0 ∧ (G.mi r) ≤ G.vs then up (up G.tt 2 (G.tt 2 + 1)) 1 ((up G.tt 2 (G.tt 2 + 1)) 1 + (iI ((G.mi r) : Int)).toInt64) else (up G.tt 2 (G.tt 2 + 1))) 3) rfl ?_
        refine lv_lconst (v := 1) hx hb dX1_driveBy_110 rfl ?_
        refine lv_ladd hx hb dX1_driveBy_111 ?_
        refine apX1_roadsGone X hC iX1 (by decide +kernel) dX1_driveBy_112 (fun H locs hC => ?_)
        have hC : aH A (cAdr A) (CW A (mkG G.tu G.st G.sm G.mi G.pr (up (up G.de (op k) (min 999 (G.de (op k) + G.de k / 2))) k 0) (if 0 < G.de k ∧ G.vw ≠ 0 ∧ (G.mi r) ≤ G.vs then up G.sa k 1 else G.sa) G.nn G.rr (G.sm (op k)) (r : Int) (if 0 < G.de k ∧ G.vw ≠ 0 ∧ (G.mi r) ≤ G.vs then G.vs - (G.mi r) else G.vs) G.vw (up (if 0 < G.de k ∧ G.vw ≠ 0 ∧ (G.mi r) ≤ G.vs then up (up G.tt 2 (G.tt 2 + 1)) 1 ((up G.tt 2 (G.tt 2 + 1)) 1 + (iI ((G.mi r) : Int)).toInt64) else (up G.tt 2 (G.tt 2 + 1))) 3 ((if 0 < G.de k ∧ G.vw ≠ 0 ∧ (G.mi r) ≤ G.vs then up (up G.tt 2 (G.tt 2 + 1)) 1 ((up G.tt 2 (G.tt 2 + 1)) 1 + (iI ((G.mi r) : Int)).toInt64) else (up G.tt 2 (G.tt 2 + 1))) 3 + 1))) Y) s H locs := hC
        refine lv_aload_n hx hb dX1_driveBy_115 rfl (lv_at hl 2 rfl) ?_
        refine lv_dup hx hb dX1_driveBy_116 rfl ?_
        refine agX1_minutesSpent X hC iX1 (by decide +kernel) dX1_driveBy_117 (v := (if 0 < G.de k ∧ G.vw ≠ 0 ∧ (G.mi r) ≤ G.vs then up (up G.tt 2 (G.tt 2 + 1)) 1 ((up G.tt 2 (G.tt 2 + 1)) 1 + (iI ((G.mi r) : Int)).toInt64) else (up G.tt 2 (G.tt 2 + 1))) 0) rfl ?_
        refine lv_iload_n hx hb dX1_driveBy_120 rfl (lv_at hl 0 rfl) ?_
        refine lv_i2l hx hb dX1_driveBy_121 rfl ?_
        refine lv_ladd hx hb dX1_driveBy_122 ?_
        refine apX1_minutesSpent X hC iX1 (by decide +kernel) dX1_driveBy_123 (fun H locs hC => ?_)
        have hC : aH A (cAdr A) (CW A (mkG G.tu G.st G.sm G.mi G.pr (up (up G.de (op k) (min 999 (G.de (op k) + G.de k / 2))) k 0) (if 0 < G.de k ∧ G.vw ≠ 0 ∧ (G.mi r) ≤ G.vs then up G.sa k 1 else G.sa) G.nn G.rr (G.sm (op k)) (r : Int) (if 0 < G.de k ∧ G.vw ≠ 0 ∧ (G.mi r) ≤ G.vs then G.vs - (G.mi r) else G.vs) G.vw (up (up (if 0 < G.de k ∧ G.vw ≠ 0 ∧ (G.mi r) ≤ G.vs then up (up G.tt 2 (G.tt 2 + 1)) 1 ((up G.tt 2 (G.tt 2 + 1)) 1 + (iI ((G.mi r) : Int)).toInt64) else (up G.tt 2 (G.tt 2 + 1))) 3 ((if 0 < G.de k ∧ G.vw ≠ 0 ∧ (G.mi r) ≤ G.vs then up (up G.tt 2 (G.tt 2 + 1)) 1 ((up G.tt 2 (G.tt 2 + 1)) 1 + (iI ((G.mi r) : Int)).toInt64) else (up G.tt 2 (G.tt 2 + 1))) 3 + 1)) 0 ((if 0 < G.de k ∧ G.vw ≠ 0 ∧ (G.mi r) ≤ G.vs then up (up G.tt 2 (G.tt 2 + 1)) 1 ((up G.tt 2 (G.tt 2 + 1)) 1 + (iI ((G.mi r) : Int)).toInt64) else (up G.tt 2 (G.tt 2 + 1))) 0 + (iI ((((G.mi r) * 2) + 2 : Nat) : Int)).toInt64))) Y) s H locs := hC
        refine lv_iload_n hx hb dX1_driveBy_126 rfl (lv_at hl 0 rfl) ?_
        exact c_iret X hC hr hk (by
    have em : ((((G.mi r) * 2) + 2 : Nat) : Int) = dMin G r k := by unfold dMin; first | (rw [if_pos (by omega), if_pos (by omega)] <;> omega) | (rw [if_pos (by omega), if_neg (by omega)] <;> omega) | (rw [if_neg (by omega), if_pos (by omega)] <;> omega) | (rw [if_neg (by omega), if_neg (by omega)] <;> omega)
    refine ⟨em, ?_, rfl⟩
    unfold drv
    rw [← em, dTt_c _ _ _ (show ((r : Int) = G.vc) ↔ True from ⟨fun _ => trivial, fun _ => by omega⟩), ← dTt_2 G.tt (dSt G r k) (G.mi r) ((((G.mi r) * 2) + 2 : Nat) : Int) _ rfl]
    rfl) dX1_driveBy_127
  · omega
