/-! 30: the class: clearing -/
set_option maxHeartbeats 4000000 in
set_option maxRecDepth 100000 in
theorem mX3_clear (l : Launch) (hl0 : l.stackTraces = false) (A : AD) (G : GS) (Y : YS) (z : Int) (hI : Inv G) (hY : YI Y) (hz : -2147483648 ≤ z ∧ z < 2147483648) : cXi l yX3_clear wsX3_clear ({ frames := 6, cells := 1, slots := 6, locals := 134 }) A [.ref (A.a 0), .int (iI z)] G Y (xKJ (if 0 ≤ z ∧ z ≤ 300 then 0 else 1) (clr z z.toNat ((0 : Int), G)).1 (clr z z.toNat ((0 : Int), G)).2) (xK1 xIAE (if 0 ≤ z ∧ z ≤ 300 then 0 else 1) G Y) 1 6 := by
  intro sz
  refine x_start (cc := cX3_clear) (maxL := 6) (ret := (some .int)) hl0 (by decide) rfl rfl ?_
  intro p e s m args below meth c XX hr hk hsz ls hl H locs hC
  have X := XX.1
  subst hsz
  obtain ⟨hx, hb, hml, hown, hts⟩ := id X.1
  have hl : lv_has ls 6 [(0, .ref (A.a 0)), (1, .int (iI z))] := hl
  have iX3 : ∀ w ∈ u_ws RX3 TX3 3, w ∈ wsX3_clear := by decide +kernel
  have hrr := hI.rr
  refine lv_iload_n hx hb dX3_clear_0 rfl (lv_at hl 1 rfl) ?_
  refine li_if_lt (tgt := 11) hx hb dX3_clear_1 (by decide) (by omega) (fun c_1 => ?_) (fun c_1 => ?_)
  · exact x_throw (cls := xIAE) (text := "limit is not 0 to 300") (ik := 60) (is := 168) (ic := 64) XX hC hk hl.1 (by decide +kernel) rfl (by decide +kernel) (by decide +kernel) (by decide +kernel) xw_2 xg_2 (by decide +kernel) dX3_clear_11 dX3_clear_14 dX3_clear_15 dX3_clear_17 dX3_clear_20 (Nat.le_of_ble_eq_true rfl) (Nat.le_of_ble_eq_true rfl) (Nat.le_of_ble_eq_true rfl) (Nat.le_of_ble_eq_true rfl) ⟨Nat.le_of_ble_eq_true rfl, Nat.le_of_ble_eq_true rfl⟩ (⟨⟨rfl, if_neg (by omega)⟩, rfl, rfl⟩)
  · refine lv_iload_n hx hb dX3_clear_4 rfl (lv_at hl 1 rfl) ?_
    refine li_si hx hb dX3_clear_5 (by decide) ?_
    refine li_icmp_le (tgt := 21) hx hb dX3_clear_8 (by decide) (by omega) (fun c_8 => ?_) (fun c_8 => ?_)
    · refine li_c hx hb dX3_clear_21 ?_
      refine lv_istore_n (lv' := [(2, .int (iI 0)), (0, .ref (A.a 0)), (1, .int (iI z))]) hx hb dX3_clear_22 rfl hl (by decide) rfl (fun ls hl => ?_)
      refine lv_aload_n hx hb dX3_clear_23 rfl (lv_at hl 1 rfl) ?_
      refine c_callix (v := (fnb G (lka G Y) (2 * G.rr))) (n := 0) (As := []) (rest := []) X hC (mX3_findNextSide l A G Y  hI (show YI Y from hY)) ⟨gX3_clear_X3_findNextSide, ⟨_, rfl⟩, rfl, rfl, ⟨by decide, by decide, by decide +kernel⟩, Nat.le_of_ble_eq_true rfl, Nat.le_of_ble_eq_true rfl⟩ (a_recv (y := yX3_findNextSide) X hC.1 (ci := 3) (q0 := 0) rfl rfl rfl) rfl hl.1 rfl (Nat.le_of_ble_eq_true rfl) ⟨Nat.le_of_ble_eq_true rfl, Nat.le_of_ble_eq_true rfl⟩ dX3_clear_24 (fun H locs hC => ?_)
      rw [show (fnb G (lka G Y) (2 * G.rr)) = (nxt G) from fnb_S hI hY _ (Nat.le_refl _)]
      refine lv_istore_n (lv' := [(3, .int (iI (nxt G))), (2, .int (iI 0)), (0, .ref (A.a 0)), (1, .int (iI z))]) hx hb dX3_clear_27 rfl hl (by decide) rfl (fun ls hl => ?_)
      refine li_c hx hb dX3_clear_28 ?_
      refine lv_istore (lv' := [(4, .int (iI 0)), (3, .int (iI (nxt G))), (2, .int (iI 0)), (0, .ref (A.a 0)), (1, .int (iI z))]) hx hb dX3_clear_29 hl (by decide) rfl (fun ls hl => ?_)
      have loop_31 : ∀ (n : Nat) (p9 : Int × GS) (y9 : YS) (i : Nat) (hn : z.toNat - i < n) (hP : Inv p9.2) (hcl : clr z z.toNat ((0 : Int), G) = clr z (z.toNat - i) p9) (hp0 : 0 ≤ p9.1) (hp4 : p9.1 ≤ 4000) (hyy : ∃ y0, YI y0 ∧ y9 = lka p9.2 y0) (hi300 : i ≤ 300) (H : Heap) (locs : List Loc) (hC : aH A (cAdr A) (CW A p9.2 y9) s H locs) (ls : Array Slot) (hl : lv_has ls 6 [(1, .int (iI z)), (2, .int (iI p9.1)), (3, .int (iI (nxt p9.2))), (4, .int (iI (i : Int))), (0, .ref (A.a 0))]), W p l e ({ frames := 6, cells := 1, slots := 6, locals := 134 }) s m args below meth c H locs 0 0 (xQi below A args s (xKJ (if 0 ≤ z ∧ z ≤ 300 then 0 else 1) (clr z z.toNat ((0 : Int), G)).1 (clr z z.toNat ((0 : Int), G)).2) (xK1 xIAE (if 0 ≤ z ∧ z ≤ 300 then 0 else 1) G Y) 1 6) (F0 m 31 ls []) := by
        intro n
        induction n with
        | zero => intro p9 y9 i hn; exact absurd hn (Nat.not_lt_zero _)
        | succ n ih_31 =>
          intro p9 y9 i hn hP hcl hp0 hp4 hyy hi300 H locs hC ls hl
          obtain ⟨y0, hy0, hy1⟩ := hyy
          have hy9 : YI y9 := by rw [hy1]; exact lka_YI hP hy0
          have hpr := hP.rr
          have hnr := fnS_rng p9.2 (2 * p9.2.rr)
          have hnd : nxt p9.2 = fnS p9.2 (2 * p9.2.rr) := rfl
          have hso := nsS_rng p9.2 p9.2.nn
          have hsd : sto p9.2 = nsS p9.2 p9.2.nn := rfl
          have hnn9 := hP.nn
          refine lv_iload hx hb dX3_clear_31 (lv_at hl 3 rfl) ?_
          refine lv_iload_n hx hb dX3_clear_33 rfl (lv_at hl 0 rfl) ?_
          refine li_icmp_ge (tgt := 105) hx hb dX3_clear_34 (by decide) (by omega) (fun c_34 => ?_) (fun c_34 => ?_)
          · refine lv_iload_n hx hb dX3_clear_105 rfl (lv_at hl 1 rfl) ?_
            exact x_iret XX hC hr hk ⟨Nat.le_of_ble_eq_true rfl, Nat.le_of_ble_eq_true rfl⟩ (by rw [hcl, show clr z (z.toNat - i) p9 = p9 by first | (rw [show z.toNat - i = 0 by omega]; rfl) | exact clr_end (fun hq => hq.2 c_44) _ | exact clr_end (fun hq => absurd hq.1 (by omega)) _]; exact ⟨if_pos (by omega), rfl, rfl, hy9⟩) dX3_clear_106
          · refine lv_iload_n hx hb dX3_clear_37 rfl (lv_at hl 1 rfl) ?_
            refine lv_iload_n hx hb dX3_clear_38 rfl (lv_at hl 0 rfl) ?_
            refine li_icmp_ge (tgt := 105) hx hb dX3_clear_39 (by decide) (by omega) (fun c_39 => ?_) (fun c_39 => ?_)
            · refine lv_iload_n hx hb dX3_clear_105 rfl (lv_at hl 1 rfl) ?_
              exact x_iret XX hC hr hk ⟨Nat.le_of_ble_eq_true rfl, Nat.le_of_ble_eq_true rfl⟩ (by rw [hcl, show clr z (z.toNat - i) p9 = p9 by first | (rw [show z.toNat - i = 0 by omega]; rfl) | exact clr_end (fun hq => hq.2 c_44) _ | exact clr_end (fun hq => absurd hq.1 (by omega)) _]; exact ⟨if_pos (by omega), rfl, rfl, hy9⟩) dX3_clear_106
            · refine lv_iload_n hx hb dX3_clear_42 rfl (lv_at hl 2 rfl) ?_
              refine li_c hx hb dX3_clear_43 ?_
              refine li_icmp_eq (tgt := 105) hx hb dX3_clear_44 (by decide) (by omega) (fun c_44 => ?_) (fun c_44 => ?_)
              · refine lv_iload_n hx hb dX3_clear_105 rfl (lv_at hl 1 rfl) ?_
                exact x_iret XX hC hr hk ⟨Nat.le_of_ble_eq_true rfl, Nat.le_of_ble_eq_true rfl⟩ (by rw [hcl, show clr z (z.toNat - i) p9 = p9 by first | (rw [show z.toNat - i = 0 by omega]; rfl) | exact clr_end (fun hq => hq.2 c_44) _ | exact clr_end (fun hq => absurd hq.1 (by omega)) _]; exact ⟨if_pos (by omega), rfl, rfl, hy9⟩) dX3_clear_106
              · have join_86 : ∀ (q9 : Int × GS) (y8 : YS) (hqe : cF9 p9 = q9) (hyz : ∃ y0, YI y0 ∧ y8 = lka q9.2 y0) (H : Heap) (locs : List Loc) (hC : aH A (cAdr A) (CW A q9.2 y8) s H locs) (ls : Array Slot) (hl : lv_has ls 6 [(1, .int (iI z)), (2, .int (iI q9.1)), (3, .int (iI (nxt q9.2))), (4, .int (iI (i : Int))), (0, .ref (A.a 0))]), W p l e ({ frames := 6, cells := 1, slots := 6, locals := 134 }) s m args below meth c H locs 0 0 (xQi below A args s (xKJ (if 0 ≤ z ∧ z ≤ 300 then 0 else 1) (clr z z.toNat ((0 : Int), G)).1 (clr z z.toNat ((0 : Int), G)).2) (xK1 xIAE (if 0 ≤ z ∧ z ≤ 300 then 0 else 1) G Y) 1 6) (F0 m 86 ls []) := by
                  intro q9 y8 hqe hyz H locs hC ls hl
                  have hQ := cF_ok hP
                  rw [hqe] at hQ
                  obtain ⟨hQ1, hQ2⟩ := hQ
                  have hQ3 : p9.1 ≤ q9.1 ∧ q9.1 ≤ p9.1 + 1492 := by rcases hQ2 with hQ2 | hQ2; rw [hQ2]; omega; omega
                  obtain ⟨y0, hy0, hy1⟩ := hyz
                  have hy8 : YI y8 := by rw [hy1]; exact lka_YI hQ1 hy0
                  have hqr := hQ1.rr
                  have hnr2 := fnS_rng q9.2 (2 * q9.2.rr)
                  have hnd2 : nxt q9.2 = fnS q9.2 (2 * q9.2.rr) := rfl
                  have hn2 := wDs_ok hQ1
                  have hn4 := flM_rng _ _ hQ1 hn2.1
                  refine lv_iload_n hx hb dX3_clear_86 rfl (lv_at hl 1 rfl) ?_
                  refine lv_aload_n hx hb dX3_clear_87 rfl (lv_at hl 4 rfl) ?_
                  refine lv_iload_n hx hb dX3_clear_88 rfl (lv_at hl 2 rfl) ?_
                  refine c_callix (v := (flM q9.2 (wDs q9.2))) (n := 1) (As := [.int (iI (nxt q9.2))]) (rest := [.int (iI q9.1)]) X hC (mX3_followWayTo l A q9.2 y8 (nxt q9.2) (wDs q9.2) hQ1 (show YI y8 from hy8) (show -1 ≤ (nxt q9.2) ∧ (nxt q9.2) < ((2 * q9.2.rr : Nat) : Int) by omega) (show isW q9.2 q9.2.vn q9.2.vc (wDs q9.2) from hn2.1) (show rowW y8 (nxt q9.2) (wDs q9.2) from (by rw [hy1]; exact wDs_row hQ1 hy0))) ⟨gX3_clear_X3_followWayTo, ⟨_, rfl⟩, rfl, rfl, ⟨by decide, by decide, by decide +kernel⟩, Nat.le_of_ble_eq_true rfl, Nat.le_of_ble_eq_true rfl⟩ (a_recv (y := yX3_followWayTo) X hC.1 (ci := 3) (q0 := 0) rfl rfl rfl) rfl hl.1 rfl (Nat.le_of_ble_eq_true rfl) ⟨Nat.le_of_ble_eq_true rfl, Nat.le_of_ble_eq_true rfl⟩ dX3_clear_89 (fun H locs hC => ?_)
                  refine li_add hx hb dX3_clear_92 ?_
                  refine lv_istore_n (lv' := [(2, .int (iI (q9.1 + (flM q9.2 (wDs q9.2))))), (1, .int (iI z)), (3, .int (iI (nxt q9.2))), (4, .int (iI (i : Int))), (0, .ref (A.a 0))]) hx hb dX3_clear_93 rfl hl (by decide) rfl (fun ls hl => ?_)
                  refine lv_aload_n hx hb dX3_clear_94 rfl (lv_at hl 4 rfl) ?_
                  refine c_callix (v := (fnb (flG q9.2 (wDs q9.2)) (lka (flG q9.2 (wDs q9.2)) y8) (2 * (flG q9.2 (wDs q9.2)).rr))) (n := 0) (As := []) (rest := []) X hC (mX3_findNextSide l A (flG q9.2 (wDs q9.2)) y8  (fl_Inv _ _ hQ1 hn2.1).1 (show YI y8 from hy8)) ⟨gX3_clear_X3_findNextSide, ⟨_, rfl⟩, rfl, rfl, ⟨by decide, by decide, by decide +kernel⟩, Nat.le_of_ble_eq_true rfl, Nat.le_of_ble_eq_true rfl⟩ (a_recv (y := yX3_findNextSide) X hC.1 (ci := 3) (q0 := 0) rfl rfl rfl) rfl hl.1 rfl (Nat.le_of_ble_eq_true rfl) ⟨Nat.le_of_ble_eq_true rfl, Nat.le_of_ble_eq_true rfl⟩ dX3_clear_95 (fun H locs hC => ?_)
                  rw [show (fnb (flG q9.2 (wDs q9.2)) (lka (flG q9.2 (wDs q9.2)) y8) (2 * (flG q9.2 (wDs q9.2)).rr)) = (nxt (flG q9.2 (wDs q9.2))) from fnb_S (fl_Inv _ _ hQ1 hn2.1).1 hy8 _ (Nat.le_refl _)]
                  refine lv_istore_n (lv' := [(3, .int (iI (nxt (flG q9.2 (wDs q9.2))))), (2, .int (iI (q9.1 + (flM q9.2 (wDs q9.2))))), (1, .int (iI z)), (4, .int (iI (i : Int))), (0, .ref (A.a 0))]) hx hb dX3_clear_98 rfl hl (by decide) rfl (fun ls hl => ?_)
                  refine li_incN (lv' := [(4, .int (iI ((i + 1 : Nat) : Int))), (3, .int (iI (nxt (flG q9.2 (wDs q9.2))))), (2, .int (iI (q9.1 + (flM q9.2 (wDs q9.2))))), (1, .int (iI z)), (0, .ref (A.a 0))]) (x := i) (d0 := 1) hx hb dX3_clear_99 hl (k := 3) rfl rfl rfl (by decide) rfl (fun ls hl => ?_)
                  refine lv_goto (tgt := 31) hx hb dX3_clear_102 (by decide) ?_
                  exact ih_31 (q9.1 + flM q9.2 (wDs q9.2), flG q9.2 (wDs q9.2)) (lka (flG q9.2 (wDs q9.2)) y8) (i + 1) (by omega) ((fl_Inv _ _ hQ1 hn2.1).1) (by rw [hcl, show z.toNat - i = (z.toNat - (i + 1)) + 1 by omega, clr_s, if_pos ⟨by omega, c_44⟩, hqe, cD9_w]) (by show 0 ≤ q9.1 + flM q9.2 (wDs q9.2); omega) (by show q9.1 + flM q9.2 (wDs q9.2) ≤ 4000; omega) (⟨y8, hy8, rfl⟩) (by omega) H locs hC ls (lv_sub hl [3, 2, 1, 0, 4] rfl)
                refine lv_aload_n hx hb dX3_clear_47 rfl (lv_at hl 4 rfl) ?_
                refine agX3_vehicle X hC iX3 (by decide +kernel) dX3_clear_48 ?_
                refine lv_iload_n hx hb dX3_clear_51 rfl (lv_at hl 2 rfl) ?_
                refine li_cast0 (z' := ((((nxt p9.2).toNat) : Nat) : Int)) hx hb (by omega) ?_
                refine li_c hx hb dX3_clear_52 ?_
                refine li_divN (x := (nxt p9.2).toNat) (y := 2) hx hb dX3_clear_53 rfl rfl (by omega) ?_
                refine c_callix (v := bP (p9.2.vw ≠ 0 ∧ p9.2.vs < p9.2.mi (((nxt p9.2).toNat) / 2))) (n := 1) (As := [.int (iI ((((nxt p9.2).toNat) / 2 : Nat) : Int))]) (rest := []) X hC (mX1_lacksSaltFor l A p9.2 y9 (((nxt p9.2).toNat) / 2) hP (show (((nxt p9.2).toNat) / 2) < p9.2.rr by omega)) ⟨gX3_clear_X1_lacksSaltFor, ⟨_, rfl⟩, rfl, rfl, ⟨by decide, by decide, by decide +kernel⟩, Nat.le_of_ble_eq_true rfl, Nat.le_of_ble_eq_true rfl⟩ (a_recv (y := yX1_lacksSaltFor) X hC.1 (ci := 1) (q0 := 2) rfl rfl rfl) rfl hl.1 rfl (Nat.le_of_ble_eq_true rfl) ⟨Nat.le_of_ble_eq_true rfl, Nat.le_of_ble_eq_true rfl⟩ dX3_clear_54 (fun H locs hC => ?_)
                refine li_ifb_eq (tgt := 86) hx hb dX3_clear_57 (by decide) (fun c_57 => ?_) (fun c_57 => ?_)
                · exact join_86 p9 y9 (by unfold cF9; exact if_neg (fun hq => c_57 hq.1)) (⟨y0, hy0, hy1⟩) H locs hC ls (lv_sub hl [0, 1, 2, 3, 4] rfl)
                · refine lv_aload_n hx hb dX3_clear_60 rfl (lv_at hl 4 rfl) ?_
                  refine c_callix (v := (nsb p9.2 y9 p9.2.nn)) (n := 0) (As := []) (rest := []) X hC (mX3_nearestStore l A p9.2 y9  hP (show YI y9 from hy9)) ⟨gX3_clear_X3_nearestStore, ⟨_, rfl⟩, rfl, rfl, ⟨by decide, by decide, by decide +kernel⟩, Nat.le_of_ble_eq_true rfl, Nat.le_of_ble_eq_true rfl⟩ (a_recv (y := yX3_nearestStore) X hC.1 (ci := 3) (q0 := 0) rfl rfl rfl) rfl hl.1 rfl (Nat.le_of_ble_eq_true rfl) ⟨Nat.le_of_ble_eq_true rfl, Nat.le_of_ble_eq_true rfl⟩ dX3_clear_61 (fun H locs hC => ?_)
                  rw [show (nsb p9.2 y9 p9.2.nn) = (sto p9.2) from (by rw [hy1]; exact nsb_S hP hy0 _)]
                  refine lv_istore (lv' := [(5, .int (iI (sto p9.2))), (1, .int (iI z)), (2, .int (iI p9.1)), (3, .int (iI (nxt p9.2))), (4, .int (iI (i : Int))), (0, .ref (A.a 0))]) hx hb dX3_clear_64 hl (by decide) rfl (fun ls hl => ?_)
                  refine lv_iload hx hb dX3_clear_66 (lv_at hl 0 rfl) ?_
                  refine li_c hx hb dX3_clear_68 ?_
                  refine li_icmp_eq (tgt := 86) hx hb dX3_clear_69 (by decide) (by omega) (fun c_69 => ?_) (fun c_69 => ?_)
                  · exact join_86 p9 y9 (by unfold cF9; exact if_neg (fun hq => hq.2 c_69)) (⟨y0, hy0, hy1⟩) H locs hC ls (lv_sub hl [1, 2, 3, 4, 5] rfl)
                  · obtain ⟨hs1, hs2, hs3⟩ := sto_ok hP c_69
                    have hs4 := flM_rng _ _ hP hs2.1
                    have hs5 := (fl_Inv _ _ hP hs2.1).1
                    have hs6 := hs5.vs
                    refine lv_iload_n hx hb dX3_clear_72 rfl (lv_at hl 2 rfl) ?_
                    refine lv_aload_n hx hb dX3_clear_73 rfl (lv_at hl 5 rfl) ?_
                    refine lv_iload hx hb dX3_clear_74 (lv_at hl 0 rfl) ?_
                    refine li_cast0 (z' := ((((sto p9.2)).toNat : Nat) : Int)) hx hb (by omega) ?_
                    refine c_callix (v := (flM p9.2 (spW p9.2 (sto p9.2) (-1)) + 4)) (n := 1) (As := [.int (iI ((((sto p9.2)).toNat : Nat) : Int))]) (rest := [.int (iI p9.1)]) X hC (mX3_fillUpAt l A p9.2 y9 (((sto p9.2)).toNat) (spW p9.2 (sto p9.2) (-1)) hP (show YI y9 from hy9) (show (((sto p9.2)).toNat) < p9.2.nn by omega) (show isW p9.2 p9.2.vn p9.2.vc (spW p9.2 (sto p9.2) (-1)) from hs2.1) (show rowW y9 (lstZ p9.2 y9 (((sto p9.2)).toNat)) (spW p9.2 (sto p9.2) (-1)) from (by rw [hy1]; exact sto_row hP hy0 c_69))) ⟨gX3_clear_X3_fillUpAt, ⟨_, rfl⟩, rfl, rfl, ⟨by decide, by decide, by decide +kernel⟩, Nat.le_of_ble_eq_true rfl, Nat.le_of_ble_eq_true rfl⟩ (a_recv (y := yX3_fillUpAt) X hC.1 (ci := 3) (q0 := 0) rfl rfl rfl) rfl hl.1 rfl (Nat.le_of_ble_eq_true rfl) ⟨Nat.le_of_ble_eq_true rfl, Nat.le_of_ble_eq_true rfl⟩ dX3_clear_76 (fun H locs hC => ?_)
                    refine li_add hx hb dX3_clear_79 ?_
                    refine lv_istore_n (lv' := [(2, .int (iI (p9.1 + (flM p9.2 (spW p9.2 (sto p9.2) (-1)) + 4)))), (5, .int (iI (sto p9.2))), (1, .int (iI z)), (3, .int (iI (nxt p9.2))), (4, .int (iI (i : Int))), (0, .ref (A.a 0))]) hx hb dX3_clear_80 rfl hl (by decide) rfl (fun ls hl => ?_)
                    refine lv_aload_n hx hb dX3_clear_81 rfl (lv_at hl 5 rfl) ?_
                    refine c_callix (v := (fnb (tks (flG p9.2 (spW p9.2 (sto p9.2) (-1)))) (lka (tks (flG p9.2 (spW p9.2 (sto p9.2) (-1)))) y9) (2 * (tks (flG p9.2 (spW p9.2 (sto p9.2) (-1)))).rr))) (n := 0) (As := []) (rest := []) X hC (mX3_findNextSide l A (tks (flG p9.2 (spW p9.2 (sto p9.2) (-1)))) y9  (tks_Inv hs5) (show YI y9 from hy9)) ⟨gX3_clear_X3_findNextSide, ⟨_, rfl⟩, rfl, rfl, ⟨by decide, by decide, by decide +kernel⟩, Nat.le_of_ble_eq_true rfl, Nat.le_of_ble_eq_true rfl⟩ (a_recv (y := yX3_findNextSide) X hC.1 (ci := 3) (q0 := 0) rfl rfl rfl) rfl hl.1 rfl (Nat.le_of_ble_eq_true rfl) ⟨Nat.le_of_ble_eq_true rfl, Nat.le_of_ble_eq_true rfl⟩ dX3_clear_82 (fun H locs hC => ?_)
                    rw [show (fnb (tks (flG p9.2 (spW p9.2 (sto p9.2) (-1)))) (lka (tks (flG p9.2 (spW p9.2 (sto p9.2) (-1)))) y9) (2 * (tks (flG p9.2 (spW p9.2 (sto p9.2) (-1)))).rr)) = (nxt (tks (flG p9.2 (spW p9.2 (sto p9.2) (-1))))) from fnb_S (tks_Inv hs5) hy9 _ (Nat.le_refl _)]
                    refine lv_istore_n (lv' := [(3, .int (iI (nxt (tks (flG p9.2 (spW p9.2 (sto p9.2) (-1))))))), (2, .int (iI (p9.1 + (flM p9.2 (spW p9.2 (sto p9.2) (-1)) + 4)))), (5, .int (iI (sto p9.2))), (1, .int (iI z)), (4, .int (iI (i : Int))), (0, .ref (A.a 0))]) hx hb dX3_clear_85 rfl hl (by decide) rfl (fun ls hl => ?_)
                    exact join_86 (p9.1 + (flM p9.2 (spW p9.2 (sto p9.2) (-1)) + 4), tks (flG p9.2 (spW p9.2 (sto p9.2) (-1)))) (lka (tks (flG p9.2 (spW p9.2 (sto p9.2) (-1)))) y9) (by unfold cF9; exact if_pos ⟨c_57, c_69⟩) (⟨y9, hy9, rfl⟩) H locs hC ls (lv_sub hl [3, 1, 0, 4, 5] rfl)
      exact loop_31 (z.toNat + 1) ((0 : Int), G) (lka G Y) 0 (Nat.lt_succ_self _) (hI) (rfl) (Int.le_refl _) (by show (0 : Int) ≤ 4000; omega) (⟨Y, hY, rfl⟩) (by omega) H locs hC ls (lv_sub hl [4, 2, 1, 0, 3] rfl)
    · exact x_throw (cls := xIAE) (text := "limit is not 0 to 300") (ik := 60) (is := 168) (ic := 64) XX hC hk hl.1 (by decide +kernel) rfl (by decide +kernel) (by decide +kernel) (by decide +kernel) xw_2 xg_2 (by decide +kernel) dX3_clear_11 dX3_clear_14 dX3_clear_15 dX3_clear_17 dX3_clear_20 (Nat.le_of_ble_eq_true rfl) (Nat.le_of_ble_eq_true rfl) (Nat.le_of_ble_eq_true rfl) (Nat.le_of_ble_eq_true rfl) ⟨Nat.le_of_ble_eq_true rfl, Nat.le_of_ble_eq_true rfl⟩ (⟨⟨rfl, if_neg (by omega)⟩, rfl, rfl⟩)
