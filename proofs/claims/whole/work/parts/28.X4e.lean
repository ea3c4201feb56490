/-! 28: the reference: following, clearing -/
set_option maxHeartbeats 4000000 in
set_option maxRecDepth 100000 in
theorem mX4_follow (l : Launch) (A : AD) (G : GS) (Z : ZS) (gz : Int) (k : Int) (w : List Nat) (hI : Inv G) (hgz : -1 ≤ gz ∧ gz < 8) (hks : -1 ≤ k ∧ k < 24) (hnk : k = -1 ∨ gz = -1) (hB : BW G gz k G.vn G.vc w) (hlw : w.length ≤ 24) : dMi l yX4_follow wsX4_follow ({ frames := 3, cells := 0, slots := 0, locals := 75 }) A [.ref (A.a 0), .int (iI gz), .int (iI k)] G Z ((fun z9 g9 t9 => z9 = (flM G w) ∧ g9 = (flG G w) ∧ (t9.th = Z.th))) := by
  intro sz
  refine c_start (cc := cX4_follow) (maxL := 6) (ret := (some .int)) (by decide) rfl rfl ?_
  intro p e s m args below meth c X hr hk hnm hsz ls hl H locs hC
  subst hsz
  obtain ⟨hx, hb, hml, hown, hts⟩ := id X.1
  have hl : lv_has ls 6 [(0, .ref (A.a 0)), (1, .int (iI gz)), (2, .int (iI k))] := hl
  have iX4 : ∀ w ∈ u_ws RX4 TX4 18, w ∈ wsX4_follow := by decide +kernel
  have hrr := hI.rr
  refine lv_aload_n hx hb dX4_follow_0 rfl (lv_at hl 0 rfl) ?_
  refine lv_iload_n hx hb dX4_follow_1 rfl (lv_at hl 1 rfl) ?_
  refine lv_iload_n hx hb dX4_follow_2 rfl (lv_at hl 2 rfl) ?_
  refine d_callv (n := 2) (As := [.int (iI gz), .int (iI k)]) (rest := []) X hC (mX4_weigh l A G Z gz k hI (show -1 ≤ gz ∧ gz < 8 by omega) (show -1 ≤ k ∧ k < 24 by omega)) ⟨gX4_follow_X4_weigh, ⟨_, rfl⟩, rfl, rfl, ⟨by decide, by decide, by decide +kernel⟩, Nat.le_of_ble_eq_true rfl, Nat.le_of_ble_eq_true rfl⟩ (a_recv (y := yX4_weigh) X hC.1 (ci := 4) (q0 := 0) rfl rfl rfl) rfl hl.1 rfl (Nat.le_of_ble_eq_true rfl) ⟨Nat.le_of_ble_eq_true rfl, Nat.le_of_ble_eq_true rfl⟩ dX4_follow_3 (fun Gq3 Tq3 H locs hqq3 hC => ?_)
  obtain ⟨hgq3, thq3, gnq3, gsq3, okq3⟩ := hqq3
  have thq3 : Tq3.th = Z.th := thq3
  have gnq3 : Tq3.gn = gz := gnq3
  have gsq3 : Tq3.gs = k := gsq3
  have okq3 : WOK G gz k Tq3.wt := okq3
  rw [hgq3] at hC
  refine li_c hx hb dX4_follow_6 ?_
  refine lv_istore_n (lv' := [(3, .int (iI 0)), (0, .ref (A.a 0)), (1, .int (iI gz)), (2, .int (iI k))]) hx hb dX4_follow_7 rfl hl (by decide) rfl (fun ls hl => ?_)
  have hnx0 := nx_at hI (by omega) okq3 (sameTown.refl G) hI hB hlw
  refine lv_aload_n hx hb dX4_follow_8 rfl (lv_at hl 1 rfl) ?_
  refine d_callix (v := (if Tq3.wt (wI G.vn G.vc) = 0 ∨ Tq3.wt (wI G.vn G.vc) = 1000000000 then -1 else (((hd1 w).toNat) : Int))) (n := 0) (As := []) (rest := []) X hC (mX4_nextRoad l A G Tq3 ((hd1 w).toNat) hI (show ∀ j, j < 104 → Tq3.wt j ≤ 1000000000 from okq3.1.1) (show -1 ≤ Tq3.gs ∧ Tq3.gs < 24 by rw [gsq3]; omega) (show Tq3.wt (wI G.vn G.vc) = 0 ∨ Tq3.wt (wI G.vn G.vc) = 1000000000 ∨ (((hd1 w).toNat) < G.rr ∧ wBy G Tq3.wt Tq3.gs ((hd1 w).toNat) G.vn G.vc = Tq3.wt (wI G.vn G.vc) ∧ ∀ j, j < ((hd1 w).toNat) → wBy G Tq3.wt Tq3.gs j G.vn G.vc ≠ Tq3.wt (wI G.vn G.vc)) by rw [gsq3]; exact hnx0.1)) ⟨gX4_follow_X4_nextRoad, ⟨_, rfl⟩, rfl, rfl, ⟨by decide, by decide, by decide +kernel⟩, Nat.le_of_ble_eq_true rfl, Nat.le_of_ble_eq_true rfl⟩ (a_recv (y := yX4_nextRoad) X hC.1 (ci := 4) (q0 := 0) rfl rfl rfl) rfl hl.1 rfl (Nat.le_of_ble_eq_true rfl) ⟨Nat.le_of_ble_eq_true rfl, Nat.le_of_ble_eq_true rfl⟩ dX4_follow_9 (fun H locs hC => ?_)
  rw [hnx0.2]
  refine lv_istore (lv' := [(4, .int (iI (hd1 w))), (3, .int (iI 0)), (0, .ref (A.a 0)), (1, .int (iI gz)), (2, .int (iI k))]) hx hb dX4_follow_12 hl (by decide) rfl (fun ls hl => ?_)
  have loop_14 : ∀ (n : Nat) (t : Nat) (hn : w.length - t < n) (ht : t ≤ w.length) (H : Heap) (locs : List Loc) (hC : aH A (dAdr A) (DW A (flG G (w.take t)) Tq3) s H locs) (ls : Array Slot) (hl : lv_has ls 6 [(4, .int (iI (hd1 (w.drop t)))), (3, .int (iI (flM G (w.take t)))), (0, .ref (A.a 0)), (2, .int (iI k))]), W p l e ({ frames := 3, cells := 0, slots := 0, locals := 75 }) s m args below meth c H locs 0 0 (aQi below (dEnd A) (dAdr A) args s ((fun z9 g9 t9 => z9 = (flM G w) ∧ g9 = (flG G w) ∧ (t9.th = Z.th)))) (F0 m 14 ls []) := by
    intro n
    induction n with
    | zero => intro t hn; exact absurd hn (Nat.not_lt_zero _)
    | succ n ih_14 =>
      intro t hn ht H locs hC ls hl
      have hhd := hd1_rng (isW_mem w _ _ hB.1) t
      refine lv_iload hx hb dX4_follow_14 (lv_at hl 0 rfl) ?_
      refine li_c hx hb dX4_follow_16 ?_
      refine li_icmp_eq (tgt := 72) hx hb dX4_follow_17 (by decide) (by omega) (fun c_17 => ?_) (fun c_17 => ?_)
      · refine lv_iload_n hx hb dX4_follow_72 rfl (lv_at hl 1 rfl) ?_
        exact d_iret X hC hr hk (by have hend : w.take t = w := List.take_of_length_le (Nat.le_of_not_lt (fun hq => by have := hd1_at hq; omega)); rw [hend]; exact ⟨rfl, rfl, thq3⟩) dX4_follow_73
      · have htl : t < w.length := by refine Nat.lt_of_not_le (fun hq => c_17 (hd1_end hq))
        have hnt := hd1_at htl
        obtain ⟨f1, f2, f3, f4, f5, f6, f7, f8, f9, f10⟩ := way_step hI (by omega) hnk hB htl
        have f11 := f1.vn
        have f12 := f1.vc
        have f13 := f1.rr
        have f14 := flM_rng (w.take t) G hI ((isW_apd G (w.take t) G.vn G.vc (w.drop t)).mp (by rw [List.take_append_drop]; exact hB.1)).1
        have f15 := dMin_rng (r := w[t] / 2) (k := w[t]) f1
        have f16 : (w.take t).length ≤ 24 := by rw [List.length_take]; omega
        refine lv_aload_n hx hb dX4_follow_20 rfl (lv_at hl 2 rfl) ?_
        refine lv_iload hx hb dX4_follow_21 (lv_at hl 0 rfl) ?_
        rw [hnt]
        refine lv_aload_n hx hb dX4_follow_23 rfl (lv_at hl 2 rfl) ?_
        refine agX4_at X hC iX4 (by decide +kernel) dX4_follow_24 (v := (((flG G (w.take t)).vn : Nat) : Int)) rfl ?_
        refine lv_aload_n hx hb dX4_follow_27 rfl (lv_at hl 2 rfl) ?_
        refine agX4_came X hC iX4 (by decide +kernel) dX4_follow_28 (v := (flG G (w.take t)).vc) rfl ?_
        refine d_callix (v := (sO (flG G (w.take t)) (w[t] / 2) ((flG G (w.take t)).vn) ((flG G (w.take t)).vc))) (n := 3) (As := [.int (iI ((w[t] / 2 : Nat) : Int)), .int (iI (((flG G (w.take t)).vn : Nat) : Int)), .int (iI ((flG G (w.take t)).vc))]) (rest := []) X hC (mX4_sideOf l A (flG G (w.take t)) Tq3 (w[t] / 2) ((flG G (w.take t)).vn) ((flG G (w.take t)).vc) f1 (show (w[t] / 2) < (flG G (w.take t)).rr by omega) (show ((flG G (w.take t)).vn) < (flG G (w.take t)).nn by omega) (show -2147483648 ≤ ((flG G (w.take t)).vc) ∧ ((flG G (w.take t)).vc) < 2147483648 by omega)) ⟨gX4_follow_X4_sideOf, ⟨_, rfl⟩, rfl, rfl, ⟨by decide, by decide, by decide +kernel⟩, Nat.le_of_ble_eq_true rfl, Nat.le_of_ble_eq_true rfl⟩ (a_recv (y := yX4_sideOf) X hC.1 (ci := 4) (q0 := 0) rfl rfl rfl) rfl hl.1 rfl (Nat.le_of_ble_eq_true rfl) ⟨Nat.le_of_ble_eq_true rfl, Nat.le_of_ble_eq_true rfl⟩ dX4_follow_31 (fun H locs hC => ?_)
        rw [f6]
        refine lv_iload_n hx hb dX4_follow_34 rfl (lv_at hl 3 rfl) ?_
        refine li_icmp_ne (tgt := 42) hx hb dX4_follow_35 (by decide) (by omega) (fun c_35 => ?_) (fun c_35 => ?_)
        · refine li_c hx hb dX4_follow_42 ?_
          refine lv_istore (lv' := [(5, .int (iI 0)), (4, .int (iI (hd1 (w.drop t)))), (3, .int (iI (flM G (w.take t)))), (0, .ref (A.a 0)), (2, .int (iI k))]) hx hb dX4_follow_43 hl (by decide) rfl (fun ls hl => ?_)
          refine lv_iload_n hx hb dX4_follow_45 rfl (lv_at hl 2 rfl) ?_
          refine lv_aload_n hx hb dX4_follow_46 rfl (lv_at hl 3 rfl) ?_
          refine lv_iload hx hb dX4_follow_47 (lv_at hl 1 rfl) ?_
          rw [hnt]
          refine d_callix (v := (dMin (flG G (w.take t)) (w[t] / 2) (w[t]))) (n := 1) (As := [.int (iI ((w[t] / 2 : Nat) : Int))]) (rest := [.int (iI (flM G (w.take t)))]) X hC (mX4_drive l A (flG G (w.take t)) Tq3 (w[t] / 2) (w[t]) f1 (show (w[t] / 2) < (flG G (w.take t)).rr from f4) (show (w[t]) < 2 * (flG G (w.take t)).rr from f5) (show sO (flG G (w.take t)) (w[t] / 2) (flG G (w.take t)).vn (flG G (w.take t)).vc = ((w[t]) : Int) from f6)) ⟨gX4_follow_X4_drive, ⟨_, rfl⟩, rfl, rfl, ⟨by decide, by decide, by decide +kernel⟩, Nat.le_of_ble_eq_true rfl, Nat.le_of_ble_eq_true rfl⟩ (a_recv (y := yX4_drive) X hC.1 (ci := 4) (q0 := 0) rfl rfl rfl) rfl hl.1 rfl (Nat.le_of_ble_eq_true rfl) ⟨Nat.le_of_ble_eq_true rfl, Nat.le_of_ble_eq_true rfl⟩ dX4_follow_49 (fun H locs hC => ?_)
          refine li_add hx hb dX4_follow_52 ?_
          refine lv_istore_n (lv' := [(3, .int (iI ((flM G (w.take t)) + (dMin (flG G (w.take t)) (w[t] / 2) (w[t]))))), (5, .int (iI 0)), (4, .int (iI (hd1 (w.drop t)))), (0, .ref (A.a 0)), (2, .int (iI k))]) hx hb dX4_follow_53 rfl hl (by decide) rfl (fun ls hl => ?_)
          refine lv_iload hx hb dX4_follow_54 (lv_at hl 1 rfl) ?_
          refine li_if_eq (tgt := 63) hx hb dX4_follow_56 (by decide) (by omega) (fun c_56 => ?_) (fun c_56 => ?_)
          · have hnx1 := nx_at (G' := drv (flG G (w.take t)) (w[t] / 2) w[t]) (b := w.drop (t + 1)) hI (by omega) okq3 (f2.trans (drv_same _ _ _)) (drv_Inv f1 f4) (by rw [← f7]; exact on_way hI (by omega) hB (f10 (by omega))) (by rw [List.length_drop]; omega)
            refine lv_aload_n hx hb dX4_follow_63 rfl (lv_at hl 3 rfl) ?_
            refine d_callix (v := (if Tq3.wt (wI (drv (flG G (w.take t)) (w[t] / 2) (w[t])).vn (drv (flG G (w.take t)) (w[t] / 2) (w[t])).vc) = 0 ∨ Tq3.wt (wI (drv (flG G (w.take t)) (w[t] / 2) (w[t])).vn (drv (flG G (w.take t)) (w[t] / 2) (w[t])).vc) = 1000000000 then -1 else (((hd1 (w.drop (t + 1))).toNat) : Int))) (n := 0) (As := []) (rest := []) X hC (mX4_nextRoad l A (drv (flG G (w.take t)) (w[t] / 2) (w[t])) Tq3 ((hd1 (w.drop (t + 1))).toNat) (drv_Inv f1 f4) (show ∀ j, j < 104 → Tq3.wt j ≤ 1000000000 from okq3.1.1) (show -1 ≤ Tq3.gs ∧ Tq3.gs < 24 by rw [gsq3]; omega) (show Tq3.wt (wI (drv (flG G (w.take t)) (w[t] / 2) (w[t])).vn (drv (flG G (w.take t)) (w[t] / 2) (w[t])).vc) = 0 ∨ Tq3.wt (wI (drv (flG G (w.take t)) (w[t] / 2) (w[t])).vn (drv (flG G (w.take t)) (w[t] / 2) (w[t])).vc) = 1000000000 ∨ (((hd1 (w.drop (t + 1))).toNat) < (drv (flG G (w.take t)) (w[t] / 2) (w[t])).rr ∧ wBy (drv (flG G (w.take t)) (w[t] / 2) (w[t])) Tq3.wt Tq3.gs ((hd1 (w.drop (t + 1))).toNat) (drv (flG G (w.take t)) (w[t] / 2) (w[t])).vn (drv (flG G (w.take t)) (w[t] / 2) (w[t])).vc = Tq3.wt (wI (drv (flG G (w.take t)) (w[t] / 2) (w[t])).vn (drv (flG G (w.take t)) (w[t] / 2) (w[t])).vc) ∧ ∀ j, j < ((hd1 (w.drop (t + 1))).toNat) → wBy (drv (flG G (w.take t)) (w[t] / 2) (w[t])) Tq3.wt Tq3.gs j (drv (flG G (w.take t)) (w[t] / 2) (w[t])).vn (drv (flG G (w.take t)) (w[t] / 2) (w[t])).vc ≠ Tq3.wt (wI (drv (flG G (w.take t)) (w[t] / 2) (w[t])).vn (drv (flG G (w.take t)) (w[t] / 2) (w[t])).vc)) by rw [gsq3]; exact hnx1.1)) ⟨gX4_follow_X4_nextRoad, ⟨_, rfl⟩, rfl, rfl, ⟨by decide, by decide, by decide +kernel⟩, Nat.le_of_ble_eq_true rfl, Nat.le_of_ble_eq_true rfl⟩ (a_recv (y := yX4_nextRoad) X hC.1 (ci := 4) (q0 := 0) rfl rfl rfl) rfl hl.1 rfl (Nat.le_of_ble_eq_true rfl) ⟨Nat.le_of_ble_eq_true rfl, Nat.le_of_ble_eq_true rfl⟩ dX4_follow_64 (fun H locs hC => ?_)
            rw [hnx1.2]
            refine lv_istore (lv' := [(4, .int (iI (hd1 (w.drop (t + 1))))), (3, .int (iI ((flM G (w.take t)) + (dMin (flG G (w.take t)) (w[t] / 2) (w[t]))))), (5, .int (iI 0)), (0, .ref (A.a 0)), (2, .int (iI k))]) hx hb dX4_follow_67 hl (by decide) rfl (fun ls hl => ?_)
            refine lv_goto (tgt := 14) hx hb dX4_follow_69 (by decide) ?_
            rw [← f7] at hC
            rw [← f8] at hl
            exact ih_14 (t + 1) (by omega) (by omega) H locs hC ls (lv_sub hl [0, 1, 3, 4] rfl)
          · exact absurd c_56 (by decide)
        · refine li_c hx hb dX4_follow_38 ?_
          refine lv_goto (tgt := 43) hx hb dX4_follow_39 (by decide) ?_
          refine lv_istore (lv' := [(5, .int (iI 1)), (4, .int (iI (hd1 (w.drop t)))), (3, .int (iI (flM G (w.take t)))), (0, .ref (A.a 0)), (2, .int (iI k))]) hx hb dX4_follow_43 hl (by decide) rfl (fun ls hl => ?_)
          refine lv_iload_n hx hb dX4_follow_45 rfl (lv_at hl 2 rfl) ?_
          refine lv_aload_n hx hb dX4_follow_46 rfl (lv_at hl 3 rfl) ?_
          refine lv_iload hx hb dX4_follow_47 (lv_at hl 1 rfl) ?_
          rw [hnt]
          refine d_callix (v := (dMin (flG G (w.take t)) (w[t] / 2) (w[t]))) (n := 1) (As := [.int (iI ((w[t] / 2 : Nat) : Int))]) (rest := [.int (iI (flM G (w.take t)))]) X hC (mX4_drive l A (flG G (w.take t)) Tq3 (w[t] / 2) (w[t]) f1 (show (w[t] / 2) < (flG G (w.take t)).rr from f4) (show (w[t]) < 2 * (flG G (w.take t)).rr from f5) (show sO (flG G (w.take t)) (w[t] / 2) (flG G (w.take t)).vn (flG G (w.take t)).vc = ((w[t]) : Int) from f6)) ⟨gX4_follow_X4_drive, ⟨_, rfl⟩, rfl, rfl, ⟨by decide, by decide, by decide +kernel⟩, Nat.le_of_ble_eq_true rfl, Nat.le_of_ble_eq_true rfl⟩ (a_recv (y := yX4_drive) X hC.1 (ci := 4) (q0 := 0) rfl rfl rfl) rfl hl.1 rfl (Nat.le_of_ble_eq_true rfl) ⟨Nat.le_of_ble_eq_true rfl, Nat.le_of_ble_eq_true rfl⟩ dX4_follow_49 (fun H locs hC => ?_)
          refine li_add hx hb dX4_follow_52 ?_
          refine lv_istore_n (lv' := [(3, .int (iI ((flM G (w.take t)) + (dMin (flG G (w.take t)) (w[t] / 2) (w[t]))))), (5, .int (iI 1)), (4, .int (iI (hd1 (w.drop t)))), (0, .ref (A.a 0)), (2, .int (iI k))]) hx hb dX4_follow_53 rfl hl (by decide) rfl (fun ls hl => ?_)
          refine lv_iload hx hb dX4_follow_54 (lv_at hl 1 rfl) ?_
          refine li_if_eq (tgt := 63) hx hb dX4_follow_56 (by decide) (by omega) (fun c_56 => ?_) (fun c_56 => ?_)
          · exact absurd c_56 (by decide)
          · refine li_c hx hb dX4_follow_59 ?_
            refine lv_goto (tgt := 67) hx hb dX4_follow_60 (by decide) ?_
            refine lv_istore (lv' := [(4, .int (iI (-1))), (3, .int (iI ((flM G (w.take t)) + (dMin (flG G (w.take t)) (w[t] / 2) (w[t]))))), (5, .int (iI 1)), (0, .ref (A.a 0)), (2, .int (iI k))]) hx hb dX4_follow_67 hl (by decide) rfl (fun ls hl => ?_)
            refine lv_goto (tgt := 14) hx hb dX4_follow_69 (by decide) ?_
            rw [← f7] at hC
            rw [← f8] at hl
            rw [show (-1 : Int) = hd1 (w.drop (t + 1)) from (hd1_end (by have := f9 (by omega); omega)).symm] at hl
            exact ih_14 (t + 1) (by omega) (by omega) H locs hC ls (lv_sub hl [0, 1, 3, 4] rfl)
  have hC : aH A (dAdr A) (DW A (flG G (w.take 0)) Tq3) s H locs := hC
  have hl : lv_has ls 6 [(4, .int (iI (hd1 (w.drop 0)))), (3, .int (iI (flM G (w.take 0)))), (0, .ref (A.a 0)), (2, .int (iI k))] := lv_sub hl [0, 1, 2, 4] rfl
  exact loop_14 (w.length + 1) 0 (Nat.lt_succ_self _) (by omega) H locs hC ls (lv_sub hl [0, 1, 2, 3] rfl)

set_option maxHeartbeats 4000000 in
set_option maxRecDepth 100000 in
theorem mX4_clear (l : Launch) (A : AD) (G : GS) (Z : ZS) (z : Int) (hI : Inv G) (hz : -2147483648 ≤ z ∧ z < 2147483648) : dMi l yX4_clear wsX4_clear ({ frames := 4, cells := 0, slots := 0, locals := 100 }) A [.ref (A.a 0), .int (iI z)] G Z (yKJ (if 0 ≤ z ∧ z ≤ 300 then 0 else 1) ((clr z z.toNat ((0 : Int), G)).1) G ((clr z z.toNat ((0 : Int), G)).2)) := by
  intro sz
  refine c_start (cc := cX4_clear) (maxL := 5) (ret := (some .int)) (by decide) rfl rfl ?_
  intro p e s m args below meth c X hr hk hnm hsz ls hl H locs hC
  subst hsz
  obtain ⟨hx, hb, hml, hown, hts⟩ := id X.1
  have hl : lv_has ls 5 [(0, .ref (A.a 0)), (1, .int (iI z))] := hl
  have iX4 : ∀ w ∈ u_ws RX4 TX4 18, w ∈ wsX4_clear := by decide +kernel
  have hrr := hI.rr
  refine lv_aload_n hx hb dX4_clear_0 rfl (lv_at hl 0 rfl) ?_
  refine li_c hx hb dX4_clear_1 ?_
  refine apX4_thrown X hC iX4 (by decide +kernel) dX4_clear_2 (x := 0) (by omega) (fun H locs hC => ?_)
  have hC : aH A (dAdr A) (DW A G (mkZ 0 Z.wt Z.gn Z.gs)) s H locs := hC
  refine lv_iload_n hx hb dX4_clear_5 rfl (lv_at hl 1 rfl) ?_
  refine li_c hx hb dX4_clear_6 ?_
  refine li_si hx hb dX4_clear_7 (by decide) ?_
  refine d_callisx (v := bP ((0 : Int) ≤ z ∧ z ≤ (300 : Int))) (n := 3) (As := [.int (iI z), .int (iI 0), .int (iI 300)]) (rest := []) X hC (mX4_isIn l A G (mkZ 0 Z.wt Z.gn Z.gs) z (0 : Int) (300 : Int) (show -2147483648 ≤ z ∧ z < 2147483648 by omega) (show -2147483648 ≤ (0 : Int) ∧ (0 : Int) < 2147483648 by omega) (show -2147483648 ≤ (300 : Int) ∧ (300 : Int) < 2147483648 by omega)) ⟨gX4_clear_X4_isIn, ⟨_, rfl⟩, rfl, rfl, ⟨by decide, by decide, by decide +kernel⟩, Nat.le_of_ble_eq_true rfl, Nat.le_of_ble_eq_true rfl⟩ rfl hl.1 rfl (Nat.le_of_ble_eq_true rfl) ⟨Nat.le_of_ble_eq_true rfl, Nat.le_of_ble_eq_true rfl⟩ dX4_clear_10 (fun H locs hC => ?_)
  refine li_ifb_ne (tgt := 22) hx hb dX4_clear_13 (by decide) (fun c_13 => ?_) (fun c_13 => ?_)
  · refine li_c hx hb dX4_clear_22 ?_
    refine lv_istore_n (lv' := [(2, .int (iI 0)), (0, .ref (A.a 0)), (1, .int (iI z))]) hx hb dX4_clear_23 rfl hl (by decide) rfl (fun ls hl => ?_)
    refine lv_aload_n hx hb dX4_clear_24 rfl (lv_at hl 1 rfl) ?_
    refine d_calli (n := 0) (As := []) (rest := []) X hC (mX4_nextSide l A G (mkZ 0 Z.wt Z.gn Z.gs)  hI) ⟨gX4_clear_X4_nextSide, ⟨_, rfl⟩, rfl, rfl, ⟨by decide, by decide, by decide +kernel⟩, Nat.le_of_ble_eq_true rfl, Nat.le_of_ble_eq_true rfl⟩ (a_recv (y := yX4_nextSide) X hC.1 (ci := 4) (q0 := 0) rfl rfl rfl) rfl hl.1 rfl (Nat.le_of_ble_eq_true rfl) ⟨Nat.le_of_ble_eq_true rfl, Nat.le_of_ble_eq_true rfl⟩ dX4_clear_25 (fun zq25 Gq25 Tq25 H locs hqq25 hC => ?_)
    obtain ⟨hvq25, hgq25, thq25⟩ := hqq25
    have thq25 : Tq25.th = 0 := thq25
    rw [hgq25] at hC
    subst hvq25
    refine lv_istore_n (lv' := [(3, .int (iI (nxt G))), (2, .int (iI 0)), (0, .ref (A.a 0)), (1, .int (iI z))]) hx hb dX4_clear_28 rfl hl (by decide) rfl (fun ls hl => ?_)
    have loop_29 : ∀ (n : Nat) (p9 : Int × GS) (T9 : ZS) (i : Nat) (hn : z.toNat - i < n) (hP : Inv p9.2) (hcl : clr z z.toNat ((0 : Int), G) = clr z (z.toNat - i) p9) (hip : (i : Int) ≤ p9.1) (hp4 : p9.1 ≤ 4000) (hT : T9.th = 0) (H : Heap) (locs : List Loc) (hC : aH A (dAdr A) (DW A p9.2 T9) s H locs) (ls : Array Slot) (hl : lv_has ls 5 [(1, .int (iI z)), (2, .int (iI p9.1)), (3, .int (iI (nxt p9.2))), (0, .ref (A.a 0))]), W p l e ({ frames := 4, cells := 0, slots := 0, locals := 100 }) s m args below meth c H locs 0 0 (aQi below (dEnd A) (dAdr A) args s (yKJ (if 0 ≤ z ∧ z ≤ 300 then 0 else 1) ((clr z z.toNat ((0 : Int), G)).1) G ((clr z z.toNat ((0 : Int), G)).2))) (F0 m 29 ls []) := by
      intro n
      induction n with
      | zero => intro p9 T9 i hn; exact absurd hn (Nat.not_lt_zero _)
      | succ n ih_29 =>
        intro p9 T9 i hn hP hcl hip hp4 hT H locs hC ls hl
        have hpr := hP.rr
        have hnr := fnS_rng p9.2 (2 * p9.2.rr)
        have hnd : nxt p9.2 = fnS p9.2 (2 * p9.2.rr) := rfl
        have hvs9 := hP.vs
        have hvw9 := hP.vw
        have hm9 := hP.mi ((nxt p9.2).toNat / 2)
        have hso := nsS_rng p9.2 p9.2.nn
        have hsd : sto p9.2 = nsS p9.2 p9.2.nn := rfl
        have hnn9 := hP.nn
        refine lv_iload_n hx hb dX4_clear_29 rfl (lv_at hl 2 rfl) ?_
        refine li_c hx hb dX4_clear_30 ?_
        refine li_icmp_eq (tgt := 120) hx hb dX4_clear_31 (by decide) (by omega) (fun c_31 => ?_) (fun c_31 => ?_)
        · refine lv_iload_n hx hb dX4_clear_120 rfl (lv_at hl 1 rfl) ?_
          exact d_iret X hC hr hk (by rw [hcl, clr_end (by first | exact fun hq => hq.2 c_31 | exact fun hq => absurd hq.1 (by omega))]; exact Or.inl ⟨if_pos (by omega), rfl, rfl, hT⟩) dX4_clear_121
        · refine lv_iload_n hx hb dX4_clear_34 rfl (lv_at hl 1 rfl) ?_
          refine lv_iload_n hx hb dX4_clear_35 rfl (lv_at hl 0 rfl) ?_
          refine li_icmp_ge (tgt := 120) hx hb dX4_clear_36 (by decide) (by omega) (fun c_36 => ?_) (fun c_36 => ?_)
          · refine lv_iload_n hx hb dX4_clear_120 rfl (lv_at hl 1 rfl) ?_
            exact d_iret X hC hr hk (by rw [hcl, clr_end (by first | exact fun hq => hq.2 c_31 | exact fun hq => absurd hq.1 (by omega))]; exact Or.inl ⟨if_pos (by omega), rfl, rfl, hT⟩) dX4_clear_121
          · have join_95 : ∀ (q9 : Int × GS) (T8 : ZS) (hqe : cF9 p9 = q9) (hT8 : T8.th = 0) (H : Heap) (locs : List Loc) (hC : aH A (dAdr A) (DW A q9.2 T8) s H locs) (ls : Array Slot) (hl : lv_has ls 5 [(1, .int (iI z)), (2, .int (iI q9.1)), (3, .int (iI (nxt q9.2))), (0, .ref (A.a 0))]), W p l e ({ frames := 4, cells := 0, slots := 0, locals := 100 }) s m args below meth c H locs 0 0 (aQi below (dEnd A) (dAdr A) args s (yKJ (if 0 ≤ z ∧ z ≤ 300 then 0 else 1) ((clr z z.toNat ((0 : Int), G)).1) G ((clr z z.toNat ((0 : Int), G)).2))) (F0 m 95 ls []) := by
              intro q9 T8 hqe hT8 H locs hC ls hl
              have hQ := cF_ok hP
              rw [hqe] at hQ
              obtain ⟨hQ1, hQ2⟩ := hQ
              have hQ3 : p9.1 ≤ q9.1 ∧ q9.1 ≤ p9.1 + 1492 := by rcases hQ2 with hQ2 | hQ2; rw [hQ2]; omega; omega
              have hqr := hQ1.rr
              have hnr2 := fnS_rng q9.2 (2 * q9.2.rr)
              have hnd2 : nxt q9.2 = fnS q9.2 (2 * q9.2.rr) := rfl
              have hq0 : nxt q9.2 = -1 → p9.1 + 1 ≤ q9.1 := fun h => by rcases hQ2 with hQ2 | hQ2; rw [hQ2] at h; exact absurd h c_31; omega
              refine lv_iload_n hx hb dX4_clear_95 rfl (lv_at hl 2 rfl) ?_
              refine li_c hx hb dX4_clear_96 ?_
              refine li_icmp_ne (tgt := 103) hx hb dX4_clear_97 (by decide) (by omega) (fun c_97 => ?_) (fun c_97 => ?_)
              · obtain ⟨hn1, hn2, hn3⟩ := nxt_ok hQ1 c_97
                have hn4 := flM_rng _ _ hQ1 hn2.1
                have hn5 := flM_pos hQ1 hn2.1 (nxt_ne hQ1 c_97)
                refine lv_iload_n hx hb dX4_clear_103 rfl (lv_at hl 1 rfl) ?_
                refine lv_aload_n hx hb dX4_clear_104 rfl (lv_at hl 3 rfl) ?_
                refine li_c hx hb dX4_clear_105 ?_
                refine lv_iload_n hx hb dX4_clear_106 rfl (lv_at hl 2 rfl) ?_
                refine d_calli (n := 2) (As := [.int (iI (-1)), .int (iI (nxt q9.2))]) (rest := [.int (iI q9.1)]) X hC (mX4_follow l A q9.2 T8 (-1 : Int) (nxt q9.2) (spW q9.2 (-1) (nxt q9.2)) hQ1 (show -1 ≤ (-1 : Int) ∧ (-1 : Int) < 8 by omega) (show -1 ≤ (nxt q9.2) ∧ (nxt q9.2) < 24 by omega) (show (nxt q9.2) = -1 ∨ (-1 : Int) = -1 by omega) (show BW q9.2 (-1 : Int) (nxt q9.2) q9.2.vn q9.2.vc (spW q9.2 (-1) (nxt q9.2)) from hn2) (show (spW q9.2 (-1) (nxt q9.2)).length ≤ 24 from hn3)) ⟨gX4_clear_X4_follow, ⟨_, rfl⟩, rfl, rfl, ⟨by decide, by decide, by decide +kernel⟩, Nat.le_of_ble_eq_true rfl, Nat.le_of_ble_eq_true rfl⟩ (a_recv (y := yX4_follow) X hC.1 (ci := 4) (q0 := 0) rfl rfl rfl) rfl hl.1 rfl (Nat.le_of_ble_eq_true rfl) ⟨Nat.le_of_ble_eq_true rfl, Nat.le_of_ble_eq_true rfl⟩ dX4_clear_107 (fun zq107 Gq107 Tq107 H locs hqq107 hC => ?_)
                obtain ⟨hvq107, hgq107, thq107⟩ := hqq107
                have thq107 : Tq107.th = T8.th := thq107
                rw [hgq107] at hC
                subst hvq107
                refine li_add hx hb dX4_clear_110 ?_
                refine lv_istore_n (lv' := [(2, .int (iI (q9.1 + (flM q9.2 (spW q9.2 (-1) (nxt q9.2)))))), (1, .int (iI z)), (3, .int (iI (nxt q9.2))), (0, .ref (A.a 0))]) hx hb dX4_clear_111 rfl hl (by decide) rfl (fun ls hl => ?_)
                refine lv_aload_n hx hb dX4_clear_112 rfl (lv_at hl 3 rfl) ?_
                refine d_calli (n := 0) (As := []) (rest := []) X hC (mX4_nextSide l A (flG q9.2 (spW q9.2 (-1) (nxt q9.2))) Tq107  (fl_Inv _ _ hQ1 hn2.1).1) ⟨gX4_clear_X4_nextSide, ⟨_, rfl⟩, rfl, rfl, ⟨by decide, by decide, by decide +kernel⟩, Nat.le_of_ble_eq_true rfl, Nat.le_of_ble_eq_true rfl⟩ (a_recv (y := yX4_nextSide) X hC.1 (ci := 4) (q0 := 0) rfl rfl rfl) rfl hl.1 rfl (Nat.le_of_ble_eq_true rfl) ⟨Nat.le_of_ble_eq_true rfl, Nat.le_of_ble_eq_true rfl⟩ dX4_clear_113 (fun zq113 Gq113 Tq113 H locs hqq113 hC => ?_)
                obtain ⟨hvq113, hgq113, thq113⟩ := hqq113
                have thq113 : Tq113.th = Tq107.th := thq113
                rw [hgq113] at hC
                subst hvq113
                refine lv_istore_n (lv' := [(3, .int (iI (nxt (flG q9.2 (spW q9.2 (-1) (nxt q9.2)))))), (2, .int (iI (q9.1 + (flM q9.2 (spW q9.2 (-1) (nxt q9.2)))))), (1, .int (iI z)), (0, .ref (A.a 0))]) hx hb dX4_clear_116 rfl hl (by decide) rfl (fun ls hl => ?_)
                refine lv_goto (tgt := 29) hx hb dX4_clear_117 (by decide) ?_
                exact ih_29 (q9.1 + flM q9.2 (spW q9.2 (-1) (nxt q9.2)), flG q9.2 (spW q9.2 (-1) (nxt q9.2))) Tq113 (i + 1) (by omega) ((fl_Inv _ _ hQ1 hn2.1).1) (by rw [hcl, show z.toNat - i = (z.toNat - (i + 1)) + 1 by omega, clr_s, if_pos ⟨by omega, c_31⟩, hqe]; unfold cD9; first | rw [if_pos c_97] | rw [if_neg c_97]) (by show (((i + 1 : Nat)) : Int) ≤ q9.1 + flM q9.2 (spW q9.2 (-1) (nxt q9.2)); omega) (by show q9.1 + flM q9.2 (spW q9.2 (-1) (nxt q9.2)) ≤ 4000; omega) (thq113.trans (thq107.trans hT8)) H locs hC ls (lv_sub hl [2, 1, 0, 3] rfl)
              · have hq1 := hq0 c_97
                refine lv_goto (tgt := 29) hx hb dX4_clear_100 (by decide) ?_
                exact ih_29 q9 T8 (i + 1) (by omega) (hQ1) (by rw [hcl, show z.toNat - i = (z.toNat - (i + 1)) + 1 by omega, clr_s, if_pos ⟨by omega, c_31⟩, hqe]; unfold cD9; first | rw [if_pos c_97] | rw [if_neg c_97]) (by omega) (by omega) (hT8) H locs hC ls (lv_sub hl [0, 1, 2, 3] rfl)
            refine lv_aload_n hx hb dX4_clear_39 rfl (lv_at hl 3 rfl) ?_
            refine agX4_strews X hC iX4 (by decide +kernel) dX4_clear_40 (v := (p9.2.vw : Int)) rfl ?_
            refine li_if_eq (tgt := 95) hx hb dX4_clear_43 (by decide) (by omega) (fun c_43 => ?_) (fun c_43 => ?_)
            · exact join_95 p9 T9 (by unfold cF9; exact if_neg (fun hq => by have := hq.1; have := hq.2; omega)) (hT) H locs hC ls (lv_sub hl [0, 1, 2, 3] rfl)
            · refine lv_aload_n hx hb dX4_clear_46 rfl (lv_at hl 3 rfl) ?_
              refine agX4_salt X hC iX4 (by decide +kernel) dX4_clear_47 (v := (p9.2.vs : Int)) rfl ?_
              refine lv_aload_n hx hb dX4_clear_50 rfl (lv_at hl 3 rfl) ?_
              refine agX4_lengths X hC iX4 (by decide +kernel) dX4_clear_51 ?_
              refine lv_iload_n hx hb dX4_clear_54 rfl (lv_at hl 2 rfl) ?_
              refine li_cast0 (z' := ((((nxt p9.2).toNat) : Nat) : Int)) hx hb (by omega) ?_
              refine li_c hx hb dX4_clear_55 ?_
              refine li_divN (x := (nxt p9.2).toNat) (y := 2) hx hb dX4_clear_56 rfl rfl (by omega) ?_
              refine alD_mi (k0 := ((nxt p9.2).toNat) / 2) (v := ((p9.2.mi (((nxt p9.2).toNat) / 2) : Nat) : Int)) X hC (by omega) (by omega) rfl dX4_clear_57 ?_
              have hb1 := hI.mi (((nxt p9.2).toNat) / 2)
              refine li_icmp_ge (tgt := 95) hx hb dX4_clear_58 (by decide) (by omega) (fun c_58 => ?_) (fun c_58 => ?_)
              · exact join_95 p9 T9 (by unfold cF9; exact if_neg (fun hq => by have := hq.1; have := hq.2; omega)) (hT) H locs hC ls (lv_sub hl [0, 1, 2, 3] rfl)
              · refine lv_aload_n hx hb dX4_clear_61 rfl (lv_at hl 3 rfl) ?_
                refine d_calli (n := 0) (As := []) (rest := []) X hC (mX4_nearestStore l A p9.2 T9  hP) ⟨gX4_clear_X4_nearestStore, ⟨_, rfl⟩, rfl, rfl, ⟨by decide, by decide, by decide +kernel⟩, Nat.le_of_ble_eq_true rfl, Nat.le_of_ble_eq_true rfl⟩ (a_recv (y := yX4_nearestStore) X hC.1 (ci := 4) (q0 := 0) rfl rfl rfl) rfl hl.1 rfl (Nat.le_of_ble_eq_true rfl) ⟨Nat.le_of_ble_eq_true rfl, Nat.le_of_ble_eq_true rfl⟩ dX4_clear_62 (fun zq62 Gq62 Tq62 H locs hqq62 hC => ?_)
                obtain ⟨hvq62, hgq62, thq62⟩ := hqq62
                have thq62 : Tq62.th = T9.th := thq62
                rw [hgq62] at hC
                subst hvq62
                refine lv_istore (lv' := [(4, .int (iI (sto p9.2))), (1, .int (iI z)), (2, .int (iI p9.1)), (3, .int (iI (nxt p9.2))), (0, .ref (A.a 0))]) hx hb dX4_clear_65 hl (by decide) rfl (fun ls hl => ?_)
                refine lv_iload hx hb dX4_clear_67 (lv_at hl 0 rfl) ?_
                refine li_c hx hb dX4_clear_69 ?_
                refine li_icmp_eq (tgt := 95) hx hb dX4_clear_70 (by decide) (by omega) (fun c_70 => ?_) (fun c_70 => ?_)
                · exact join_95 p9 Tq62 (by unfold cF9; exact if_neg (fun hq => by have := hq.1; have := hq.2; omega)) (thq62.trans hT) H locs hC ls (lv_sub hl [1, 2, 3, 4] rfl)
                · obtain ⟨hs1, hs2, hs3⟩ := sto_ok hP c_70
                  have hs4 := flM_rng _ _ hP hs2.1
                  have hs5 := (fl_Inv _ _ hP hs2.1).1
                  have hs6 := hs5.vs
                  refine lv_iload_n hx hb dX4_clear_73 rfl (lv_at hl 2 rfl) ?_
                  refine lv_aload_n hx hb dX4_clear_74 rfl (lv_at hl 4 rfl) ?_
                  refine lv_iload hx hb dX4_clear_75 (lv_at hl 0 rfl) ?_
                  refine li_c hx hb dX4_clear_77 ?_
                  refine d_calli (n := 2) (As := [.int (iI (sto p9.2)), .int (iI (-1))]) (rest := [.int (iI p9.1)]) X hC (mX4_follow l A p9.2 Tq62 (sto p9.2) (-1 : Int) (spW p9.2 (sto p9.2) (-1)) hP (show -1 ≤ (sto p9.2) ∧ (sto p9.2) < 8 by omega) (show -1 ≤ (-1 : Int) ∧ (-1 : Int) < 24 by omega) (show (-1 : Int) = -1 ∨ (sto p9.2) = -1 by omega) (show BW p9.2 (sto p9.2) (-1 : Int) p9.2.vn p9.2.vc (spW p9.2 (sto p9.2) (-1)) from hs2) (show (spW p9.2 (sto p9.2) (-1)).length ≤ 24 from hs3)) ⟨gX4_clear_X4_follow, ⟨_, rfl⟩, rfl, rfl, ⟨by decide, by decide, by decide +kernel⟩, Nat.le_of_ble_eq_true rfl, Nat.le_of_ble_eq_true rfl⟩ (a_recv (y := yX4_follow) X hC.1 (ci := 4) (q0 := 0) rfl rfl rfl) rfl hl.1 rfl (Nat.le_of_ble_eq_true rfl) ⟨Nat.le_of_ble_eq_true rfl, Nat.le_of_ble_eq_true rfl⟩ dX4_clear_78 (fun zq78 Gq78 Tq78 H locs hqq78 hC => ?_)
                  obtain ⟨hvq78, hgq78, thq78⟩ := hqq78
                  have thq78 : Tq78.th = Tq62.th := thq78
                  rw [hgq78] at hC
                  subst hvq78
                  refine li_c hx hb dX4_clear_81 ?_
                  refine li_add hx hb dX4_clear_82 ?_
                  refine li_add hx hb dX4_clear_83 ?_
                  refine lv_istore_n (lv' := [(2, .int (iI (p9.1 + ((flM p9.2 (spW p9.2 (sto p9.2) (-1))) + 4)))), (4, .int (iI (sto p9.2))), (1, .int (iI z)), (3, .int (iI (nxt p9.2))), (0, .ref (A.a 0))]) hx hb dX4_clear_84 rfl hl (by decide) rfl (fun ls hl => ?_)
                  refine lv_aload_n hx hb dX4_clear_85 rfl (lv_at hl 4 rfl) ?_
                  refine d_callix (v := ((120 - (flG p9.2 (spW p9.2 (sto p9.2) (-1))).vs : Nat) : Int)) (n := 0) (As := []) (rest := []) X hC (mX4_fillUp l A (flG p9.2 (spW p9.2 (sto p9.2) (-1))) Tq78  (show (flG p9.2 (spW p9.2 (sto p9.2) (-1))).vs ≤ 120 from hs6)) ⟨gX4_clear_X4_fillUp, ⟨_, rfl⟩, rfl, rfl, ⟨by decide, by decide, by decide +kernel⟩, Nat.le_of_ble_eq_true rfl, Nat.le_of_ble_eq_true rfl⟩ (a_recv (y := yX4_fillUp) X hC.1 (ci := 4) (q0 := 0) rfl rfl rfl) rfl hl.1 rfl (Nat.le_of_ble_eq_true rfl) ⟨Nat.le_of_ble_eq_true rfl, Nat.le_of_ble_eq_true rfl⟩ dX4_clear_86 (fun H locs hC => ?_)
                  have hC : aH A (dAdr A) (DW A (mkG ((flG p9.2 (spW p9.2 (sto p9.2) (-1))).tu) ((flG p9.2 (spW p9.2 (sto p9.2) (-1))).st) ((flG p9.2 (spW p9.2 (sto p9.2) (-1))).sm) ((flG p9.2 (spW p9.2 (sto p9.2) (-1))).mi) ((flG p9.2 (spW p9.2 (sto p9.2) (-1))).pr) ((flG p9.2 (spW p9.2 (sto p9.2) (-1))).de) ((flG p9.2 (spW p9.2 (sto p9.2) (-1))).sa) ((flG p9.2 (spW p9.2 (sto p9.2) (-1))).nn) ((flG p9.2 (spW p9.2 (sto p9.2) (-1))).rr) ((flG p9.2 (spW p9.2 (sto p9.2) (-1))).vn) ((flG p9.2 (spW p9.2 (sto p9.2) (-1))).vc) 120 ((flG p9.2 (spW p9.2 (sto p9.2) (-1))).vw) (up ((flG p9.2 (spW p9.2 (sto p9.2) (-1))).tt) 0 (((flG p9.2 (spW p9.2 (sto p9.2) (-1))).tt) 0 + 4))) Tq78) s H locs := hC
                  refine lv_pop hx hb dX4_clear_89 rfl ?_
                  have hC : aH A (dAdr A) (DW A (tks (flG p9.2 (spW p9.2 (sto p9.2) (-1)))) Tq78) s H locs := hC
                  refine lv_aload_n hx hb dX4_clear_90 rfl (lv_at hl 4 rfl) ?_
                  refine d_calli (n := 0) (As := []) (rest := []) X hC (mX4_nextSide l A (tks (flG p9.2 (spW p9.2 (sto p9.2) (-1)))) Tq78  (tks_Inv hs5)) ⟨gX4_clear_X4_nextSide, ⟨_, rfl⟩, rfl, rfl, ⟨by decide, by decide, by decide +kernel⟩, Nat.le_of_ble_eq_true rfl, Nat.le_of_ble_eq_true rfl⟩ (a_recv (y := yX4_nextSide) X hC.1 (ci := 4) (q0 := 0) rfl rfl rfl) rfl hl.1 rfl (Nat.le_of_ble_eq_true rfl) ⟨Nat.le_of_ble_eq_true rfl, Nat.le_of_ble_eq_true rfl⟩ dX4_clear_91 (fun zq91 Gq91 Tq91 H locs hqq91 hC => ?_)
                  obtain ⟨hvq91, hgq91, thq91⟩ := hqq91
                  have thq91 : Tq91.th = Tq78.th := thq91
                  rw [hgq91] at hC
                  subst hvq91
                  refine lv_istore_n (lv' := [(3, .int (iI (nxt (tks (flG p9.2 (spW p9.2 (sto p9.2) (-1))))))), (2, .int (iI (p9.1 + ((flM p9.2 (spW p9.2 (sto p9.2) (-1))) + 4)))), (4, .int (iI (sto p9.2))), (1, .int (iI z)), (0, .ref (A.a 0))]) hx hb dX4_clear_94 rfl hl (by decide) rfl (fun ls hl => ?_)
                  exact join_95 (p9.1 + (flM p9.2 (spW p9.2 (sto p9.2) (-1)) + 4), tks (flG p9.2 (spW p9.2 (sto p9.2) (-1)))) Tq91 (by unfold cF9; exact if_pos ⟨⟨by omega, by omega⟩, by omega⟩) (thq91.trans (thq78.trans (thq62.trans hT))) H locs hC ls (lv_sub hl [3, 1, 0, 4] rfl)
    exact loop_29 (z.toNat + 1) ((0 : Int), G) Tq25 0 (Nat.lt_succ_self _) (hI) (rfl) (Int.le_refl _) (by show (0 : Int) ≤ 4000; omega) (thq25) H locs hC ls (lv_sub hl [3, 1, 0, 2] rfl)
  · refine lv_aload_n hx hb dX4_clear_16 rfl (lv_at hl 0 rfl) ?_
    refine li_c hx hb dX4_clear_17 ?_
    refine d_callix (v := 0) (n := 1) (As := [.int (iI 1)]) (rest := []) X hC (mX4_fail l A G (mkZ 0 Z.wt Z.gn Z.gs) 1) ⟨gX4_clear_X4_fail, ⟨_, rfl⟩, rfl, rfl, ⟨by decide, by decide, by decide +kernel⟩, Nat.le_of_ble_eq_true rfl, Nat.le_of_ble_eq_true rfl⟩ (a_recv (y := yX4_fail) X hC.1 (ci := 4) (q0 := 0) rfl rfl rfl) rfl hl.1 rfl (Nat.le_of_ble_eq_true rfl) ⟨Nat.le_of_ble_eq_true rfl, Nat.le_of_ble_eq_true rfl⟩ dX4_clear_18 (fun H locs hC => ?_)
    have hC : aH A (dAdr A) (DW A G (mkZ 1 Z.wt Z.gn Z.gs)) s H locs := hC
    exact d_iret X hC hr hk (Or.inr ⟨by rw [if_neg (by omega)]; decide, rfl, rfl, by rw [if_neg (by omega)]; rfl⟩) dX4_clear_21
