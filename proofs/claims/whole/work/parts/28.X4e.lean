/-! 28: the reference: following, clearing -/
set_option maxHeartbeats 4000000 in
set_option maxRecDepth 100000 in
theorem mX4_follow (l : Launch) (A : AD) (G : GS) (Z : ZS) (gz : Int) (k : Int) (w : List Nat) (hI : Inv G) (hgz : -1 ≤ gz ∧ gz < 8) (hks : -1 ≤ k ∧ k < 24) (hnk : k = -1 ∨ gz = -1) (hB : BW G gz k G.vn G.vc w) (hlw : w.length ≤ 24) : dMi l yX4_follow wsX4_follow ({ frames := 3, cells := 0, slots := 0, locals := 75 }) A [.ref (A.a 0), .int (iI gz), .int (iI k)] G Z ((fun z9 g9 t9 => z9 = (flM G w) ∧ g9 = (flG G w) ∧ (t9.th = Z.th))) := by
  intro sz
  refine c_start (cc := cX4_follow) (maxL := 6) (ret := (some .int)) (by decide) rfl rfl ?_
  intro p e s m args below meth c X hr hk hnm hsz ls hl H locs hC
  subst hsz
  obtain ⟨hx, hb, hml, hown, hts⟩ := id X.1
  have hl : lv_has ls 6 [(0, .ref (A.a 0)), (1, .int (iI gz)), (2, .int (iI k))] := hl
  have iX4 : ∀ w ∈ u_ws RX4 TX4 18, w ∈ wsX4_follow := by decide +kernel
  have hrr := hI.rr
  refine lv_aload_n hx hb dX4_follow_0 rfl (lv_at hl 0 rfl) ?_
  refine lv_iload_n hx hb dX4_follow_1 rfl (lv_at hl 1 rfl) ?_
  refine lv_iload_n hx hb dX4_follow_2 rfl (lv_at hl 2 rfl) ?_
  refine d_callv (n := 2) (As := [.int (iI gz), .int (iI k)]) (rest := []) X hC (mX4_weigh l A G Z gz k hI (show -1 ≤ gz ∧ gz < 8 by omega) (show -1 ≤ k ∧ k < 24 by omega)) ⟨gX4_follow_X4_weigh, ⟨_, rfl⟩, rfl, rfl, ⟨by decide, by decide, by decide +kernel⟩, Nat.le_of_ble_eq_true rfl, Nat.le_of_ble_eq_true rfl⟩ (a_recv (y := yX4_weigh) X hC.1 (ci := 4) (q0 := 0) rfl rfl rfl) rfl hl.1 rfl (Nat.le_of_ble_eq_true rfl) ⟨Nat.le_of_ble_eq_true rfl, Nat.le_of_ble_eq_true rfl⟩ dX4_follow_3 (fun Gq3 Tq3 H locs hqq3 hC => ?_)
  obtain ⟨hgq3, thq3, gnq3, gsq3, okq3⟩ := hqq3
  have thq3 : Tq3.th = Z.th := thq3
  have gnq3 : Tq3.gn = gz := gnq3
  have gsq3 : Tq3.gs = k := gsq3
  have okq3 : WOK G gz k Tq3.wt := okq3
  rw [hgq3] at hC
  refine li_c hx hb dX4_follow_6 ?_
  refine lv_istore_n (lv' := [(3, .int (iI 0)), (0, .ref (A.a 0)), (1, .int (iI gz)), (2, .int (iI k))]) hx hb dX4_follow_7 rfl hl (by decide) rfl (fun ls hl => ?_)
  have hnx0 := nx_at hI (by omega) okq3 (sameTown.refl G) hI hB hlw
  refine lv_aload_n hx hb dX4_follow_8 rfl (lv_at hl 1 rfl) ?_
  refine d_callix (v := (if Tq3.wt (wI G.vn G.vc) = 0 ∨ Tq3.wt (wI G.vn G.vc) = 1000000000 then -1 else (((hd1 w).toNat) : Int))) (n := 0) (As := []) (rest := []) X hC (mX4_nextRoad l A G Tq3 ((hd1 w).toNat) hI (show ∀ j, j < 104 → Tq3.wt j ≤ 1000000000 from okq3.1.1) (show -1 ≤ Tq3.gs ∧ Tq3.gs < 24 by rw [gsq3]; omega) (show Tq3.wt (wI G.vn G.vc) = 0 ∨ Tq3.wt (wI G.vn G.vc) = 1000000000 ∨ (((hd1 w).toNat) < G.rr ∧ wBy G Tq3.wt Tq3.gs ((hd1 w).toNat) G.vn G.vc = Tq3.wt (wI G.vn G.vc) ∧ ∀ j, j < ((hd1 w).toNat) → wBy G Tq3.wt Tq3.gs j G.vn G.vc ≠ Tq3.wt (wI G.vn G.vc)) by rw [gsq3]; exact hnx0.1)) ⟨gX4_follow_X4_nextRoad, ⟨_, rfl⟩, rfl, rfl, ⟨by decide, by decide, by decide +kernel⟩, Nat.le_of_ble_eq_true rfl, Nat.le_of_ble_eq_true rfl⟩ (a_recv (y := yX4_nextRoad) X hC.1 (ci := 4) (q0 := 0) rfl rfl rfl) rfl hl.1 rfl (Nat.le_of_ble_eq_true rfl) ⟨Nat.le_of_ble_eq_true rfl, Nat.le_of_ble_eq_true rfl⟩ dX4_follow_9 (fun H locs hC => ?_)
  rw [hnx0.2]
  refine lv_istore (lv' := [(4, .int (iI (hd1 w))), (3, .int (iI 0)), (0, .ref (A.a 0)), (1, .int (iI gz)), (2, .int (iI k))]) hx hb dX4_follow_12 hl (by decide) rfl (fun ls hl => ?_)
  have loop_14 : ∀ (n : Nat) (t : Nat) (hn : w.length - t < n) (ht : t ≤ w.length) (H : Heap) (locs : List Loc) (hC : aH A (dAdr A) (DW A (flG G (w.take t)) Tq3) s H locs) (ls : Array Slot) (hl : lv_has ls 6 [(4, .int (iI (hd1 (w.drop t)))), (3, .int (iI (flM G (w.take t)))), (0, .ref (A.a 0)), (2, .int (iI k))]), W p l e ({ frames := 3, cells := 0, slots := 0, locals := 75 }) s m args below meth c H locs 0 0 (aQi below (dEnd A) (dAdr A) args s ((fun z9 g9 t9 => z9 = (flM G w) ∧ g9 = (flG G w) ∧ (t9.th = Z.th)))) (F0 m 14 ls []) := by
    intro n
    induction n with
    | zero => intro t hn; exact absurd hn (Nat.not_lt_zero _)
    | succ n ih_14 =>
      intro t hn ht H locs hC ls hl
      have hhd := hd1_rng (isW_mem w _ _ hB.1) t
      refine lv_iload hx hb dX4_follow_14 (lv_at hl 0 rfl) ?_
      refine li_c hx hb dX4_follow_16 ?_
      refine li_icmp_eq (tgt := 72) hx hb dX4_follow_17 (by decide) (by omega) (fun c_17 => ?_) (fun c_17 => ?_)
      · refine lv_iload_n hx hb dX4_follow_72 rfl (lv_at hl 1 rfl) ?_
        exact d_iret X hC hr hk (by have hend : w.take t = w := List.take_of_length_le (Nat.le_of_not_lt (fun hq => by have := hd1_at hq; omega)); rw [hend]; exact ⟨rfl, rfl, thq3⟩) dX4_follow_73
      · have htl : t < w.length := by refine Nat.lt_of_not_le (fun hq => c_17 (hd1_end hq))
        have hnt := hd1_at htl
        obtain ⟨f1, f2, f3, f4, f5, f6, f7, f8, f9, f10⟩ := way_step hI (by omega) hnk hB htl
        have f11 := f1.vn
        have f12 := f1.vc
        have f13 := f1.rr
        have f14 := flM_rng (w.take t) G hI ((isW_apd G (w.take t) G.vn G.vc (w.drop t)).mp (by rw [List.take_append_drop]; exact hB.1)).1
        have f15 := dMin_rng (r := w[t] / 2) (k := w[t]) f1
        have f16 : (w.take t).length ≤ 24 := by rw [List.length_take]; omega
        refine lv_aload_n hx hb dX4_follow_20 rfl (lv_at hl 2 rfl) ?_
        refine lv_iload hx hb dX4_follow_21 (lv_at hl 0 rfl) ?_
        rw [hnt]
        refine lv_aload_n hx hb dX4_follow_23 rfl (lv_at hl 2 rfl) ?_
        refine agX4_at X hC iX4 (by decide +kernel) dX4_follow_24 (v := (((flG G (w.take t)).vn : Nat) : Int)) rfl ?_
        refine lv_aload_n hx hb dX4_follow_27 rfl (lv_at hl 2 rfl) ?_
        refine agX4_came X hC iX4 (by decide +kernel) dX4_follow_28 (v := (flG G (w.take t)).vc) rfl ?_
        refine d_callix (v := (sO (flG G (w.take t)) (w[t] / 2) ((flG G (w.take t)).vn) ((flG G (w.take t)).vc))) (n := 3) (As := [.int (iI ((w[t] / 2 : Nat) : Int)), .int (iI (((flG G (w.take t)).vn : Nat) : Int)), .int (iI ((flG G (w.take t)).vc))]) (rest := []) X hC (mX4_sideOf l A (flG G (w.take t)) Tq3 (w[t] / 2) ((flG G (w.take t)).vn) ((flG G (w.take t)).vc) f1 (show (w[t] / 2) < (flG G (w.take t)).rr by omega) (show ((flG G (w.take t)).vn) < (flG G (w.take t)).nn by omega) (show -2147483648 ≤ ((flG G (w.take t)).vc) ∧ ((flG G (w.take t)).vc) < 2147483648 by omega)) ⟨gX4_follow_X4_sideOf, ⟨_, rfl⟩, rfl, rfl, ⟨by decide, by decide, by decide +kernel⟩, Nat.le_of_ble_eq_true rfl, Nat.le_of_ble_eq_true rfl⟩ (a_recv (y := yX4_sideOf) X hC.1 (ci := 4) (q0 := 0) rfl rfl rfl) rfl hl.1 rfl (Nat.le_of_ble_eq_true rfl) ⟨Nat.le_of_ble_eq_true rfl, Nat.le_of_ble_eq_true rfl⟩ dX4_follow_31 (fun H locs hC => ?_)
        rw [f6]
        refine lv_iload_n hx hb dX4_follow_34 rfl (lv_at hl 3 rfl) ?_
        refine li_icmp_ne (tgt := 42) hx hb dX4_follow_35 (by decide) (by omega) (fun c_35 => ?_) (fun c_35 => ?_)
        · refine li_c hx hb dX4_follow_42 ?_
          refine lv_istore (lv' := [(5, .int (iI 0)), (4, .int (iI (hd1 (w.drop t)))), (3, .int (iI (flM G (w.take t)))), (0, .ref (A.a 0)), (2, .int (iI k))]) hx hb dX4_follow_43 hl (by decide) rfl (fun ls hl => ?_)
          refine lv_iload_n hx hb dX4_follow_45 rfl (lv_at hl 2 rfl) ?_
          refine lv_aload_n hx hb dX4_follow_46 rfl (lv_at hl 3 rfl) ?_
          refine lv_iload hx hb dX4_follow_47 (lv_at hl 1 rfl) ?_
          rw [hnt]
          refine d_callix (v := (dMin (flG G (w.take t)) (w[t] / 2) (w[t]))) (n := 1) (As := [.int (iI ((w[t] / 2 : Nat) : Int))]) (rest := [.int (iI (flM G (w.take t)))]) X hC (mX4_drive l A (flG G (w.take t)) Tq3 (w[t] / 2) (w[t]) f1 (show (w[t] / 2) < (flG G (w.take t)).rr from f4) (show (w[t]) < 2 * (flG G (w.take t)).rr from f5) (show sO (flG G (w.take t)) (w[t] / 2) (flG G (w.take t)).vn (flG G (w.take t)).vc = ((w[t]) : Int) from f6)) ⟨gX4_follow_X4_drive, ⟨_, rfl⟩, rfl, rfl, ⟨by decide, by decide, by decide +kernel⟩, Nat.le_of_ble_eq_true rfl, Nat.le_of_ble_eq_true rfl⟩ (a_recv (y := yX4_drive) X hC.1 (ci := 4) (q0 := 0) rfl rfl rfl) rfl hl.1 rfl (Nat.le_of_ble_eq_true rfl) ⟨Nat.le_of_ble_eq_true rfl, Nat.le_of_ble_eq_true rfl⟩ dX4_follow_49 (fun H locs hC => ?_)
          refine li_add hx hb dX4_follow_52 ?_
          refine lv_istore_n (lv' := [(3, .int (iI ((flM G (w.take t)) + (dMin (flG G (w.take t)) (w[t] / 2) (w[t]))))), (5, .int (iI 0)), (4, .int (iI (hd1 (w.drop t)))), (0, .ref (A.a 0)), (2, .int (iI k))]) hx hb dX4_follow_53 rfl hl (by decide) rfl (fun ls hl => ?_)
          refine lv_iload hx hb dX4_follow_54 (lv_at hl 1 rfl) ?_
          refine li_if_eq (tgt := 63) hx hb dX4_follow_56 (by decide) (by omega) (fun c_56 => ?_) (fun c_56 => ?_)
          · have hnx1 := nx_at (G' := drv (flG G (w.take t)) (w[t] / 2) w[t]) (b := w.drop (t + 1)) hI (by omega) okq3 (f2.trans (drv_same _ _ _)) (drv_Inv f1 f4) (by rw [← f7]; exact on_way hI (by omega) hB (f10 (by omega))) (by rw [List.length_drop]; omega)
            refine lv_aload_n hx hb dX4_follow_63 rfl (lv_at hl 3 rfl) ?_
            refine d_callix (v := (if Tq3.wt (wI (drv (flG G (w.take t)) (w[t] / 2) (w[t])).vn (drv (flG G (w.take t)) (w[t] / 2) (w[t])).vc) = 0 ∨ Tq3.wt (wI (drv (flG G (w.take t)) (w[t] / 2) (w[t])).vn (drv (flG G (w.take t)) (w[t] / 2) (w[t])).vc) = 1000000000 then -1 else (((hd1 (w.drop (t + 1))).toNat) : Int))) (n := 0) (As := []) (rest := []) X hC (mX4_nextRoad l A (drv (flG G (w.take t)) (w[t] / 2) (w[t])) Tq3 ((hd1 (w.drop (t + 1))).toNat) (drv_Inv f1 f4) (show ∀ j, j < 104 → Tq3.wt j ≤ 1000000000 from okq3.1.1) (show -1 ≤ Tq3.gs ∧ Tq3.gs < 24 by rw [gsq3]; omega) (show Tq3.wt (wI (drv (flG G (w.take t)) (w[t] / 2) (w[t])).vn (drv (flG G (w.take t)) (w[t] / 2) (w[t])).vc) = 0 ∨ Tq3.wt (wI (drv (flG G (w.take t)) (w[t] / 2) (w[t])).vn (drv (flG G (w.take t)) (w[t] / 2) (w[t])).vc) = 1000000000 ∨ (((hd1 (w.drop (t + 1))).toNat) < (drv (flG G (w.take t)) (w[t] / 2) (w[t])).rr ∧ wBy (drv (flG G (w.take t)) (w[t] / 2) (w[t])) Tq3.wt Tq3.gs ((hd1 (w.drop (t + 1))).toNat) (drv (flG G (w.take t)) (w[t] / 2) (w[t])).vn (drv (flG G (w.take t)) (w[t] / 2) (w[t])).vc = Tq3.wt (wI (drv (flG G (w.take t)) (w[t] / 2) (w[t])).vn (drv (flG G (w.take t)) (w[t] / 2) (w[t])).vc) ∧ ∀ j, j < ((hd1 (w.drop (t + 1))).toNat) → wBy (drv (flG G (w.take t)) (w[t] / 2) (w[t])) Tq3.wt Tq3.gs j (drv (flG G (w.take t)) (w[t] / 2) (w[t])).vn (drv (flG G (w.take t)) (w[t] / 2) (w[t])).vc ≠ Tq3.wt (wI (drv (flG G (w.take t)) (w[t] / 2) (w[t])).vn (drv (flG G (w.take t)) (w[t] / 2) (w[t])).vc)) by rw [gsq3]; exact hnx1.1)) ⟨gX4_follow_X4_nextRoad, ⟨_, rfl⟩, rfl, rfl, ⟨by decide, by decide, by decide +kernel⟩, Nat.le_of_ble_eq_true rfl, Nat.le_of_ble_eq_true rfl⟩ (a_recv (y := yX4_nextRoad) X hC.1 (ci := 4) (q0 := 0) rfl rfl rfl) rfl hl.1 rfl (Nat.le_of_ble_eq_true rfl) ⟨Nat.le_of_ble_eq_true rfl, Nat.le_of_ble_eq_true rfl⟩ dX4_follow_64 (fun H locs hC => ?_)
            rw [hnx1.2]
            refine lv_istore (lv' := [(4, .int (iI (hd1 (w.drop (t + 1))))), (3, .int (iI ((flM G (w.take t)) + (dMin (flG G (w.take t)) (w[t] / 2) (w[t]))))), (5, .int (iI 0)), (0, .ref (A.a 0)), (2, .int (iI k))]) hx hb dX4_follow_67 hl (by decide) rfl (fun ls hl => ?_)
            refine lv_goto (tgt := 14) hx hb dX4_follow_69 (by decide) ?_
            rw [← f7] at hC
            rw [← f8] at hl
            exact ih_14 (t + 1) (by omega) (by omega) H locs hC ls (lv_sub hl [0, 1, 3, 4] rfl)
          · exact absurd c_56 (by decide)
        · refine li_c hx hb dX4_follow_38 ?_
          refine lv_goto (tgt := 43) hx hb dX4_follow_39 (by decide) ?_
          refine lv_istore (lv' := [(5, .int (iI 1)), (4, .int (iI (hd1 (w.drop t)))), (3, .int (iI (flM G (w.take t)))), (0, .ref (A.a 0)), (2, .int (iI k))]) hx hb dX4_follow_43 hl (by decide) rfl (fun ls hl => ?_)
          refine lv_iload_n hx hb dX4_follow_45 rfl (lv_at hl 2 rfl) ?_
          refine lv_aload_n hx hb dX4_follow_46 rfl (lv_at hl 3 rfl) ?_
          refine lv_iload hx hb dX4_follow_47 (lv_at hl 1 rfl) ?_
          rw [hnt]
          refine d_callix (v := (dMin (flG G (w.take t)) (w[t] / 2) (w[t]))) (n := 1) (As := [.int (iI ((w[t] / 2 : Nat) : Int))]) (rest := [.int (iI (flM G (w.take t)))]) X hC (mX4_drive l A (flG G (w.take t)) Tq3 (w[t] / 2) (w[t]) f1 (show (w[t] / 2) < (flG G (w.take t)).rr from f4) (show (w[t]) < 2 * (flG G (w.take t)).rr from f5) (show sO (flG G (w.take t)) (w[t] / 2) (flG G (w.take t)).vn (flG G (w.take t)).vc = ((w[t]) : Int) from f6)) ⟨gX4_follow_X4_drive, ⟨_, rfl⟩, rfl, rfl, ⟨by decide, by decide, by decide +kernel⟩, Nat.le_of_ble_eq_true rfl, Nat.le_of_ble_eq_true rfl⟩ (a_recv (y := yX4_drive) X hC.1 (ci := 4) (q0 := 0) rfl rfl rfl) rfl hl.1 rfl (Nat.le_of_ble_eq_true rfl) ⟨Nat.le_of_ble_eq_true rfl, Nat.le_of_ble_eq_true rfl⟩ dX4_follow_49 (fun H locs hC => ?_)
          refine li_add hx hb dX4_follow_52 ?_
          refine lv_istore_n (lv' := [(3, .int (iI ((flM G (w.take t)) + (dMin (flG G (w.take t)) (w[t] / 2) (w[t]))))), (5, .int (iI 1)), (4, .int (iI (hd1 (w.drop t)))), (0, .ref (A.a 0)), (2, .int (iI k))]) hx hb dX4_follow_53 rfl hl (by decide) rfl (fun ls hl => ?_)
          refine lv_iload hx hb dX4_follow_54 (lv_at hl 1 rfl) ?_
          refine li_if_eq (tgt := 63) hx hb dX4_follow_56 (by decide) (by omega) (fun c_56 => ?_) (fun c_56 => ?_)
          · exact absurd c_56 (by decide)
          · refine li_c hx hb dX4_follow_59 ?_
            refine lv_goto (tgt := 67) hx hb dX4_follow_60 (by decide) ?_
            refine lv_istore (lv' := [(4, .int (iI (-1))), (3, .int (iI ((flM G (w.take t)) + (dMin (flG G (w.take t)) (w[t] / 2) (w[t]))))), (5, .int (iI 1)), (0, .ref (A.a 0)), (2, .int (iI k))]) hx hb dX4_follow_67 hl (by decide) rfl (fun ls hl => ?_)
            refine lv_goto (tgt := 14) hx hb dX4_follow_69 (by decide) ?_
            rw [← f7] at hC
            rw [← f8] at hl
            rw [show (-1 : Int) = hd1 (w.drop (t + 1)) from (hd1_end (by have := f9 (by omega); omega)).symm] at hl
            exact ih_14 (t + 1) (by omega) (by omega) H locs hC ls (lv_sub hl [0, 1, 3, 4] rfl)
  have hC : aH A (dAdr A) (DW A (flG G (w.take 0)) Tq3) s H locs := hC
  have hl : lv_has ls 6 [(4, .int (iI (hd1 (w.drop 0)))), (3, .int (iI (flM G (w.take 0)))), (0, .ref (A.a 0)), (2, .int (iI k))] := lv_sub hl [0, 1, 2, 4] rfl
  exact loop_14 (w.length + 1) 0 (Nat.lt_succ_self _) (by omega) H locs hC ls (lv_sub hl [0, 1, 2, 3] rfl)
