/-! 13: the planner: what does not throw -/
set_option maxHeartbeats 4000000 in
set_option maxRecDepth 100000 in
theorem mX3_isPriority (l : Launch) (A : AD) (G : GS) (Y : YS) (z : Int) (hz : -2147483648 ≤ z ∧ z < 2147483648) : cMi l yX3_isPriority wsX3_isPriority ({ frames := 0, cells := 0, slots := 0, locals := 0 }) A [.int (iI z)] G Y (xI (bP (0 ≤ z ∧ z ≤ 2)) G Y) := by
  intro sz
  refine c_start (cc := cX3_isPriority) (maxL := 1) (ret := (some .boolean)) (by decide) rfl rfl ?_
  intro p e s m args below meth c X hr hk hnm hsz ls hl H locs hC
  subst hsz
  obtain ⟨hx, hb, hml, hown, hts⟩ := id X.1
  have hl : lv_has ls 1 [(0, .int (iI z))] := hl
  refine lv_iload_n hx hb dX3_isPriority_0 rfl (lv_at hl 0 rfl) ?_
  refine li_if_lt (tgt := 13) hx hb dX3_isPriority_1 (by decide) (by omega) (fun c_1 => ?_) (fun c_1 => ?_)
  · refine li_c hx hb dX3_isPriority_13 ?_
    exact c_zret X hC hr hk (by omega) (⟨(bP_f (by omega)).symm, rfl, rfl⟩) dX3_isPriority_14
  · refine lv_iload_n hx hb dX3_isPriority_4 rfl (lv_at hl 0 rfl) ?_
    refine li_c hx hb dX3_isPriority_5 ?_
    refine li_icmp_gt (tgt := 13) hx hb dX3_isPriority_6 (by decide) (by omega) (fun c_6 => ?_) (fun c_6 => ?_)
    · refine li_c hx hb dX3_isPriority_13 ?_
      exact c_zret X hC hr hk (by omega) (⟨(bP_f (by omega)).symm, rfl, rfl⟩) dX3_isPriority_14
    · refine li_c hx hb dX3_isPriority_9 ?_
      refine lv_goto (tgt := 14) hx hb dX3_isPriority_10 (by decide) ?_
      exact c_zret X hC hr hk (by omega) (⟨(bP_t (by omega)).symm, rfl, rfl⟩) dX3_isPriority_14

set_option maxHeartbeats 4000000 in
set_option maxRecDepth 100000 in
theorem mX3_isMoreUrgent (l : Launch) (A : AD) (G : GS) (Y : YS) (i : Nat) (b : Int) (hI : Inv G) (hY : YI Y) (hi : i < 2 * G.rr) (hb1 : -1 ≤ b ∧ b < ((2 * G.rr : Nat) : Int)) : cMi l yX3_isMoreUrgent wsX3_isMoreUrgent ({ frames := 2, cells := 0, slots := 0, locals := 42 }) A [.ref (A.a 0), .int (iI (i : Int)), .int (iI b)] G Y (xI (bP (mu G Y i b)) G Y) := by
  intro sz
  refine c_start (cc := cX3_isMoreUrgent) (maxL := 5) (ret := (some .boolean)) (by decide) rfl rfl ?_
  intro p e s m args below meth c X hr hk hnm hsz ls hl H locs hC
  subst hsz
  obtain ⟨hx, hb, hml, hown, hts⟩ := id X.1
  have hl : lv_has ls 5 [(0, .ref (A.a 0)), (1, .int (iI (i : Int))), (2, .int (iI b))] := hl
  have iX3 : ∀ w ∈ u_ws RX3 TX3 3, w ∈ wsX3_isMoreUrgent := by decide +kernel
  have hrr := hI.rr
  have hp1 := hI.pr (i / 2)
  have hp2 := hI.pr (b.toNat / 2)
  have hm1 := mtZ_rng hY (i : Int)
  have hm2 := mtZ_rng hY b
  refine lv_iload_n hx hb dX3_isMoreUrgent_0 rfl (lv_at hl 2 rfl) ?_
  refine li_c hx hb dX3_isMoreUrgent_1 ?_
  refine li_icmp_ne (tgt := 7) hx hb dX3_isMoreUrgent_2 (by decide) (by omega) (fun c_2 => ?_) (fun c_2 => ?_)
  · obtain ⟨bn, hbn⟩ : ∃ bn : Nat, b = (bn : Int) := ⟨b.toNat, by omega⟩
    subst hbn
    have hp3 := hI.pr (bn / 2)
    refine lv_aload_n hx hb dX3_isMoreUrgent_7 rfl (lv_at hl 0 rfl) ?_
    refine agX3_town X hC iX3 (by decide +kernel) dX3_isMoreUrgent_8 ?_
    refine lv_iload_n hx hb dX3_isMoreUrgent_11 rfl (lv_at hl 1 rfl) ?_
    refine li_c hx hb dX3_isMoreUrgent_12 ?_
    refine li_divN (x := i) (y := 2) hx hb dX3_isMoreUrgent_13 rfl rfl (by omega) ?_
    refine c_callix (v := ((G.pr (i / 2) : Nat) : Int)) (n := 1) (As := [.int (iI ((i / 2 : Nat) : Int))]) (rest := []) X hC (mX0_priorityOf l A G Y (i / 2) (show (i / 2) < G.rr by omega) (show G.rr ≤ 12 by omega)) ⟨gX3_isMoreUrgent_X0_priorityOf, ⟨_, rfl⟩, rfl, rfl, ⟨by decide, by decide, by decide +kernel⟩, Nat.le_of_ble_eq_true rfl, Nat.le_of_ble_eq_true rfl⟩ (a_recv (y := yX0_priorityOf) X hC.1 (ci := 0) (q0 := 1) rfl rfl rfl) rfl hl.1 rfl (Nat.le_of_ble_eq_true rfl) ⟨Nat.zero_le _, Nat.zero_le _⟩ dX3_isMoreUrgent_14 (fun H locs hC => ?_)
    refine lv_istore_n (lv' := [(3, .int (iI ((G.pr (i / 2) : Nat) : Int))), (0, .ref (A.a 0)), (1, .int (iI (i : Int))), (2, .int (iI (bn : Int)))]) hx hb dX3_isMoreUrgent_17 rfl hl (by decide) rfl (fun ls hl => ?_)
    refine lv_aload_n hx hb dX3_isMoreUrgent_18 rfl (lv_at hl 1 rfl) ?_
    refine agX3_town X hC iX3 (by decide +kernel) dX3_isMoreUrgent_19 ?_
    refine lv_iload_n hx hb dX3_isMoreUrgent_22 rfl (lv_at hl 3 rfl) ?_
    refine li_c hx hb dX3_isMoreUrgent_23 ?_
    refine li_divN (x := bn) (y := 2) hx hb dX3_isMoreUrgent_24 rfl rfl (by omega) ?_
    refine c_callix (v := ((G.pr (bn / 2) : Nat) : Int)) (n := 1) (As := [.int (iI ((bn / 2 : Nat) : Int))]) (rest := []) X hC (mX0_priorityOf l A G Y (bn / 2) (show (bn / 2) < G.rr by omega) (show G.rr ≤ 12 by omega)) ⟨gX3_isMoreUrgent_X0_priorityOf, ⟨_, rfl⟩, rfl, rfl, ⟨by decide, by decide, by decide +kernel⟩, Nat.le_of_ble_eq_true rfl, Nat.le_of_ble_eq_true rfl⟩ (a_recv (y := yX0_priorityOf) X hC.1 (ci := 0) (q0 := 1) rfl rfl rfl) rfl hl.1 rfl (Nat.le_of_ble_eq_true rfl) ⟨Nat.zero_le _, Nat.zero_le _⟩ dX3_isMoreUrgent_25 (fun H locs hC => ?_)
    refine lv_istore (lv' := [(4, .int (iI ((G.pr (bn / 2) : Nat) : Int))), (3, .int (iI ((G.pr (i / 2) : Nat) : Int))), (0, .ref (A.a 0)), (1, .int (iI (i : Int))), (2, .int (iI (bn : Int)))]) hx hb dX3_isMoreUrgent_28 hl (by decide) rfl (fun ls hl => ?_)
    refine lv_iload_n hx hb dX3_isMoreUrgent_30 rfl (lv_at hl 1 rfl) ?_
    refine lv_iload hx hb dX3_isMoreUrgent_31 (lv_at hl 0 rfl) ?_
    refine li_icmp_eq (tgt := 48) hx hb dX3_isMoreUrgent_33 (by decide) (by omega) (fun c_33 => ?_) (fun c_33 => ?_)
    · refine lv_aload_n hx hb dX3_isMoreUrgent_48 rfl (lv_at hl 2 rfl) ?_
      refine agX3_ways X hC iX3 (by decide +kernel) dX3_isMoreUrgent_49 ?_
      refine lv_iload_n hx hb dX3_isMoreUrgent_52 rfl (lv_at hl 3 rfl) ?_
      refine c_callix (v := (mtZ Y (i : Int))) (n := 1) (As := [.int (iI (i : Int))]) (rest := []) X hC (mX2_minutesTo l A G Y (i : Int) (show -1 ≤ (i : Int) ∧ (i : Int) < ((2 * G.rr : Nat) : Int) by omega) (show G.rr ≤ 12 by omega)) ⟨gX3_isMoreUrgent_X2_minutesTo, ⟨_, rfl⟩, rfl, rfl, ⟨by decide, by decide, by decide +kernel⟩, Nat.le_of_ble_eq_true rfl, Nat.le_of_ble_eq_true rfl⟩ (a_recv (y := yX2_minutesTo) X hC.1 (ci := 2) (q0 := 3) rfl rfl rfl) rfl hl.1 rfl (Nat.le_of_ble_eq_true rfl) ⟨Nat.zero_le _, Nat.zero_le _⟩ dX3_isMoreUrgent_53 (fun H locs hC => ?_)
      refine lv_aload_n hx hb dX3_isMoreUrgent_56 rfl (lv_at hl 2 rfl) ?_
      refine agX3_ways X hC iX3 (by decide +kernel) dX3_isMoreUrgent_57 ?_
      refine lv_iload_n hx hb dX3_isMoreUrgent_60 rfl (lv_at hl 4 rfl) ?_
      refine c_callix (v := (mtZ Y (bn : Int))) (n := 1) (As := [.int (iI (bn : Int))]) (rest := [.int (iI (mtZ Y (i : Int)))]) X hC (mX2_minutesTo l A G Y (bn : Int) (show -1 ≤ (bn : Int) ∧ (bn : Int) < ((2 * G.rr : Nat) : Int) by omega) (show G.rr ≤ 12 by omega)) ⟨gX3_isMoreUrgent_X2_minutesTo, ⟨_, rfl⟩, rfl, rfl, ⟨by decide, by decide, by decide +kernel⟩, Nat.le_of_ble_eq_true rfl, Nat.le_of_ble_eq_true rfl⟩ (a_recv (y := yX2_minutesTo) X hC.1 (ci := 2) (q0 := 3) rfl rfl rfl) rfl hl.1 rfl (Nat.le_of_ble_eq_true rfl) ⟨Nat.zero_le _, Nat.zero_le _⟩ dX3_isMoreUrgent_61 (fun H locs hC => ?_)
      refine li_icmp_ge (tgt := 71) hx hb dX3_isMoreUrgent_64 (by decide) (by omega) (fun c_64 => ?_) (fun c_64 => ?_)
      · refine li_c hx hb dX3_isMoreUrgent_71 ?_
        exact c_zret X hC hr hk (by omega) (⟨(bP_f (fun hq => by rcases hq with h | h | ⟨h, h2⟩; omega; have h : G.pr (i / 2) < G.pr (bn / 2) := h; omega; omega)).symm, rfl, rfl⟩) dX3_isMoreUrgent_72
      · refine li_c hx hb dX3_isMoreUrgent_67 ?_
        refine lv_goto (tgt := 72) hx hb dX3_isMoreUrgent_68 (by decide) ?_
        exact c_zret X hC hr hk (by omega) (⟨(bP_t (Or.inr (Or.inr ⟨by show G.pr (i / 2) = G.pr (bn / 2); omega, by omega⟩))).symm, rfl, rfl⟩) dX3_isMoreUrgent_72
    · refine lv_iload_n hx hb dX3_isMoreUrgent_36 rfl (lv_at hl 1 rfl) ?_
      refine lv_iload hx hb dX3_isMoreUrgent_37 (lv_at hl 0 rfl) ?_
      refine li_icmp_ge (tgt := 46) hx hb dX3_isMoreUrgent_39 (by decide) (by omega) (fun c_39 => ?_) (fun c_39 => ?_)
      · refine li_c hx hb dX3_isMoreUrgent_46 ?_
        exact c_zret X hC hr hk (by omega) (⟨(bP_f (fun hq => by rcases hq with h | h | ⟨h, h2⟩; omega; have h : G.pr (i / 2) < G.pr (bn / 2) := h; omega; have h : G.pr (i / 2) = G.pr (bn / 2) := h; omega)).symm, rfl, rfl⟩) dX3_isMoreUrgent_47
      · refine li_c hx hb dX3_isMoreUrgent_42 ?_
        refine lv_goto (tgt := 47) hx hb dX3_isMoreUrgent_43 (by decide) ?_
        exact c_zret X hC hr hk (by omega) (⟨(bP_t (Or.inr (Or.inl (by show G.pr (i / 2) < G.pr (bn / 2); omega)))).symm, rfl, rfl⟩) dX3_isMoreUrgent_47
  · refine li_c hx hb dX3_isMoreUrgent_5 ?_
    exact c_zret X hC hr hk (by omega) (⟨(bP_t (Or.inl (by omega))).symm, rfl, rfl⟩) dX3_isMoreUrgent_6

set_option maxHeartbeats 4000000 in
set_option maxRecDepth 100000 in
theorem mX3_findNextSide (l : Launch) (A : AD) (G : GS) (Y : YS) (hI : Inv G) (hY : YI Y) : cMi l yX3_findNextSide wsX3_findNextSide ({ frames := 5, cells := 0, slots := 0, locals := 112 }) A [.ref (A.a 0)] G Y (xI ((fnb G (lka G Y) (2 * G.rr))) G (lka G Y)) := by
  intro sz
  refine c_start (cc := cX3_findNextSide) (maxL := 3) (ret := (some .int)) (by decide) rfl rfl ?_
  intro p e s m args below meth c X hr hk hnm hsz ls hl H locs hC
  subst hsz
  obtain ⟨hx, hb, hml, hown, hts⟩ := id X.1
  have hl : lv_has ls 3 [(0, .ref (A.a 0))] := hl
  have iX3 : ∀ w ∈ u_ws RX3 TX3 3, w ∈ wsX3_findNextSide := by decide +kernel
  have hrr := hI.rr
  have hYl := lka_YI hI hY
  refine lv_aload_n hx hb dX3_findNextSide_0 rfl (lv_at hl 0 rfl) ?_
  refine agX3_ways X hC iX3 (by decide +kernel) dX3_findNextSide_1 ?_
  refine c_callvx (n := 0) (As := []) (rest := []) X hC (mX2_lookAround l A G Y  hI (show YI Y from hY)) ⟨gX3_findNextSide_X2_lookAround, ⟨_, rfl⟩, rfl, rfl, ⟨by decide, by decide, by decide +kernel⟩, Nat.le_of_ble_eq_true rfl, Nat.le_of_ble_eq_true rfl⟩ (a_recv (y := yX2_lookAround) X hC.1 (ci := 2) (q0 := 3) rfl rfl rfl) rfl hl.1 rfl (Nat.le_of_ble_eq_true rfl) ⟨Nat.zero_le _, Nat.zero_le _⟩ dX3_findNextSide_4 (fun H locs hC => ?_)
  refine li_c hx hb dX3_findNextSide_7 ?_
  refine lv_istore_n (lv' := [(1, .int (iI (-1))), (0, .ref (A.a 0))]) hx hb dX3_findNextSide_8 rfl hl (by decide) rfl (fun ls hl => ?_)
  refine li_c hx hb dX3_findNextSide_9 ?_
  refine lv_istore_n (lv' := [(2, .int (iI 0)), (1, .int (iI (-1))), (0, .ref (A.a 0))]) hx hb dX3_findNextSide_10 rfl hl (by decide) rfl (fun ls hl => ?_)
  have loop_11 : ∀ (n : Nat) (i : Nat) (hn : 2 * G.rr - i < n) (hi : i ≤ 2 * G.rr) (H : Heap) (locs : List Loc) (hC : aH A (cAdr A) (CW A G (lka G Y)) s H locs) (ls : Array Slot) (hl : lv_has ls 3 [(2, .int (iI (i : Int))), (1, .int (iI (fnb G (lka G Y) i))), (0, .ref (A.a 0))]), W p l e ({ frames := 5, cells := 0, slots := 0, locals := 112 }) s m args below meth c H locs 0 0 (aQi below (cEnd A) (cAdr A) args s (xI ((fnb G (lka G Y) (2 * G.rr))) G (lka G Y))) (F0 m 11 ls []) := by
    intro n
    induction n with
    | zero => intro i hn; exact absurd hn (Nat.not_lt_zero _)
    | succ n ih_11 =>
      intro i hn hi H locs hC ls hl
      have hfr := fnb_rng G (lka G Y) i
      have hde := hI.de i
      have hm1 := mtZ_rng hYl (i : Int)
      refine lv_iload_n hx hb dX3_findNextSide_11 rfl (lv_at hl 0 rfl) ?_
      refine lv_aload_n hx hb dX3_findNextSide_12 rfl (lv_at hl 2 rfl) ?_
      refine agX3_town X hC iX3 (by decide +kernel) dX3_findNextSide_13 ?_
      refine c_callix (v := ((2 * G.rr : Nat) : Int)) (n := 0) (As := []) (rest := [.int (iI (i : Int))]) X hC (mX0_sideCount l A G (lka G Y)) ⟨gX3_findNextSide_X0_sideCount, ⟨_, rfl⟩, rfl, rfl, ⟨by decide, by decide, by decide +kernel⟩, Nat.le_of_ble_eq_true rfl, Nat.le_of_ble_eq_true rfl⟩ (a_recv (y := yX0_sideCount) X hC.1 (ci := 0) (q0 := 1) rfl rfl rfl) rfl hl.1 rfl (Nat.le_of_ble_eq_true rfl) ⟨Nat.zero_le _, Nat.zero_le _⟩ dX3_findNextSide_16 (fun H locs hC => ?_)
      refine li_icmp_ge (tgt := 64) hx hb dX3_findNextSide_19 (by decide) (by omega) (fun c_19 => ?_) (fun c_19 => ?_)
      · refine lv_iload_n hx hb dX3_findNextSide_64 rfl (lv_at hl 1 rfl) ?_
        exact c_iret X hC hr hk (⟨by rw [show 2 * G.rr = i by omega], rfl, rfl⟩) dX3_findNextSide_65
      · refine lv_aload_n hx hb dX3_findNextSide_22 rfl (lv_at hl 2 rfl) ?_
        refine agX3_town X hC iX3 (by decide +kernel) dX3_findNextSide_23 ?_
        refine lv_iload_n hx hb dX3_findNextSide_26 rfl (lv_at hl 0 rfl) ?_
        refine c_callix (v := ((G.de i : Nat) : Int)) (n := 1) (As := [.int (iI (i : Int))]) (rest := []) X hC (mX0_snowOn l A G (lka G Y) i (show i < 2 * G.rr by omega) (show G.rr ≤ 12 by omega)) ⟨gX3_findNextSide_X0_snowOn, ⟨_, rfl⟩, rfl, rfl, ⟨by decide, by decide, by decide +kernel⟩, Nat.le_of_ble_eq_true rfl, Nat.le_of_ble_eq_true rfl⟩ (a_recv (y := yX0_snowOn) X hC.1 (ci := 0) (q0 := 1) rfl rfl rfl) rfl hl.1 rfl (Nat.le_of_ble_eq_true rfl) ⟨Nat.zero_le _, Nat.zero_le _⟩ dX3_findNextSide_27 (fun H locs hC => ?_)
        refine li_bi hx hb dX3_findNextSide_30 (by decide) ?_
        refine li_icmp_lt (tgt := 58) hx hb dX3_findNextSide_32 (by decide) (by omega) (fun c_32 => ?_) (fun c_32 => ?_)
        · refine li_incN (lv' := [(2, .int (iI ((i + 1 : Nat) : Int))), (1, .int (iI (fnb G (lka G Y) i))), (0, .ref (A.a 0))]) (x := i) (d0 := 1) hx hb dX3_findNextSide_58 hl (k := 0) rfl rfl rfl (by decide) rfl (fun ls hl => ?_)
          refine lv_goto (tgt := 11) hx hb dX3_findNextSide_61 (by decide) ?_
          have e1 : (fnb G (lka G Y) i) = fnb G (lka G Y) (i + 1) := by
            rw [fnb_s]
            first
            | rw [if_neg (fun hq => by obtain ⟨h1, h2, h3⟩ := hq; omega)]
            | rw [if_neg (fun hq => c_53 hq.2.2)]
          rw [e1] at hl
          exact ih_11 (i + 1) (by omega) (by omega) H locs hC ls (lv_sub hl [0, 1, 2] rfl)
        · refine lv_aload_n hx hb dX3_findNextSide_35 rfl (lv_at hl 2 rfl) ?_
          refine agX3_ways X hC iX3 (by decide +kernel) dX3_findNextSide_36 ?_
          refine lv_iload_n hx hb dX3_findNextSide_39 rfl (lv_at hl 0 rfl) ?_
          refine c_callix (v := (mtZ (lka G Y) (i : Int))) (n := 1) (As := [.int (iI (i : Int))]) (rest := []) X hC (mX2_minutesTo l A G (lka G Y) (i : Int) (show -1 ≤ (i : Int) ∧ (i : Int) < ((2 * G.rr : Nat) : Int) by omega) (show G.rr ≤ 12 by omega)) ⟨gX3_findNextSide_X2_minutesTo, ⟨_, rfl⟩, rfl, rfl, ⟨by decide, by decide, by decide +kernel⟩, Nat.le_of_ble_eq_true rfl, Nat.le_of_ble_eq_true rfl⟩ (a_recv (y := yX2_minutesTo) X hC.1 (ci := 2) (q0 := 3) rfl rfl rfl) rfl hl.1 rfl (Nat.le_of_ble_eq_true rfl) ⟨Nat.zero_le _, Nat.zero_le _⟩ dX3_findNextSide_40 (fun H locs hC => ?_)
          refine li_c hx hb dX3_findNextSide_43 ?_
          refine li_icmp_eq (tgt := 58) hx hb dX3_findNextSide_44 (by decide) (by omega) (fun c_44 => ?_) (fun c_44 => ?_)
          · refine li_incN (lv' := [(2, .int (iI ((i + 1 : Nat) : Int))), (1, .int (iI (fnb G (lka G Y) i))), (0, .ref (A.a 0))]) (x := i) (d0 := 1) hx hb dX3_findNextSide_58 hl (k := 0) rfl rfl rfl (by decide) rfl (fun ls hl => ?_)
            refine lv_goto (tgt := 11) hx hb dX3_findNextSide_61 (by decide) ?_
            have e1 : (fnb G (lka G Y) i) = fnb G (lka G Y) (i + 1) := by
              rw [fnb_s]
              first
              | rw [if_neg (fun hq => by obtain ⟨h1, h2, h3⟩ := hq; omega)]
              | rw [if_neg (fun hq => c_53 hq.2.2)]
            rw [e1] at hl
            exact ih_11 (i + 1) (by omega) (by omega) H locs hC ls (lv_sub hl [0, 1, 2] rfl)
          · refine lv_aload_n hx hb dX3_findNextSide_47 rfl (lv_at hl 2 rfl) ?_
            refine lv_iload_n hx hb dX3_findNextSide_48 rfl (lv_at hl 0 rfl) ?_
            refine lv_iload_n hx hb dX3_findNextSide_49 rfl (lv_at hl 1 rfl) ?_
            refine c_callix (v := bP (mu G (lka G Y) i (fnb G (lka G Y) i))) (n := 2) (As := [.int (iI (i : Int)), .int (iI (fnb G (lka G Y) i))]) (rest := []) X hC (mX3_isMoreUrgent l A G (lka G Y) i (fnb G (lka G Y) i) hI (show YI (lka G Y) from hYl) (show i < 2 * G.rr by omega) (show -1 ≤ (fnb G (lka G Y) i) ∧ (fnb G (lka G Y) i) < ((2 * G.rr : Nat) : Int) by omega)) ⟨gX3_findNextSide_X3_isMoreUrgent, ⟨_, rfl⟩, rfl, rfl, ⟨by decide, by decide, by decide +kernel⟩, Nat.le_of_ble_eq_true rfl, Nat.le_of_ble_eq_true rfl⟩ (a_recv (y := yX3_isMoreUrgent) X hC.1 (ci := 3) (q0 := 0) rfl rfl rfl) rfl hl.1 rfl (Nat.le_of_ble_eq_true rfl) ⟨Nat.zero_le _, Nat.zero_le _⟩ dX3_findNextSide_50 (fun H locs hC => ?_)
            refine li_ifb_eq (tgt := 58) hx hb dX3_findNextSide_53 (by decide) (fun c_53 => ?_) (fun c_53 => ?_)
            · refine li_incN (lv' := [(2, .int (iI ((i + 1 : Nat) : Int))), (1, .int (iI (fnb G (lka G Y) i))), (0, .ref (A.a 0))]) (x := i) (d0 := 1) hx hb dX3_findNextSide_58 hl (k := 0) rfl rfl rfl (by decide) rfl (fun ls hl => ?_)
              refine lv_goto (tgt := 11) hx hb dX3_findNextSide_61 (by decide) ?_
              have e1 : (fnb G (lka G Y) i) = fnb G (lka G Y) (i + 1) := by
                rw [fnb_s]
                first
                | rw [if_neg (fun hq => by obtain ⟨h1, h2, h3⟩ := hq; omega)]
                | rw [if_neg (fun hq => c_53 hq.2.2)]
              rw [e1] at hl
              exact ih_11 (i + 1) (by omega) (by omega) H locs hC ls (lv_sub hl [0, 1, 2] rfl)
            · refine lv_iload_n hx hb dX3_findNextSide_56 rfl (lv_at hl 0 rfl) ?_
              refine lv_istore_n (lv' := [(1, .int (iI (i : Int))), (2, .int (iI (i : Int))), (0, .ref (A.a 0))]) hx hb dX3_findNextSide_57 rfl hl (by decide) rfl (fun ls hl => ?_)
              refine li_incN (lv' := [(2, .int (iI ((i + 1 : Nat) : Int))), (1, .int (iI (i : Int))), (0, .ref (A.a 0))]) (x := i) (d0 := 1) hx hb dX3_findNextSide_58 hl (k := 1) rfl rfl rfl (by decide) rfl (fun ls hl => ?_)
              refine lv_goto (tgt := 11) hx hb dX3_findNextSide_61 (by decide) ?_
              have e1 : (i : Int) = fnb G (lka G Y) (i + 1) := by
                rw [fnb_s]
                first
                | rw [if_pos ⟨by omega, by omega, c_53⟩]
              rw [e1] at hl
              exact ih_11 (i + 1) (by omega) (by omega) H locs hC ls (lv_sub hl [0, 1, 2] rfl)
  exact loop_11 ((2 * G.rr) + 1) 0 (Nat.lt_succ_self _) (by omega) H locs hC ls (lv_sub hl [0, 1, 2] rfl)

set_option maxHeartbeats 4000000 in
set_option maxRecDepth 100000 in
theorem mX3_next (l : Launch) (A : AD) (G : GS) (Y : YS) (hI : Inv G) (hY : YI Y) : cMi l yX3_next wsX3_next ({ frames := 6, cells := 0, slots := 0, locals := 134 }) A [.ref (A.a 0)] G Y (xI ((fnb G (lka G Y) (2 * G.rr))) G (lka G Y)) := by
  intro sz
  refine c_start (cc := cX3_next) (maxL := 1) (ret := (some .int)) (by decide) rfl rfl ?_
  intro p e s m args below meth c X hr hk hnm hsz ls hl H locs hC
  subst hsz
  obtain ⟨hx, hb, hml, hown, hts⟩ := id X.1
  have hl : lv_has ls 1 [(0, .ref (A.a 0))] := hl
  refine lv_aload_n hx hb dX3_next_0 rfl (lv_at hl 0 rfl) ?_
  refine c_callix (v := (fnb G (lka G Y) (2 * G.rr))) (n := 0) (As := []) (rest := []) X hC (mX3_findNextSide l A G Y  hI (show YI Y from hY)) ⟨gX3_next_X3_findNextSide, ⟨_, rfl⟩, rfl, rfl, ⟨by decide, by decide, by decide +kernel⟩, Nat.le_of_ble_eq_true rfl, Nat.le_of_ble_eq_true rfl⟩ (a_recv (y := yX3_findNextSide) X hC.1 (ci := 3) (q0 := 0) rfl rfl rfl) rfl hl.1 rfl (Nat.le_of_ble_eq_true rfl) ⟨Nat.zero_le _, Nat.zero_le _⟩ dX3_next_1 (fun H locs hC => ?_)
  exact c_iret X hC hr hk (⟨rfl, rfl, rfl⟩) dX3_next_4

set_option maxHeartbeats 4000000 in
set_option maxRecDepth 100000 in
theorem mX3_nearestStore (l : Launch) (A : AD) (G : GS) (Y : YS) (hI : Inv G) (hY : YI Y) : cMi l yX3_nearestStore wsX3_nearestStore ({ frames := 4, cells := 0, slots := 0, locals := 86 }) A [.ref (A.a 0)] G Y (xI ((nsb G Y G.nn)) G Y) := by
  intro sz
  refine c_start (cc := cX3_nearestStore) (maxL := 3) (ret := (some .int)) (by decide) rfl rfl ?_
  intro p e s m args below meth c X hr hk hnm hsz ls hl H locs hC
  subst hsz
  obtain ⟨hx, hb, hml, hown, hts⟩ := id X.1
  have hl : lv_has ls 3 [(0, .ref (A.a 0))] := hl
  have iX3 : ∀ w ∈ u_ws RX3 TX3 3, w ∈ wsX3_nearestStore := by decide +kernel
  have hrr := hI.rr
  have hnn := hI.nn
  refine li_c hx hb dX3_nearestStore_0 ?_
  refine lv_istore_n (lv' := [(1, .int (iI (-1))), (0, .ref (A.a 0))]) hx hb dX3_nearestStore_1 rfl hl (by decide) rfl (fun ls hl => ?_)
  refine li_c hx hb dX3_nearestStore_2 ?_
  refine lv_istore_n (lv' := [(2, .int (iI 0)), (1, .int (iI (-1))), (0, .ref (A.a 0))]) hx hb dX3_nearestStore_3 rfl hl (by decide) rfl (fun ls hl => ?_)
  have loop_4 : ∀ (n : Nat) (i : Nat) (hn : G.nn - i < n) (hi : i ≤ G.nn) (H : Heap) (locs : List Loc) (hC : aH A (cAdr A) (CW A G Y) s H locs) (ls : Array Slot) (hl : lv_has ls 3 [(2, .int (iI (i : Int))), (1, .int (iI (nsb G Y i))), (0, .ref (A.a 0))]), W p l e ({ frames := 4, cells := 0, slots := 0, locals := 86 }) s m args below meth c H locs 0 0 (aQi below (cEnd A) (cAdr A) args s (xI ((nsb G Y G.nn)) G Y)) (F0 m 4 ls []) := by
    intro n
    induction n with
    | zero => intro i hn; exact absurd hn (Nat.not_lt_zero _)
    | succ n ih_4 =>
      intro i hn hi H locs hC ls hl
      have hfr := nsb_rng G Y i
      have hst := hI.st i
      have hm1 := mnZ_rng (G := G) hY i
      have hm2 := mnZ_rng (G := G) hY (nsb G Y i).toNat
      refine lv_iload_n hx hb dX3_nearestStore_4 rfl (lv_at hl 0 rfl) ?_
      refine lv_aload_n hx hb dX3_nearestStore_5 rfl (lv_at hl 2 rfl) ?_
      refine agX3_town X hC iX3 (by decide +kernel) dX3_nearestStore_6 ?_
      refine c_callix (v := (G.nn : Int)) (n := 0) (As := []) (rest := [.int (iI (i : Int))]) X hC (mX0_nodeCount l A G Y) ⟨gX3_nearestStore_X0_nodeCount, ⟨_, rfl⟩, rfl, rfl, ⟨by decide, by decide, by decide +kernel⟩, Nat.le_of_ble_eq_true rfl, Nat.le_of_ble_eq_true rfl⟩ (a_recv (y := yX0_nodeCount) X hC.1 (ci := 0) (q0 := 1) rfl rfl rfl) rfl hl.1 rfl (Nat.le_of_ble_eq_true rfl) ⟨Nat.zero_le _, Nat.zero_le _⟩ dX3_nearestStore_9 (fun H locs hC => ?_)
      refine li_icmp_ge (tgt := 70) hx hb dX3_nearestStore_12 (by decide) (by omega) (fun c_12 => ?_) (fun c_12 => ?_)
      · refine lv_iload_n hx hb dX3_nearestStore_70 rfl (lv_at hl 1 rfl) ?_
        exact c_iret X hC hr hk (⟨by rw [show G.nn = i by omega], rfl, rfl⟩) dX3_nearestStore_71
      · refine lv_aload_n hx hb dX3_nearestStore_15 rfl (lv_at hl 2 rfl) ?_
        refine agX3_town X hC iX3 (by decide +kernel) dX3_nearestStore_16 ?_
        refine lv_iload_n hx hb dX3_nearestStore_19 rfl (lv_at hl 0 rfl) ?_
        refine c_callix (v := ((G.st i : Nat) : Int)) (n := 1) (As := [.int (iI (i : Int))]) (rest := []) X hC (mX0_isStoreAt l A G Y i (show i < G.nn by omega) (show G.nn ≤ 8 by omega) (show G.st i ≤ 1 by omega)) ⟨gX3_nearestStore_X0_isStoreAt, ⟨_, rfl⟩, rfl, rfl, ⟨by decide, by decide, by decide +kernel⟩, Nat.le_of_ble_eq_true rfl, Nat.le_of_ble_eq_true rfl⟩ (a_recv (y := yX0_isStoreAt) X hC.1 (ci := 0) (q0 := 1) rfl rfl rfl) rfl hl.1 rfl (Nat.le_of_ble_eq_true rfl) ⟨Nat.zero_le _, Nat.zero_le _⟩ dX3_nearestStore_20 (fun H locs hC => ?_)
        refine li_if_eq (tgt := 64) hx hb dX3_nearestStore_23 (by decide) (by omega) (fun c_23 => ?_) (fun c_23 => ?_)
        · refine li_incN (lv' := [(2, .int (iI ((i + 1 : Nat) : Int))), (1, .int (iI (nsb G Y i))), (0, .ref (A.a 0))]) (x := i) (d0 := 1) hx hb dX3_nearestStore_64 hl (k := 0) rfl rfl rfl (by decide) rfl (fun ls hl => ?_)
          refine lv_goto (tgt := 4) hx hb dX3_nearestStore_67 (by decide) ?_
          have e1 : (nsb G Y i) = nsb G Y (i + 1) := by
            rw [nsb_s]
            first
            | rw [if_neg (fun hq => by obtain ⟨h1, h2, h3⟩ := hq; omega)]
          rw [e1] at hl
          exact ih_4 (i + 1) (by omega) (by omega) H locs hC ls (lv_sub hl [0, 1, 2] rfl)
        · refine lv_aload_n hx hb dX3_nearestStore_26 rfl (lv_at hl 2 rfl) ?_
          refine agX3_ways X hC iX3 (by decide +kernel) dX3_nearestStore_27 ?_
          refine lv_iload_n hx hb dX3_nearestStore_30 rfl (lv_at hl 0 rfl) ?_
          refine c_callix (v := (mnZ G Y i)) (n := 1) (As := [.int (iI (i : Int))]) (rest := []) X hC (mX2_minutesToNode l A G Y i hI (show YI Y from hY) (show i < G.nn by omega)) ⟨gX3_nearestStore_X2_minutesToNode, ⟨_, rfl⟩, rfl, rfl, ⟨by decide, by decide, by decide +kernel⟩, Nat.le_of_ble_eq_true rfl, Nat.le_of_ble_eq_true rfl⟩ (a_recv (y := yX2_minutesToNode) X hC.1 (ci := 2) (q0 := 3) rfl rfl rfl) rfl hl.1 rfl (Nat.le_of_ble_eq_true rfl) ⟨Nat.zero_le _, Nat.zero_le _⟩ dX3_nearestStore_31 (fun H locs hC => ?_)
          refine li_c hx hb dX3_nearestStore_34 ?_
          refine li_icmp_eq (tgt := 64) hx hb dX3_nearestStore_35 (by decide) (by omega) (fun c_35 => ?_) (fun c_35 => ?_)
          · refine li_incN (lv' := [(2, .int (iI ((i + 1 : Nat) : Int))), (1, .int (iI (nsb G Y i))), (0, .ref (A.a 0))]) (x := i) (d0 := 1) hx hb dX3_nearestStore_64 hl (k := 0) rfl rfl rfl (by decide) rfl (fun ls hl => ?_)
            refine lv_goto (tgt := 4) hx hb dX3_nearestStore_67 (by decide) ?_
            have e1 : (nsb G Y i) = nsb G Y (i + 1) := by
              rw [nsb_s]
              first
              | rw [if_neg (fun hq => by obtain ⟨h1, h2, h3⟩ := hq; omega)]
            rw [e1] at hl
            exact ih_4 (i + 1) (by omega) (by omega) H locs hC ls (lv_sub hl [0, 1, 2] rfl)
          · refine lv_iload_n hx hb dX3_nearestStore_38 rfl (lv_at hl 1 rfl) ?_
            refine li_c hx hb dX3_nearestStore_39 ?_
            refine li_icmp_eq (tgt := 62) hx hb dX3_nearestStore_40 (by decide) (by omega) (fun c_40 => ?_) (fun c_40 => ?_)
            · refine lv_iload_n hx hb dX3_nearestStore_62 rfl (lv_at hl 0 rfl) ?_
              refine lv_istore_n (lv' := [(1, .int (iI (i : Int))), (2, .int (iI (i : Int))), (0, .ref (A.a 0))]) hx hb dX3_nearestStore_63 rfl hl (by decide) rfl (fun ls hl => ?_)
              refine li_incN (lv' := [(2, .int (iI ((i + 1 : Nat) : Int))), (1, .int (iI (i : Int))), (0, .ref (A.a 0))]) (x := i) (d0 := 1) hx hb dX3_nearestStore_64 hl (k := 1) rfl rfl rfl (by decide) rfl (fun ls hl => ?_)
              refine lv_goto (tgt := 4) hx hb dX3_nearestStore_67 (by decide) ?_
              have e1 : (i : Int) = nsb G Y (i + 1) := by
                rw [nsb_s]
                first
                | rw [if_pos ⟨by omega, by omega, Or.inl (by omega)⟩]
                | rw [if_pos ⟨by omega, by omega, Or.inr (by omega)⟩]
              rw [e1] at hl
              exact ih_4 (i + 1) (by omega) (by omega) H locs hC ls (lv_sub hl [0, 1, 2] rfl)
            · refine lv_aload_n hx hb dX3_nearestStore_43 rfl (lv_at hl 2 rfl) ?_
              refine agX3_ways X hC iX3 (by decide +kernel) dX3_nearestStore_44 ?_
              refine lv_iload_n hx hb dX3_nearestStore_47 rfl (lv_at hl 0 rfl) ?_
              refine c_callix (v := (mnZ G Y i)) (n := 1) (As := [.int (iI (i : Int))]) (rest := []) X hC (mX2_minutesToNode l A G Y i hI (show YI Y from hY) (show i < G.nn by omega)) ⟨gX3_nearestStore_X2_minutesToNode, ⟨_, rfl⟩, rfl, rfl, ⟨by decide, by decide, by decide +kernel⟩, Nat.le_of_ble_eq_true rfl, Nat.le_of_ble_eq_true rfl⟩ (a_recv (y := yX2_minutesToNode) X hC.1 (ci := 2) (q0 := 3) rfl rfl rfl) rfl hl.1 rfl (Nat.le_of_ble_eq_true rfl) ⟨Nat.zero_le _, Nat.zero_le _⟩ dX3_nearestStore_48 (fun H locs hC => ?_)
              refine lv_aload_n hx hb dX3_nearestStore_51 rfl (lv_at hl 2 rfl) ?_
              refine agX3_ways X hC iX3 (by decide +kernel) dX3_nearestStore_52 ?_
              refine lv_iload_n hx hb dX3_nearestStore_55 rfl (lv_at hl 1 rfl) ?_
              refine li_cast0 (z' := ((((nsb G Y i)).toNat : Nat) : Int)) hx hb (by omega) ?_
              refine c_callix (v := (mnZ G Y (((nsb G Y i)).toNat))) (n := 1) (As := [.int (iI ((((nsb G Y i)).toNat : Nat) : Int))]) (rest := [.int (iI (mnZ G Y i))]) X hC (mX2_minutesToNode l A G Y (((nsb G Y i)).toNat) hI (show YI Y from hY) (show (((nsb G Y i)).toNat) < G.nn by omega)) ⟨gX3_nearestStore_X2_minutesToNode, ⟨_, rfl⟩, rfl, rfl, ⟨by decide, by decide, by decide +kernel⟩, Nat.le_of_ble_eq_true rfl, Nat.le_of_ble_eq_true rfl⟩ (a_recv (y := yX2_minutesToNode) X hC.1 (ci := 2) (q0 := 3) rfl rfl rfl) rfl hl.1 rfl (Nat.le_of_ble_eq_true rfl) ⟨Nat.zero_le _, Nat.zero_le _⟩ dX3_nearestStore_56 (fun H locs hC => ?_)
              refine li_icmp_ge (tgt := 64) hx hb dX3_nearestStore_59 (by decide) (by omega) (fun c_59 => ?_) (fun c_59 => ?_)
              · refine li_incN (lv' := [(2, .int (iI ((i + 1 : Nat) : Int))), (1, .int (iI (nsb G Y i))), (0, .ref (A.a 0))]) (x := i) (d0 := 1) hx hb dX3_nearestStore_64 hl (k := 0) rfl rfl rfl (by decide) rfl (fun ls hl => ?_)
                refine lv_goto (tgt := 4) hx hb dX3_nearestStore_67 (by decide) ?_
                have e1 : (nsb G Y i) = nsb G Y (i + 1) := by
                  rw [nsb_s]
                  first
                  | rw [if_neg (fun hq => by obtain ⟨h1, h2, h3⟩ := hq; omega)]
                rw [e1] at hl
                exact ih_4 (i + 1) (by omega) (by omega) H locs hC ls (lv_sub hl [0, 1, 2] rfl)
              · refine lv_iload_n hx hb dX3_nearestStore_62 rfl (lv_at hl 0 rfl) ?_
                refine lv_istore_n (lv' := [(1, .int (iI (i : Int))), (2, .int (iI (i : Int))), (0, .ref (A.a 0))]) hx hb dX3_nearestStore_63 rfl hl (by decide) rfl (fun ls hl => ?_)
                refine li_incN (lv' := [(2, .int (iI ((i + 1 : Nat) : Int))), (1, .int (iI (i : Int))), (0, .ref (A.a 0))]) (x := i) (d0 := 1) hx hb dX3_nearestStore_64 hl (k := 1) rfl rfl rfl (by decide) rfl (fun ls hl => ?_)
                refine lv_goto (tgt := 4) hx hb dX3_nearestStore_67 (by decide) ?_
                have e1 : (i : Int) = nsb G Y (i + 1) := by
                  rw [nsb_s]
                  first
                  | rw [if_pos ⟨by omega, by omega, Or.inl (by omega)⟩]
                  | rw [if_pos ⟨by omega, by omega, Or.inr (by omega)⟩]
                rw [e1] at hl
                exact ih_4 (i + 1) (by omega) (by omega) H locs hC ls (lv_sub hl [0, 1, 2] rfl)
  exact loop_4 (G.nn + 1) 0 (Nat.lt_succ_self _) (by omega) H locs hC ls (lv_sub hl [0, 1, 2] rfl)

set_option maxHeartbeats 4000000 in
set_option maxRecDepth 100000 in
theorem mX3_strew (l : Launch) (A : AD) (G : GS) (Y : YS) (b : Nat) (hb1 : b ≤ 1) (hw : G.vw ≤ 1) : cMi l yX3_strew wsX3_strew ({ frames := 1, cells := 0, slots := 0, locals := 22 }) A [.ref (A.a 0), .int (iI (b : Int))] G Y (xI ((G.vw : Int)) (G.vw' b) Y) := by
  intro sz
  refine c_start (cc := cX3_strew) (maxL := 2) (ret := (some .boolean)) (by decide) rfl rfl ?_
  intro p e s m args below meth c X hr hk hnm hsz ls hl H locs hC
  subst hsz
  obtain ⟨hx, hb, hml, hown, hts⟩ := id X.1
  have hl : lv_has ls 2 [(0, .ref (A.a 0)), (1, .int (iI (b : Int)))] := hl
  have iX3 : ∀ w ∈ u_ws RX3 TX3 3, w ∈ wsX3_strew := by decide +kernel
  refine lv_aload_n hx hb dX3_strew_0 rfl (lv_at hl 0 rfl) ?_
  refine agX3_vehicle X hC iX3 (by decide +kernel) dX3_strew_1 ?_
  refine lv_iload_n hx hb dX3_strew_4 rfl (lv_at hl 1 rfl) ?_
  refine c_callix (v := (G.vw : Int)) (n := 1) (As := [.int (iI (b : Int))]) (rest := []) X hC (mX1_switchStrewing l A G Y b (show b ≤ 1 by omega) (show G.vw ≤ 1 by omega)) ⟨gX3_strew_X1_switchStrewing, ⟨_, rfl⟩, rfl, rfl, ⟨by decide, by decide, by decide +kernel⟩, Nat.le_of_ble_eq_true rfl, Nat.le_of_ble_eq_true rfl⟩ (a_recv (y := yX1_switchStrewing) X hC.1 (ci := 1) (q0 := 2) rfl rfl rfl) rfl hl.1 rfl (Nat.le_of_ble_eq_true rfl) ⟨Nat.zero_le _, Nat.zero_le _⟩ dX3_strew_5 (fun H locs hC => ?_)
  have hC : aH A (cAdr A) (CW A (mkG G.tu G.st G.sm G.mi G.pr G.de G.sa G.nn G.rr G.vn G.vc G.vs b G.tt) Y) s H locs := hC
  exact c_zret X hC hr hk (by omega) (⟨rfl, rfl, rfl⟩) dX3_strew_8

set_option maxHeartbeats 4000000 in
set_option maxRecDepth 100000 in
theorem mX3_digest (l : Launch) (A : AD) (G : GS) (Y : YS) (hI : Inv G) : cMl l yX3_digest wsX3_digest ({ frames := 3, cells := 0, slots := 0, locals := 67 }) A [.ref (A.a 0)] G Y (xL ((dgT G (dgS G (dgR G 223 G.rr) 4) 4)) G Y) := by
  intro sz
  refine c_start (cc := cX3_digest) (maxL := 4) (ret := (some .long)) (by decide) rfl rfl ?_
  intro p e s m args below meth c X hr hk hnm hsz ls hl H locs hC
  subst hsz
  obtain ⟨hx, hb, hml, hown, hts⟩ := id X.1
  have hl : lv_has ls 4 [(0, .ref (A.a 0))] := hl
  have iX3 : ∀ w ∈ u_ws RX3 TX3 3, w ∈ wsX3_digest := by decide +kernel
  have hw := hI.vw
  refine lv_aload_n hx hb dX3_digest_0 rfl (lv_at hl 0 rfl) ?_
  refine agX3_town X hC iX3 (by decide +kernel) dX3_digest_1 ?_
  refine lv_ldc2 (v := 223) hx hb hown (hts _ (by decide +kernel)) dX3_digest_4 ?_
  refine c_calllx (v := (dgR G 223 G.rr)) (n := 1) (As := [.long 223]) (rest := []) X hC (mX0_addTo l A G Y 223 hI) ⟨gX3_digest_X0_addTo, ⟨_, rfl⟩, rfl, rfl, ⟨by decide, by decide, by decide +kernel⟩, Nat.le_of_ble_eq_true rfl, Nat.le_of_ble_eq_true rfl⟩ (a_recv (y := yX0_addTo) X hC.1 (ci := 0) (q0 := 1) rfl rfl rfl) rfl hl.1 rfl (Nat.le_of_ble_eq_true rfl) ⟨Nat.zero_le _, Nat.zero_le _⟩ dX3_digest_7 (fun H locs hC => ?_)
  refine lv_lstore_n (lv' := [(1, .long (dgR G 223 G.rr)), (0, .ref (A.a 0))]) hx hb dX3_digest_10 rfl hl (by decide) rfl (fun ls hl => ?_)
  refine li_c hx hb dX3_digest_11 ?_
  refine lv_istore_n (lv' := [(3, .int (iI 0)), (1, .long (dgR G 223 G.rr)), (0, .ref (A.a 0))]) hx hb dX3_digest_12 rfl hl (by decide) rfl (fun ls hl => ?_)
  have loop_13 : ∀ (n : Nat) (i : Nat) (hn : 4 - i < n) (hi : i ≤ 4) (H : Heap) (locs : List Loc) (hC : aH A (cAdr A) (CW A G Y) s H locs) (ls : Array Slot) (hl : lv_has ls 4 [(3, .int (iI (i : Int))), (1, .long (dgS G (dgR G 223 G.rr) i)), (0, .ref (A.a 0))]), W p l e ({ frames := 3, cells := 0, slots := 0, locals := 67 }) s m args below meth c H locs 0 0 (aQl below (cEnd A) (cAdr A) args s (xL ((dgT G (dgS G (dgR G 223 G.rr) 4) 4)) G Y)) (F0 m 13 ls []) := by
    intro n
    induction n with
    | zero => intro i hn; exact absurd hn (Nat.not_lt_zero _)
    | succ n ih_13 =>
      intro i hn hi H locs hC ls hl
      refine lv_iload_n hx hb dX3_digest_13 rfl (lv_at hl 0 rfl) ?_
      refine li_c hx hb dX3_digest_14 ?_
      refine li_icmp_gt (tgt := 40) hx hb dX3_digest_15 (by decide) (by omega) (fun c_15 => ?_) (fun c_15 => ?_)
      · refine li_c hx hb dX3_digest_40 ?_
        refine lv_istore_n (lv' := [(3, .int (iI 0)), (1, .long (dgS G (dgR G 223 G.rr) i)), (0, .ref (A.a 0))]) hx hb dX3_digest_41 rfl hl (by decide) rfl (fun ls hl => ?_)
        have loop_42 : ∀ (n : Nat) (j : Nat) (hn : 4 - j < n) (hj : j ≤ 4) (H : Heap) (locs : List Loc) (hC : aH A (cAdr A) (CW A G Y) s H locs) (ls : Array Slot) (hl : lv_has ls 4 [(3, .int (iI (j : Int))), (1, .long (dgT G (dgS G (dgR G 223 G.rr) 4) j)), (0, .ref (A.a 0))]), W p l e ({ frames := 3, cells := 0, slots := 0, locals := 67 }) s m args below meth c H locs 0 0 (aQl below (cEnd A) (cAdr A) args s (xL ((dgT G (dgS G (dgR G 223 G.rr) 4) 4)) G Y)) (F0 m 42 ls []) := by
          intro n
          induction n with
          | zero => intro j hn; exact absurd hn (Nat.not_lt_zero _)
          | succ n ih_42 =>
            intro j hn hj H locs hC ls hl
            refine lv_iload_n hx hb dX3_digest_42 rfl (lv_at hl 0 rfl) ?_
            refine li_c hx hb dX3_digest_43 ?_
            refine li_icmp_gt (tgt := 68) hx hb dX3_digest_44 (by decide) (by omega) (fun c_44 => ?_) (fun c_44 => ?_)
            · refine lv_lload_n hx hb dX3_digest_68 rfl (lv_at hl 1 rfl) ?_
              exact c_lret X hC hr hk (⟨by rw [show j = 4 by omega], rfl, rfl⟩) dX3_digest_69
            · refine lv_lload_n hx hb dX3_digest_47 rfl (lv_at hl 1 rfl) ?_
              refine lv_ldc2 (v := 31) hx hb hown (hts _ (by decide +kernel)) dX3_digest_48 ?_
              refine lv_lmul hx hb dX3_digest_51 ?_
              refine lv_aload_n hx hb dX3_digest_52 rfl (lv_at hl 2 rfl) ?_
              refine agX3_vehicle X hC iX3 (by decide +kernel) dX3_digest_53 ?_
              refine lv_iload_n hx hb dX3_digest_56 rfl (lv_at hl 0 rfl) ?_
              refine c_calllx (v := (ttf G (j : Int))) (n := 1) (As := [.int (iI (j : Int))]) (rest := [.long ((dgT G (dgS G (dgR G 223 G.rr) 4) j) * 31)]) X hC (mX1_totalFact l A G Y (j : Int) (show -2147483648 ≤ (j : Int) ∧ (j : Int) < 2147483648 by omega)) ⟨gX3_digest_X1_totalFact, ⟨_, rfl⟩, rfl, rfl, ⟨by decide, by decide, by decide +kernel⟩, Nat.le_of_ble_eq_true rfl, Nat.le_of_ble_eq_true rfl⟩ (a_recv (y := yX1_totalFact) X hC.1 (ci := 1) (q0 := 2) rfl rfl rfl) rfl hl.1 rfl (Nat.le_of_ble_eq_true rfl) ⟨Nat.zero_le _, Nat.zero_le _⟩ dX3_digest_57 (fun H locs hC => ?_)
              refine lv_ladd hx hb dX3_digest_60 ?_
              refine lv_lstore_n (lv' := [(1, .long (((dgT G (dgS G (dgR G 223 G.rr) 4) j) * 31) + (ttf G (j : Int)))), (3, .int (iI (j : Int))), (0, .ref (A.a 0))]) hx hb dX3_digest_61 rfl hl (by decide) rfl (fun ls hl => ?_)
              refine li_incN (lv' := [(3, .int (iI ((j + 1 : Nat) : Int))), (1, .long (((dgT G (dgS G (dgR G 223 G.rr) 4) j) * 31) + (ttf G (j : Int)))), (0, .ref (A.a 0))]) (x := j) (d0 := 1) hx hb dX3_digest_62 hl (k := 1) rfl rfl rfl (by decide) rfl (fun ls hl => ?_)
              refine lv_goto (tgt := 42) hx hb dX3_digest_65 (by decide) ?_
              exact ih_42 (j + 1) (by omega) (by omega) H locs hC ls (lv_sub hl [0, 1, 2] rfl)
        rw [show i = 4 by omega] at hl
        exact loop_42 (4 + 1) 0 (Nat.lt_succ_self _) (by omega) H locs hC ls (lv_sub hl [0, 1, 2] rfl)
      · refine lv_lload_n hx hb dX3_digest_18 rfl (lv_at hl 1 rfl) ?_
        refine lv_ldc2 (v := 31) hx hb hown (hts _ (by decide +kernel)) dX3_digest_19 ?_
        refine lv_lmul hx hb dX3_digest_22 ?_
        refine lv_aload_n hx hb dX3_digest_23 rfl (lv_at hl 2 rfl) ?_
        refine agX3_vehicle X hC iX3 (by decide +kernel) dX3_digest_24 ?_
        refine lv_iload_n hx hb dX3_digest_27 rfl (lv_at hl 0 rfl) ?_
        refine c_callix (v := (stf G (i : Int))) (n := 1) (As := [.int (iI (i : Int))]) (rest := [.long ((dgS G (dgR G 223 G.rr) i) * 31)]) X hC (mX1_stateFact l A G Y (i : Int) (show -2147483648 ≤ (i : Int) ∧ (i : Int) < 2147483648 by omega) (show G.vw ≤ 1 by omega)) ⟨gX3_digest_X1_stateFact, ⟨_, rfl⟩, rfl, rfl, ⟨by decide, by decide, by decide +kernel⟩, Nat.le_of_ble_eq_true rfl, Nat.le_of_ble_eq_true rfl⟩ (a_recv (y := yX1_stateFact) X hC.1 (ci := 1) (q0 := 2) rfl rfl rfl) rfl hl.1 rfl (Nat.le_of_ble_eq_true rfl) ⟨Nat.zero_le _, Nat.zero_le _⟩ dX3_digest_28 (fun H locs hC => ?_)
        refine lv_i2l hx hb dX3_digest_31 rfl ?_
        refine lv_ladd hx hb dX3_digest_32 ?_
        refine lv_lstore_n (lv' := [(1, .long (((dgS G (dgR G 223 G.rr) i) * 31) + (iI (stf G (i : Int))).toInt64)), (3, .int (iI (i : Int))), (0, .ref (A.a 0))]) hx hb dX3_digest_33 rfl hl (by decide) rfl (fun ls hl => ?_)
        refine li_incN (lv' := [(3, .int (iI ((i + 1 : Nat) : Int))), (1, .long (((dgS G (dgR G 223 G.rr) i) * 31) + (iI (stf G (i : Int))).toInt64)), (0, .ref (A.a 0))]) (x := i) (d0 := 1) hx hb dX3_digest_34 hl (k := 1) rfl rfl rfl (by decide) rfl (fun ls hl => ?_)
        refine lv_goto (tgt := 13) hx hb dX3_digest_37 (by decide) ?_
        exact ih_13 (i + 1) (by omega) (by omega) H locs hC ls (lv_sub hl [0, 1, 2] rfl)
  exact loop_13 (4 + 1) 0 (Nat.lt_succ_self _) (by omega) H locs hC ls (lv_sub hl [0, 1, 2] rfl)

set_option maxHeartbeats 4000000 in
set_option maxRecDepth 100000 in
theorem mX3_followWayTo (l : Launch) (A : AD) (G : GS) (Y : YS) (z : Int) (w : List Nat) (hI : Inv G) (hY : YI Y) (hz : -1 ≤ z ∧ z < ((2 * G.rr : Nat) : Int)) (hw : isW G G.vn G.vc w) (hrow : rowW Y z w) : cMi l yX3_followWayTo wsX3_followWayTo ({ frames := 4, cells := 0, slots := 0, locals := 87 }) A [.ref (A.a 0), .int (iI z)] G Y (xI ((flM G w)) (flG G w) Y) := by
  intro sz
  refine c_start (cc := cX3_followWayTo) (maxL := 4) (ret := (some .int)) (by decide) rfl rfl ?_
  intro p e s m args below meth c X hr hk hnm hsz ls hl H locs hC
  subst hsz
  obtain ⟨hx, hb, hml, hown, hts⟩ := id X.1
  have hl : lv_has ls 4 [(0, .ref (A.a 0)), (1, .int (iI z))] := hl
  have iX3 : ∀ w ∈ u_ws RX3 TX3 3, w ∈ wsX3_followWayTo := by decide +kernel
  have hrr := hI.rr
  have hll := layL_le hY z
  have hlw := hrow.1
  refine li_c hx hb dX3_followWayTo_0 ?_
  refine lv_istore_n (lv' := [(2, .int (iI 0)), (0, .ref (A.a 0)), (1, .int (iI z))]) hx hb dX3_followWayTo_1 rfl hl (by decide) rfl (fun ls hl => ?_)
  refine li_c hx hb dX3_followWayTo_2 ?_
  refine lv_istore_n (lv' := [(3, .int (iI 0)), (2, .int (iI 0)), (0, .ref (A.a 0)), (1, .int (iI z))]) hx hb dX3_followWayTo_3 rfl hl (by decide) rfl (fun ls hl => ?_)
  have loop_4 : ∀ (n : Nat) (t : Nat) (hn : w.length - t < n) (ht : t ≤ w.length) (H : Heap) (locs : List Loc) (hC : aH A (cAdr A) (CW A (flG G (w.take t)) Y) s H locs) (ls : Array Slot) (hl : lv_has ls 4 [(3, .int (iI (t : Int))), (2, .int (iI (flM G (w.take t)))), (0, .ref (A.a 0)), (1, .int (iI z))]), W p l e ({ frames := 4, cells := 0, slots := 0, locals := 87 }) s m args below meth c H locs 0 0 (aQi below (cEnd A) (cAdr A) args s (xI ((flM G w)) (flG G w) Y)) (F0 m 4 ls []) := by
    intro n
    induction n with
    | zero => intro t hn; exact absurd hn (Nat.not_lt_zero _)
    | succ n ih_4 =>
      intro t hn ht H locs hC ls hl
      have hsw : sameTown G (flG G (w.take t)) := (fl_Inv (w.take t) G hI (isW_app _ _ _ (w.drop t) (by rw [List.take_append_drop]; exact hw))).2
      have hrr2 : (flG G (w.take t)).rr = G.rr := hsw.2.2.2.2.2.2.1
      refine lv_iload_n hx hb dX3_followWayTo_4 rfl (lv_at hl 0 rfl) ?_
      refine lv_aload_n hx hb dX3_followWayTo_5 rfl (lv_at hl 2 rfl) ?_
      refine agX3_ways X hC iX3 (by decide +kernel) dX3_followWayTo_6 ?_
      refine lv_iload_n hx hb dX3_followWayTo_9 rfl (lv_at hl 3 rfl) ?_
      refine c_callix (v := ((layL Y z : Nat) : Int)) (n := 1) (As := [.int (iI z)]) (rest := [.int (iI (t : Int))]) X hC (mX2_lengthTo l A (flG G (w.take t)) Y z (show -1 ≤ z ∧ z < ((2 * (flG G (w.take t)).rr : Nat) : Int) by omega) (show (flG G (w.take t)).rr ≤ 12 by omega)) ⟨gX3_followWayTo_X2_lengthTo, ⟨_, rfl⟩, rfl, rfl, ⟨by decide, by decide, by decide +kernel⟩, Nat.le_of_ble_eq_true rfl, Nat.le_of_ble_eq_true rfl⟩ (a_recv (y := yX2_lengthTo) X hC.1 (ci := 2) (q0 := 3) rfl rfl rfl) rfl hl.1 rfl (Nat.le_of_ble_eq_true rfl) ⟨Nat.zero_le _, Nat.zero_le _⟩ dX3_followWayTo_10 (fun H locs hC => ?_)
      refine li_icmp_ge (tgt := 41) hx hb dX3_followWayTo_13 (by decide) (by omega) (fun c_13 => ?_) (fun c_13 => ?_)
      · refine lv_iload_n hx hb dX3_followWayTo_41 rfl (lv_at hl 1 rfl) ?_
        exact c_iret X hC hr hk (⟨by rw [show t = w.length by omega, List.take_length], by rw [show t = w.length by omega, List.take_length], rfl⟩) dX3_followWayTo_42
      · have htl : t < w.length := by omega
        have hwt : w.take (t + 1) = w.take t ++ [w[t]] := List.take_succ_eq_append_getElem htl
        have hsp : w.take t ++ w[t] :: w.drop (t + 1) = w := by rw [← List.drop_eq_getElem_cons htl, List.take_append_drop]
        obtain ⟨f1, f2, f3, f4, f5⟩ := fl_step (w.take t) G w[t] (w.drop (t + 1)) hI (by rw [hsp]; exact hw)
        have hsf := sF_side f1 (by omega) f4
        have hrd : rdZ Y z t = ((w[t] / 2 : Nat) : Int) := by unfold rdZ; rw [if_pos (by omega), hrow.2 t htl]
        refine lv_iload_n hx hb dX3_followWayTo_16 rfl (lv_at hl 1 rfl) ?_
        refine lv_aload_n hx hb dX3_followWayTo_17 rfl (lv_at hl 2 rfl) ?_
        refine agX3_vehicle X hC iX3 (by decide +kernel) dX3_followWayTo_18 ?_
        refine lv_aload_n hx hb dX3_followWayTo_21 rfl (lv_at hl 2 rfl) ?_
        refine agX3_ways X hC iX3 (by decide +kernel) dX3_followWayTo_22 ?_
        refine lv_iload_n hx hb dX3_followWayTo_25 rfl (lv_at hl 3 rfl) ?_
        refine lv_iload_n hx hb dX3_followWayTo_26 rfl (lv_at hl 0 rfl) ?_
        refine c_callix (v := (rdZ Y z t)) (n := 2) (As := [.int (iI z), .int (iI (t : Int))]) (rest := [.ref (A.a 2), .int (iI (flM G (w.take t)))]) X hC (mX2_roadTo l A (flG G (w.take t)) Y z t (show -1 ≤ z ∧ z < ((2 * (flG G (w.take t)).rr : Nat) : Int) by omega) (show (flG G (w.take t)).rr ≤ 12 by omega) (show YI Y from hY) (show t ≤ 24 by omega)) ⟨gX3_followWayTo_X2_roadTo, ⟨_, rfl⟩, rfl, rfl, ⟨by decide, by decide, by decide +kernel⟩, Nat.le_of_ble_eq_true rfl, Nat.le_of_ble_eq_true rfl⟩ (a_recv (y := yX2_roadTo) X hC.1 (ci := 2) (q0 := 3) rfl rfl rfl) rfl hl.1 rfl (Nat.le_of_ble_eq_true rfl) ⟨Nat.zero_le _, Nat.zero_le _⟩ dX3_followWayTo_27 (fun H locs hC => ?_)
        rw [hrd]
        refine c_callix (v := (dMin (flG G (w.take t)) (w[t] / 2) (w[t]))) (n := 1) (As := [.int (iI ((w[t] / 2 : Nat) : Int))]) (rest := [.int (iI (flM G (w.take t)))]) X hC (mX1_driveBy l A (flG G (w.take t)) Y (w[t] / 2) (w[t]) f1 (show (w[t] / 2) < (flG G (w.take t)).rr by omega) (show (w[t]) < 2 * (flG G (w.take t)).rr by omega) (show sF (flG G (w.take t)) (flG G (w.take t)).vn (w[t] / 2) = ((w[t]) : Int) from hsf)) ⟨gX3_followWayTo_X1_driveBy, ⟨_, rfl⟩, rfl, rfl, ⟨by decide, by decide, by decide +kernel⟩, Nat.le_of_ble_eq_true rfl, Nat.le_of_ble_eq_true rfl⟩ (a_recv (y := yX1_driveBy) X hC.1 (ci := 1) (q0 := 2) rfl rfl rfl) rfl hl.1 rfl (Nat.le_of_ble_eq_true rfl) ⟨Nat.zero_le _, Nat.zero_le _⟩ dX3_followWayTo_30 (fun H locs hC => ?_)
        refine li_add hx hb dX3_followWayTo_33 ?_
        refine lv_istore_n (lv' := [(2, .int (iI ((flM G (w.take t)) + (dMin (flG G (w.take t)) (w[t] / 2) (w[t]))))), (3, .int (iI (t : Int))), (0, .ref (A.a 0)), (1, .int (iI z))]) hx hb dX3_followWayTo_34 rfl hl (by decide) rfl (fun ls hl => ?_)
        refine li_incN (lv' := [(3, .int (iI ((t + 1 : Nat) : Int))), (2, .int (iI ((flM G (w.take t)) + (dMin (flG G (w.take t)) (w[t] / 2) (w[t]))))), (0, .ref (A.a 0)), (1, .int (iI z))]) (x := t) (d0 := 1) hx hb dX3_followWayTo_35 hl (k := 1) rfl rfl rfl (by decide) rfl (fun ls hl => ?_)
        refine lv_goto (tgt := 4) hx hb dX3_followWayTo_38 (by decide) ?_
        have e1 : (drv (flG G (w.take t)) (w[t] / 2) (w[t])) = flG G (w.take (t + 1)) := by rw [hwt, flG_app]
        have e2 : ((flM G (w.take t)) + (dMin (flG G (w.take t)) (w[t] / 2) (w[t]))) = flM G (w.take (t + 1)) := by rw [hwt, flM_app]
        rw [e1] at hC
        rw [e2] at hl
        exact ih_4 (t + 1) (by omega) (by omega) H locs hC ls (lv_sub hl [0, 1, 2, 3] rfl)
  exact loop_4 (w.length + 1) 0 (Nat.lt_succ_self _) (by omega) H locs hC ls (lv_sub hl [0, 1, 2, 3] rfl)

set_option maxHeartbeats 4000000 in
set_option maxRecDepth 100000 in
theorem mX3_fillUpAt (l : Launch) (A : AD) (G : GS) (Y : YS) (v : Nat) (w : List Nat) (hI : Inv G) (hY : YI Y) (hv : v < G.nn) (hw : isW G G.vn G.vc w) (hrow : rowW Y (lstZ G Y v) w) : cMi l yX3_fillUpAt wsX3_fillUpAt ({ frames := 5, cells := 0, slots := 0, locals := 110 }) A [.ref (A.a 0), .int (iI (v : Int))] G Y (xI ((flM G w + 4)) (tks (flG G w)) Y) := by
  intro sz
  refine c_start (cc := cX3_fillUpAt) (maxL := 3) (ret := (some .int)) (by decide) rfl rfl ?_
  intro p e s m args below meth c X hr hk hnm hsz ls hl H locs hC
  subst hsz
  obtain ⟨hx, hb, hml, hown, hts⟩ := id X.1
  have hl : lv_has ls 3 [(0, .ref (A.a 0)), (1, .int (iI (v : Int)))] := hl
  have iX3 : ∀ w ∈ u_ws RX3 TX3 3, w ∈ wsX3_fillUpAt := by decide +kernel
  have hlz := lstZ_rng G Y v
  have hvs2 := (fl_Inv w G hI hw).1.vs
  refine lv_aload_n hx hb dX3_fillUpAt_0 rfl (lv_at hl 0 rfl) ?_
  refine lv_aload_n hx hb dX3_fillUpAt_1 rfl (lv_at hl 0 rfl) ?_
  refine agX3_ways X hC iX3 (by decide +kernel) dX3_fillUpAt_2 ?_
  refine lv_iload_n hx hb dX3_fillUpAt_5 rfl (lv_at hl 1 rfl) ?_
  refine c_callix (v := (lstZ G Y v)) (n := 1) (As := [.int (iI (v : Int))]) (rest := [.ref (A.a 0)]) X hC (mX2_lastSideTo l A G Y v hI (show YI Y from hY) (show v < G.nn from hv)) ⟨gX3_fillUpAt_X2_lastSideTo, ⟨_, rfl⟩, rfl, rfl, ⟨by decide, by decide, by decide +kernel⟩, Nat.le_of_ble_eq_true rfl, Nat.le_of_ble_eq_true rfl⟩ (a_recv (y := yX2_lastSideTo) X hC.1 (ci := 2) (q0 := 3) rfl rfl rfl) rfl hl.1 rfl (Nat.le_of_ble_eq_true rfl) ⟨Nat.zero_le _, Nat.zero_le _⟩ dX3_fillUpAt_6 (fun H locs hC => ?_)
  refine c_callix (v := (flM G w)) (n := 1) (As := [.int (iI (lstZ G Y v))]) (rest := []) X hC (mX3_followWayTo l A G Y (lstZ G Y v) w hI (show YI Y from hY) (show -1 ≤ (lstZ G Y v) ∧ (lstZ G Y v) < ((2 * G.rr : Nat) : Int) from hlz) (show isW G G.vn G.vc w from hw) (show rowW Y (lstZ G Y v) w from hrow)) ⟨gX3_fillUpAt_X3_followWayTo, ⟨_, rfl⟩, rfl, rfl, ⟨by decide, by decide, by decide +kernel⟩, Nat.le_of_ble_eq_true rfl, Nat.le_of_ble_eq_true rfl⟩ (a_recv (y := yX3_followWayTo) X hC.1 (ci := 3) (q0 := 0) rfl rfl rfl) rfl hl.1 rfl (Nat.le_of_ble_eq_true rfl) ⟨Nat.zero_le _, Nat.zero_le _⟩ dX3_fillUpAt_9 (fun H locs hC => ?_)
  refine lv_istore_n (lv' := [(2, .int (iI (flM G w))), (0, .ref (A.a 0)), (1, .int (iI (v : Int)))]) hx hb dX3_fillUpAt_12 rfl hl (by decide) rfl (fun ls hl => ?_)
  refine lv_aload_n hx hb dX3_fillUpAt_13 rfl (lv_at hl 1 rfl) ?_
  refine agX3_vehicle X hC iX3 (by decide +kernel) dX3_fillUpAt_14 ?_
  refine c_callix (v := ((120 - (flG G w).vs : Nat) : Int)) (n := 0) (As := []) (rest := []) X hC (mX1_takeSalt l A (flG G w) Y  (show (flG G w).vs ≤ 120 by omega)) ⟨gX3_fillUpAt_X1_takeSalt, ⟨_, rfl⟩, rfl, rfl, ⟨by decide, by decide, by decide +kernel⟩, Nat.le_of_ble_eq_true rfl, Nat.le_of_ble_eq_true rfl⟩ (a_recv (y := yX1_takeSalt) X hC.1 (ci := 1) (q0 := 2) rfl rfl rfl) rfl hl.1 rfl (Nat.le_of_ble_eq_true rfl) ⟨Nat.zero_le _, Nat.zero_le _⟩ dX3_fillUpAt_17 (fun H locs hC => ?_)
  have hC : aH A (cAdr A) (CW A (mkG ((flG G w).tu) ((flG G w).st) ((flG G w).sm) ((flG G w).mi) ((flG G w).pr) ((flG G w).de) ((flG G w).sa) ((flG G w).nn) ((flG G w).rr) ((flG G w).vn) ((flG G w).vc) 120 ((flG G w).vw) (up ((flG G w).tt) 0 (((flG G w).tt) 0 + 4))) Y) s H locs := hC
  refine lv_pop hx hb dX3_fillUpAt_20 rfl ?_
  refine lv_iload_n hx hb dX3_fillUpAt_21 rfl (lv_at hl 0 rfl) ?_
  refine li_c hx hb dX3_fillUpAt_22 ?_
  refine li_add hx hb dX3_fillUpAt_23 ?_
  exact c_iret X hC hr hk (⟨rfl, rfl, rfl⟩) dX3_fillUpAt_24
