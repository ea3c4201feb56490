/-! 36: the law's own methods about the planner -/

set_option maxHeartbeats 4000000 in
set_option maxRecDepth 100000 in
theorem wL_addNode (l : Launch) (hl0 : l.stackTraces = false) (A : AD) (o : Nat) (G : GS) (Y : YS) (f : Nat → Int64) (hI : Inv G) (hY : YI Y) (t : Nat) (u : Nat) (ht : t ≤ 1) (hu : u ≤ 1) : wMet l yL_addNode wsL_addNode ({ frames := 7, cells := 1, slots := 6, locals := 104 }) A o [.ref (A.a 0), .int (iI (t : Int)), .int (iI (u : Int)), .ref o] G Y f (if G.nn < 8 then 0 else 1) (iI (G.nn : Int)).toInt64 (((G.tu' (up G.tu G.nn t)).st' (up G.st G.nn u)).nn' (G.nn + 1)) 1 6 := by
  intro sz
  refine w_start (cc := cL_addNode) (maxL := 5) (ret := some .int) (hh := [(0, 10, 13, 13)]) hl0 (by decide) rfl rfl ?_
  intro p e s m args below meth c X hr hk htb hsz ls hl H locs hC
  subst hsz
  obtain ⟨hx, hb, hml, hown, hts⟩ := id X.1.1
  have hl : lv_has ls 5 [(0, .ref (A.a 0)), (1, .int (iI (t : Int))), (2, .int (iI (u : Int))), (3, .ref o)] := hl
  refine lv_aload_n hx hb dL_addNode_0 rfl (lv_at hl 3 rfl) ?_
  refine li_c hx hb dL_addNode_1 ?_
  refine lv_aload_n hx hb dL_addNode_2 rfl (lv_at hl 0 rfl) ?_
  refine lv_iload_n hx hb dL_addNode_3 rfl (lv_at hl 1 rfl) ?_
  refine lv_iload_n hx hb dL_addNode_4 rfl (lv_at hl 2 rfl) ?_
  refine w_calli (n := 2) (As := [.int (iI (t : Int)), .int (iI (u : Int))]) (rest := [.int (iI 0), .ref o]) X hC (mX3_addNode l hl0 A G Y t u (by have := hI.nn; omega) ht hu) rfl ⟨gL_addNode_X3_addNode, ⟨_, rfl⟩, rfl, rfl, ⟨by decide, by decide, by decide +kernel⟩, Nat.le_of_ble_eq_true rfl, Nat.le_of_ble_eq_true rfl⟩ rfl hl.1 rfl (Nat.le_of_ble_eq_true rfl) ⟨Nat.le_of_ble_eq_true rfl, Nat.le_of_ble_eq_true rfl⟩ dL_addNode_5 (fun E ce q9 G' Y' H locs hX hC hce hcv hcl => ?_) (fun z9 G' Y' H locs hQ hC => ?_)
  · obtain ⟨hXE, hXg, hXy⟩ := hX
    rw [hXg, hXy] at hC
    obtain ⟨rfl, hKE⟩ := hXE
    refine vx_catch (name := "java/lang/IllegalStateException") (E := xISE) hown [] ⟨0, 10, 13, 13⟩ [] (by rw [htb]; rfl) (fun z hz => by cases hz) (by decide) (by decide) (hts (.classLink RL 13 "java/lang/IllegalStateException") (by decide +kernel)) (va_Nw.use rfl (X.2.1.1 _ (by decide))) hce hcv hcl ?_
    refine lv_astore (lv' := [(4, .ref q9), (0, .ref (A.a 0)), (1, .int (iI (t : Int))), (2, .int (iI (u : Int))), (3, .ref o)]) hx hb dL_addNode_13 hl (by decide) rfl (fun ls hl => ?_)
    refine li_c hx hb dL_addNode_15 ?_
    exact w_ret X hC hr hk (Nat.le_of_ble_eq_true rfl) (Nat.le_of_ble_eq_true rfl) ⟨by rw [hKE]; rfl, fun h => absurd (hKE.symm.trans h) (by decide), fun _ => ⟨rfl, hY⟩⟩ dL_addNode_16
  · obtain ⟨hK, hv9, hg9, hy9⟩ := hQ
    rw [hg9, hy9] at hC
    subst hv9
    refine lv_i2l hx hb dL_addNode_8 rfl ?_
    refine w_last X hC dL_addNode_9 (fun H locs hC => ?_)
    refine lv_goto (tgt := 17) hx hb dL_addNode_10 (by decide) ?_
    refine li_c hx hb dL_addNode_17 ?_
    exact w_ret X hC hr hk (Nat.le_of_ble_eq_true rfl) (Nat.le_of_ble_eq_true rfl) ⟨by rw [hK]; rfl, fun _ => ⟨rfl, hY, rfl⟩, fun h => absurd hK h⟩ dL_addNode_18

set_option maxHeartbeats 4000000 in
set_option maxRecDepth 100000 in
theorem wL_setNode (l : Launch) (hl0 : l.stackTraces = false) (A : AD) (o : Nat) (G : GS) (Y : YS) (f : Nat → Int64) (hI : Inv G) (hY : YI Y) (z : Int) (b : Nat) (x : Nat) (hz : -2147483648 ≤ z ∧ z < 2147483648) (hb1 : b ≤ 1) (hx1 : x ≤ 1) : wMet l yL_setNode wsL_setNode ({ frames := 8, cells := 1, slots := 6, locals := 126 }) A o [.ref (A.a 0), .int (iI z), .int (iI (b : Int)), .int (iI (x : Int)), .ref o] G Y f (if 0 ≤ z ∧ z < (G.nn : Int) then 0 else 1) (if (if b ≠ 0 then ((G.st z.toNat : Nat) : Int) else ((G.tu z.toNat : Nat) : Int)) = 0 then 0 else 1) ((G.tu' (if b ≠ 0 then G.tu else up G.tu (z).toNat x)).st' (if b ≠ 0 then up G.st (z).toNat x else G.st)) 1 6 := by
  intro sz
  refine w_start (cc := cL_setNode) (maxL := 6) (ret := some .int) (hh := [(0, 19, 22, 19)]) hl0 (by decide) rfl rfl ?_
  intro p e s m args below meth c X hr hk htb hsz ls hl H locs hC
  subst hsz
  obtain ⟨hx, hb, hml, hown, hts⟩ := id X.1.1
  have hl : lv_has ls 6 [(0, .ref (A.a 0)), (1, .int (iI z)), (2, .int (iI (b : Int))), (3, .int (iI (x : Int))), (4, .ref o)] := hl
  refine lv_aload hx hb dL_setNode_0 (lv_at hl 4 rfl) ?_
  refine li_c hx hb dL_setNode_2 ?_
  refine lv_aload_n hx hb dL_setNode_3 rfl (lv_at hl 0 rfl) ?_
  refine lv_iload_n hx hb dL_setNode_4 rfl (lv_at hl 1 rfl) ?_
  refine lv_iload_n hx hb dL_setNode_5 rfl (lv_at hl 2 rfl) ?_
  refine lv_iload_n hx hb dL_setNode_6 rfl (lv_at hl 3 rfl) ?_
  refine w_calli (n := 3) (As := [.int (iI z), .int (iI (b : Int)), .int (iI (x : Int))]) (rest := [.int (iI 0), .ref o]) X hC (mX3_setNode l hl0 A G Y z b x hI hz hb1 hx1) rfl ⟨gL_setNode_X3_setNode, ⟨_, rfl⟩, rfl, rfl, ⟨by decide, by decide, by decide +kernel⟩, Nat.le_of_ble_eq_true rfl, Nat.le_of_ble_eq_true rfl⟩ rfl hl.1 rfl (Nat.le_of_ble_eq_true rfl) ⟨Nat.le_of_ble_eq_true rfl, Nat.le_of_ble_eq_true rfl⟩ dL_setNode_7 (fun E ce q9 G' Y' H locs hX hC hce hcv hcl => ?_) (fun z9 G' Y' H locs hQ hC => ?_)
  · obtain ⟨hXE, hXg, hXy⟩ := hX
    rw [hXg, hXy] at hC
    obtain ⟨rfl, hKE⟩ := hXE
    refine vx_catch (name := "java/lang/IndexOutOfBoundsException") (E := xIOE) hown [] ⟨0, 19, 22, 19⟩ [] (by rw [htb]; rfl) (fun z hz => by cases hz) (by decide) (by decide) (hts (.classLink RL 19 "java/lang/IndexOutOfBoundsException") (by decide +kernel)) (va_Nw.use rfl (X.2.1.1 _ (by decide))) hce hcv hcl ?_
    refine lv_astore (lv' := [(5, .ref q9), (0, .ref (A.a 0)), (1, .int (iI z)), (2, .int (iI (b : Int))), (3, .int (iI (x : Int))), (4, .ref o)]) hx hb dL_setNode_22 hl (by decide) rfl (fun ls hl => ?_)
    refine li_c hx hb dL_setNode_24 ?_
    exact w_ret X hC hr hk (Nat.le_of_ble_eq_true rfl) (Nat.le_of_ble_eq_true rfl) ⟨by rw [hKE]; rfl, fun h => absurd (hKE.symm.trans h) (by decide), fun _ => ⟨rfl, hY⟩⟩ dL_setNode_25
  · obtain ⟨hK, hv9, hg9, hy9⟩ := hQ
    rw [hg9, hy9] at hC
    subst hv9
    refine li_if_eq (tgt := 17) hx hb dL_setNode_10 (by decide) (by have h7 := hI.st z.toNat; have h8 := hI.tu z.toNat; split <;> omega) (fun c9 => ?_) (fun c9 => ?_)
    · refine lv_lconst (v := 0) hx hb dL_setNode_17 rfl ?_
      refine w_last X hC dL_setNode_18 (fun H locs hC => ?_)
      refine lv_goto (tgt := 26) hx hb dL_setNode_19 (by decide) ?_
      refine li_c hx hb dL_setNode_26 ?_
      exact w_ret X hC hr hk (Nat.le_of_ble_eq_true rfl) (Nat.le_of_ble_eq_true rfl) ⟨by rw [hK]; rfl, fun _ => ⟨rfl, hY, by show (0 : Int64) = _; rw [if_pos c9]⟩, fun h => absurd hK h⟩ dL_setNode_27
    · refine lv_lconst (v := 1) hx hb dL_setNode_13 rfl ?_
      refine lv_goto (tgt := 18) hx hb dL_setNode_14 (by decide) ?_
      refine w_last X hC dL_setNode_18 (fun H locs hC => ?_)
      refine lv_goto (tgt := 26) hx hb dL_setNode_19 (by decide) ?_
      refine li_c hx hb dL_setNode_26 ?_
      exact w_ret X hC hr hk (Nat.le_of_ble_eq_true rfl) (Nat.le_of_ble_eq_true rfl) ⟨by rw [hK]; rfl, fun _ => ⟨rfl, hY, by show (1 : Int64) = _; rw [if_neg c9]⟩, fun h => absurd hK h⟩ dL_setNode_27

set_option maxHeartbeats 4000000 in
set_option maxRecDepth 100000 in
theorem wL_addRoad (l : Launch) (hl0 : l.stackTraces = false) (A : AD) (o : Nat) (G : GS) (Y : YS) (f : Nat → Int64) (hI : Inv G) (hY : YI Y) (a : Int) (b : Int) (mm : Int) (q : Int) (ha : -2147483648 ≤ a ∧ a < 2147483648) (hb1 : -2147483648 ≤ b ∧ b < 2147483648) (hm : -2147483648 ≤ mm ∧ mm < 2147483648) (hq : -2147483648 ≤ q ∧ q < 2147483648) : wMet l yL_addRoad wsL_addRoad ({ frames := 8, cells := 3, slots := 18, locals := 127 }) A o [.ref (A.a 0), .int (iI a), .int (iI b), .int (iI mm), .int (iI q), .ref o] G Y f (kRoad G a b mm q) (iI (G.rr : Int)).toInt64 ((((G.sm' (up (up G.sm (2 * G.rr) (a).toNat) (2 * G.rr + 1) (b).toNat)).mi' (up G.mi G.rr (mm).toNat)).pr' (up G.pr G.rr (q).toNat)).rr' (G.rr + 1)) 3 18 := by
  intro sz
  refine w_start (cc := cL_addRoad) (maxL := 7) (ret := some .int) (hh := [(0, 14, 17, 19), (0, 14, 21, 25), (0, 14, 25, 13)]) hl0 (by decide) rfl rfl ?_
  intro p e s m args below meth c X hr hk htb hsz ls hl H locs hC
  subst hsz
  obtain ⟨hx, hb, hml, hown, hts⟩ := id X.1.1
  have hl : lv_has ls 7 [(0, .ref (A.a 0)), (1, .int (iI a)), (2, .int (iI b)), (3, .int (iI mm)), (4, .int (iI q)), (5, .ref o)] := hl
  refine lv_aload hx hb dL_addRoad_0 (lv_at hl 5 rfl) ?_
  refine li_c hx hb dL_addRoad_2 ?_
  refine lv_aload_n hx hb dL_addRoad_3 rfl (lv_at hl 0 rfl) ?_
  refine lv_iload_n hx hb dL_addRoad_4 rfl (lv_at hl 1 rfl) ?_
  refine lv_iload_n hx hb dL_addRoad_5 rfl (lv_at hl 2 rfl) ?_
  refine lv_iload_n hx hb dL_addRoad_6 rfl (lv_at hl 3 rfl) ?_
  refine lv_iload hx hb dL_addRoad_7 (lv_at hl 4 rfl) ?_
  refine w_calli (n := 4) (As := [.int (iI a), .int (iI b), .int (iI mm), .int (iI q)]) (rest := [.int (iI 0), .ref o]) X hC (mX3_addRoad l hl0 A G Y a b mm q hI ha hb1 hm hq) rfl ⟨gL_addRoad_X3_addRoad, ⟨_, rfl⟩, rfl, rfl, ⟨by decide, by decide, by decide +kernel⟩, Nat.le_of_ble_eq_true rfl, Nat.le_of_ble_eq_true rfl⟩ rfl hl.1 rfl (Nat.le_of_ble_eq_true rfl) ⟨Nat.le_of_ble_eq_true rfl, Nat.le_of_ble_eq_true rfl⟩ dL_addRoad_9 (fun E ce q9 G' Y' H locs hX hC hce hcv hcl => ?_) (fun z9 G' Y' H locs hQ hC => ?_)
  · obtain ⟨hXE, hXg, hXy⟩ := hX
    rw [hXg, hXy] at hC
    rcases hXE with ⟨rfl, hKE⟩ | ⟨rfl, hKE⟩ | ⟨rfl, hKE⟩
    · refine vx_catch (name := "java/lang/IndexOutOfBoundsException") (E := xIOE) hown [] ⟨0, 14, 17, 19⟩ [⟨0, 14, 21, 25⟩, ⟨0, 14, 25, 13⟩] (by rw [htb]; rfl) (fun z hz => by cases hz) (by decide) (by decide) (hts (.classLink RL 19 "java/lang/IndexOutOfBoundsException") (by decide +kernel)) (va_Nw.use rfl (X.2.1.1 _ (by decide))) hce hcv hcl ?_
      refine lv_astore (lv' := [(6, .ref q9), (0, .ref (A.a 0)), (1, .int (iI a)), (2, .int (iI b)), (3, .int (iI mm)), (4, .int (iI q)), (5, .ref o)]) hx hb dL_addRoad_17 hl (by decide) rfl (fun ls hl => ?_)
      refine li_c hx hb dL_addRoad_19 ?_
      exact w_ret X hC hr hk (Nat.le_of_ble_eq_true rfl) (Nat.le_of_ble_eq_true rfl) ⟨by rw [hKE]; rfl, fun h => absurd (hKE.symm.trans h) (by decide), fun _ => ⟨rfl, hY⟩⟩ dL_addRoad_20
    · refine vx_catch (name := "java/lang/IllegalArgumentException") (E := xIAE) hown [⟨0, 14, 17, 19⟩] ⟨0, 14, 21, 25⟩ [⟨0, 14, 25, 13⟩] (by rw [htb]; rfl) (fun z hz => by rcases List.mem_cons.mp hz with rfl | hz <;> first | exact Or.inr ⟨by decide, _, hts (.classLink RL 19 "java/lang/IndexOutOfBoundsException") (by decide +kernel), X.2.2.2.1.1⟩ | cases hz) (by decide) (by decide) (hts (.classLink RL 25 "java/lang/IllegalArgumentException") (by decide +kernel)) (va_Nw.use rfl (X.2.1.1 _ (by decide))) hce hcv hcl ?_
      refine lv_astore (lv' := [(6, .ref q9), (0, .ref (A.a 0)), (1, .int (iI a)), (2, .int (iI b)), (3, .int (iI mm)), (4, .int (iI q)), (5, .ref o)]) hx hb dL_addRoad_21 hl (by decide) rfl (fun ls hl => ?_)
      refine li_c hx hb dL_addRoad_23 ?_
      exact w_ret X hC hr hk (Nat.le_of_ble_eq_true rfl) (Nat.le_of_ble_eq_true rfl) ⟨by rw [hKE]; rfl, fun h => absurd (hKE.symm.trans h) (by decide), fun _ => ⟨rfl, hY⟩⟩ dL_addRoad_24
    · refine vx_catch (name := "java/lang/IllegalStateException") (E := xISE) hown [⟨0, 14, 17, 19⟩, ⟨0, 14, 21, 25⟩] ⟨0, 14, 25, 13⟩ [] (by rw [htb]; rfl) (fun z hz => by rcases List.mem_cons.mp hz with rfl | hz; exact Or.inr ⟨by decide, _, hts (.classLink RL 19 "java/lang/IndexOutOfBoundsException") (by decide +kernel), X.2.2.2.1.2.1⟩; rcases List.mem_cons.mp hz with rfl | hz; exact Or.inr ⟨by decide, _, hts (.classLink RL 25 "java/lang/IllegalArgumentException") (by decide +kernel), X.2.2.2.1.2.2⟩; cases hz) (by decide) (by decide) (hts (.classLink RL 13 "java/lang/IllegalStateException") (by decide +kernel)) (va_Nw.use rfl (X.2.1.1 _ (by decide))) hce hcv hcl ?_
      refine lv_astore (lv' := [(6, .ref q9), (0, .ref (A.a 0)), (1, .int (iI a)), (2, .int (iI b)), (3, .int (iI mm)), (4, .int (iI q)), (5, .ref o)]) hx hb dL_addRoad_25 hl (by decide) rfl (fun ls hl => ?_)
      refine li_c hx hb dL_addRoad_27 ?_
      exact w_ret X hC hr hk (Nat.le_of_ble_eq_true rfl) (Nat.le_of_ble_eq_true rfl) ⟨by rw [hKE]; rfl, fun h => absurd (hKE.symm.trans h) (by decide), fun _ => ⟨rfl, hY⟩⟩ dL_addRoad_28
  · obtain ⟨hK, hv9, hg9, hy9⟩ := hQ
    rw [hg9, hy9] at hC
    subst hv9
    refine lv_i2l hx hb dL_addRoad_12 rfl ?_
    refine w_last X hC dL_addRoad_13 (fun H locs hC => ?_)
    refine lv_goto (tgt := 29) hx hb dL_addRoad_14 (by decide) ?_
    refine li_c hx hb dL_addRoad_29 ?_
    exact w_ret X hC hr hk (Nat.le_of_ble_eq_true rfl) (Nat.le_of_ble_eq_true rfl) ⟨by rw [hK]; rfl, fun _ => ⟨rfl, hY, rfl⟩, fun h => absurd hK h⟩ dL_addRoad_30

set_option maxHeartbeats 4000000 in
set_option maxRecDepth 100000 in
theorem wL_snow (l : Launch) (hl0 : l.stackTraces = false) (A : AD) (o : Nat) (G : GS) (Y : YS) (f : Nat → Int64) (hI : Inv G) (hY : YI Y) (z : Int) (hz : -2147483648 ≤ z ∧ z < 2147483648) : wMet l yL_snow wsL_snow ({ frames := 7, cells := 1, slots := 6, locals := 103 }) A o [.ref (A.a 0), .int (iI z), .ref o] G Y f (if 1 ≤ z ∧ z ≤ 300 then 0 else 1) (iI ((dmax (snD G (z).toNat (2 * G.rr)) (2 * G.rr) : Nat) : Int)).toInt64 ((G.de' (snD G (z).toNat (2 * G.rr))).sa' (snS G (2 * G.rr))) 1 6 := by
  intro sz
  refine w_start (cc := cL_snow) (maxL := 4) (ret := some .int) (hh := [(0, 9, 12, 25)]) hl0 (by decide) rfl rfl ?_
  intro p e s m args below meth c X hr hk htb hsz ls hl H locs hC
  subst hsz
  obtain ⟨hx, hb, hml, hown, hts⟩ := id X.1.1
  have hl : lv_has ls 4 [(0, .ref (A.a 0)), (1, .int (iI z)), (2, .ref o)] := hl
  refine lv_aload_n hx hb dL_snow_0 rfl (lv_at hl 2 rfl) ?_
  refine li_c hx hb dL_snow_1 ?_
  refine lv_aload_n hx hb dL_snow_2 rfl (lv_at hl 0 rfl) ?_
  refine lv_iload_n hx hb dL_snow_3 rfl (lv_at hl 1 rfl) ?_
  refine w_calli (n := 1) (As := [.int (iI z)]) (rest := [.int (iI 0), .ref o]) X hC (mX3_snow l hl0 A G Y z hI hz) rfl ⟨gL_snow_X3_snow, ⟨_, rfl⟩, rfl, rfl, ⟨by decide, by decide, by decide +kernel⟩, Nat.le_of_ble_eq_true rfl, Nat.le_of_ble_eq_true rfl⟩ rfl hl.1 rfl (Nat.le_of_ble_eq_true rfl) ⟨Nat.le_of_ble_eq_true rfl, Nat.le_of_ble_eq_true rfl⟩ dL_snow_4 (fun E ce q9 G' Y' H locs hX hC hce hcv hcl => ?_) (fun z9 G' Y' H locs hQ hC => ?_)
  · obtain ⟨hXE, hXg, hXy⟩ := hX
    rw [hXg, hXy] at hC
    obtain ⟨rfl, hKE⟩ := hXE
    refine vx_catch (name := "java/lang/IllegalArgumentException") (E := xIAE) hown [] ⟨0, 9, 12, 25⟩ [] (by rw [htb]; rfl) (fun z hz => by cases hz) (by decide) (by decide) (hts (.classLink RL 25 "java/lang/IllegalArgumentException") (by decide +kernel)) (va_Nw.use rfl (X.2.1.1 _ (by decide))) hce hcv hcl ?_
    refine lv_astore_n (lv' := [(3, .ref q9), (0, .ref (A.a 0)), (1, .int (iI z)), (2, .ref o)]) hx hb dL_snow_12 rfl hl (by decide) rfl (fun ls hl => ?_)
    refine li_c hx hb dL_snow_13 ?_
    exact w_ret X hC hr hk (Nat.le_of_ble_eq_true rfl) (Nat.le_of_ble_eq_true rfl) ⟨by rw [hKE]; rfl, fun h => absurd (hKE.symm.trans h) (by decide), fun _ => ⟨rfl, hY⟩⟩ dL_snow_14
  · obtain ⟨hK, hv9, hg9, hy9⟩ := hQ
    rw [hg9, hy9] at hC
    subst hv9
    refine lv_i2l hx hb dL_snow_7 rfl ?_
    refine w_last X hC dL_snow_8 (fun H locs hC => ?_)
    refine lv_goto (tgt := 15) hx hb dL_snow_9 (by decide) ?_
    refine li_c hx hb dL_snow_15 ?_
    exact w_ret X hC hr hk (Nat.le_of_ble_eq_true rfl) (Nat.le_of_ble_eq_true rfl) ⟨by rw [hK]; rfl, fun _ => ⟨rfl, hY, rfl⟩, fun h => absurd hK h⟩ dL_snow_16

set_option maxHeartbeats 4000000 in
set_option maxRecDepth 100000 in
theorem wL_depth (l : Launch) (hl0 : l.stackTraces = false) (A : AD) (o : Nat) (G : GS) (Y : YS) (f : Nat → Int64) (hI : Inv G) (hY : YI Y) (r : Int) (k : Int) (hr1 : -2147483648 ≤ r ∧ r < 2147483648) (hk1 : -2147483648 ≤ k ∧ k < 2147483648) : wMet l yL_depth wsL_depth ({ frames := 8, cells := 1, slots := 6, locals := 126 }) A o [.ref (A.a 0), .int (iI r), .int (iI k), .ref o] G Y f (if (0 ≤ r ∧ r < (G.rr : Int)) ∧ (0 ≤ k ∧ k ≤ 1) then 0 else 1) (iI ((G.de (2 * r + k).toNat : Nat) : Int)).toInt64 G 1 6 := by
  intro sz
  refine w_start (cc := cL_depth) (maxL := 5) (ret := some .int) (hh := [(0, 10, 13, 19)]) hl0 (by decide) rfl rfl ?_
  intro p e s m args below meth c X hr hk htb hsz ls hl H locs hC
  subst hsz
  obtain ⟨hx, hb, hml, hown, hts⟩ := id X.1.1
  have hl : lv_has ls 5 [(0, .ref (A.a 0)), (1, .int (iI r)), (2, .int (iI k)), (3, .ref o)] := hl
  refine lv_aload_n hx hb dL_depth_0 rfl (lv_at hl 3 rfl) ?_
  refine li_c hx hb dL_depth_1 ?_
  refine lv_aload_n hx hb dL_depth_2 rfl (lv_at hl 0 rfl) ?_
  refine lv_iload_n hx hb dL_depth_3 rfl (lv_at hl 1 rfl) ?_
  refine lv_iload_n hx hb dL_depth_4 rfl (lv_at hl 2 rfl) ?_
  refine w_calli (n := 2) (As := [.int (iI r), .int (iI k)]) (rest := [.int (iI 0), .ref o]) X hC (mX3_depth l hl0 A G Y r k hI hr1 hk1) rfl ⟨gL_depth_X3_depth, ⟨_, rfl⟩, rfl, rfl, ⟨by decide, by decide, by decide +kernel⟩, Nat.le_of_ble_eq_true rfl, Nat.le_of_ble_eq_true rfl⟩ rfl hl.1 rfl (Nat.le_of_ble_eq_true rfl) ⟨Nat.le_of_ble_eq_true rfl, Nat.le_of_ble_eq_true rfl⟩ dL_depth_5 (fun E ce q9 G' Y' H locs hX hC hce hcv hcl => ?_) (fun z9 G' Y' H locs hQ hC => ?_)
  · obtain ⟨hXE, hXg, hXy⟩ := hX
    rw [hXg, hXy] at hC
    obtain ⟨rfl, hKE⟩ := hXE
    refine vx_catch (name := "java/lang/IndexOutOfBoundsException") (E := xIOE) hown [] ⟨0, 10, 13, 19⟩ [] (by rw [htb]; rfl) (fun z hz => by cases hz) (by decide) (by decide) (hts (.classLink RL 19 "java/lang/IndexOutOfBoundsException") (by decide +kernel)) (va_Nw.use rfl (X.2.1.1 _ (by decide))) hce hcv hcl ?_
    refine lv_astore (lv' := [(4, .ref q9), (0, .ref (A.a 0)), (1, .int (iI r)), (2, .int (iI k)), (3, .ref o)]) hx hb dL_depth_13 hl (by decide) rfl (fun ls hl => ?_)
    refine li_c hx hb dL_depth_15 ?_
    exact w_ret X hC hr hk (Nat.le_of_ble_eq_true rfl) (Nat.le_of_ble_eq_true rfl) ⟨by rw [hKE]; rfl, fun h => absurd (hKE.symm.trans h) (by decide), fun _ => ⟨rfl, hY⟩⟩ dL_depth_16
  · obtain ⟨hK, hv9, hg9, hy9⟩ := hQ
    rw [hg9, hy9] at hC
    subst hv9
    refine lv_i2l hx hb dL_depth_8 rfl ?_
    refine w_last X hC dL_depth_9 (fun H locs hC => ?_)
    refine lv_goto (tgt := 17) hx hb dL_depth_10 (by decide) ?_
    refine li_c hx hb dL_depth_17 ?_
    exact w_ret X hC hr hk (Nat.le_of_ble_eq_true rfl) (Nat.le_of_ble_eq_true rfl) ⟨by rw [hK]; rfl, fun _ => ⟨rfl, hY, rfl⟩, fun h => absurd hK h⟩ dL_depth_18

set_option maxHeartbeats 4000000 in
set_option maxRecDepth 100000 in
theorem wL_isSalted (l : Launch) (hl0 : l.stackTraces = false) (A : AD) (o : Nat) (G : GS) (Y : YS) (f : Nat → Int64) (hI : Inv G) (hY : YI Y) (r : Int) (k : Int) (hr1 : -2147483648 ≤ r ∧ r < 2147483648) (hk1 : -2147483648 ≤ k ∧ k < 2147483648) : wMet l yL_isSalted wsL_isSalted ({ frames := 8, cells := 1, slots := 6, locals := 126 }) A o [.ref (A.a 0), .int (iI r), .int (iI k), .ref o] G Y f (if (0 ≤ r ∧ r < (G.rr : Int)) ∧ (0 ≤ k ∧ k ≤ 1) then 0 else 1) (if ((G.sa (2 * r + k).toNat : Nat) : Int) = 0 then 0 else 1) G 1 6 := by
  intro sz
  refine w_start (cc := cL_isSalted) (maxL := 5) (ret := some .int) (hh := [(0, 17, 20, 19)]) hl0 (by decide) rfl rfl ?_
  intro p e s m args below meth c X hr hk htb hsz ls hl H locs hC
  subst hsz
  obtain ⟨hx, hb, hml, hown, hts⟩ := id X.1.1
  have hl : lv_has ls 5 [(0, .ref (A.a 0)), (1, .int (iI r)), (2, .int (iI k)), (3, .ref o)] := hl
  refine lv_aload_n hx hb dL_isSalted_0 rfl (lv_at hl 3 rfl) ?_
  refine li_c hx hb dL_isSalted_1 ?_
  refine lv_aload_n hx hb dL_isSalted_2 rfl (lv_at hl 0 rfl) ?_
  refine lv_iload_n hx hb dL_isSalted_3 rfl (lv_at hl 1 rfl) ?_
  refine lv_iload_n hx hb dL_isSalted_4 rfl (lv_at hl 2 rfl) ?_
  refine w_calli (n := 2) (As := [.int (iI r), .int (iI k)]) (rest := [.int (iI 0), .ref o]) X hC (mX3_isSalted l hl0 A G Y r k hI hr1 hk1) rfl ⟨gL_isSalted_X3_isSalted, ⟨_, rfl⟩, rfl, rfl, ⟨by decide, by decide, by decide +kernel⟩, Nat.le_of_ble_eq_true rfl, Nat.le_of_ble_eq_true rfl⟩ rfl hl.1 rfl (Nat.le_of_ble_eq_true rfl) ⟨Nat.le_of_ble_eq_true rfl, Nat.le_of_ble_eq_true rfl⟩ dL_isSalted_5 (fun E ce q9 G' Y' H locs hX hC hce hcv hcl => ?_) (fun z9 G' Y' H locs hQ hC => ?_)
  · obtain ⟨hXE, hXg, hXy⟩ := hX
    rw [hXg, hXy] at hC
    obtain ⟨rfl, hKE⟩ := hXE
    refine vx_catch (name := "java/lang/IndexOutOfBoundsException") (E := xIOE) hown [] ⟨0, 17, 20, 19⟩ [] (by rw [htb]; rfl) (fun z hz => by cases hz) (by decide) (by decide) (hts (.classLink RL 19 "java/lang/IndexOutOfBoundsException") (by decide +kernel)) (va_Nw.use rfl (X.2.1.1 _ (by decide))) hce hcv hcl ?_
    refine lv_astore (lv' := [(4, .ref q9), (0, .ref (A.a 0)), (1, .int (iI r)), (2, .int (iI k)), (3, .ref o)]) hx hb dL_isSalted_20 hl (by decide) rfl (fun ls hl => ?_)
    refine li_c hx hb dL_isSalted_22 ?_
    exact w_ret X hC hr hk (Nat.le_of_ble_eq_true rfl) (Nat.le_of_ble_eq_true rfl) ⟨by rw [hKE]; rfl, fun h => absurd (hKE.symm.trans h) (by decide), fun _ => ⟨rfl, hY⟩⟩ dL_isSalted_23
  · obtain ⟨hK, hv9, hg9, hy9⟩ := hQ
    rw [hg9, hy9] at hC
    subst hv9
    refine li_if_eq (tgt := 15) hx hb dL_isSalted_8 (by decide) (by have h7 := hI.sa (2 * r + k).toNat; omega) (fun c9 => ?_) (fun c9 => ?_)
    · refine lv_lconst (v := 0) hx hb dL_isSalted_15 rfl ?_
      refine w_last X hC dL_isSalted_16 (fun H locs hC => ?_)
      refine lv_goto (tgt := 24) hx hb dL_isSalted_17 (by decide) ?_
      refine li_c hx hb dL_isSalted_24 ?_
      exact w_ret X hC hr hk (Nat.le_of_ble_eq_true rfl) (Nat.le_of_ble_eq_true rfl) ⟨by rw [hK]; rfl, fun _ => ⟨rfl, hY, by show (0 : Int64) = _; rw [if_pos c9]⟩, fun h => absurd hK h⟩ dL_isSalted_25
    · refine lv_lconst (v := 1) hx hb dL_isSalted_11 rfl ?_
      refine lv_goto (tgt := 16) hx hb dL_isSalted_12 (by decide) ?_
      refine w_last X hC dL_isSalted_16 (fun H locs hC => ?_)
      refine lv_goto (tgt := 24) hx hb dL_isSalted_17 (by decide) ?_
      refine li_c hx hb dL_isSalted_24 ?_
      exact w_ret X hC hr hk (Nat.le_of_ble_eq_true rfl) (Nat.le_of_ble_eq_true rfl) ⟨by rw [hK]; rfl, fun _ => ⟨rfl, hY, by show (1 : Int64) = _; rw [if_neg c9]⟩, fun h => absurd hK h⟩ dL_isSalted_25

set_option maxHeartbeats 4000000 in
set_option maxRecDepth 100000 in
theorem wL_worst (l : Launch) (hl0 : l.stackTraces = false) (A : AD) (o : Nat) (G : GS) (Y : YS) (f : Nat → Int64) (hI : Inv G) (hY : YI Y) (z : Int) (hz : -2147483648 ≤ z ∧ z < 2147483648) : wMet l yL_worst wsL_worst ({ frames := 7, cells := 1, slots := 6, locals := 103 }) A o [.ref (A.a 0), .int (iI z), .ref o] G Y f (if 0 ≤ z ∧ z ≤ 2 then 0 else 1) (iI (dmaxP G.pr G.de z (2 * G.rr))).toInt64 G 1 6 := by
  intro sz
  refine w_start (cc := cL_worst) (maxL := 4) (ret := some .int) (hh := [(0, 9, 12, 19)]) hl0 (by decide) rfl rfl ?_
  intro p e s m args below meth c X hr hk htb hsz ls hl H locs hC
  subst hsz
  obtain ⟨hx, hb, hml, hown, hts⟩ := id X.1.1
  have hl : lv_has ls 4 [(0, .ref (A.a 0)), (1, .int (iI z)), (2, .ref o)] := hl
  refine lv_aload_n hx hb dL_worst_0 rfl (lv_at hl 2 rfl) ?_
  refine li_c hx hb dL_worst_1 ?_
  refine lv_aload_n hx hb dL_worst_2 rfl (lv_at hl 0 rfl) ?_
  refine lv_iload_n hx hb dL_worst_3 rfl (lv_at hl 1 rfl) ?_
  refine w_calli (n := 1) (As := [.int (iI z)]) (rest := [.int (iI 0), .ref o]) X hC (mX3_worst l hl0 A G Y z hI hz) rfl ⟨gL_worst_X3_worst, ⟨_, rfl⟩, rfl, rfl, ⟨by decide, by decide, by decide +kernel⟩, Nat.le_of_ble_eq_true rfl, Nat.le_of_ble_eq_true rfl⟩ rfl hl.1 rfl (Nat.le_of_ble_eq_true rfl) ⟨Nat.le_of_ble_eq_true rfl, Nat.le_of_ble_eq_true rfl⟩ dL_worst_4 (fun E ce q9 G' Y' H locs hX hC hce hcv hcl => ?_) (fun z9 G' Y' H locs hQ hC => ?_)
  · obtain ⟨hXE, hXg, hXy⟩ := hX
    rw [hXg, hXy] at hC
    obtain ⟨rfl, hKE⟩ := hXE
    refine vx_catch (name := "java/lang/IndexOutOfBoundsException") (E := xIOE) hown [] ⟨0, 9, 12, 19⟩ [] (by rw [htb]; rfl) (fun z hz => by cases hz) (by decide) (by decide) (hts (.classLink RL 19 "java/lang/IndexOutOfBoundsException") (by decide +kernel)) (va_Nw.use rfl (X.2.1.1 _ (by decide))) hce hcv hcl ?_
    refine lv_astore_n (lv' := [(3, .ref q9), (0, .ref (A.a 0)), (1, .int (iI z)), (2, .ref o)]) hx hb dL_worst_12 rfl hl (by decide) rfl (fun ls hl => ?_)
    refine li_c hx hb dL_worst_13 ?_
    exact w_ret X hC hr hk (Nat.le_of_ble_eq_true rfl) (Nat.le_of_ble_eq_true rfl) ⟨by rw [hKE]; rfl, fun h => absurd (hKE.symm.trans h) (by decide), fun _ => ⟨rfl, hY⟩⟩ dL_worst_14
  · obtain ⟨hK, hv9, hg9, hy9⟩ := hQ
    rw [hg9, hy9] at hC
    subst hv9
    refine lv_i2l hx hb dL_worst_7 rfl ?_
    refine w_last X hC dL_worst_8 (fun H locs hC => ?_)
    refine lv_goto (tgt := 15) hx hb dL_worst_9 (by decide) ?_
    refine li_c hx hb dL_worst_15 ?_
    exact w_ret X hC hr hk (Nat.le_of_ble_eq_true rfl) (Nat.le_of_ble_eq_true rfl) ⟨by rw [hK]; rfl, fun _ => ⟨rfl, hY, rfl⟩, fun h => absurd hK h⟩ dL_worst_16

set_option maxHeartbeats 4000000 in
set_option maxRecDepth 100000 in
theorem wL_reach (l : Launch) (hl0 : l.stackTraces = false) (A : AD) (o : Nat) (G : GS) (Y : YS) (f : Nat → Int64) (hI : Inv G) (hY : YI Y) (z : Int) (hz : -2147483648 ≤ z ∧ z < 2147483648) : wMet l yL_reach wsL_reach ({ frames := 8, cells := 1, slots := 6, locals := 124 }) A o [.ref (A.a 0), .int (iI z), .ref o] G Y f (if 0 ≤ z ∧ z < (G.nn : Int) then 0 else 1) (iI ((itw G (2 ^ (z).toNat) (G.nn - 1) : Nat) : Int)).toInt64 G 1 6 := by
  intro sz
  refine w_start (cc := cL_reach) (maxL := 4) (ret := some .int) (hh := [(0, 9, 12, 19)]) hl0 (by decide) rfl rfl ?_
  intro p e s m args below meth c X hr hk htb hsz ls hl H locs hC
  subst hsz
  obtain ⟨hx, hb, hml, hown, hts⟩ := id X.1.1
  have hl : lv_has ls 4 [(0, .ref (A.a 0)), (1, .int (iI z)), (2, .ref o)] := hl
  refine lv_aload_n hx hb dL_reach_0 rfl (lv_at hl 2 rfl) ?_
  refine li_c hx hb dL_reach_1 ?_
  refine lv_aload_n hx hb dL_reach_2 rfl (lv_at hl 0 rfl) ?_
  refine lv_iload_n hx hb dL_reach_3 rfl (lv_at hl 1 rfl) ?_
  refine w_calli (n := 1) (As := [.int (iI z)]) (rest := [.int (iI 0), .ref o]) X hC (mX3_reach l hl0 A G Y z hI hz) rfl ⟨gL_reach_X3_reach, ⟨_, rfl⟩, rfl, rfl, ⟨by decide, by decide, by decide +kernel⟩, Nat.le_of_ble_eq_true rfl, Nat.le_of_ble_eq_true rfl⟩ rfl hl.1 rfl (Nat.le_of_ble_eq_true rfl) ⟨Nat.le_of_ble_eq_true rfl, Nat.le_of_ble_eq_true rfl⟩ dL_reach_4 (fun E ce q9 G' Y' H locs hX hC hce hcv hcl => ?_) (fun z9 G' Y' H locs hQ hC => ?_)
  · obtain ⟨hXE, hXg, hXy⟩ := hX
    rw [hXg, hXy] at hC
    obtain ⟨rfl, hKE⟩ := hXE
    refine vx_catch (name := "java/lang/IndexOutOfBoundsException") (E := xIOE) hown [] ⟨0, 9, 12, 19⟩ [] (by rw [htb]; rfl) (fun z hz => by cases hz) (by decide) (by decide) (hts (.classLink RL 19 "java/lang/IndexOutOfBoundsException") (by decide +kernel)) (va_Nw.use rfl (X.2.1.1 _ (by decide))) hce hcv hcl ?_
    refine lv_astore_n (lv' := [(3, .ref q9), (0, .ref (A.a 0)), (1, .int (iI z)), (2, .ref o)]) hx hb dL_reach_12 rfl hl (by decide) rfl (fun ls hl => ?_)
    refine li_c hx hb dL_reach_13 ?_
    exact w_ret X hC hr hk (Nat.le_of_ble_eq_true rfl) (Nat.le_of_ble_eq_true rfl) ⟨by rw [hKE]; rfl, fun h => absurd (hKE.symm.trans h) (by decide), fun _ => ⟨rfl, hY⟩⟩ dL_reach_14
  · obtain ⟨hK, hv9, hg9, hy9⟩ := hQ
    rw [hg9, hy9] at hC
    subst hv9
    refine lv_i2l hx hb dL_reach_7 rfl ?_
    refine w_last X hC dL_reach_8 (fun H locs hC => ?_)
    refine lv_goto (tgt := 15) hx hb dL_reach_9 (by decide) ?_
    refine li_c hx hb dL_reach_15 ?_
    exact w_ret X hC hr hk (Nat.le_of_ble_eq_true rfl) (Nat.le_of_ble_eq_true rfl) ⟨by rw [hK]; rfl, fun _ => ⟨rfl, hY, rfl⟩, fun h => absurd hK h⟩ dL_reach_16

set_option maxHeartbeats 4000000 in
set_option maxRecDepth 100000 in
theorem wL_go (l : Launch) (hl0 : l.stackTraces = false) (A : AD) (o : Nat) (G : GS) (Y : YS) (f : Nat → Int64) (hI : Inv G) (hY : YI Y) (z : Int) (hz : -2147483648 ≤ z ∧ z < 2147483648) : wMet l yL_go wsL_go ({ frames := 7, cells := 1, slots := 6, locals := 108 }) A o [.ref (A.a 0), .int (iI z), .ref o] G Y f (kGo G z) (iI (dMin G (z).toNat (sF G G.vn (z).toNat).toNat)).toInt64 (drv G (z).toNat (sF G G.vn (z).toNat).toNat) 1 6 := by
  intro sz
  refine w_start (cc := cL_go) (maxL := 4) (ret := some .int) (hh := [(0, 9, 12, 19), (0, 9, 15, 13)]) hl0 (by decide) rfl rfl ?_
  intro p e s m args below meth c X hr hk htb hsz ls hl H locs hC
  subst hsz
  obtain ⟨hx, hb, hml, hown, hts⟩ := id X.1.1
  have hl : lv_has ls 4 [(0, .ref (A.a 0)), (1, .int (iI z)), (2, .ref o)] := hl
  refine lv_aload_n hx hb dL_go_0 rfl (lv_at hl 2 rfl) ?_
  refine li_c hx hb dL_go_1 ?_
  refine lv_aload_n hx hb dL_go_2 rfl (lv_at hl 0 rfl) ?_
  refine lv_iload_n hx hb dL_go_3 rfl (lv_at hl 1 rfl) ?_
  refine w_calli (n := 1) (As := [.int (iI z)]) (rest := [.int (iI 0), .ref o]) X hC (mX3_go l hl0 A G Y z hI hz) rfl ⟨gL_go_X3_go, ⟨_, rfl⟩, rfl, rfl, ⟨by decide, by decide, by decide +kernel⟩, Nat.le_of_ble_eq_true rfl, Nat.le_of_ble_eq_true rfl⟩ rfl hl.1 rfl (Nat.le_of_ble_eq_true rfl) ⟨Nat.le_of_ble_eq_true rfl, Nat.le_of_ble_eq_true rfl⟩ dL_go_4 (fun E ce q9 G' Y' H locs hX hC hce hcv hcl => ?_) (fun z9 G' Y' H locs hQ hC => ?_)
  · obtain ⟨hXE, hXg, hXy⟩ := hX
    rw [hXg, hXy] at hC
    rcases hXE with ⟨rfl, hKE⟩ | ⟨rfl, hKE⟩
    · refine vx_catch (name := "java/lang/IndexOutOfBoundsException") (E := xIOE) hown [] ⟨0, 9, 12, 19⟩ [⟨0, 9, 15, 13⟩] (by rw [htb]; rfl) (fun z hz => by cases hz) (by decide) (by decide) (hts (.classLink RL 19 "java/lang/IndexOutOfBoundsException") (by decide +kernel)) (va_Nw.use rfl (X.2.1.1 _ (by decide))) hce hcv hcl ?_
      refine lv_astore_n (lv' := [(3, .ref q9), (0, .ref (A.a 0)), (1, .int (iI z)), (2, .ref o)]) hx hb dL_go_12 rfl hl (by decide) rfl (fun ls hl => ?_)
      refine li_c hx hb dL_go_13 ?_
      exact w_ret X hC hr hk (Nat.le_of_ble_eq_true rfl) (Nat.le_of_ble_eq_true rfl) ⟨by rw [hKE]; rfl, fun h => absurd (hKE.symm.trans h) (by decide), fun _ => ⟨rfl, hY⟩⟩ dL_go_14
    · refine vx_catch (name := "java/lang/IllegalStateException") (E := xISE) hown [⟨0, 9, 12, 19⟩] ⟨0, 9, 15, 13⟩ [] (by rw [htb]; rfl) (fun z hz => by rcases List.mem_cons.mp hz with rfl | hz <;> first | exact Or.inr ⟨by decide, _, hts (.classLink RL 19 "java/lang/IndexOutOfBoundsException") (by decide +kernel), X.2.2.2.1.2.1⟩ | cases hz) (by decide) (by decide) (hts (.classLink RL 13 "java/lang/IllegalStateException") (by decide +kernel)) (va_Nw.use rfl (X.2.1.1 _ (by decide))) hce hcv hcl ?_
      refine lv_astore_n (lv' := [(3, .ref q9), (0, .ref (A.a 0)), (1, .int (iI z)), (2, .ref o)]) hx hb dL_go_15 rfl hl (by decide) rfl (fun ls hl => ?_)
      refine li_c hx hb dL_go_16 ?_
      exact w_ret X hC hr hk (Nat.le_of_ble_eq_true rfl) (Nat.le_of_ble_eq_true rfl) ⟨by rw [hKE]; rfl, fun h => absurd (hKE.symm.trans h) (by decide), fun _ => ⟨rfl, hY⟩⟩ dL_go_17
  · obtain ⟨hK, hv9, hg9, hy9⟩ := hQ
    rw [hg9, hy9] at hC
    subst hv9
    refine lv_i2l hx hb dL_go_7 rfl ?_
    refine w_last X hC dL_go_8 (fun H locs hC => ?_)
    refine lv_goto (tgt := 18) hx hb dL_go_9 (by decide) ?_
    refine li_c hx hb dL_go_18 ?_
    exact w_ret X hC hr hk (Nat.le_of_ble_eq_true rfl) (Nat.le_of_ble_eq_true rfl) ⟨by rw [hK]; rfl, fun _ => ⟨rfl, hY, rfl⟩, fun h => absurd hK h⟩ dL_go_19

set_option maxHeartbeats 4000000 in
set_option maxRecDepth 100000 in
theorem wL_fill (l : Launch) (hl0 : l.stackTraces = false) (A : AD) (o : Nat) (G : GS) (Y : YS) (f : Nat → Int64) (hI : Inv G) (hY : YI Y) : wMet l yL_fill wsL_fill ({ frames := 7, cells := 1, slots := 6, locals := 102 }) A o [.ref (A.a 0), .ref o] G Y f (if G.st G.vn ≠ 0 then 0 else 1) (iI ((120 - G.vs : Nat) : Int)).toInt64 ((G.vs' 120).tt' (up G.tt 0 (G.tt 0 + 4))) 1 6 := by
  intro sz
  refine w_start (cc := cL_fill) (maxL := 3) (ret := some .int) (hh := [(0, 8, 11, 13)]) hl0 (by decide) rfl rfl ?_
  intro p e s m args below meth c X hr hk htb hsz ls hl H locs hC
  subst hsz
  obtain ⟨hx, hb, hml, hown, hts⟩ := id X.1.1
  have hl : lv_has ls 3 [(0, .ref (A.a 0)), (1, .ref o)] := hl
  refine lv_aload_n hx hb dL_fill_0 rfl (lv_at hl 1 rfl) ?_
  refine li_c hx hb dL_fill_1 ?_
  refine lv_aload_n hx hb dL_fill_2 rfl (lv_at hl 0 rfl) ?_
  refine w_calli (n := 0) (As := []) (rest := [.int (iI 0), .ref o]) X hC (mX3_fill l hl0 A G Y hI) rfl ⟨gL_fill_X3_fill, ⟨_, rfl⟩, rfl, rfl, ⟨by decide, by decide, by decide +kernel⟩, Nat.le_of_ble_eq_true rfl, Nat.le_of_ble_eq_true rfl⟩ rfl hl.1 rfl (Nat.le_of_ble_eq_true rfl) ⟨Nat.le_of_ble_eq_true rfl, Nat.le_of_ble_eq_true rfl⟩ dL_fill_3 (fun E ce q9 G' Y' H locs hX hC hce hcv hcl => ?_) (fun z9 G' Y' H locs hQ hC => ?_)
  · obtain ⟨hXE, hXg, hXy⟩ := hX
    rw [hXg, hXy] at hC
    obtain ⟨rfl, hKE⟩ := hXE
    refine vx_catch (name := "java/lang/IllegalStateException") (E := xISE) hown [] ⟨0, 8, 11, 13⟩ [] (by rw [htb]; rfl) (fun z hz => by cases hz) (by decide) (by decide) (hts (.classLink RL 13 "java/lang/IllegalStateException") (by decide +kernel)) (va_Nw.use rfl (X.2.1.1 _ (by decide))) hce hcv hcl ?_
    refine lv_astore_n (lv' := [(2, .ref q9), (0, .ref (A.a 0)), (1, .ref o)]) hx hb dL_fill_11 rfl hl (by decide) rfl (fun ls hl => ?_)
    refine li_c hx hb dL_fill_12 ?_
    exact w_ret X hC hr hk (Nat.le_of_ble_eq_true rfl) (Nat.le_of_ble_eq_true rfl) ⟨by rw [hKE]; rfl, fun h => absurd (hKE.symm.trans h) (by decide), fun _ => ⟨rfl, hY⟩⟩ dL_fill_13
  · obtain ⟨hK, hv9, hg9, hy9⟩ := hQ
    rw [hg9, hy9] at hC
    subst hv9
    refine lv_i2l hx hb dL_fill_6 rfl ?_
    refine w_last X hC dL_fill_7 (fun H locs hC => ?_)
    refine lv_goto (tgt := 14) hx hb dL_fill_8 (by decide) ?_
    refine li_c hx hb dL_fill_14 ?_
    exact w_ret X hC hr hk (Nat.le_of_ble_eq_true rfl) (Nat.le_of_ble_eq_true rfl) ⟨by rw [hK]; rfl, fun _ => ⟨rfl, hY, rfl⟩, fun h => absurd hK h⟩ dL_fill_15

set_option maxHeartbeats 4000000 in
set_option maxRecDepth 100000 in
theorem wL_plough (l : Launch) (hl0 : l.stackTraces = false) (A : AD) (o : Nat) (G : GS) (Y : YS) (f : Nat → Int64) (hI : Inv G) (hY : YI Y) (z : Int) (hz : -2147483648 ≤ z ∧ z < 2147483648) : wMet l yL_plough wsL_plough ({ frames := 8, cells := 1, slots := 6, locals := 123 }) A o [.ref (A.a 0), .int (iI z), .ref o] G Y f (if 0 ≤ z ∧ z ≤ 3 then 0 else 1) (iI (stf G z)).toInt64 G 1 6 := by
  intro sz
  refine w_start (cc := cL_plough) (maxL := 4) (ret := some .int) (hh := [(0, 9, 12, 19)]) hl0 (by decide) rfl rfl ?_
  intro p e s m args below meth c X hr hk htb hsz ls hl H locs hC
  subst hsz
  obtain ⟨hx, hb, hml, hown, hts⟩ := id X.1.1
  have hl : lv_has ls 4 [(0, .ref (A.a 0)), (1, .int (iI z)), (2, .ref o)] := hl
  refine lv_aload_n hx hb dL_plough_0 rfl (lv_at hl 2 rfl) ?_
  refine li_c hx hb dL_plough_1 ?_
  refine lv_aload_n hx hb dL_plough_2 rfl (lv_at hl 0 rfl) ?_
  refine lv_iload_n hx hb dL_plough_3 rfl (lv_at hl 1 rfl) ?_
  refine w_calli (n := 1) (As := [.int (iI z)]) (rest := [.int (iI 0), .ref o]) X hC (mX3_plough l hl0 A G Y z hI hz) rfl ⟨gL_plough_X3_plough, ⟨_, rfl⟩, rfl, rfl, ⟨by decide, by decide, by decide +kernel⟩, Nat.le_of_ble_eq_true rfl, Nat.le_of_ble_eq_true rfl⟩ rfl hl.1 rfl (Nat.le_of_ble_eq_true rfl) ⟨Nat.le_of_ble_eq_true rfl, Nat.le_of_ble_eq_true rfl⟩ dL_plough_4 (fun E ce q9 G' Y' H locs hX hC hce hcv hcl => ?_) (fun z9 G' Y' H locs hQ hC => ?_)
  · obtain ⟨hXE, hXg, hXy⟩ := hX
    rw [hXg, hXy] at hC
    obtain ⟨rfl, hKE⟩ := hXE
    refine vx_catch (name := "java/lang/IndexOutOfBoundsException") (E := xIOE) hown [] ⟨0, 9, 12, 19⟩ [] (by rw [htb]; rfl) (fun z hz => by cases hz) (by decide) (by decide) (hts (.classLink RL 19 "java/lang/IndexOutOfBoundsException") (by decide +kernel)) (va_Nw.use rfl (X.2.1.1 _ (by decide))) hce hcv hcl ?_
    refine lv_astore_n (lv' := [(3, .ref q9), (0, .ref (A.a 0)), (1, .int (iI z)), (2, .ref o)]) hx hb dL_plough_12 rfl hl (by decide) rfl (fun ls hl => ?_)
    refine li_c hx hb dL_plough_13 ?_
    exact w_ret X hC hr hk (Nat.le_of_ble_eq_true rfl) (Nat.le_of_ble_eq_true rfl) ⟨by rw [hKE]; rfl, fun h => absurd (hKE.symm.trans h) (by decide), fun _ => ⟨rfl, hY⟩⟩ dL_plough_14
  · obtain ⟨hK, hv9, hg9, hy9⟩ := hQ
    rw [hg9, hy9] at hC
    subst hv9
    refine lv_i2l hx hb dL_plough_7 rfl ?_
    refine w_last X hC dL_plough_8 (fun H locs hC => ?_)
    refine lv_goto (tgt := 15) hx hb dL_plough_9 (by decide) ?_
    refine li_c hx hb dL_plough_15 ?_
    exact w_ret X hC hr hk (Nat.le_of_ble_eq_true rfl) (Nat.le_of_ble_eq_true rfl) ⟨by rw [hK]; rfl, fun _ => ⟨rfl, hY, rfl⟩, fun h => absurd hK h⟩ dL_plough_16

set_option maxHeartbeats 4000000 in
set_option maxRecDepth 100000 in
theorem wL_way (l : Launch) (hl0 : l.stackTraces = false) (A : AD) (o : Nat) (G : GS) (Y : YS) (f : Nat → Int64) (hI : Inv G) (hY : YI Y) (z : Int) (hz : -2147483648 ≤ z ∧ z < 2147483648) : wMet l yL_way wsL_way ({ frames := 8, cells := 1, slots := 6, locals := 133 }) A o [.ref (A.a 0), .int (iI z), .ref o] G Y f (if 0 ≤ z ∧ z < (G.nn : Int) then 0 else 1) (iI (spM G z (-1))).toInt64 G 1 6 := by
  intro sz
  refine w_start (cc := cL_way) (maxL := 4) (ret := some .int) (hh := [(0, 9, 12, 19)]) hl0 (by decide) rfl rfl ?_
  intro p e s m args below meth c X hr hk htb hsz ls hl H locs hC
  subst hsz
  obtain ⟨hx, hb, hml, hown, hts⟩ := id X.1.1
  have hl : lv_has ls 4 [(0, .ref (A.a 0)), (1, .int (iI z)), (2, .ref o)] := hl
  refine lv_aload_n hx hb dL_way_0 rfl (lv_at hl 2 rfl) ?_
  refine li_c hx hb dL_way_1 ?_
  refine lv_aload_n hx hb dL_way_2 rfl (lv_at hl 0 rfl) ?_
  refine lv_iload_n hx hb dL_way_3 rfl (lv_at hl 1 rfl) ?_
  refine w_calli (n := 1) (As := [.int (iI z)]) (rest := [.int (iI 0), .ref o]) X hC (mX3_way l hl0 A G Y z hI hY hz) rfl ⟨gL_way_X3_way, ⟨_, rfl⟩, rfl, rfl, ⟨by decide, by decide, by decide +kernel⟩, Nat.le_of_ble_eq_true rfl, Nat.le_of_ble_eq_true rfl⟩ rfl hl.1 rfl (Nat.le_of_ble_eq_true rfl) ⟨Nat.le_of_ble_eq_true rfl, Nat.le_of_ble_eq_true rfl⟩ dL_way_4 (fun E ce q9 G' Y' H locs hX hC hce hcv hcl => ?_) (fun z9 G' Y' H locs hQ hC => ?_)
  · obtain ⟨hXE, hXg, hXy⟩ := hX
    rw [hXg, hXy] at hC
    obtain ⟨rfl, hKE⟩ := hXE
    refine vx_catch (name := "java/lang/IndexOutOfBoundsException") (E := xIOE) hown [] ⟨0, 9, 12, 19⟩ [] (by rw [htb]; rfl) (fun z hz => by cases hz) (by decide) (by decide) (hts (.classLink RL 19 "java/lang/IndexOutOfBoundsException") (by decide +kernel)) (va_Nw.use rfl (X.2.1.1 _ (by decide))) hce hcv hcl ?_
    refine lv_astore_n (lv' := [(3, .ref q9), (0, .ref (A.a 0)), (1, .int (iI z)), (2, .ref o)]) hx hb dL_way_12 rfl hl (by decide) rfl (fun ls hl => ?_)
    refine li_c hx hb dL_way_13 ?_
    exact w_ret X hC hr hk (Nat.le_of_ble_eq_true rfl) (Nat.le_of_ble_eq_true rfl) ⟨by rw [hKE]; rfl, fun h => absurd (hKE.symm.trans h) (by decide), fun _ => ⟨rfl, hY⟩⟩ dL_way_14
  · obtain ⟨hK, hv9, hg9, hy9⟩ := hQ
    rw [hg9, hy9] at hC
    subst hv9
    refine lv_i2l hx hb dL_way_7 rfl ?_
    refine w_last X hC dL_way_8 (fun H locs hC => ?_)
    refine lv_goto (tgt := 15) hx hb dL_way_9 (by decide) ?_
    refine li_c hx hb dL_way_15 ?_
    exact w_ret X hC hr hk (Nat.le_of_ble_eq_true rfl) (Nat.le_of_ble_eq_true rfl) ⟨by rw [hK]; rfl, fun _ => ⟨rfl, lka_YI hI hY, by have h9 := (cl_node hI hY z.toNat).1; rw [show ((z.toNat : Nat) : Int) = z by have h0 := k0_of hK; omega] at h9; rw [h9]; rfl⟩, fun h => absurd hK h⟩ dL_way_16

set_option maxHeartbeats 4000000 in
set_option maxRecDepth 100000 in
theorem wL_first (l : Launch) (hl0 : l.stackTraces = false) (A : AD) (o : Nat) (G : GS) (Y : YS) (f : Nat → Int64) (hI : Inv G) (hY : YI Y) (z : Int) (hz : -2147483648 ≤ z ∧ z < 2147483648) : wMet l yL_first wsL_first ({ frames := 8, cells := 1, slots := 6, locals := 133 }) A o [.ref (A.a 0), .int (iI z), .ref o] G Y f (if 0 ≤ z ∧ z < (G.nn : Int) then 0 else 1) (iI (hd1 (spW G z (-1)))).toInt64 G 1 6 := by
  intro sz
  refine w_start (cc := cL_first) (maxL := 4) (ret := some .int) (hh := [(0, 9, 12, 19)]) hl0 (by decide) rfl rfl ?_
  intro p e s m args below meth c X hr hk htb hsz ls hl H locs hC
  subst hsz
  obtain ⟨hx, hb, hml, hown, hts⟩ := id X.1.1
  have hl : lv_has ls 4 [(0, .ref (A.a 0)), (1, .int (iI z)), (2, .ref o)] := hl
  refine lv_aload_n hx hb dL_first_0 rfl (lv_at hl 2 rfl) ?_
  refine li_c hx hb dL_first_1 ?_
  refine lv_aload_n hx hb dL_first_2 rfl (lv_at hl 0 rfl) ?_
  refine lv_iload_n hx hb dL_first_3 rfl (lv_at hl 1 rfl) ?_
  refine w_calli (n := 1) (As := [.int (iI z)]) (rest := [.int (iI 0), .ref o]) X hC (mX3_first l hl0 A G Y z hI hY hz) rfl ⟨gL_first_X3_first, ⟨_, rfl⟩, rfl, rfl, ⟨by decide, by decide, by decide +kernel⟩, Nat.le_of_ble_eq_true rfl, Nat.le_of_ble_eq_true rfl⟩ rfl hl.1 rfl (Nat.le_of_ble_eq_true rfl) ⟨Nat.le_of_ble_eq_true rfl, Nat.le_of_ble_eq_true rfl⟩ dL_first_4 (fun E ce q9 G' Y' H locs hX hC hce hcv hcl => ?_) (fun z9 G' Y' H locs hQ hC => ?_)
  · obtain ⟨hXE, hXg, hXy⟩ := hX
    rw [hXg, hXy] at hC
    obtain ⟨rfl, hKE⟩ := hXE
    refine vx_catch (name := "java/lang/IndexOutOfBoundsException") (E := xIOE) hown [] ⟨0, 9, 12, 19⟩ [] (by rw [htb]; rfl) (fun z hz => by cases hz) (by decide) (by decide) (hts (.classLink RL 19 "java/lang/IndexOutOfBoundsException") (by decide +kernel)) (va_Nw.use rfl (X.2.1.1 _ (by decide))) hce hcv hcl ?_
    refine lv_astore_n (lv' := [(3, .ref q9), (0, .ref (A.a 0)), (1, .int (iI z)), (2, .ref o)]) hx hb dL_first_12 rfl hl (by decide) rfl (fun ls hl => ?_)
    refine li_c hx hb dL_first_13 ?_
    exact w_ret X hC hr hk (Nat.le_of_ble_eq_true rfl) (Nat.le_of_ble_eq_true rfl) ⟨by rw [hKE]; rfl, fun h => absurd (hKE.symm.trans h) (by decide), fun _ => ⟨rfl, hY⟩⟩ dL_first_14
  · obtain ⟨hK, hv9, hg9, hy9⟩ := hQ
    rw [hg9, hy9] at hC
    subst hv9
    refine lv_i2l hx hb dL_first_7 rfl ?_
    refine w_last X hC dL_first_8 (fun H locs hC => ?_)
    refine lv_goto (tgt := 15) hx hb dL_first_9 (by decide) ?_
    refine li_c hx hb dL_first_15 ?_
    exact w_ret X hC hr hk (Nat.le_of_ble_eq_true rfl) (Nat.le_of_ble_eq_true rfl) ⟨by rw [hK]; rfl, fun _ => ⟨rfl, lka_YI hI hY, by have h9 := (cl_node hI hY z.toNat).2.1; rw [show ((z.toNat : Nat) : Int) = z by have h0 := k0_of hK; omega] at h9; rw [h9]; rfl⟩, fun h => absurd hK h⟩ dL_first_16

set_option maxHeartbeats 4000000 in
set_option maxRecDepth 100000 in
theorem wL_wayToSide (l : Launch) (hl0 : l.stackTraces = false) (A : AD) (o : Nat) (G : GS) (Y : YS) (f : Nat → Int64) (hI : Inv G) (hY : YI Y) (r : Int) (k : Int) (hr1 : -2147483648 ≤ r ∧ r < 2147483648) (hk1 : -2147483648 ≤ k ∧ k < 2147483648) : wMet l yL_wayToSide wsL_wayToSide ({ frames := 8, cells := 1, slots := 6, locals := 135 }) A o [.ref (A.a 0), .int (iI r), .int (iI k), .ref o] G Y f (if (0 ≤ r ∧ r < (G.rr : Int)) ∧ (0 ≤ k ∧ k ≤ 1) then 0 else 1) (iI (spM G (-1) (2 * r + k))).toInt64 G 1 6 := by
  intro sz
  refine w_start (cc := cL_wayToSide) (maxL := 5) (ret := some .int) (hh := [(0, 10, 13, 19)]) hl0 (by decide) rfl rfl ?_
  intro p e s m args below meth c X hr hk htb hsz ls hl H locs hC
  subst hsz
  obtain ⟨hx, hb, hml, hown, hts⟩ := id X.1.1
  have hl : lv_has ls 5 [(0, .ref (A.a 0)), (1, .int (iI r)), (2, .int (iI k)), (3, .ref o)] := hl
  refine lv_aload_n hx hb dL_wayToSide_0 rfl (lv_at hl 3 rfl) ?_
  refine li_c hx hb dL_wayToSide_1 ?_
  refine lv_aload_n hx hb dL_wayToSide_2 rfl (lv_at hl 0 rfl) ?_
  refine lv_iload_n hx hb dL_wayToSide_3 rfl (lv_at hl 1 rfl) ?_
  refine lv_iload_n hx hb dL_wayToSide_4 rfl (lv_at hl 2 rfl) ?_
  refine w_calli (n := 2) (As := [.int (iI r), .int (iI k)]) (rest := [.int (iI 0), .ref o]) X hC (mX3_wayToSide l hl0 A G Y r k hI hY hr1 hk1) rfl ⟨gL_wayToSide_X3_wayToSide, ⟨_, rfl⟩, rfl, rfl, ⟨by decide, by decide, by decide +kernel⟩, Nat.le_of_ble_eq_true rfl, Nat.le_of_ble_eq_true rfl⟩ rfl hl.1 rfl (Nat.le_of_ble_eq_true rfl) ⟨Nat.le_of_ble_eq_true rfl, Nat.le_of_ble_eq_true rfl⟩ dL_wayToSide_5 (fun E ce q9 G' Y' H locs hX hC hce hcv hcl => ?_) (fun z9 G' Y' H locs hQ hC => ?_)
  · obtain ⟨hXE, hXg, hXy⟩ := hX
    rw [hXg, hXy] at hC
    obtain ⟨rfl, hKE⟩ := hXE
    refine vx_catch (name := "java/lang/IndexOutOfBoundsException") (E := xIOE) hown [] ⟨0, 10, 13, 19⟩ [] (by rw [htb]; rfl) (fun z hz => by cases hz) (by decide) (by decide) (hts (.classLink RL 19 "java/lang/IndexOutOfBoundsException") (by decide +kernel)) (va_Nw.use rfl (X.2.1.1 _ (by decide))) hce hcv hcl ?_
    refine lv_astore (lv' := [(4, .ref q9), (0, .ref (A.a 0)), (1, .int (iI r)), (2, .int (iI k)), (3, .ref o)]) hx hb dL_wayToSide_13 hl (by decide) rfl (fun ls hl => ?_)
    refine li_c hx hb dL_wayToSide_15 ?_
    exact w_ret X hC hr hk (Nat.le_of_ble_eq_true rfl) (Nat.le_of_ble_eq_true rfl) ⟨by rw [hKE]; rfl, fun h => absurd (hKE.symm.trans h) (by decide), fun _ => ⟨rfl, hY⟩⟩ dL_wayToSide_16
  · obtain ⟨hK, hv9, hg9, hy9⟩ := hQ
    rw [hg9, hy9] at hC
    subst hv9
    refine lv_i2l hx hb dL_wayToSide_8 rfl ?_
    refine w_last X hC dL_wayToSide_9 (fun H locs hC => ?_)
    refine lv_goto (tgt := 17) hx hb dL_wayToSide_10 (by decide) ?_
    refine li_c hx hb dL_wayToSide_17 ?_
    exact w_ret X hC hr hk (Nat.le_of_ble_eq_true rfl) (Nat.le_of_ble_eq_true rfl) ⟨by rw [hK]; rfl, fun _ => ⟨rfl, lka_YI hI hY, by have h9 := (cl_side (k := (2 * r + k).toNat) hI hY (by have h0 := k0_of hK; omega)).1; rw [show (((2 * r + k).toNat : Nat) : Int) = 2 * r + k by have h0 := k0_of hK; omega] at h9; rw [h9]; rfl⟩, fun h => absurd hK h⟩ dL_wayToSide_18

set_option maxHeartbeats 4000000 in
set_option maxRecDepth 100000 in
theorem wL_firstToSide (l : Launch) (hl0 : l.stackTraces = false) (A : AD) (o : Nat) (G : GS) (Y : YS) (f : Nat → Int64) (hI : Inv G) (hY : YI Y) (r : Int) (k : Int) (hr1 : -2147483648 ≤ r ∧ r < 2147483648) (hk1 : -2147483648 ≤ k ∧ k < 2147483648) : wMet l yL_firstToSide wsL_firstToSide ({ frames := 8, cells := 1, slots := 6, locals := 135 }) A o [.ref (A.a 0), .int (iI r), .int (iI k), .ref o] G Y f (if (0 ≤ r ∧ r < (G.rr : Int)) ∧ (0 ≤ k ∧ k ≤ 1) then 0 else 1) (iI (hd1 (spW G (-1) (2 * r + k)))).toInt64 G 1 6 := by
  intro sz
  refine w_start (cc := cL_firstToSide) (maxL := 5) (ret := some .int) (hh := [(0, 10, 13, 19)]) hl0 (by decide) rfl rfl ?_
  intro p e s m args below meth c X hr hk htb hsz ls hl H locs hC
  subst hsz
  obtain ⟨hx, hb, hml, hown, hts⟩ := id X.1.1
  have hl : lv_has ls 5 [(0, .ref (A.a 0)), (1, .int (iI r)), (2, .int (iI k)), (3, .ref o)] := hl
  refine lv_aload_n hx hb dL_firstToSide_0 rfl (lv_at hl 3 rfl) ?_
  refine li_c hx hb dL_firstToSide_1 ?_
  refine lv_aload_n hx hb dL_firstToSide_2 rfl (lv_at hl 0 rfl) ?_
  refine lv_iload_n hx hb dL_firstToSide_3 rfl (lv_at hl 1 rfl) ?_
  refine lv_iload_n hx hb dL_firstToSide_4 rfl (lv_at hl 2 rfl) ?_
  refine w_calli (n := 2) (As := [.int (iI r), .int (iI k)]) (rest := [.int (iI 0), .ref o]) X hC (mX3_firstToSide l hl0 A G Y r k hI hY hr1 hk1) rfl ⟨gL_firstToSide_X3_firstToSide, ⟨_, rfl⟩, rfl, rfl, ⟨by decide, by decide, by decide +kernel⟩, Nat.le_of_ble_eq_true rfl, Nat.le_of_ble_eq_true rfl⟩ rfl hl.1 rfl (Nat.le_of_ble_eq_true rfl) ⟨Nat.le_of_ble_eq_true rfl, Nat.le_of_ble_eq_true rfl⟩ dL_firstToSide_5 (fun E ce q9 G' Y' H locs hX hC hce hcv hcl => ?_) (fun z9 G' Y' H locs hQ hC => ?_)
  · obtain ⟨hXE, hXg, hXy⟩ := hX
    rw [hXg, hXy] at hC
    obtain ⟨rfl, hKE⟩ := hXE
    refine vx_catch (name := "java/lang/IndexOutOfBoundsException") (E := xIOE) hown [] ⟨0, 10, 13, 19⟩ [] (by rw [htb]; rfl) (fun z hz => by cases hz) (by decide) (by decide) (hts (.classLink RL 19 "java/lang/IndexOutOfBoundsException") (by decide +kernel)) (va_Nw.use rfl (X.2.1.1 _ (by decide))) hce hcv hcl ?_
    refine lv_astore (lv' := [(4, .ref q9), (0, .ref (A.a 0)), (1, .int (iI r)), (2, .int (iI k)), (3, .ref o)]) hx hb dL_firstToSide_13 hl (by decide) rfl (fun ls hl => ?_)
    refine li_c hx hb dL_firstToSide_15 ?_
    exact w_ret X hC hr hk (Nat.le_of_ble_eq_true rfl) (Nat.le_of_ble_eq_true rfl) ⟨by rw [hKE]; rfl, fun h => absurd (hKE.symm.trans h) (by decide), fun _ => ⟨rfl, hY⟩⟩ dL_firstToSide_16
  · obtain ⟨hK, hv9, hg9, hy9⟩ := hQ
    rw [hg9, hy9] at hC
    subst hv9
    refine lv_i2l hx hb dL_firstToSide_8 rfl ?_
    refine w_last X hC dL_firstToSide_9 (fun H locs hC => ?_)
    refine lv_goto (tgt := 17) hx hb dL_firstToSide_10 (by decide) ?_
    refine li_c hx hb dL_firstToSide_17 ?_
    exact w_ret X hC hr hk (Nat.le_of_ble_eq_true rfl) (Nat.le_of_ble_eq_true rfl) ⟨by rw [hK]; rfl, fun _ => ⟨rfl, lka_YI hI hY, by have h9 := (cl_side (k := (2 * r + k).toNat) hI hY (by have h0 := k0_of hK; omega)).2.1; rw [show (((2 * r + k).toNat : Nat) : Int) = 2 * r + k by have h0 := k0_of hK; omega] at h9; rw [h9]; rfl⟩, fun h => absurd hK h⟩ dL_firstToSide_18

set_option maxHeartbeats 4000000 in
set_option maxRecDepth 100000 in
theorem wL_clear (l : Launch) (hl0 : l.stackTraces = false) (A : AD) (o : Nat) (G : GS) (Y : YS) (f : Nat → Int64) (hI : Inv G) (hY : YI Y) (z : Int) (hz : -2147483648 ≤ z ∧ z < 2147483648) : wMet l yL_clear wsL_clear ({ frames := 7, cells := 1, slots := 6, locals := 159 }) A o [.ref (A.a 0), .int (iI z), .ref o] G Y f (if 0 ≤ z ∧ z ≤ 300 then 0 else 1) (iI ((clr z z.toNat ((0 : Int), G)).1)).toInt64 ((clr z z.toNat ((0 : Int), G)).2) 1 6 := by
  intro sz
  refine w_start (cc := cL_clear) (maxL := 4) (ret := some .int) (hh := [(0, 9, 12, 25)]) hl0 (by decide) rfl rfl ?_
  intro p e s m args below meth c X hr hk htb hsz ls hl H locs hC
  subst hsz
  obtain ⟨hx, hb, hml, hown, hts⟩ := id X.1.1
  have hl : lv_has ls 4 [(0, .ref (A.a 0)), (1, .int (iI z)), (2, .ref o)] := hl
  refine lv_aload_n hx hb dL_clear_0 rfl (lv_at hl 2 rfl) ?_
  refine li_c hx hb dL_clear_1 ?_
  refine lv_aload_n hx hb dL_clear_2 rfl (lv_at hl 0 rfl) ?_
  refine lv_iload_n hx hb dL_clear_3 rfl (lv_at hl 1 rfl) ?_
  refine w_calli (n := 1) (As := [.int (iI z)]) (rest := [.int (iI 0), .ref o]) X hC (mX3_clear l hl0 A G Y z hI hY hz) rfl ⟨gL_clear_X3_clear, ⟨_, rfl⟩, rfl, rfl, ⟨by decide, by decide, by decide +kernel⟩, Nat.le_of_ble_eq_true rfl, Nat.le_of_ble_eq_true rfl⟩ rfl hl.1 rfl (Nat.le_of_ble_eq_true rfl) ⟨Nat.le_of_ble_eq_true rfl, Nat.le_of_ble_eq_true rfl⟩ dL_clear_4 (fun E ce q9 G' Y' H locs hX hC hce hcv hcl => ?_) (fun z9 G' Y' H locs hQ hC => ?_)
  · obtain ⟨hXE, hXg, hXy⟩ := hX
    rw [hXg, hXy] at hC
    obtain ⟨rfl, hKE⟩ := hXE
    refine vx_catch (name := "java/lang/IllegalArgumentException") (E := xIAE) hown [] ⟨0, 9, 12, 25⟩ [] (by rw [htb]; rfl) (fun z hz => by cases hz) (by decide) (by decide) (hts (.classLink RL 25 "java/lang/IllegalArgumentException") (by decide +kernel)) (va_Nw.use rfl (X.2.1.1 _ (by decide))) hce hcv hcl ?_
    refine lv_astore_n (lv' := [(3, .ref q9), (0, .ref (A.a 0)), (1, .int (iI z)), (2, .ref o)]) hx hb dL_clear_12 rfl hl (by decide) rfl (fun ls hl => ?_)
    refine li_c hx hb dL_clear_13 ?_
    exact w_ret X hC hr hk (Nat.le_of_ble_eq_true rfl) (Nat.le_of_ble_eq_true rfl) ⟨by rw [hKE]; rfl, fun h => absurd (hKE.symm.trans h) (by decide), fun _ => ⟨rfl, hY⟩⟩ dL_clear_14
  · obtain ⟨hK, hv9, hg9, hy9⟩ := hQ
    rw [hg9] at hC
    subst hv9
    refine lv_i2l hx hb dL_clear_7 rfl ?_
    refine w_last X hC dL_clear_8 (fun H locs hC => ?_)
    refine lv_goto (tgt := 15) hx hb dL_clear_9 (by decide) ?_
    refine li_c hx hb dL_clear_15 ?_
    exact w_ret X hC hr hk (Nat.le_of_ble_eq_true rfl) (Nat.le_of_ble_eq_true rfl) ⟨by rw [hK]; rfl, fun _ => ⟨rfl, hy9, rfl⟩, fun h => absurd hK h⟩ dL_clear_16

set_option maxHeartbeats 4000000 in
set_option maxRecDepth 100000 in
theorem wL_total (l : Launch) (hl0 : l.stackTraces = false) (A : AD) (o : Nat) (G : GS) (Y : YS) (f : Nat → Int64) (hI : Inv G) (hY : YI Y) (z : Int) (hz : -2147483648 ≤ z ∧ z < 2147483648) : wMet l yL_total wsL_total ({ frames := 8, cells := 1, slots := 6, locals := 123 }) A o [.ref (A.a 0), .int (iI z), .ref o] G Y f (if 0 ≤ z ∧ z ≤ 3 then 0 else 1) (ttf G z) G 1 6 := by
  intro sz
  refine w_start (cc := cL_total) (maxL := 4) (ret := some .int) (hh := [(0, 8, 11, 19)]) hl0 (by decide) rfl rfl ?_
  intro p e s m args below meth c X hr hk htb hsz ls hl H locs hC
  subst hsz
  obtain ⟨hx, hb, hml, hown, hts⟩ := id X.1.1
  have hl : lv_has ls 4 [(0, .ref (A.a 0)), (1, .int (iI z)), (2, .ref o)] := hl
  refine lv_aload_n hx hb dL_total_0 rfl (lv_at hl 2 rfl) ?_
  refine li_c hx hb dL_total_1 ?_
  refine lv_aload_n hx hb dL_total_2 rfl (lv_at hl 0 rfl) ?_
  refine lv_iload_n hx hb dL_total_3 rfl (lv_at hl 1 rfl) ?_
  refine w_calll (n := 1) (As := [.int (iI z)]) (rest := [.int (iI 0), .ref o]) X hC (mX3_total l hl0 A G Y z hI hz) rfl ⟨gL_total_X3_total, ⟨_, rfl⟩, rfl, rfl, ⟨by decide, by decide, by decide +kernel⟩, Nat.le_of_ble_eq_true rfl, Nat.le_of_ble_eq_true rfl⟩ rfl hl.1 rfl (Nat.le_of_ble_eq_true rfl) ⟨Nat.le_of_ble_eq_true rfl, Nat.le_of_ble_eq_true rfl⟩ dL_total_4 (fun E ce q9 G' Y' H locs hX hC hce hcv hcl => ?_) (fun z9 G' Y' H locs hQ hC => ?_)
  · obtain ⟨hXE, hXg, hXy⟩ := hX
    rw [hXg, hXy] at hC
    obtain ⟨rfl, hKE⟩ := hXE
    refine vx_catch (name := "java/lang/IndexOutOfBoundsException") (E := xIOE) hown [] ⟨0, 8, 11, 19⟩ [] (by rw [htb]; rfl) (fun z hz => by cases hz) (by decide) (by decide) (hts (.classLink RL 19 "java/lang/IndexOutOfBoundsException") (by decide +kernel)) (va_Nw.use rfl (X.2.1.1 _ (by decide))) hce hcv hcl ?_
    refine lv_astore_n (lv' := [(3, .ref q9), (0, .ref (A.a 0)), (1, .int (iI z)), (2, .ref o)]) hx hb dL_total_11 rfl hl (by decide) rfl (fun ls hl => ?_)
    refine li_c hx hb dL_total_12 ?_
    exact w_ret X hC hr hk (Nat.le_of_ble_eq_true rfl) (Nat.le_of_ble_eq_true rfl) ⟨by rw [hKE]; rfl, fun h => absurd (hKE.symm.trans h) (by decide), fun _ => ⟨rfl, hY⟩⟩ dL_total_13
  · obtain ⟨hK, hv9, hg9, hy9⟩ := hQ
    rw [hg9, hy9] at hC
    subst hv9
    refine w_last X hC dL_total_7 (fun H locs hC => ?_)
    refine lv_goto (tgt := 14) hx hb dL_total_8 (by decide) ?_
    refine li_c hx hb dL_total_14 ?_
    exact w_ret X hC hr hk (Nat.le_of_ble_eq_true rfl) (Nat.le_of_ble_eq_true rfl) ⟨by rw [hK]; rfl, fun _ => ⟨rfl, hY, rfl⟩, fun h => absurd hK h⟩ dL_total_15
