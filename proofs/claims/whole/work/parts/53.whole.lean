/-! 53: the law's entry, walked -/
theorem G00_I : Inv G00 := ⟨⟨Nat.le_refl 1, by decide⟩, by decide, up_le (fun _ => Nat.zero_le _) (Nat.le_refl 1), up_le (fun _ => Nat.zero_le _) (Nat.le_refl 1), fun _ => Nat.zero_lt_one, fun _ => Nat.zero_le _, fun _ h => absurd h (Nat.not_lt_zero _), fun _ => Nat.zero_le _, fun _ => Nat.zero_le _, fun _ => Nat.zero_le _, Nat.zero_lt_one, ⟨by decide, by decide⟩, by decide, by decide, fun _ h => absurd h (Nat.not_lt_zero _)⟩
theorem Y0z_I : YI Y0z := ⟨fun _ => ⟨by show (-1 : Int) ≤ 0; decide, by show (0 : Int) ≤ 32 * ((0 : Nat) : Int); decide⟩, fun _ => Nat.zero_le _, fun _ => Nat.zero_le _, fun _ _ => Nat.zero_le _, Nat.zero_le _⟩
set_option maxHeartbeats 8000000 in
set_option maxRecDepth 100000 in
theorem whole_start {p : Program} {e : Env} {s : State} {m : MethodId} {below : List Frame} {meth : Method} {c : Code} (l : Launch) (hflags : l.flags = flags0) {b L : Nat} {xs : Nat → Int32} (hL : L ≤ 2560) (C0 : lw_At p s m meth c b L xs) : W p l e room_1 s m #[Value.ref b] below meth c s.heap [] 0 0 (lw_Z below #[Value.ref b] s) (entryFrame m ([Value.ref b] : List Value).toArray 9) := by
  obtain ⟨hx, hb, hr, hml, hown, hts0, hX, hbl, hlocks, hgv⟩ := id C0
  have hg := flat_of_before _ hgv
  have hts : ∀ w ∈ wsL_law, w.before #[Value.ref b] s = true := fun w h => hts0 w (wsL_law_in w h)
  obtain ⟨A, hK, hAO⟩ := law_K hts0
  have hA : ∀ q : Nat, s.heap.size ≤ q → (fun q : Nat => s.heap.size ≤ q) q := fun _ h => h
  have hS : va_S (fun q : Nat => s.heap.size ≤ q) s.heap s.heap [] := va_S.rf
  have hP : va_P A.D vwCl [] s.heap := fun k q h => by simp at h
  have hD : va_D (fun q : Nat => s.heap.size ≤ q) [] := ⟨fun i j p q h => by simp at h, fun k q h => by simp at h⟩
  have iX3 : ∀ w ∈ u_ws RX3 TX3 3, w ∈ wsL_law := by decide +kernel
  have iX4 : ∀ w ∈ u_ws RX4 TX4 18, w ∈ wsL_law := by decide +kernel
  have hl := lv_entry ([.ref b]) (n := 9) (Nat.le_of_ble_eq_true rfl)
  rw [lg_entry_eq]
  generalize (lg_sl ([.ref b]) ++ List.replicate (9 - (lg_sl ([.ref b])).length) Slot.unset).toArray = ls at hl ⊢
  generalize hHe : s.heap = H at hP hS ⊢
  rw [← hHe] at hS
  have hS : va_S (fun q : Nat => s.heap.size ≤ q) s.heap H [] := by rw [← hHe]; exact va_S.rf
  have hl : lv_has ls 9 [(0, .ref b)] := hl
  refine va_new (ci := 3) (fs := [.null, .null, .null]) (C := RX3) (T := TX3) (N := 3) hx hb hts iX3 tyX3 tyX3_ok hown (hts (.classLink RL 8 RX3) (by decide +kernel)) (hts (.instantiable RX3 3) (by decide +kernel)) (hts (.initialized RX3) (by decide +kernel)) hK hP hD hS hA rfl (fun j hj => by rcases (show j = 0 ∨ j = 1 ∨ j = 2 by omega) with rfl | rfl | rfl <;> rfl) (Nat.le_of_ble_eq_true rfl) (Nat.le_of_ble_eq_true rfl) dL_law_0 (fun q0 H hP hD hS => ?_)
  have hP : va_P A.D vwCl [(q0, .inr (3, [.null, .null, .null]))] H := hP
  have hD : va_D (fun q : Nat => s.heap.size ≤ q) [(q0, .inr (3, [.null, .null, .null]))] := hD
  refine lv_dup hx hb dL_law_3 rfl ?_
  have hPc := hP.sub (ws' := [(q0, .inr (3, [.null, .null, .null]))]) [0] rfl
  have hFc := va_free (wc := [(q0, .inr (3, [.null, .null, .null]))]) hD hS hA [0] rfl
  refine va_callv (va_runI (As := []) (rest := [.ref q0]) ⟨hx, hb, hml, hown, hts⟩ (mX3_init l A q0 H.size) (cwI 0 hts gL_law_X3_init rfl rfl rfl (hts (.initialized RX3) (by decide +kernel)) (hts (.methodLink RL 74 yX3_init) (by decide +kernel)) (hts (.instanceMethod yX3_init) (by decide +kernel)) rfl (by decide +kernel) ⟨Nat.le_of_ble_eq_true rfl, Nat.le_of_ble_eq_true rfl⟩) ⟨iPre_blind, fun U hU hW => ⟨rfl, by rw [hU], by rw [hU]; exact hPc, va_K.moved hW.alike hK, aoa.moved hW.alike hAO⟩⟩ rfl rfl hl.1 rfl (lv_room (Nat.le_of_ble_eq_true rfl)) dL_law_4 ⟨Nat.le_of_ble_eq_true rfl, Nat.le_of_ble_eq_true rfl⟩) hS (fun q _ h => hFc q h) hFc (fun u t9 H1 locs ht9 hvm _ hB hz1 hk1 hS => ?_)
  obtain ⟨hP1, hD1⟩ := hB
  rw [ht9] at hP1
  obtain ⟨hP, hD⟩ := va_join (wr := []) (w1 := CW (aU A q0 u) G00 Y0z) hP hD [0] [] rfl rfl (by decide) (by decide) hk1 hFc hP1 hD1
  generalize H1 = H at hP hS ⊢
  have hP : va_P A.D vwCl (CW (aU A q0 u) G00 Y0z) H := hP
  have hD : va_D (fun q : Nat => s.heap.size ≤ q) (CW (aU A q0 u) G00 Y0z) := hD
  refine lv_astore_n (lv' := [(1, .ref q0), (0, .ref b)]) hx hb dL_law_7 rfl hl (by decide) rfl (fun ls hl => ?_)
  refine va_new (ci := 4) (fs := [.int 0, .int 0, .null, .null, .int 0, .null, .null, .null, .null, .null, .int 0, .int 0, .int 0, .int 0, .null, .null, .int 0, .int 0]) (C := RX4) (T := TX4) (N := 18) hx hb hts iX4 tyX4 tyX4_ok hown (hts (.classLink RL 75 RX4) (by decide +kernel)) (hts (.instantiable RX4 18) (by decide +kernel)) (hts (.initialized RX4) (by decide +kernel)) hK hP hD hS hA rfl (fun j hj => by rcases (show j = 0 ∨ j = 1 ∨ j = 2 ∨ j = 3 ∨ j = 4 ∨ j = 5 ∨ j = 6 ∨ j = 7 ∨ j = 8 ∨ j = 9 ∨ j = 10 ∨ j = 11 ∨ j = 12 ∨ j = 13 ∨ j = 14 ∨ j = 15 ∨ j = 16 ∨ j = 17 by omega) with rfl | rfl | rfl | rfl | rfl | rfl | rfl | rfl | rfl | rfl | rfl | rfl | rfl | rfl | rfl | rfl | rfl | rfl <;> rfl) (Nat.le_of_ble_eq_true rfl) (Nat.le_of_ble_eq_true rfl) dL_law_8 (fun t2 H hP hD hS => ?_)
  refine lv_dup hx hb dL_law_11 rfl ?_
  have hPc := hP.sub (ws' := [(t2, .inr (4, [.int 0, .int 0, .null, .null, .int 0, .null, .null, .null, .null, .null, .int 0, .int 0, .int 0, .int 0, .null, .null, .int 0, .int 0]))]) [40] rfl
  have hFc := va_free (wc := [(t2, .inr (4, [.int 0, .int 0, .null, .null, .int 0, .null, .null, .null, .null, .null, .int 0, .int 0, .int 0, .int 0, .null, .null, .int 0, .int 0]))]) hD hS hA [40] rfl
  refine va_callv (va_runI (As := []) (rest := [.ref t2]) ⟨hx, hb, hml, hown, hts⟩ (mX4_init l A t2 H.size) (cwI 0 hts gL_law_X4_init rfl rfl rfl (hts (.initialized RX4) (by decide +kernel)) (hts (.methodLink RL 77 yX4_init) (by decide +kernel)) (hts (.instanceMethod yX4_init) (by decide +kernel)) rfl (by decide +kernel) ⟨Nat.le_of_ble_eq_true rfl, Nat.le_of_ble_eq_true rfl⟩) ⟨iPre_blind, fun U hU hW => ⟨rfl, by rw [hU], by rw [hU]; exact hPc, va_K.moved hW.alike hK, aoa.moved hW.alike hAO⟩⟩ rfl rfl hl.1 rfl (lv_room (Nat.le_of_ble_eq_true rfl)) dL_law_12 ⟨Nat.le_of_ble_eq_true rfl, Nat.le_of_ble_eq_true rfl⟩) hS (fun q _ h => hFc q h) hFc (fun u2 t9 H1 locs ht9 hvm _ hB hz1 hk1 hS => ?_)
  obtain ⟨hP1, hD1⟩ := hB
  rw [ht9] at hP1
  obtain ⟨hP, hD⟩ := va_join (wr := CW (aU A q0 u) G00 Y0z) (w1 := DW (aU A t2 u2) G00 Z0z) hP hD [40] [0, 1, 2, 3, 4, 5, 6, 7, 8, 9, 10, 11, 12, 13, 14, 15, 16, 17, 18, 19, 20, 21, 22, 23, 24, 25, 26, 27, 28, 29, 30, 31, 32, 33, 34, 35, 36, 37, 38, 39] rfl rfl (by decide) (by decide) hk1 hFc hP1 hD1
  generalize H1 = H at hP hS ⊢
  refine lv_astore_n (lv' := [(2, .ref t2), (1, .ref q0), (0, .ref b)]) hx hb dL_law_15 rfl hl (by decide) rfl (fun ls hl => ?_)
  refine li_c hx hb dL_law_16 ?_
  refine an_newa (atype := .long) (ty := .long) (N := 1) (a0 := (1, .inr (.inl (fun _ => 0)))) hx hb (hts (.arrayClass .long) (by decide +kernel)) rfl hK hP hD hS hA 3 rfl (fun _ _ => rfl) (fun cA => z9l cA 1) (Nat.le_of_ble_eq_true rfl) (Nat.le_of_ble_eq_true rfl) (Nat.le_of_ble_eq_true rfl) (Nat.le_of_ble_eq_true rfl) dL_law_17 (fun o H hP hD hS => ?_)
  refine lv_astore_n (lv' := [(3, .ref o), (2, .ref t2), (1, .ref q0), (0, .ref b)]) hx hb dL_law_19 rfl hl (by decide) rfl (fun ls hl => ?_)
  refine li_c hx hb dL_law_20 ?_
  refine lv_istore (lv' := [(4, .int (iI 0)), (3, .ref o), (2, .ref t2), (1, .ref q0), (0, .ref b)]) hx hb dL_law_21 hl (by decide) rfl (fun ls hl => ?_)
  refine W.widen (k := 100 + 10 * 0) (n := 2000 + 60 * 0) (Nat.le_of_ble_eq_true rfl) (Nat.le_of_ble_eq_true rfl) ?_
  have hPl : va_P A.D vwCl (LW (aU A q0 u) (aU A t2 u2) o G00 Y0z (fun _ => 0) G00 Z0z) H := ((va_P_l (va_P_l hP)).app (va_P_r hP)).app (va_P_r (va_P_l hP))
  have hDl : va_D (fun q : Nat => s.heap.size ≤ q) (LW (aU A q0 u) (aU A t2 u2) o G00 Y0z (fun _ => 0) G00 Z0z) := hD.sub [0, 1, 2, 3, 4, 5, 6, 7, 8, 9, 10, 11, 12, 13, 14, 15, 16, 17, 18, 19, 20, 21, 22, 23, 24, 25, 26, 27, 28, 29, 30, 31, 32, 33, 34, 35, 36, 37, 38, 39, 50, 40, 41, 42, 43, 44, 45, 46, 47, 48, 49] (by decide) rfl
  have hadr : (LW (aU A q0 u) (aU A t2 u2) o G00 Y0z (fun _ => 0) G00 Z0z).map Prod.fst = lAdr (aU A q0 u) (aU A t2 u2) o := by
    unfold LW lAdr
    rw [List.map_append, OW_adr]; rfl
  have hXl : lwX l p s m c #[Value.ref b] (aU A q0 u) (aU A t2 u2) o := ⟨⟨hx, hb, hml, hown, hts⟩, hK, aND_of hadr hDl, fun q hq => by
    rw [← hadr] at hq
    obtain ⟨x, hx9, rfl⟩ := List.mem_map.mp hq
    obtain ⟨k9, hk9⟩ := List.getElem?_of_mem hx9
    exact hDl.2 k9 x hk9, law_xtra hts0 hg, law_xZ hts0 hg, law_xnc hg, law_flags hflags, rfl, rfl⟩
  exact law_loop hXl hr hlocks hL hX hbl 514 0 (by omega) (by omega) G00 Y0z (fun _ => 0) Z0z H locs ls G00_I Y0z_I ⟨hPl, hS⟩ (lv_sub hl [0, 4, 3, 2, 1] rfl)
