/-! 40: the law, case by case -/
set_option maxHeartbeats 8000000 in
set_option maxRecDepth 100000 in
theorem lw_case_0 {p : Program} {l : Launch} {e : Env} {s : State} {m : MethodId} {args : Array Value} {below : List Frame} {meth : Method} {c : Code} {H : Heap} {locs : List Loc} {cells slots : Nat} {Q : State → Prop} {ls : Array Slot} {A B : AD} {o : Nat} {G : GS} {Y : YS} {f : Nat → Int64} {Z : ZS} {b L i : Nat} {xs : Nat → Int32}
    (X : lwX l p s m c args A B o) (hI : Inv G) (hY : YI Y) (hC : lwC A B o G Y f G Z s H locs) (hl : lv_has ls 9 [(4, .int (iI ((5 * i : Nat) : Int))), (0, .ref b), (1, .ref (A.a 0)), (2, .ref (B.a 0)), (3, .ref o)]) (hi : 5 * i + 5 ≤ L) (hL : L ≤ 2560) (hX : va_X b L xs s s.heap) (hbl : b < s.heap.size) (hcl : cells + 10 ≤ room_1.cells) (hsl : slots + 60 ≤ room_1.slots)
    (kk : ∀ (G' : GS) (Y' : YS) (f' : Nat → Int64) (Z' : ZS) (H' : Heap) (locs' : List Loc) (ls' : Array Slot), Inv G' → YI Y' → lwC A B o G' Y' f' G' Z' s H' locs' → lv_has ls' 9 [(4, .int (iI ((5 * i : Nat) : Int))), (0, .ref b), (1, .ref (A.a 0)), (2, .ref (B.a 0)), (3, .ref o)] → W p l e room_1 s m args below meth c H' locs' (cells + 10) (slots + 60) Q (F0 m 1382 ls' [])) : W p l e room_1 s m args below meth c H locs cells slots Q (F0 m 136 ls []) := by
  obtain ⟨hx, hb, hml, hown, hts⟩ := id X.1
  obtain ⟨a1, ha1, ea1⟩ := iI_of (xs ((5 * i) + 1))
  obtain ⟨a2, ha2, ea2⟩ := iI_of (xs ((5 * i) + 2))
  refine lv_aload_n hx hb dL_law_136 rfl (lv_at hl 2 rfl) ?_
  refine lv_aload_n hx hb dL_law_137 rfl (lv_at hl 1 rfl) ?_
  refine lv_iload hx hb dL_law_138 (lv_at hl 0 rfl) ?_
  refine li_c hx hb dL_law_140 ?_
  refine li_addN (x := 5 * i) (y := 1) hx hb dL_law_141 rfl rfl ?_
  refine l_sld (k0 := (5 * i) + 1) (z := a1) X hC hX hbl hL (by omega) ea1 dL_law_142 ?_
  refine li_if_eq (tgt := 150) hx hb dL_law_143 (by decide) (by omega) (fun c_143 => ?_) (fun c_143 => ?_)
  · refine li_c hx hb dL_law_150 ?_
    refine lv_aload_n hx hb dL_law_151 rfl (lv_at hl 1 rfl) ?_
    refine lv_iload hx hb dL_law_152 (lv_at hl 0 rfl) ?_
    refine li_c hx hb dL_law_154 ?_
    refine li_addN (x := 5 * i) (y := 2) hx hb dL_law_155 rfl rfl ?_
    refine l_sld (k0 := (5 * i) + 2) (z := a2) X hC hX hbl hL (by omega) ea2 dL_law_156 ?_
    refine li_if_eq (tgt := 164) hx hb dL_law_157 (by decide) (by omega) (fun c_157 => ?_) (fun c_157 => ?_)
    · refine li_c hx hb dL_law_164 ?_
      refine lv_aload_n hx hb dL_law_165 rfl (lv_at hl 4 rfl) ?_
      obtain ⟨K, hKd⟩ : ∃ K, K = (if G.nn < 8 then 0 else 1) := ⟨_, rfl⟩
      have hM := wL_addNode l X.2.2.2.2.2.2.2.1 A o G Y f hI hY 0 0 (by omega) (by omega)
      rw [← hKd] at hM
      have hK3 : K ≤ 3 := by rw [hKd]; exact (by split <;> omega)
      refine l_callW (n := 4) (As := [.ref (A.a 0), .int (iI 0), .int (iI 0), .ref o]) (rest := []) X hC hM gL_law_L_addNode ⟨_, rfl⟩ rfl rfl ⟨by decide, by decide, by decide +kernel⟩ ⟨Nat.le_of_ble_eq_true rfl, Nat.le_of_ble_eq_true rfl⟩ rfl hl.1 rfl (Nat.le_of_ble_eq_true rfl) ⟨by omega, by omega⟩ dL_law_166 (fun G1 Y1 f1 H locs hY1 hA1 hB1 hC => ?_)
      have hI1 : Inv G1 := by by_cases hq : K = 0; rw [(hA1 hq).1]; exact Inv_addNode hI (by decide) (by decide) (k0_of (hKd.symm.trans hq)); rw [hB1 hq]; exact hI
      refine lv_istore (lv' := [(5, .int (iI (K : Int))), (4, .int (iI ((5 * i : Nat) : Int))), (0, .ref b), (1, .ref (A.a 0)), (2, .ref (B.a 0)), (3, .ref o)]) hx hb dL_law_169 hl (by decide) rfl (fun ls hl => ?_)
      refine lv_aload_n hx hb dL_law_171 rfl (lv_at hl 4 rfl) ?_
      refine lv_aload_n hx hb dL_law_172 rfl (lv_at hl 2 rfl) ?_
      refine lv_iload hx hb dL_law_173 (lv_at hl 1 rfl) ?_
      refine li_c hx hb dL_law_175 ?_
      refine li_addN (x := 5 * i) (y := 1) hx hb dL_law_176 rfl rfl ?_
      refine l_sld (k0 := (5 * i) + 1) (z := a1) X hC hX hbl hL (by omega) ea1 dL_law_177 ?_
      refine li_if_eq (tgt := 185) hx hb dL_law_178 (by decide) (by omega) (fun c_178 => ?_) (fun c_178 => ?_)
      · refine li_c hx hb dL_law_185 ?_
        refine lv_aload_n hx hb dL_law_186 rfl (lv_at hl 2 rfl) ?_
        refine lv_iload hx hb dL_law_187 (lv_at hl 1 rfl) ?_
        refine li_c hx hb dL_law_189 ?_
        refine li_addN (x := 5 * i) (y := 2) hx hb dL_law_190 rfl rfl ?_
        refine l_sld (k0 := (5 * i) + 2) (z := a2) X hC hX hbl hL (by omega) ea2 dL_law_191 ?_
        refine li_if_eq (tgt := 199) hx hb dL_law_192 (by decide) (by omega) (fun c_192 => ?_) (fun c_192 => ?_)
        · refine li_c hx hb dL_law_199 ?_
          have hM2 := mX4_addNode l B G Z 0 0 hI (by omega) (by omega)
          rw [← hKd] at hM2
          refine l_callDi (n := 2) (As := [.int (iI 0), .int (iI 0)]) (rest := []) X hC hM2 rfl ⟨gL_law_X4_addNode, ⟨_, rfl⟩, rfl, rfl, ⟨by decide, by decide, by decide +kernel⟩, Nat.le_of_ble_eq_true rfl, Nat.le_of_ble_eq_true rfl⟩ rfl hl.1 rfl (Nat.le_of_ble_eq_true rfl) ⟨by omega, by omega⟩ dL_law_200 (fun z2 G2 Z2 H locs hQ hC => ?_)
          obtain ⟨t1, t2, t3⟩ := yKI.o hQ
          have hgg : G2 = G1 := by by_cases hq : K = 0; exact (t2 hq).2.trans (hA1 hq).1.symm; exact (t3 hq).2.trans (hB1 hq).symm
          rw [hgg] at hC
          refine lv_istore (lv' := [(6, .int (iI z2)), (5, .int (iI (K : Int))), (4, .int (iI ((5 * i : Nat) : Int))), (0, .ref b), (1, .ref (A.a 0)), (2, .ref (B.a 0)), (3, .ref o)]) hx hb dL_law_203 hl (by decide) rfl (fun ls hl => ?_)
          refine lv_aload_n hx hb dL_law_205 rfl (lv_at hl 5 rfl) ?_
          refine l_callDi (n := 0) (As := []) (rest := []) X hC (mX4_thrown l B G1 Z2) rfl ⟨gL_law_X4_thrown, ⟨_, rfl⟩, rfl, rfl, ⟨by decide, by decide, by decide +kernel⟩, Nat.le_of_ble_eq_true rfl, Nat.le_of_ble_eq_true rfl⟩ rfl hl.1 rfl (Nat.le_of_ble_eq_true rfl) ⟨by omega, by omega⟩ dL_law_206 (fun z3 G3 Z3 H locs hQ3 hC => ?_)
          obtain ⟨hz3, hg3, hy3⟩ := hQ3
          rw [hg3, hy3] at hC
          rw [hz3, t1]
          refine lv_iload hx hb dL_law_209 (lv_at hl 1 rfl) ?_
          refine li_icmp_eq (tgt := 216) hx hb dL_law_211 (by decide) (⟨by omega, by omega⟩) (fun c_211 => ?_) (fun c_211 => ?_)
          · refine lv_iload hx hb dL_law_216 (lv_at hl 1 rfl) ?_
            refine li_if_ne (tgt := 233) hx hb dL_law_218 (by decide) (by omega) (fun c_218 => ?_) (fun c_218 => ?_)
            · refine lv_goto (tgt := 1382) hx hb dL_law_233 (by decide) ?_
              refine W.widen (k := cells + 10) (n := slots + 60) (by omega) (by omega) ?_
              exact kk G1 Y1 f1 Z2 H locs ls hI1 hY1 hC (lv_sub hl [2, 3, 4, 5, 6] rfl)
            · have hK0 : K = 0 := by omega
              refine lv_aload_n hx hb dL_law_221 rfl (lv_at hl 6 rfl) ?_
              refine li_c hx hb dL_law_222 ?_
              refine l_load X hC dL_law_223 ?_
              refine lv_iload hx hb dL_law_224 (lv_at hl 0 rfl) ?_
              refine lv_i2l hx hb dL_law_226 rfl ?_
              rw [show f1 0 = (iI z2).toInt64 from (by rw [(hA1 hK0).2, (t2 hK0).1])]
              refine W.lcmp hx hb dL_law_227 ?_
              rw [lcmp_s]
              refine li_if_eq (tgt := 233) hx hb dL_law_228 (by decide) (by omega) (fun c_228 => ?_) (fun c_228 => ?_)
              · refine lv_goto (tgt := 1382) hx hb dL_law_233 (by decide) ?_
                refine W.widen (k := cells + 10) (n := slots + 60) (by omega) (by omega) ?_
                exact kk G1 Y1 f1 Z2 H locs ls hI1 hY1 hC (lv_sub hl [2, 3, 4, 5, 6] rfl)
              · exfalso; omega
          · exfalso; omega
        · exfalso; omega
      · exfalso; omega
    · refine li_c hx hb dL_law_160 ?_
      refine lv_goto (tgt := 165) hx hb dL_law_161 (by decide) ?_
      refine lv_aload_n hx hb dL_law_165 rfl (lv_at hl 4 rfl) ?_
      obtain ⟨K, hKd⟩ : ∃ K, K = (if G.nn < 8 then 0 else 1) := ⟨_, rfl⟩
      have hM := wL_addNode l X.2.2.2.2.2.2.2.1 A o G Y f hI hY 0 1 (by omega) (by omega)
      rw [← hKd] at hM
      have hK3 : K ≤ 3 := by rw [hKd]; exact (by split <;> omega)
      refine l_callW (n := 4) (As := [.ref (A.a 0), .int (iI 0), .int (iI 1), .ref o]) (rest := []) X hC hM gL_law_L_addNode ⟨_, rfl⟩ rfl rfl ⟨by decide, by decide, by decide +kernel⟩ ⟨Nat.le_of_ble_eq_true rfl, Nat.le_of_ble_eq_true rfl⟩ rfl hl.1 rfl (Nat.le_of_ble_eq_true rfl) ⟨by omega, by omega⟩ dL_law_166 (fun G1 Y1 f1 H locs hY1 hA1 hB1 hC => ?_)
      have hI1 : Inv G1 := by by_cases hq : K = 0; rw [(hA1 hq).1]; exact Inv_addNode hI (by decide) (by decide) (k0_of (hKd.symm.trans hq)); rw [hB1 hq]; exact hI
      refine lv_istore (lv' := [(5, .int (iI (K : Int))), (4, .int (iI ((5 * i : Nat) : Int))), (0, .ref b), (1, .ref (A.a 0)), (2, .ref (B.a 0)), (3, .ref o)]) hx hb dL_law_169 hl (by decide) rfl (fun ls hl => ?_)
      refine lv_aload_n hx hb dL_law_171 rfl (lv_at hl 4 rfl) ?_
      refine lv_aload_n hx hb dL_law_172 rfl (lv_at hl 2 rfl) ?_
      refine lv_iload hx hb dL_law_173 (lv_at hl 1 rfl) ?_
      refine li_c hx hb dL_law_175 ?_
      refine li_addN (x := 5 * i) (y := 1) hx hb dL_law_176 rfl rfl ?_
      refine l_sld (k0 := (5 * i) + 1) (z := a1) X hC hX hbl hL (by omega) ea1 dL_law_177 ?_
      refine li_if_eq (tgt := 185) hx hb dL_law_178 (by decide) (by omega) (fun c_178 => ?_) (fun c_178 => ?_)
      · refine li_c hx hb dL_law_185 ?_
        refine lv_aload_n hx hb dL_law_186 rfl (lv_at hl 2 rfl) ?_
        refine lv_iload hx hb dL_law_187 (lv_at hl 1 rfl) ?_
        refine li_c hx hb dL_law_189 ?_
        refine li_addN (x := 5 * i) (y := 2) hx hb dL_law_190 rfl rfl ?_
        refine l_sld (k0 := (5 * i) + 2) (z := a2) X hC hX hbl hL (by omega) ea2 dL_law_191 ?_
        refine li_if_eq (tgt := 199) hx hb dL_law_192 (by decide) (by omega) (fun c_192 => ?_) (fun c_192 => ?_)
        · exfalso; omega
        · refine li_c hx hb dL_law_195 ?_
          refine lv_goto (tgt := 200) hx hb dL_law_196 (by decide) ?_
          have hM2 := mX4_addNode l B G Z 0 1 hI (by omega) (by omega)
          rw [← hKd] at hM2
          refine l_callDi (n := 2) (As := [.int (iI 0), .int (iI 1)]) (rest := []) X hC hM2 rfl ⟨gL_law_X4_addNode, ⟨_, rfl⟩, rfl, rfl, ⟨by decide, by decide, by decide +kernel⟩, Nat.le_of_ble_eq_true rfl, Nat.le_of_ble_eq_true rfl⟩ rfl hl.1 rfl (Nat.le_of_ble_eq_true rfl) ⟨by omega, by omega⟩ dL_law_200 (fun z2 G2 Z2 H locs hQ hC => ?_)
          obtain ⟨t1, t2, t3⟩ := yKI.o hQ
          have hgg : G2 = G1 := by by_cases hq : K = 0; exact (t2 hq).2.trans (hA1 hq).1.symm; exact (t3 hq).2.trans (hB1 hq).symm
          rw [hgg] at hC
          refine lv_istore (lv' := [(6, .int (iI z2)), (5, .int (iI (K : Int))), (4, .int (iI ((5 * i : Nat) : Int))), (0, .ref b), (1, .ref (A.a 0)), (2, .ref (B.a 0)), (3, .ref o)]) hx hb dL_law_203 hl (by decide) rfl (fun ls hl => ?_)
          refine lv_aload_n hx hb dL_law_205 rfl (lv_at hl 5 rfl) ?_
          refine l_callDi (n := 0) (As := []) (rest := []) X hC (mX4_thrown l B G1 Z2) rfl ⟨gL_law_X4_thrown, ⟨_, rfl⟩, rfl, rfl, ⟨by decide, by decide, by decide +kernel⟩, Nat.le_of_ble_eq_true rfl, Nat.le_of_ble_eq_true rfl⟩ rfl hl.1 rfl (Nat.le_of_ble_eq_true rfl) ⟨by omega, by omega⟩ dL_law_206 (fun z3 G3 Z3 H locs hQ3 hC => ?_)
          obtain ⟨hz3, hg3, hy3⟩ := hQ3
          rw [hg3, hy3] at hC
          rw [hz3, t1]
          refine lv_iload hx hb dL_law_209 (lv_at hl 1 rfl) ?_
          refine li_icmp_eq (tgt := 216) hx hb dL_law_211 (by decide) (⟨by omega, by omega⟩) (fun c_211 => ?_) (fun c_211 => ?_)
          · refine lv_iload hx hb dL_law_216 (lv_at hl 1 rfl) ?_
            refine li_if_ne (tgt := 233) hx hb dL_law_218 (by decide) (by omega) (fun c_218 => ?_) (fun c_218 => ?_)
            · refine lv_goto (tgt := 1382) hx hb dL_law_233 (by decide) ?_
              refine W.widen (k := cells + 10) (n := slots + 60) (by omega) (by omega) ?_
              exact kk G1 Y1 f1 Z2 H locs ls hI1 hY1 hC (lv_sub hl [2, 3, 4, 5, 6] rfl)
            · have hK0 : K = 0 := by omega
              refine lv_aload_n hx hb dL_law_221 rfl (lv_at hl 6 rfl) ?_
              refine li_c hx hb dL_law_222 ?_
              refine l_load X hC dL_law_223 ?_
              refine lv_iload hx hb dL_law_224 (lv_at hl 0 rfl) ?_
              refine lv_i2l hx hb dL_law_226 rfl ?_
              rw [show f1 0 = (iI z2).toInt64 from (by rw [(hA1 hK0).2, (t2 hK0).1])]
              refine W.lcmp hx hb dL_law_227 ?_
              rw [lcmp_s]
              refine li_if_eq (tgt := 233) hx hb dL_law_228 (by decide) (by omega) (fun c_228 => ?_) (fun c_228 => ?_)
              · refine lv_goto (tgt := 1382) hx hb dL_law_233 (by decide) ?_
                refine W.widen (k := cells + 10) (n := slots + 60) (by omega) (by omega) ?_
                exact kk G1 Y1 f1 Z2 H locs ls hI1 hY1 hC (lv_sub hl [2, 3, 4, 5, 6] rfl)
              · exfalso; omega
          · exfalso; omega
      · exfalso; omega
  · refine li_c hx hb dL_law_146 ?_
    refine lv_goto (tgt := 151) hx hb dL_law_147 (by decide) ?_
    refine lv_aload_n hx hb dL_law_151 rfl (lv_at hl 1 rfl) ?_
    refine lv_iload hx hb dL_law_152 (lv_at hl 0 rfl) ?_
    refine li_c hx hb dL_law_154 ?_
    refine li_addN (x := 5 * i) (y := 2) hx hb dL_law_155 rfl rfl ?_
    refine l_sld (k0 := (5 * i) + 2) (z := a2) X hC hX hbl hL (by omega) ea2 dL_law_156 ?_
    refine li_if_eq (tgt := 164) hx hb dL_law_157 (by decide) (by omega) (fun c_157 => ?_) (fun c_157 => ?_)
    · refine li_c hx hb dL_law_164 ?_
      refine lv_aload_n hx hb dL_law_165 rfl (lv_at hl 4 rfl) ?_
      obtain ⟨K, hKd⟩ : ∃ K, K = (if G.nn < 8 then 0 else 1) := ⟨_, rfl⟩
      have hM := wL_addNode l X.2.2.2.2.2.2.2.1 A o G Y f hI hY 1 0 (by omega) (by omega)
      rw [← hKd] at hM
      have hK3 : K ≤ 3 := by rw [hKd]; exact (by split <;> omega)
      refine l_callW (n := 4) (As := [.ref (A.a 0), .int (iI 1), .int (iI 0), .ref o]) (rest := []) X hC hM gL_law_L_addNode ⟨_, rfl⟩ rfl rfl ⟨by decide, by decide, by decide +kernel⟩ ⟨Nat.le_of_ble_eq_true rfl, Nat.le_of_ble_eq_true rfl⟩ rfl hl.1 rfl (Nat.le_of_ble_eq_true rfl) ⟨by omega, by omega⟩ dL_law_166 (fun G1 Y1 f1 H locs hY1 hA1 hB1 hC => ?_)
      have hI1 : Inv G1 := by by_cases hq : K = 0; rw [(hA1 hq).1]; exact Inv_addNode hI (by decide) (by decide) (k0_of (hKd.symm.trans hq)); rw [hB1 hq]; exact hI
      refine lv_istore (lv' := [(5, .int (iI (K : Int))), (4, .int (iI ((5 * i : Nat) : Int))), (0, .ref b), (1, .ref (A.a 0)), (2, .ref (B.a 0)), (3, .ref o)]) hx hb dL_law_169 hl (by decide) rfl (fun ls hl => ?_)
      refine lv_aload_n hx hb dL_law_171 rfl (lv_at hl 4 rfl) ?_
      refine lv_aload_n hx hb dL_law_172 rfl (lv_at hl 2 rfl) ?_
      refine lv_iload hx hb dL_law_173 (lv_at hl 1 rfl) ?_
      refine li_c hx hb dL_law_175 ?_
      refine li_addN (x := 5 * i) (y := 1) hx hb dL_law_176 rfl rfl ?_
      refine l_sld (k0 := (5 * i) + 1) (z := a1) X hC hX hbl hL (by omega) ea1 dL_law_177 ?_
      refine li_if_eq (tgt := 185) hx hb dL_law_178 (by decide) (by omega) (fun c_178 => ?_) (fun c_178 => ?_)
      · exfalso; omega
      · refine li_c hx hb dL_law_181 ?_
        refine lv_goto (tgt := 186) hx hb dL_law_182 (by decide) ?_
        refine lv_aload_n hx hb dL_law_186 rfl (lv_at hl 2 rfl) ?_
        refine lv_iload hx hb dL_law_187 (lv_at hl 1 rfl) ?_
        refine li_c hx hb dL_law_189 ?_
        refine li_addN (x := 5 * i) (y := 2) hx hb dL_law_190 rfl rfl ?_
        refine l_sld (k0 := (5 * i) + 2) (z := a2) X hC hX hbl hL (by omega) ea2 dL_law_191 ?_
        refine li_if_eq (tgt := 199) hx hb dL_law_192 (by decide) (by omega) (fun c_192 => ?_) (fun c_192 => ?_)
        · refine li_c hx hb dL_law_199 ?_
          have hM2 := mX4_addNode l B G Z 1 0 hI (by omega) (by omega)
          rw [← hKd] at hM2
          refine l_callDi (n := 2) (As := [.int (iI 1), .int (iI 0)]) (rest := []) X hC hM2 rfl ⟨gL_law_X4_addNode, ⟨_, rfl⟩, rfl, rfl, ⟨by decide, by decide, by decide +kernel⟩, Nat.le_of_ble_eq_true rfl, Nat.le_of_ble_eq_true rfl⟩ rfl hl.1 rfl (Nat.le_of_ble_eq_true rfl) ⟨by omega, by omega⟩ dL_law_200 (fun z2 G2 Z2 H locs hQ hC => ?_)
          obtain ⟨t1, t2, t3⟩ := yKI.o hQ
          have hgg : G2 = G1 := by by_cases hq : K = 0; exact (t2 hq).2.trans (hA1 hq).1.symm; exact (t3 hq).2.trans (hB1 hq).symm
          rw [hgg] at hC
          refine lv_istore (lv' := [(6, .int (iI z2)), (5, .int (iI (K : Int))), (4, .int (iI ((5 * i : Nat) : Int))), (0, .ref b), (1, .ref (A.a 0)), (2, .ref (B.a 0)), (3, .ref o)]) hx hb dL_law_203 hl (by decide) rfl (fun ls hl => ?_)
          refine lv_aload_n hx hb dL_law_205 rfl (lv_at hl 5 rfl) ?_
          refine l_callDi (n := 0) (As := []) (rest := []) X hC (mX4_thrown l B G1 Z2) rfl ⟨gL_law_X4_thrown, ⟨_, rfl⟩, rfl, rfl, ⟨by decide, by decide, by decide +kernel⟩, Nat.le_of_ble_eq_true rfl, Nat.le_of_ble_eq_true rfl⟩ rfl hl.1 rfl (Nat.le_of_ble_eq_true rfl) ⟨by omega, by omega⟩ dL_law_206 (fun z3 G3 Z3 H locs hQ3 hC => ?_)
          obtain ⟨hz3, hg3, hy3⟩ := hQ3
          rw [hg3, hy3] at hC
          rw [hz3, t1]
          refine lv_iload hx hb dL_law_209 (lv_at hl 1 rfl) ?_
          refine li_icmp_eq (tgt := 216) hx hb dL_law_211 (by decide) (⟨by omega, by omega⟩) (fun c_211 => ?_) (fun c_211 => ?_)
          · refine lv_iload hx hb dL_law_216 (lv_at hl 1 rfl) ?_
            refine li_if_ne (tgt := 233) hx hb dL_law_218 (by decide) (by omega) (fun c_218 => ?_) (fun c_218 => ?_)
            · refine lv_goto (tgt := 1382) hx hb dL_law_233 (by decide) ?_
              refine W.widen (k := cells + 10) (n := slots + 60) (by omega) (by omega) ?_
              exact kk G1 Y1 f1 Z2 H locs ls hI1 hY1 hC (lv_sub hl [2, 3, 4, 5, 6] rfl)
            · have hK0 : K = 0 := by omega
              refine lv_aload_n hx hb dL_law_221 rfl (lv_at hl 6 rfl) ?_
              refine li_c hx hb dL_law_222 ?_
              refine l_load X hC dL_law_223 ?_
              refine lv_iload hx hb dL_law_224 (lv_at hl 0 rfl) ?_
              refine lv_i2l hx hb dL_law_226 rfl ?_
              rw [show f1 0 = (iI z2).toInt64 from (by rw [(hA1 hK0).2, (t2 hK0).1])]
              refine W.lcmp hx hb dL_law_227 ?_
              rw [lcmp_s]
              refine li_if_eq (tgt := 233) hx hb dL_law_228 (by decide) (by omega) (fun c_228 => ?_) (fun c_228 => ?_)
              · refine lv_goto (tgt := 1382) hx hb dL_law_233 (by decide) ?_
                refine W.widen (k := cells + 10) (n := slots + 60) (by omega) (by omega) ?_
                exact kk G1 Y1 f1 Z2 H locs ls hI1 hY1 hC (lv_sub hl [2, 3, 4, 5, 6] rfl)
              · exfalso; omega
          · exfalso; omega
        · exfalso; omega
    · refine li_c hx hb dL_law_160 ?_
      refine lv_goto (tgt := 165) hx hb dL_law_161 (by decide) ?_
      refine lv_aload_n hx hb dL_law_165 rfl (lv_at hl 4 rfl) ?_
      obtain ⟨K, hKd⟩ : ∃ K, K = (if G.nn < 8 then 0 else 1) := ⟨_, rfl⟩
      have hM := wL_addNode l X.2.2.2.2.2.2.2.1 A o G Y f hI hY 1 1 (by omega) (by omega)
      rw [← hKd] at hM
      have hK3 : K ≤ 3 := by rw [hKd]; exact (by split <;> omega)
      refine l_callW (n := 4) (As := [.ref (A.a 0), .int (iI 1), .int (iI 1), .ref o]) (rest := []) X hC hM gL_law_L_addNode ⟨_, rfl⟩ rfl rfl ⟨by decide, by decide, by decide +kernel⟩ ⟨Nat.le_of_ble_eq_true rfl, Nat.le_of_ble_eq_true rfl⟩ rfl hl.1 rfl (Nat.le_of_ble_eq_true rfl) ⟨by omega, by omega⟩ dL_law_166 (fun G1 Y1 f1 H locs hY1 hA1 hB1 hC => ?_)
      have hI1 : Inv G1 := by by_cases hq : K = 0; rw [(hA1 hq).1]; exact Inv_addNode hI (by decide) (by decide) (k0_of (hKd.symm.trans hq)); rw [hB1 hq]; exact hI
      refine lv_istore (lv' := [(5, .int (iI (K : Int))), (4, .int (iI ((5 * i : Nat) : Int))), (0, .ref b), (1, .ref (A.a 0)), (2, .ref (B.a 0)), (3, .ref o)]) hx hb dL_law_169 hl (by decide) rfl (fun ls hl => ?_)
      refine lv_aload_n hx hb dL_law_171 rfl (lv_at hl 4 rfl) ?_
      refine lv_aload_n hx hb dL_law_172 rfl (lv_at hl 2 rfl) ?_
      refine lv_iload hx hb dL_law_173 (lv_at hl 1 rfl) ?_
      refine li_c hx hb dL_law_175 ?_
      refine li_addN (x := 5 * i) (y := 1) hx hb dL_law_176 rfl rfl ?_
      refine l_sld (k0 := (5 * i) + 1) (z := a1) X hC hX hbl hL (by omega) ea1 dL_law_177 ?_
      refine li_if_eq (tgt := 185) hx hb dL_law_178 (by decide) (by omega) (fun c_178 => ?_) (fun c_178 => ?_)
      · exfalso; omega
      · refine li_c hx hb dL_law_181 ?_
        refine lv_goto (tgt := 186) hx hb dL_law_182 (by decide) ?_
        refine lv_aload_n hx hb dL_law_186 rfl (lv_at hl 2 rfl) ?_
        refine lv_iload hx hb dL_law_187 (lv_at hl 1 rfl) ?_
        refine li_c hx hb dL_law_189 ?_
        refine li_addN (x := 5 * i) (y := 2) hx hb dL_law_190 rfl rfl ?_
        refine l_sld (k0 := (5 * i) + 2) (z := a2) X hC hX hbl hL (by omega) ea2 dL_law_191 ?_
        refine li_if_eq (tgt := 199) hx hb dL_law_192 (by decide) (by omega) (fun c_192 => ?_) (fun c_192 => ?_)
        · exfalso; omega
        · refine li_c hx hb dL_law_195 ?_
          refine lv_goto (tgt := 200) hx hb dL_law_196 (by decide) ?_
          have hM2 := mX4_addNode l B G Z 1 1 hI (by omega) (by omega)
          rw [← hKd] at hM2
          refine l_callDi (n := 2) (As := [.int (iI 1), .int (iI 1)]) (rest := []) X hC hM2 rfl ⟨gL_law_X4_addNode, ⟨_, rfl⟩, rfl, rfl, ⟨by decide, by decide, by decide +kernel⟩, Nat.le_of_ble_eq_true rfl, Nat.le_of_ble_eq_true rfl⟩ rfl hl.1 rfl (Nat.le_of_ble_eq_true rfl) ⟨by omega, by omega⟩ dL_law_200 (fun z2 G2 Z2 H locs hQ hC => ?_)
          obtain ⟨t1, t2, t3⟩ := yKI.o hQ
          have hgg : G2 = G1 := by by_cases hq : K = 0; exact (t2 hq).2.trans (hA1 hq).1.symm; exact (t3 hq).2.trans (hB1 hq).symm
          rw [hgg] at hC
          refine lv_istore (lv' := [(6, .int (iI z2)), (5, .int (iI (K : Int))), (4, .int (iI ((5 * i : Nat) : Int))), (0, .ref b), (1, .ref (A.a 0)), (2, .ref (B.a 0)), (3, .ref o)]) hx hb dL_law_203 hl (by decide) rfl (fun ls hl => ?_)
          refine lv_aload_n hx hb dL_law_205 rfl (lv_at hl 5 rfl) ?_
          refine l_callDi (n := 0) (As := []) (rest := []) X hC (mX4_thrown l B G1 Z2) rfl ⟨gL_law_X4_thrown, ⟨_, rfl⟩, rfl, rfl, ⟨by decide, by decide, by decide +kernel⟩, Nat.le_of_ble_eq_true rfl, Nat.le_of_ble_eq_true rfl⟩ rfl hl.1 rfl (Nat.le_of_ble_eq_true rfl) ⟨by omega, by omega⟩ dL_law_206 (fun z3 G3 Z3 H locs hQ3 hC => ?_)
          obtain ⟨hz3, hg3, hy3⟩ := hQ3
          rw [hg3, hy3] at hC
          rw [hz3, t1]
          refine lv_iload hx hb dL_law_209 (lv_at hl 1 rfl) ?_
          refine li_icmp_eq (tgt := 216) hx hb dL_law_211 (by decide) (⟨by omega, by omega⟩) (fun c_211 => ?_) (fun c_211 => ?_)
          · refine lv_iload hx hb dL_law_216 (lv_at hl 1 rfl) ?_
            refine li_if_ne (tgt := 233) hx hb dL_law_218 (by decide) (by omega) (fun c_218 => ?_) (fun c_218 => ?_)
            · refine lv_goto (tgt := 1382) hx hb dL_law_233 (by decide) ?_
              refine W.widen (k := cells + 10) (n := slots + 60) (by omega) (by omega) ?_
              exact kk G1 Y1 f1 Z2 H locs ls hI1 hY1 hC (lv_sub hl [2, 3, 4, 5, 6] rfl)
            · have hK0 : K = 0 := by omega
              refine lv_aload_n hx hb dL_law_221 rfl (lv_at hl 6 rfl) ?_
              refine li_c hx hb dL_law_222 ?_
              refine l_load X hC dL_law_223 ?_
              refine lv_iload hx hb dL_law_224 (lv_at hl 0 rfl) ?_
              refine lv_i2l hx hb dL_law_226 rfl ?_
              rw [show f1 0 = (iI z2).toInt64 from (by rw [(hA1 hK0).2, (t2 hK0).1])]
              refine W.lcmp hx hb dL_law_227 ?_
              rw [lcmp_s]
              refine li_if_eq (tgt := 233) hx hb dL_law_228 (by decide) (by omega) (fun c_228 => ?_) (fun c_228 => ?_)
              · refine lv_goto (tgt := 1382) hx hb dL_law_233 (by decide) ?_
                refine W.widen (k := cells + 10) (n := slots + 60) (by omega) (by omega) ?_
                exact kk G1 Y1 f1 Z2 H locs ls hI1 hY1 hC (lv_sub hl [2, 3, 4, 5, 6] rfl)
              · exfalso; omega
          · exfalso; omega

set_option maxHeartbeats 8000000 in
set_option maxRecDepth 100000 in
theorem lw_case_1 {p : Program} {l : Launch} {e : Env} {s : State} {m : MethodId} {args : Array Value} {below : List Frame} {meth : Method} {c : Code} {H : Heap} {locs : List Loc} {cells slots : Nat} {Q : State → Prop} {ls : Array Slot} {A B : AD} {o : Nat} {G : GS} {Y : YS} {f : Nat → Int64} {Z : ZS} {b L i : Nat} {xs : Nat → Int32}
    (X : lwX l p s m c args A B o) (hI : Inv G) (hY : YI Y) (hC : lwC A B o G Y f G Z s H locs) (hl : lv_has ls 9 [(4, .int (iI ((5 * i : Nat) : Int))), (0, .ref b), (1, .ref (A.a 0)), (2, .ref (B.a 0)), (3, .ref o)]) (hi : 5 * i + 5 ≤ L) (hL : L ≤ 2560) (hX : va_X b L xs s s.heap) (hbl : b < s.heap.size) (hcl : cells + 10 ≤ room_1.cells) (hsl : slots + 60 ≤ room_1.slots)
    (kk : ∀ (G' : GS) (Y' : YS) (f' : Nat → Int64) (Z' : ZS) (H' : Heap) (locs' : List Loc) (ls' : Array Slot), Inv G' → YI Y' → lwC A B o G' Y' f' G' Z' s H' locs' → lv_has ls' 9 [(4, .int (iI ((5 * i : Nat) : Int))), (0, .ref b), (1, .ref (A.a 0)), (2, .ref (B.a 0)), (3, .ref o)] → W p l e room_1 s m args below meth c H' locs' (cells + 10) (slots + 60) Q (F0 m 1382 ls' [])) : W p l e room_1 s m args below meth c H locs cells slots Q (F0 m 236 ls []) := by
  obtain ⟨hx, hb, hml, hown, hts⟩ := id X.1
  obtain ⟨a1, ha1, ea1⟩ := iI_of (xs ((5 * i) + 1))
  obtain ⟨a2, ha2, ea2⟩ := iI_of (xs ((5 * i) + 2))
  obtain ⟨a3, ha3, ea3⟩ := iI_of (xs ((5 * i) + 3))
  refine lv_aload_n hx hb dL_law_236 rfl (lv_at hl 2 rfl) ?_
  refine lv_aload_n hx hb dL_law_237 rfl (lv_at hl 1 rfl) ?_
  refine lv_iload hx hb dL_law_238 (lv_at hl 0 rfl) ?_
  refine li_c hx hb dL_law_240 ?_
  refine li_addN (x := 5 * i) (y := 1) hx hb dL_law_241 rfl rfl ?_
  refine l_sld (k0 := (5 * i) + 1) (z := a1) X hC hX hbl hL (by omega) ea1 dL_law_242 ?_
  refine lv_aload_n hx hb dL_law_243 rfl (lv_at hl 1 rfl) ?_
  refine lv_iload hx hb dL_law_244 (lv_at hl 0 rfl) ?_
  refine li_c hx hb dL_law_246 ?_
  refine li_addN (x := 5 * i) (y := 2) hx hb dL_law_247 rfl rfl ?_
  refine l_sld (k0 := (5 * i) + 2) (z := a2) X hC hX hbl hL (by omega) ea2 dL_law_248 ?_
  refine li_if_eq (tgt := 256) hx hb dL_law_249 (by decide) (by omega) (fun c_249 => ?_) (fun c_249 => ?_)
  · refine li_c hx hb dL_law_256 ?_
    refine lv_aload_n hx hb dL_law_257 rfl (lv_at hl 1 rfl) ?_
    refine lv_iload hx hb dL_law_258 (lv_at hl 0 rfl) ?_
    refine li_c hx hb dL_law_260 ?_
    refine li_addN (x := 5 * i) (y := 3) hx hb dL_law_261 rfl rfl ?_
    refine l_sld (k0 := (5 * i) + 3) (z := a3) X hC hX hbl hL (by omega) ea3 dL_law_262 ?_
    refine li_if_eq (tgt := 270) hx hb dL_law_263 (by decide) (by omega) (fun c_263 => ?_) (fun c_263 => ?_)
    · refine li_c hx hb dL_law_270 ?_
      refine lv_aload_n hx hb dL_law_271 rfl (lv_at hl 4 rfl) ?_
      obtain ⟨K, hKd⟩ : ∃ K, K = (if 0 ≤ a1 ∧ a1 < (G.nn : Int) then 0 else 1) := ⟨_, rfl⟩
      have hM := wL_setNode l X.2.2.2.2.2.2.2.1 A o G Y f hI hY a1 0 0 (by omega) (by omega) (by omega)
      rw [← hKd] at hM
      have hK3 : K ≤ 3 := by rw [hKd]; exact (by split <;> omega)
      refine l_callW (n := 5) (As := [.ref (A.a 0), .int (iI a1), .int (iI 0), .int (iI 0), .ref o]) (rest := []) X hC hM gL_law_L_setNode ⟨_, rfl⟩ rfl rfl ⟨by decide, by decide, by decide +kernel⟩ ⟨Nat.le_of_ble_eq_true rfl, Nat.le_of_ble_eq_true rfl⟩ rfl hl.1 rfl (Nat.le_of_ble_eq_true rfl) ⟨by omega, by omega⟩ dL_law_272 (fun G1 Y1 f1 H locs hY1 hA1 hB1 hC => ?_)
      have hI1 : Inv G1 := by by_cases hq : K = 0; rw [(hA1 hq).1]; exact Inv_setNode hI (by decide); rw [hB1 hq]; exact hI
      refine lv_istore (lv' := [(5, .int (iI (K : Int))), (4, .int (iI ((5 * i : Nat) : Int))), (0, .ref b), (1, .ref (A.a 0)), (2, .ref (B.a 0)), (3, .ref o)]) hx hb dL_law_275 hl (by decide) rfl (fun ls hl => ?_)
      refine lv_aload_n hx hb dL_law_277 rfl (lv_at hl 4 rfl) ?_
      refine lv_aload_n hx hb dL_law_278 rfl (lv_at hl 2 rfl) ?_
      refine lv_iload hx hb dL_law_279 (lv_at hl 1 rfl) ?_
      refine li_c hx hb dL_law_281 ?_
      refine li_addN (x := 5 * i) (y := 1) hx hb dL_law_282 rfl rfl ?_
      refine l_sld (k0 := (5 * i) + 1) (z := a1) X hC hX hbl hL (by omega) ea1 dL_law_283 ?_
      refine lv_aload_n hx hb dL_law_284 rfl (lv_at hl 2 rfl) ?_
      refine lv_iload hx hb dL_law_285 (lv_at hl 1 rfl) ?_
      refine li_c hx hb dL_law_287 ?_
      refine li_addN (x := 5 * i) (y := 2) hx hb dL_law_288 rfl rfl ?_
      refine l_sld (k0 := (5 * i) + 2) (z := a2) X hC hX hbl hL (by omega) ea2 dL_law_289 ?_
      refine li_if_eq (tgt := 297) hx hb dL_law_290 (by decide) (by omega) (fun c_290 => ?_) (fun c_290 => ?_)
      · refine li_c hx hb dL_law_297 ?_
        refine lv_aload_n hx hb dL_law_298 rfl (lv_at hl 2 rfl) ?_
        refine lv_iload hx hb dL_law_299 (lv_at hl 1 rfl) ?_
        refine li_c hx hb dL_law_301 ?_
        refine li_addN (x := 5 * i) (y := 3) hx hb dL_law_302 rfl rfl ?_
        refine l_sld (k0 := (5 * i) + 3) (z := a3) X hC hX hbl hL (by omega) ea3 dL_law_303 ?_
        refine li_if_eq (tgt := 311) hx hb dL_law_304 (by decide) (by omega) (fun c_304 => ?_) (fun c_304 => ?_)
        · refine li_c hx hb dL_law_311 ?_
          have hM2 := mX4_setNode l B G Z a1 0 0 hI (by omega) (by omega) (by omega)
          rw [← hKd] at hM2
          refine l_callDi (n := 3) (As := [.int (iI a1), .int (iI 0), .int (iI 0)]) (rest := []) X hC hM2 rfl ⟨gL_law_X4_setNode, ⟨_, rfl⟩, rfl, rfl, ⟨by decide, by decide, by decide +kernel⟩, Nat.le_of_ble_eq_true rfl, Nat.le_of_ble_eq_true rfl⟩ rfl hl.1 rfl (Nat.le_of_ble_eq_true rfl) ⟨by omega, by omega⟩ dL_law_312 (fun z2 G2 Z2 H locs hQ hC => ?_)
          obtain ⟨t1, t2, t3⟩ := yKI.o hQ
          have hgg : G2 = G1 := by by_cases hq : K = 0; exact (t2 hq).2.trans (hA1 hq).1.symm; exact (t3 hq).2.trans (hB1 hq).symm
          rw [hgg] at hC
          have hz2 : K = 0 → 0 ≤ z2 ∧ z2 ≤ 1 := fun hq => by rw [(t2 hq).1]; have h7 := hI.st a1.toNat; have h8 := hI.tu a1.toNat; split <;> omega
          refine lv_istore (lv' := [(6, .int (iI z2)), (5, .int (iI (K : Int))), (4, .int (iI ((5 * i : Nat) : Int))), (0, .ref b), (1, .ref (A.a 0)), (2, .ref (B.a 0)), (3, .ref o)]) hx hb dL_law_315 hl (by decide) rfl (fun ls hl => ?_)
          refine lv_aload_n hx hb dL_law_317 rfl (lv_at hl 5 rfl) ?_
          refine l_callDi (n := 0) (As := []) (rest := []) X hC (mX4_thrown l B G1 Z2) rfl ⟨gL_law_X4_thrown, ⟨_, rfl⟩, rfl, rfl, ⟨by decide, by decide, by decide +kernel⟩, Nat.le_of_ble_eq_true rfl, Nat.le_of_ble_eq_true rfl⟩ rfl hl.1 rfl (Nat.le_of_ble_eq_true rfl) ⟨by omega, by omega⟩ dL_law_318 (fun z3 G3 Z3 H locs hQ3 hC => ?_)
          obtain ⟨hz3, hg3, hy3⟩ := hQ3
          rw [hg3, hy3] at hC
          rw [hz3, t1]
          refine lv_iload hx hb dL_law_321 (lv_at hl 1 rfl) ?_
          refine li_icmp_eq (tgt := 328) hx hb dL_law_323 (by decide) (⟨by omega, by omega⟩) (fun c_323 => ?_) (fun c_323 => ?_)
          · refine lv_iload hx hb dL_law_328 (lv_at hl 1 rfl) ?_
            refine li_if_ne (tgt := 352) hx hb dL_law_330 (by decide) (by omega) (fun c_330 => ?_) (fun c_330 => ?_)
            · refine lv_goto (tgt := 1382) hx hb dL_law_352 (by decide) ?_
              refine W.widen (k := cells + 10) (n := slots + 60) (by omega) (by omega) ?_
              exact kk G1 Y1 f1 Z2 H locs ls hI1 hY1 hC (lv_sub hl [2, 3, 4, 5, 6] rfl)
            · have hK0 : K = 0 := by omega
              have hz2' := hz2 hK0
              refine lv_aload_n hx hb dL_law_333 rfl (lv_at hl 6 rfl) ?_
              refine li_c hx hb dL_law_334 ?_
              refine l_load X hC dL_law_335 ?_
              refine lv_iload hx hb dL_law_336 (lv_at hl 0 rfl) ?_
              refine li_if_eq (tgt := 345) hx hb dL_law_338 (by decide) (by omega) (fun c_338 => ?_) (fun c_338 => ?_)
              · refine lv_lconst (v := 0) hx hb dL_law_345 rfl ?_
                rw [show f1 0 = 0 from (by rw [(hA1 hK0).2]; exact if_pos ((t2 hK0).1.symm.trans c_338))]
                refine W.lcmp hx hb dL_law_346 ?_
                rw [lcmp_s]
                refine li_if_eq (tgt := 352) hx hb dL_law_347 (by decide) (by omega) (fun c_347 => ?_) (fun c_347 => ?_)
                · refine lv_goto (tgt := 1382) hx hb dL_law_352 (by decide) ?_
                  refine W.widen (k := cells + 10) (n := slots + 60) (by omega) (by omega) ?_
                  exact kk G1 Y1 f1 Z2 H locs ls hI1 hY1 hC (lv_sub hl [2, 3, 4, 5, 6] rfl)
                · exfalso; omega
              · refine lv_lconst (v := 1) hx hb dL_law_341 rfl ?_
                refine lv_goto (tgt := 346) hx hb dL_law_342 (by decide) ?_
                rw [show f1 0 = 1 from (by rw [(hA1 hK0).2]; exact if_neg (fun hq => c_338 ((t2 hK0).1.trans hq)))]
                refine W.lcmp hx hb dL_law_346 ?_
                rw [lcmp_s]
                refine li_if_eq (tgt := 352) hx hb dL_law_347 (by decide) (by omega) (fun c_347 => ?_) (fun c_347 => ?_)
                · refine lv_goto (tgt := 1382) hx hb dL_law_352 (by decide) ?_
                  refine W.widen (k := cells + 10) (n := slots + 60) (by omega) (by omega) ?_
                  exact kk G1 Y1 f1 Z2 H locs ls hI1 hY1 hC (lv_sub hl [2, 3, 4, 5, 6] rfl)
                · exfalso; omega
          · exfalso; omega
        · exfalso; omega
      · exfalso; omega
    · refine li_c hx hb dL_law_266 ?_
      refine lv_goto (tgt := 271) hx hb dL_law_267 (by decide) ?_
      refine lv_aload_n hx hb dL_law_271 rfl (lv_at hl 4 rfl) ?_
      obtain ⟨K, hKd⟩ : ∃ K, K = (if 0 ≤ a1 ∧ a1 < (G.nn : Int) then 0 else 1) := ⟨_, rfl⟩
      have hM := wL_setNode l X.2.2.2.2.2.2.2.1 A o G Y f hI hY a1 0 1 (by omega) (by omega) (by omega)
      rw [← hKd] at hM
      have hK3 : K ≤ 3 := by rw [hKd]; exact (by split <;> omega)
      refine l_callW (n := 5) (As := [.ref (A.a 0), .int (iI a1), .int (iI 0), .int (iI 1), .ref o]) (rest := []) X hC hM gL_law_L_setNode ⟨_, rfl⟩ rfl rfl ⟨by decide, by decide, by decide +kernel⟩ ⟨Nat.le_of_ble_eq_true rfl, Nat.le_of_ble_eq_true rfl⟩ rfl hl.1 rfl (Nat.le_of_ble_eq_true rfl) ⟨by omega, by omega⟩ dL_law_272 (fun G1 Y1 f1 H locs hY1 hA1 hB1 hC => ?_)
      have hI1 : Inv G1 := by by_cases hq : K = 0; rw [(hA1 hq).1]; exact Inv_setNode hI (by decide); rw [hB1 hq]; exact hI
      refine lv_istore (lv' := [(5, .int (iI (K : Int))), (4, .int (iI ((5 * i : Nat) : Int))), (0, .ref b), (1, .ref (A.a 0)), (2, .ref (B.a 0)), (3, .ref o)]) hx hb dL_law_275 hl (by decide) rfl (fun ls hl => ?_)
      refine lv_aload_n hx hb dL_law_277 rfl (lv_at hl 4 rfl) ?_
      refine lv_aload_n hx hb dL_law_278 rfl (lv_at hl 2 rfl) ?_
      refine lv_iload hx hb dL_law_279 (lv_at hl 1 rfl) ?_
      refine li_c hx hb dL_law_281 ?_
      refine li_addN (x := 5 * i) (y := 1) hx hb dL_law_282 rfl rfl ?_
      refine l_sld (k0 := (5 * i) + 1) (z := a1) X hC hX hbl hL (by omega) ea1 dL_law_283 ?_
      refine lv_aload_n hx hb dL_law_284 rfl (lv_at hl 2 rfl) ?_
      refine lv_iload hx hb dL_law_285 (lv_at hl 1 rfl) ?_
      refine li_c hx hb dL_law_287 ?_
      refine li_addN (x := 5 * i) (y := 2) hx hb dL_law_288 rfl rfl ?_
      refine l_sld (k0 := (5 * i) + 2) (z := a2) X hC hX hbl hL (by omega) ea2 dL_law_289 ?_
      refine li_if_eq (tgt := 297) hx hb dL_law_290 (by decide) (by omega) (fun c_290 => ?_) (fun c_290 => ?_)
      · refine li_c hx hb dL_law_297 ?_
        refine lv_aload_n hx hb dL_law_298 rfl (lv_at hl 2 rfl) ?_
        refine lv_iload hx hb dL_law_299 (lv_at hl 1 rfl) ?_
        refine li_c hx hb dL_law_301 ?_
        refine li_addN (x := 5 * i) (y := 3) hx hb dL_law_302 rfl rfl ?_
        refine l_sld (k0 := (5 * i) + 3) (z := a3) X hC hX hbl hL (by omega) ea3 dL_law_303 ?_
        refine li_if_eq (tgt := 311) hx hb dL_law_304 (by decide) (by omega) (fun c_304 => ?_) (fun c_304 => ?_)
        · exfalso; omega
        · refine li_c hx hb dL_law_307 ?_
          refine lv_goto (tgt := 312) hx hb dL_law_308 (by decide) ?_
          have hM2 := mX4_setNode l B G Z a1 0 1 hI (by omega) (by omega) (by omega)
          rw [← hKd] at hM2
          refine l_callDi (n := 3) (As := [.int (iI a1), .int (iI 0), .int (iI 1)]) (rest := []) X hC hM2 rfl ⟨gL_law_X4_setNode, ⟨_, rfl⟩, rfl, rfl, ⟨by decide, by decide, by decide +kernel⟩, Nat.le_of_ble_eq_true rfl, Nat.le_of_ble_eq_true rfl⟩ rfl hl.1 rfl (Nat.le_of_ble_eq_true rfl) ⟨by omega, by omega⟩ dL_law_312 (fun z2 G2 Z2 H locs hQ hC => ?_)
          obtain ⟨t1, t2, t3⟩ := yKI.o hQ
          have hgg : G2 = G1 := by by_cases hq : K = 0; exact (t2 hq).2.trans (hA1 hq).1.symm; exact (t3 hq).2.trans (hB1 hq).symm
          rw [hgg] at hC
          have hz2 : K = 0 → 0 ≤ z2 ∧ z2 ≤ 1 := fun hq => by rw [(t2 hq).1]; have h7 := hI.st a1.toNat; have h8 := hI.tu a1.toNat; split <;> omega
          refine lv_istore (lv' := [(6, .int (iI z2)), (5, .int (iI (K : Int))), (4, .int (iI ((5 * i : Nat) : Int))), (0, .ref b), (1, .ref (A.a 0)), (2, .ref (B.a 0)), (3, .ref o)]) hx hb dL_law_315 hl (by decide) rfl (fun ls hl => ?_)
          refine lv_aload_n hx hb dL_law_317 rfl (lv_at hl 5 rfl) ?_
          refine l_callDi (n := 0) (As := []) (rest := []) X hC (mX4_thrown l B G1 Z2) rfl ⟨gL_law_X4_thrown, ⟨_, rfl⟩, rfl, rfl, ⟨by decide, by decide, by decide +kernel⟩, Nat.le_of_ble_eq_true rfl, Nat.le_of_ble_eq_true rfl⟩ rfl hl.1 rfl (Nat.le_of_ble_eq_true rfl) ⟨by omega, by omega⟩ dL_law_318 (fun z3 G3 Z3 H locs hQ3 hC => ?_)
          obtain ⟨hz3, hg3, hy3⟩ := hQ3
          rw [hg3, hy3] at hC
          rw [hz3, t1]
          refine lv_iload hx hb dL_law_321 (lv_at hl 1 rfl) ?_
          refine li_icmp_eq (tgt := 328) hx hb dL_law_323 (by decide) (⟨by omega, by omega⟩) (fun c_323 => ?_) (fun c_323 => ?_)
          · refine lv_iload hx hb dL_law_328 (lv_at hl 1 rfl) ?_
            refine li_if_ne (tgt := 352) hx hb dL_law_330 (by decide) (by omega) (fun c_330 => ?_) (fun c_330 => ?_)
            · refine lv_goto (tgt := 1382) hx hb dL_law_352 (by decide) ?_
              refine W.widen (k := cells + 10) (n := slots + 60) (by omega) (by omega) ?_
              exact kk G1 Y1 f1 Z2 H locs ls hI1 hY1 hC (lv_sub hl [2, 3, 4, 5, 6] rfl)
            · have hK0 : K = 0 := by omega
              have hz2' := hz2 hK0
              refine lv_aload_n hx hb dL_law_333 rfl (lv_at hl 6 rfl) ?_
              refine li_c hx hb dL_law_334 ?_
              refine l_load X hC dL_law_335 ?_
              refine lv_iload hx hb dL_law_336 (lv_at hl 0 rfl) ?_
              refine li_if_eq (tgt := 345) hx hb dL_law_338 (by decide) (by omega) (fun c_338 => ?_) (fun c_338 => ?_)
              · refine lv_lconst (v := 0) hx hb dL_law_345 rfl ?_
                rw [show f1 0 = 0 from (by rw [(hA1 hK0).2]; exact if_pos ((t2 hK0).1.symm.trans c_338))]
                refine W.lcmp hx hb dL_law_346 ?_
                rw [lcmp_s]
                refine li_if_eq (tgt := 352) hx hb dL_law_347 (by decide) (by omega) (fun c_347 => ?_) (fun c_347 => ?_)
                · refine lv_goto (tgt := 1382) hx hb dL_law_352 (by decide) ?_
                  refine W.widen (k := cells + 10) (n := slots + 60) (by omega) (by omega) ?_
                  exact kk G1 Y1 f1 Z2 H locs ls hI1 hY1 hC (lv_sub hl [2, 3, 4, 5, 6] rfl)
                · exfalso; omega
              · refine lv_lconst (v := 1) hx hb dL_law_341 rfl ?_
                refine lv_goto (tgt := 346) hx hb dL_law_342 (by decide) ?_
                rw [show f1 0 = 1 from (by rw [(hA1 hK0).2]; exact if_neg (fun hq => c_338 ((t2 hK0).1.trans hq)))]
                refine W.lcmp hx hb dL_law_346 ?_
                rw [lcmp_s]
                refine li_if_eq (tgt := 352) hx hb dL_law_347 (by decide) (by omega) (fun c_347 => ?_) (fun c_347 => ?_)
                · refine lv_goto (tgt := 1382) hx hb dL_law_352 (by decide) ?_
                  refine W.widen (k := cells + 10) (n := slots + 60) (by omega) (by omega) ?_
                  exact kk G1 Y1 f1 Z2 H locs ls hI1 hY1 hC (lv_sub hl [2, 3, 4, 5, 6] rfl)
                · exfalso; omega
          · exfalso; omega
      · exfalso; omega
  · refine li_c hx hb dL_law_252 ?_
    refine lv_goto (tgt := 257) hx hb dL_law_253 (by decide) ?_
    refine lv_aload_n hx hb dL_law_257 rfl (lv_at hl 1 rfl) ?_
    refine lv_iload hx hb dL_law_258 (lv_at hl 0 rfl) ?_
    refine li_c hx hb dL_law_260 ?_
    refine li_addN (x := 5 * i) (y := 3) hx hb dL_law_261 rfl rfl ?_
    refine l_sld (k0 := (5 * i) + 3) (z := a3) X hC hX hbl hL (by omega) ea3 dL_law_262 ?_
    refine li_if_eq (tgt := 270) hx hb dL_law_263 (by decide) (by omega) (fun c_263 => ?_) (fun c_263 => ?_)
    · refine li_c hx hb dL_law_270 ?_
      refine lv_aload_n hx hb dL_law_271 rfl (lv_at hl 4 rfl) ?_
      obtain ⟨K, hKd⟩ : ∃ K, K = (if 0 ≤ a1 ∧ a1 < (G.nn : Int) then 0 else 1) := ⟨_, rfl⟩
      have hM := wL_setNode l X.2.2.2.2.2.2.2.1 A o G Y f hI hY a1 1 0 (by omega) (by omega) (by omega)
      rw [← hKd] at hM
      have hK3 : K ≤ 3 := by rw [hKd]; exact (by split <;> omega)
      refine l_callW (n := 5) (As := [.ref (A.a 0), .int (iI a1), .int (iI 1), .int (iI 0), .ref o]) (rest := []) X hC hM gL_law_L_setNode ⟨_, rfl⟩ rfl rfl ⟨by decide, by decide, by decide +kernel⟩ ⟨Nat.le_of_ble_eq_true rfl, Nat.le_of_ble_eq_true rfl⟩ rfl hl.1 rfl (Nat.le_of_ble_eq_true rfl) ⟨by omega, by omega⟩ dL_law_272 (fun G1 Y1 f1 H locs hY1 hA1 hB1 hC => ?_)
      have hI1 : Inv G1 := by by_cases hq : K = 0; rw [(hA1 hq).1]; exact Inv_setNode hI (by decide); rw [hB1 hq]; exact hI
      refine lv_istore (lv' := [(5, .int (iI (K : Int))), (4, .int (iI ((5 * i : Nat) : Int))), (0, .ref b), (1, .ref (A.a 0)), (2, .ref (B.a 0)), (3, .ref o)]) hx hb dL_law_275 hl (by decide) rfl (fun ls hl => ?_)
      refine lv_aload_n hx hb dL_law_277 rfl (lv_at hl 4 rfl) ?_
      refine lv_aload_n hx hb dL_law_278 rfl (lv_at hl 2 rfl) ?_
      refine lv_iload hx hb dL_law_279 (lv_at hl 1 rfl) ?_
      refine li_c hx hb dL_law_281 ?_
      refine li_addN (x := 5 * i) (y := 1) hx hb dL_law_282 rfl rfl ?_
      refine l_sld (k0 := (5 * i) + 1) (z := a1) X hC hX hbl hL (by omega) ea1 dL_law_283 ?_
      refine lv_aload_n hx hb dL_law_284 rfl (lv_at hl 2 rfl) ?_
      refine lv_iload hx hb dL_law_285 (lv_at hl 1 rfl) ?_
      refine li_c hx hb dL_law_287 ?_
      refine li_addN (x := 5 * i) (y := 2) hx hb dL_law_288 rfl rfl ?_
      refine l_sld (k0 := (5 * i) + 2) (z := a2) X hC hX hbl hL (by omega) ea2 dL_law_289 ?_
      refine li_if_eq (tgt := 297) hx hb dL_law_290 (by decide) (by omega) (fun c_290 => ?_) (fun c_290 => ?_)
      · exfalso; omega
      · refine li_c hx hb dL_law_293 ?_
        refine lv_goto (tgt := 298) hx hb dL_law_294 (by decide) ?_
        refine lv_aload_n hx hb dL_law_298 rfl (lv_at hl 2 rfl) ?_
        refine lv_iload hx hb dL_law_299 (lv_at hl 1 rfl) ?_
        refine li_c hx hb dL_law_301 ?_
        refine li_addN (x := 5 * i) (y := 3) hx hb dL_law_302 rfl rfl ?_
        refine l_sld (k0 := (5 * i) + 3) (z := a3) X hC hX hbl hL (by omega) ea3 dL_law_303 ?_
        refine li_if_eq (tgt := 311) hx hb dL_law_304 (by decide) (by omega) (fun c_304 => ?_) (fun c_304 => ?_)
        · refine li_c hx hb dL_law_311 ?_
          have hM2 := mX4_setNode l B G Z a1 1 0 hI (by omega) (by omega) (by omega)
          rw [← hKd] at hM2
          refine l_callDi (n := 3) (As := [.int (iI a1), .int (iI 1), .int (iI 0)]) (rest := []) X hC hM2 rfl ⟨gL_law_X4_setNode, ⟨_, rfl⟩, rfl, rfl, ⟨by decide, by decide, by decide +kernel⟩, Nat.le_of_ble_eq_true rfl, Nat.le_of_ble_eq_true rfl⟩ rfl hl.1 rfl (Nat.le_of_ble_eq_true rfl) ⟨by omega, by omega⟩ dL_law_312 (fun z2 G2 Z2 H locs hQ hC => ?_)
          obtain ⟨t1, t2, t3⟩ := yKI.o hQ
          have hgg : G2 = G1 := by by_cases hq : K = 0; exact (t2 hq).2.trans (hA1 hq).1.symm; exact (t3 hq).2.trans (hB1 hq).symm
          rw [hgg] at hC
          have hz2 : K = 0 → 0 ≤ z2 ∧ z2 ≤ 1 := fun hq => by rw [(t2 hq).1]; have h7 := hI.st a1.toNat; have h8 := hI.tu a1.toNat; split <;> omega
          refine lv_istore (lv' := [(6, .int (iI z2)), (5, .int (iI (K : Int))), (4, .int (iI ((5 * i : Nat) : Int))), (0, .ref b), (1, .ref (A.a 0)), (2, .ref (B.a 0)), (3, .ref o)]) hx hb dL_law_315 hl (by decide) rfl (fun ls hl => ?_)
          refine lv_aload_n hx hb dL_law_317 rfl (lv_at hl 5 rfl) ?_
          refine l_callDi (n := 0) (As := []) (rest := []) X hC (mX4_thrown l B G1 Z2) rfl ⟨gL_law_X4_thrown, ⟨_, rfl⟩, rfl, rfl, ⟨by decide, by decide, by decide +kernel⟩, Nat.le_of_ble_eq_true rfl, Nat.le_of_ble_eq_true rfl⟩ rfl hl.1 rfl (Nat.le_of_ble_eq_true rfl) ⟨by omega, by omega⟩ dL_law_318 (fun z3 G3 Z3 H locs hQ3 hC => ?_)
          obtain ⟨hz3, hg3, hy3⟩ := hQ3
          rw [hg3, hy3] at hC
          rw [hz3, t1]
          refine lv_iload hx hb dL_law_321 (lv_at hl 1 rfl) ?_
          refine li_icmp_eq (tgt := 328) hx hb dL_law_323 (by decide) (⟨by omega, by omega⟩) (fun c_323 => ?_) (fun c_323 => ?_)
          · refine lv_iload hx hb dL_law_328 (lv_at hl 1 rfl) ?_
            refine li_if_ne (tgt := 352) hx hb dL_law_330 (by decide) (by omega) (fun c_330 => ?_) (fun c_330 => ?_)
            · refine lv_goto (tgt := 1382) hx hb dL_law_352 (by decide) ?_
              refine W.widen (k := cells + 10) (n := slots + 60) (by omega) (by omega) ?_
              exact kk G1 Y1 f1 Z2 H locs ls hI1 hY1 hC (lv_sub hl [2, 3, 4, 5, 6] rfl)
            · have hK0 : K = 0 := by omega
              have hz2' := hz2 hK0
              refine lv_aload_n hx hb dL_law_333 rfl (lv_at hl 6 rfl) ?_
              refine li_c hx hb dL_law_334 ?_
              refine l_load X hC dL_law_335 ?_
              refine lv_iload hx hb dL_law_336 (lv_at hl 0 rfl) ?_
              refine li_if_eq (tgt := 345) hx hb dL_law_338 (by decide) (by omega) (fun c_338 => ?_) (fun c_338 => ?_)
              · refine lv_lconst (v := 0) hx hb dL_law_345 rfl ?_
                rw [show f1 0 = 0 from (by rw [(hA1 hK0).2]; exact if_pos ((t2 hK0).1.symm.trans c_338))]
                refine W.lcmp hx hb dL_law_346 ?_
                rw [lcmp_s]
                refine li_if_eq (tgt := 352) hx hb dL_law_347 (by decide) (by omega) (fun c_347 => ?_) (fun c_347 => ?_)
                · refine lv_goto (tgt := 1382) hx hb dL_law_352 (by decide) ?_
                  refine W.widen (k := cells + 10) (n := slots + 60) (by omega) (by omega) ?_
                  exact kk G1 Y1 f1 Z2 H locs ls hI1 hY1 hC (lv_sub hl [2, 3, 4, 5, 6] rfl)
                · exfalso; omega
              · refine lv_lconst (v := 1) hx hb dL_law_341 rfl ?_
                refine lv_goto (tgt := 346) hx hb dL_law_342 (by decide) ?_
                rw [show f1 0 = 1 from (by rw [(hA1 hK0).2]; exact if_neg (fun hq => c_338 ((t2 hK0).1.trans hq)))]
                refine W.lcmp hx hb dL_law_346 ?_
                rw [lcmp_s]
                refine li_if_eq (tgt := 352) hx hb dL_law_347 (by decide) (by omega) (fun c_347 => ?_) (fun c_347 => ?_)
                · refine lv_goto (tgt := 1382) hx hb dL_law_352 (by decide) ?_
                  refine W.widen (k := cells + 10) (n := slots + 60) (by omega) (by omega) ?_
                  exact kk G1 Y1 f1 Z2 H locs ls hI1 hY1 hC (lv_sub hl [2, 3, 4, 5, 6] rfl)
                · exfalso; omega
          · exfalso; omega
        · exfalso; omega
    · refine li_c hx hb dL_law_266 ?_
      refine lv_goto (tgt := 271) hx hb dL_law_267 (by decide) ?_
      refine lv_aload_n hx hb dL_law_271 rfl (lv_at hl 4 rfl) ?_
      obtain ⟨K, hKd⟩ : ∃ K, K = (if 0 ≤ a1 ∧ a1 < (G.nn : Int) then 0 else 1) := ⟨_, rfl⟩
      have hM := wL_setNode l X.2.2.2.2.2.2.2.1 A o G Y f hI hY a1 1 1 (by omega) (by omega) (by omega)
      rw [← hKd] at hM
      have hK3 : K ≤ 3 := by rw [hKd]; exact (by split <;> omega)
      refine l_callW (n := 5) (As := [.ref (A.a 0), .int (iI a1), .int (iI 1), .int (iI 1), .ref o]) (rest := []) X hC hM gL_law_L_setNode ⟨_, rfl⟩ rfl rfl ⟨by decide, by decide, by decide +kernel⟩ ⟨Nat.le_of_ble_eq_true rfl, Nat.le_of_ble_eq_true rfl⟩ rfl hl.1 rfl (Nat.le_of_ble_eq_true rfl) ⟨by omega, by omega⟩ dL_law_272 (fun G1 Y1 f1 H locs hY1 hA1 hB1 hC => ?_)
      have hI1 : Inv G1 := by by_cases hq : K = 0; rw [(hA1 hq).1]; exact Inv_setNode hI (by decide); rw [hB1 hq]; exact hI
      refine lv_istore (lv' := [(5, .int (iI (K : Int))), (4, .int (iI ((5 * i : Nat) : Int))), (0, .ref b), (1, .ref (A.a 0)), (2, .ref (B.a 0)), (3, .ref o)]) hx hb dL_law_275 hl (by decide) rfl (fun ls hl => ?_)
      refine lv_aload_n hx hb dL_law_277 rfl (lv_at hl 4 rfl) ?_
      refine lv_aload_n hx hb dL_law_278 rfl (lv_at hl 2 rfl) ?_
      refine lv_iload hx hb dL_law_279 (lv_at hl 1 rfl) ?_
      refine li_c hx hb dL_law_281 ?_
      refine li_addN (x := 5 * i) (y := 1) hx hb dL_law_282 rfl rfl ?_
      refine l_sld (k0 := (5 * i) + 1) (z := a1) X hC hX hbl hL (by omega) ea1 dL_law_283 ?_
      refine lv_aload_n hx hb dL_law_284 rfl (lv_at hl 2 rfl) ?_
      refine lv_iload hx hb dL_law_285 (lv_at hl 1 rfl) ?_
      refine li_c hx hb dL_law_287 ?_
      refine li_addN (x := 5 * i) (y := 2) hx hb dL_law_288 rfl rfl ?_
      refine l_sld (k0 := (5 * i) + 2) (z := a2) X hC hX hbl hL (by omega) ea2 dL_law_289 ?_
      refine li_if_eq (tgt := 297) hx hb dL_law_290 (by decide) (by omega) (fun c_290 => ?_) (fun c_290 => ?_)
      · exfalso; omega
      · refine li_c hx hb dL_law_293 ?_
        refine lv_goto (tgt := 298) hx hb dL_law_294 (by decide) ?_
        refine lv_aload_n hx hb dL_law_298 rfl (lv_at hl 2 rfl) ?_
        refine lv_iload hx hb dL_law_299 (lv_at hl 1 rfl) ?_
        refine li_c hx hb dL_law_301 ?_
        refine li_addN (x := 5 * i) (y := 3) hx hb dL_law_302 rfl rfl ?_
        refine l_sld (k0 := (5 * i) + 3) (z := a3) X hC hX hbl hL (by omega) ea3 dL_law_303 ?_
        refine li_if_eq (tgt := 311) hx hb dL_law_304 (by decide) (by omega) (fun c_304 => ?_) (fun c_304 => ?_)
        · exfalso; omega
        · refine li_c hx hb dL_law_307 ?_
          refine lv_goto (tgt := 312) hx hb dL_law_308 (by decide) ?_
          have hM2 := mX4_setNode l B G Z a1 1 1 hI (by omega) (by omega) (by omega)
          rw [← hKd] at hM2
          refine l_callDi (n := 3) (As := [.int (iI a1), .int (iI 1), .int (iI 1)]) (rest := []) X hC hM2 rfl ⟨gL_law_X4_setNode, ⟨_, rfl⟩, rfl, rfl, ⟨by decide, by decide, by decide +kernel⟩, Nat.le_of_ble_eq_true rfl, Nat.le_of_ble_eq_true rfl⟩ rfl hl.1 rfl (Nat.le_of_ble_eq_true rfl) ⟨by omega, by omega⟩ dL_law_312 (fun z2 G2 Z2 H locs hQ hC => ?_)
          obtain ⟨t1, t2, t3⟩ := yKI.o hQ
          have hgg : G2 = G1 := by by_cases hq : K = 0; exact (t2 hq).2.trans (hA1 hq).1.symm; exact (t3 hq).2.trans (hB1 hq).symm
          rw [hgg] at hC
          have hz2 : K = 0 → 0 ≤ z2 ∧ z2 ≤ 1 := fun hq => by rw [(t2 hq).1]; have h7 := hI.st a1.toNat; have h8 := hI.tu a1.toNat; split <;> omega
          refine lv_istore (lv' := [(6, .int (iI z2)), (5, .int (iI (K : Int))), (4, .int (iI ((5 * i : Nat) : Int))), (0, .ref b), (1, .ref (A.a 0)), (2, .ref (B.a 0)), (3, .ref o)]) hx hb dL_law_315 hl (by decide) rfl (fun ls hl => ?_)
          refine lv_aload_n hx hb dL_law_317 rfl (lv_at hl 5 rfl) ?_
          refine l_callDi (n := 0) (As := []) (rest := []) X hC (mX4_thrown l B G1 Z2) rfl ⟨gL_law_X4_thrown, ⟨_, rfl⟩, rfl, rfl, ⟨by decide, by decide, by decide +kernel⟩, Nat.le_of_ble_eq_true rfl, Nat.le_of_ble_eq_true rfl⟩ rfl hl.1 rfl (Nat.le_of_ble_eq_true rfl) ⟨by omega, by omega⟩ dL_law_318 (fun z3 G3 Z3 H locs hQ3 hC => ?_)
          obtain ⟨hz3, hg3, hy3⟩ := hQ3
          rw [hg3, hy3] at hC
          rw [hz3, t1]
          refine lv_iload hx hb dL_law_321 (lv_at hl 1 rfl) ?_
          refine li_icmp_eq (tgt := 328) hx hb dL_law_323 (by decide) (⟨by omega, by omega⟩) (fun c_323 => ?_) (fun c_323 => ?_)
          · refine lv_iload hx hb dL_law_328 (lv_at hl 1 rfl) ?_
            refine li_if_ne (tgt := 352) hx hb dL_law_330 (by decide) (by omega) (fun c_330 => ?_) (fun c_330 => ?_)
            · refine lv_goto (tgt := 1382) hx hb dL_law_352 (by decide) ?_
              refine W.widen (k := cells + 10) (n := slots + 60) (by omega) (by omega) ?_
              exact kk G1 Y1 f1 Z2 H locs ls hI1 hY1 hC (lv_sub hl [2, 3, 4, 5, 6] rfl)
            · have hK0 : K = 0 := by omega
              have hz2' := hz2 hK0
              refine lv_aload_n hx hb dL_law_333 rfl (lv_at hl 6 rfl) ?_
              refine li_c hx hb dL_law_334 ?_
              refine l_load X hC dL_law_335 ?_
              refine lv_iload hx hb dL_law_336 (lv_at hl 0 rfl) ?_
              refine li_if_eq (tgt := 345) hx hb dL_law_338 (by decide) (by omega) (fun c_338 => ?_) (fun c_338 => ?_)
              · refine lv_lconst (v := 0) hx hb dL_law_345 rfl ?_
                rw [show f1 0 = 0 from (by rw [(hA1 hK0).2]; exact if_pos ((t2 hK0).1.symm.trans c_338))]
                refine W.lcmp hx hb dL_law_346 ?_
                rw [lcmp_s]
                refine li_if_eq (tgt := 352) hx hb dL_law_347 (by decide) (by omega) (fun c_347 => ?_) (fun c_347 => ?_)
                · refine lv_goto (tgt := 1382) hx hb dL_law_352 (by decide) ?_
                  refine W.widen (k := cells + 10) (n := slots + 60) (by omega) (by omega) ?_
                  exact kk G1 Y1 f1 Z2 H locs ls hI1 hY1 hC (lv_sub hl [2, 3, 4, 5, 6] rfl)
                · exfalso; omega
              · refine lv_lconst (v := 1) hx hb dL_law_341 rfl ?_
                refine lv_goto (tgt := 346) hx hb dL_law_342 (by decide) ?_
                rw [show f1 0 = 1 from (by rw [(hA1 hK0).2]; exact if_neg (fun hq => c_338 ((t2 hK0).1.trans hq)))]
                refine W.lcmp hx hb dL_law_346 ?_
                rw [lcmp_s]
                refine li_if_eq (tgt := 352) hx hb dL_law_347 (by decide) (by omega) (fun c_347 => ?_) (fun c_347 => ?_)
                · refine lv_goto (tgt := 1382) hx hb dL_law_352 (by decide) ?_
                  refine W.widen (k := cells + 10) (n := slots + 60) (by omega) (by omega) ?_
                  exact kk G1 Y1 f1 Z2 H locs ls hI1 hY1 hC (lv_sub hl [2, 3, 4, 5, 6] rfl)
                · exfalso; omega
          · exfalso; omega

set_option maxHeartbeats 8000000 in
set_option maxRecDepth 100000 in
theorem lw_case_2 {p : Program} {l : Launch} {e : Env} {s : State} {m : MethodId} {args : Array Value} {below : List Frame} {meth : Method} {c : Code} {H : Heap} {locs : List Loc} {cells slots : Nat} {Q : State → Prop} {ls : Array Slot} {A B : AD} {o : Nat} {G : GS} {Y : YS} {f : Nat → Int64} {Z : ZS} {b L i : Nat} {xs : Nat → Int32}
    (X : lwX l p s m c args A B o) (hI : Inv G) (hY : YI Y) (hC : lwC A B o G Y f G Z s H locs) (hl : lv_has ls 9 [(4, .int (iI ((5 * i : Nat) : Int))), (0, .ref b), (1, .ref (A.a 0)), (2, .ref (B.a 0)), (3, .ref o)]) (hi : 5 * i + 5 ≤ L) (hL : L ≤ 2560) (hX : va_X b L xs s s.heap) (hbl : b < s.heap.size) (hcl : cells + 10 ≤ room_1.cells) (hsl : slots + 60 ≤ room_1.slots)
    (kk : ∀ (G' : GS) (Y' : YS) (f' : Nat → Int64) (Z' : ZS) (H' : Heap) (locs' : List Loc) (ls' : Array Slot), Inv G' → YI Y' → lwC A B o G' Y' f' G' Z' s H' locs' → lv_has ls' 9 [(4, .int (iI ((5 * i : Nat) : Int))), (0, .ref b), (1, .ref (A.a 0)), (2, .ref (B.a 0)), (3, .ref o)] → W p l e room_1 s m args below meth c H' locs' (cells + 10) (slots + 60) Q (F0 m 1382 ls' [])) : W p l e room_1 s m args below meth c H locs cells slots Q (F0 m 355 ls []) := by
  obtain ⟨hx, hb, hml, hown, hts⟩ := id X.1
  obtain ⟨a1, ha1, ea1⟩ := iI_of (xs ((5 * i) + 1))
  obtain ⟨a2, ha2, ea2⟩ := iI_of (xs ((5 * i) + 2))
  obtain ⟨a3, ha3, ea3⟩ := iI_of (xs ((5 * i) + 3))
  obtain ⟨a4, ha4, ea4⟩ := iI_of (xs ((5 * i) + 4))
  refine lv_aload_n hx hb dL_law_355 rfl (lv_at hl 2 rfl) ?_
  refine lv_aload_n hx hb dL_law_356 rfl (lv_at hl 1 rfl) ?_
  refine lv_iload hx hb dL_law_357 (lv_at hl 0 rfl) ?_
  refine li_c hx hb dL_law_359 ?_
  refine li_addN (x := 5 * i) (y := 1) hx hb dL_law_360 rfl rfl ?_
  refine l_sld (k0 := (5 * i) + 1) (z := a1) X hC hX hbl hL (by omega) ea1 dL_law_361 ?_
  refine lv_aload_n hx hb dL_law_362 rfl (lv_at hl 1 rfl) ?_
  refine lv_iload hx hb dL_law_363 (lv_at hl 0 rfl) ?_
  refine li_c hx hb dL_law_365 ?_
  refine li_addN (x := 5 * i) (y := 2) hx hb dL_law_366 rfl rfl ?_
  refine l_sld (k0 := (5 * i) + 2) (z := a2) X hC hX hbl hL (by omega) ea2 dL_law_367 ?_
  refine lv_aload_n hx hb dL_law_368 rfl (lv_at hl 1 rfl) ?_
  refine lv_iload hx hb dL_law_369 (lv_at hl 0 rfl) ?_
  refine li_c hx hb dL_law_371 ?_
  refine li_addN (x := 5 * i) (y := 3) hx hb dL_law_372 rfl rfl ?_
  refine l_sld (k0 := (5 * i) + 3) (z := a3) X hC hX hbl hL (by omega) ea3 dL_law_373 ?_
  refine lv_aload_n hx hb dL_law_374 rfl (lv_at hl 1 rfl) ?_
  refine lv_iload hx hb dL_law_375 (lv_at hl 0 rfl) ?_
  refine li_c hx hb dL_law_377 ?_
  refine li_addN (x := 5 * i) (y := 4) hx hb dL_law_378 rfl rfl ?_
  refine l_sld (k0 := (5 * i) + 4) (z := a4) X hC hX hbl hL (by omega) ea4 dL_law_379 ?_
  refine lv_aload_n hx hb dL_law_380 rfl (lv_at hl 4 rfl) ?_
  obtain ⟨K, hKd⟩ : ∃ K, K = (kRoad G a1 a2 a3 a4) := ⟨_, rfl⟩
  have hM := wL_addRoad l X.2.2.2.2.2.2.2.1 A o G Y f hI hY a1 a2 a3 a4 (by omega) (by omega) (by omega) (by omega)
  rw [← hKd] at hM
  have hK3 : K ≤ 3 := by rw [hKd]; exact (kRoad_le _ _ _ _ _)
  refine l_callW (n := 6) (As := [.ref (A.a 0), .int (iI a1), .int (iI a2), .int (iI a3), .int (iI a4), .ref o]) (rest := []) X hC hM gL_law_L_addRoad ⟨_, rfl⟩ rfl rfl ⟨by decide, by decide, by decide +kernel⟩ ⟨Nat.le_of_ble_eq_true rfl, Nat.le_of_ble_eq_true rfl⟩ rfl hl.1 rfl (Nat.le_of_ble_eq_true rfl) ⟨by omega, by omega⟩ dL_law_381 (fun G1 Y1 f1 H locs hY1 hA1 hB1 hC => ?_)
  have hI1 : Inv G1 := by by_cases hq : K = 0; rw [(hA1 hq).1]; exact Inv_addRoad hI (hKd.symm.trans hq); rw [hB1 hq]; exact hI
  refine lv_istore (lv' := [(5, .int (iI (K : Int))), (4, .int (iI ((5 * i : Nat) : Int))), (0, .ref b), (1, .ref (A.a 0)), (2, .ref (B.a 0)), (3, .ref o)]) hx hb dL_law_384 hl (by decide) rfl (fun ls hl => ?_)
  refine lv_aload_n hx hb dL_law_386 rfl (lv_at hl 4 rfl) ?_
  refine lv_aload_n hx hb dL_law_387 rfl (lv_at hl 2 rfl) ?_
  refine lv_iload hx hb dL_law_388 (lv_at hl 1 rfl) ?_
  refine li_c hx hb dL_law_390 ?_
  refine li_addN (x := 5 * i) (y := 1) hx hb dL_law_391 rfl rfl ?_
  refine l_sld (k0 := (5 * i) + 1) (z := a1) X hC hX hbl hL (by omega) ea1 dL_law_392 ?_
  refine lv_aload_n hx hb dL_law_393 rfl (lv_at hl 2 rfl) ?_
  refine lv_iload hx hb dL_law_394 (lv_at hl 1 rfl) ?_
  refine li_c hx hb dL_law_396 ?_
  refine li_addN (x := 5 * i) (y := 2) hx hb dL_law_397 rfl rfl ?_
  refine l_sld (k0 := (5 * i) + 2) (z := a2) X hC hX hbl hL (by omega) ea2 dL_law_398 ?_
  refine lv_aload_n hx hb dL_law_399 rfl (lv_at hl 2 rfl) ?_
  refine lv_iload hx hb dL_law_400 (lv_at hl 1 rfl) ?_
  refine li_c hx hb dL_law_402 ?_
  refine li_addN (x := 5 * i) (y := 3) hx hb dL_law_403 rfl rfl ?_
  refine l_sld (k0 := (5 * i) + 3) (z := a3) X hC hX hbl hL (by omega) ea3 dL_law_404 ?_
  refine lv_aload_n hx hb dL_law_405 rfl (lv_at hl 2 rfl) ?_
  refine lv_iload hx hb dL_law_406 (lv_at hl 1 rfl) ?_
  refine li_c hx hb dL_law_408 ?_
  refine li_addN (x := 5 * i) (y := 4) hx hb dL_law_409 rfl rfl ?_
  refine l_sld (k0 := (5 * i) + 4) (z := a4) X hC hX hbl hL (by omega) ea4 dL_law_410 ?_
  have hM2 := mX4_addRoad l B G Z a1 a2 a3 a4 hI (by omega) (by omega) (by omega) (by omega)
  rw [← hKd] at hM2
  refine l_callDi (n := 4) (As := [.int (iI a1), .int (iI a2), .int (iI a3), .int (iI a4)]) (rest := []) X hC hM2 rfl ⟨gL_law_X4_addRoad, ⟨_, rfl⟩, rfl, rfl, ⟨by decide, by decide, by decide +kernel⟩, Nat.le_of_ble_eq_true rfl, Nat.le_of_ble_eq_true rfl⟩ rfl hl.1 rfl (Nat.le_of_ble_eq_true rfl) ⟨by omega, by omega⟩ dL_law_411 (fun z2 G2 Z2 H locs hQ hC => ?_)
  obtain ⟨t1, t2, t3⟩ := yKI.o hQ
  have hgg : G2 = G1 := by by_cases hq : K = 0; exact (t2 hq).2.trans (hA1 hq).1.symm; exact (t3 hq).2.trans (hB1 hq).symm
  rw [hgg] at hC
  refine lv_istore (lv' := [(6, .int (iI z2)), (5, .int (iI (K : Int))), (4, .int (iI ((5 * i : Nat) : Int))), (0, .ref b), (1, .ref (A.a 0)), (2, .ref (B.a 0)), (3, .ref o)]) hx hb dL_law_414 hl (by decide) rfl (fun ls hl => ?_)
  refine lv_aload_n hx hb dL_law_416 rfl (lv_at hl 5 rfl) ?_
  refine l_callDi (n := 0) (As := []) (rest := []) X hC (mX4_thrown l B G1 Z2) rfl ⟨gL_law_X4_thrown, ⟨_, rfl⟩, rfl, rfl, ⟨by decide, by decide, by decide +kernel⟩, Nat.le_of_ble_eq_true rfl, Nat.le_of_ble_eq_true rfl⟩ rfl hl.1 rfl (Nat.le_of_ble_eq_true rfl) ⟨by omega, by omega⟩ dL_law_417 (fun z3 G3 Z3 H locs hQ3 hC => ?_)
  obtain ⟨hz3, hg3, hy3⟩ := hQ3
  rw [hg3, hy3] at hC
  rw [hz3, t1]
  refine lv_iload hx hb dL_law_420 (lv_at hl 1 rfl) ?_
  refine li_icmp_eq (tgt := 427) hx hb dL_law_422 (by decide) (⟨by omega, by omega⟩) (fun c_422 => ?_) (fun c_422 => ?_)
  · refine lv_iload hx hb dL_law_427 (lv_at hl 1 rfl) ?_
    refine li_if_ne (tgt := 444) hx hb dL_law_429 (by decide) (by omega) (fun c_429 => ?_) (fun c_429 => ?_)
    · refine lv_goto (tgt := 1382) hx hb dL_law_444 (by decide) ?_
      refine W.widen (k := cells + 10) (n := slots + 60) (by omega) (by omega) ?_
      exact kk G1 Y1 f1 Z2 H locs ls hI1 hY1 hC (lv_sub hl [2, 3, 4, 5, 6] rfl)
    · have hK0 : K = 0 := by omega
      refine lv_aload_n hx hb dL_law_432 rfl (lv_at hl 6 rfl) ?_
      refine li_c hx hb dL_law_433 ?_
      refine l_load X hC dL_law_434 ?_
      refine lv_iload hx hb dL_law_435 (lv_at hl 0 rfl) ?_
      refine lv_i2l hx hb dL_law_437 rfl ?_
      rw [show f1 0 = (iI z2).toInt64 from (by rw [(hA1 hK0).2, (t2 hK0).1])]
      refine W.lcmp hx hb dL_law_438 ?_
      rw [lcmp_s]
      refine li_if_eq (tgt := 444) hx hb dL_law_439 (by decide) (by omega) (fun c_439 => ?_) (fun c_439 => ?_)
      · refine lv_goto (tgt := 1382) hx hb dL_law_444 (by decide) ?_
        refine W.widen (k := cells + 10) (n := slots + 60) (by omega) (by omega) ?_
        exact kk G1 Y1 f1 Z2 H locs ls hI1 hY1 hC (lv_sub hl [2, 3, 4, 5, 6] rfl)
      · exfalso; omega
  · exfalso; omega

set_option maxHeartbeats 8000000 in
set_option maxRecDepth 100000 in
theorem lw_case_3 {p : Program} {l : Launch} {e : Env} {s : State} {m : MethodId} {args : Array Value} {below : List Frame} {meth : Method} {c : Code} {H : Heap} {locs : List Loc} {cells slots : Nat} {Q : State → Prop} {ls : Array Slot} {A B : AD} {o : Nat} {G : GS} {Y : YS} {f : Nat → Int64} {Z : ZS} {b L i : Nat} {xs : Nat → Int32}
    (X : lwX l p s m c args A B o) (hI : Inv G) (hY : YI Y) (hC : lwC A B o G Y f G Z s H locs) (hl : lv_has ls 9 [(4, .int (iI ((5 * i : Nat) : Int))), (0, .ref b), (1, .ref (A.a 0)), (2, .ref (B.a 0)), (3, .ref o)]) (hi : 5 * i + 5 ≤ L) (hL : L ≤ 2560) (hX : va_X b L xs s s.heap) (hbl : b < s.heap.size) (hcl : cells + 10 ≤ room_1.cells) (hsl : slots + 60 ≤ room_1.slots)
    (kk : ∀ (G' : GS) (Y' : YS) (f' : Nat → Int64) (Z' : ZS) (H' : Heap) (locs' : List Loc) (ls' : Array Slot), Inv G' → YI Y' → lwC A B o G' Y' f' G' Z' s H' locs' → lv_has ls' 9 [(4, .int (iI ((5 * i : Nat) : Int))), (0, .ref b), (1, .ref (A.a 0)), (2, .ref (B.a 0)), (3, .ref o)] → W p l e room_1 s m args below meth c H' locs' (cells + 10) (slots + 60) Q (F0 m 1382 ls' [])) : W p l e room_1 s m args below meth c H locs cells slots Q (F0 m 447 ls []) := by
  obtain ⟨hx, hb, hml, hown, hts⟩ := id X.1
  obtain ⟨a1, ha1, ea1⟩ := iI_of (xs ((5 * i) + 1))
  refine lv_aload_n hx hb dL_law_447 rfl (lv_at hl 2 rfl) ?_
  refine lv_aload_n hx hb dL_law_448 rfl (lv_at hl 1 rfl) ?_
  refine lv_iload hx hb dL_law_449 (lv_at hl 0 rfl) ?_
  refine li_c hx hb dL_law_451 ?_
  refine li_addN (x := 5 * i) (y := 1) hx hb dL_law_452 rfl rfl ?_
  refine l_sld (k0 := (5 * i) + 1) (z := a1) X hC hX hbl hL (by omega) ea1 dL_law_453 ?_
  refine lv_aload_n hx hb dL_law_454 rfl (lv_at hl 4 rfl) ?_
  obtain ⟨K, hKd⟩ : ∃ K, K = (if 1 ≤ a1 ∧ a1 ≤ 300 then 0 else 1) := ⟨_, rfl⟩
  have hM := wL_snow l X.2.2.2.2.2.2.2.1 A o G Y f hI hY a1 (by omega)
  rw [← hKd] at hM
  have hK3 : K ≤ 3 := by rw [hKd]; exact (by split <;> omega)
  refine l_callW (n := 3) (As := [.ref (A.a 0), .int (iI a1), .ref o]) (rest := []) X hC hM gL_law_L_snow ⟨_, rfl⟩ rfl rfl ⟨by decide, by decide, by decide +kernel⟩ ⟨Nat.le_of_ble_eq_true rfl, Nat.le_of_ble_eq_true rfl⟩ rfl hl.1 rfl (Nat.le_of_ble_eq_true rfl) ⟨by omega, by omega⟩ dL_law_455 (fun G1 Y1 f1 H locs hY1 hA1 hB1 hC => ?_)
  have hI1 : Inv G1 := by by_cases hq : K = 0; rw [(hA1 hq).1]; exact sn_Inv hI _; rw [hB1 hq]; exact hI
  refine lv_istore (lv' := [(5, .int (iI (K : Int))), (4, .int (iI ((5 * i : Nat) : Int))), (0, .ref b), (1, .ref (A.a 0)), (2, .ref (B.a 0)), (3, .ref o)]) hx hb dL_law_458 hl (by decide) rfl (fun ls hl => ?_)
  refine lv_aload_n hx hb dL_law_460 rfl (lv_at hl 4 rfl) ?_
  refine lv_aload_n hx hb dL_law_461 rfl (lv_at hl 2 rfl) ?_
  refine lv_iload hx hb dL_law_462 (lv_at hl 1 rfl) ?_
  refine li_c hx hb dL_law_464 ?_
  refine li_addN (x := 5 * i) (y := 1) hx hb dL_law_465 rfl rfl ?_
  refine l_sld (k0 := (5 * i) + 1) (z := a1) X hC hX hbl hL (by omega) ea1 dL_law_466 ?_
  have hM2 := mX4_snow l B G Z a1 hI (by omega)
  rw [← hKd] at hM2
  refine l_callDi (n := 1) (As := [.int (iI a1)]) (rest := []) X hC hM2 rfl ⟨gL_law_X4_snow, ⟨_, rfl⟩, rfl, rfl, ⟨by decide, by decide, by decide +kernel⟩, Nat.le_of_ble_eq_true rfl, Nat.le_of_ble_eq_true rfl⟩ rfl hl.1 rfl (Nat.le_of_ble_eq_true rfl) ⟨by omega, by omega⟩ dL_law_467 (fun z2 G2 Z2 H locs hQ hC => ?_)
  obtain ⟨t1, t2, t3⟩ := yKI.o hQ
  have hgg : G2 = G1 := by by_cases hq : K = 0; exact (t2 hq).2.trans (hA1 hq).1.symm; exact (t3 hq).2.trans (hB1 hq).symm
  rw [hgg] at hC
  refine lv_istore (lv' := [(6, .int (iI z2)), (5, .int (iI (K : Int))), (4, .int (iI ((5 * i : Nat) : Int))), (0, .ref b), (1, .ref (A.a 0)), (2, .ref (B.a 0)), (3, .ref o)]) hx hb dL_law_470 hl (by decide) rfl (fun ls hl => ?_)
  refine lv_aload_n hx hb dL_law_472 rfl (lv_at hl 5 rfl) ?_
  refine l_callDi (n := 0) (As := []) (rest := []) X hC (mX4_thrown l B G1 Z2) rfl ⟨gL_law_X4_thrown, ⟨_, rfl⟩, rfl, rfl, ⟨by decide, by decide, by decide +kernel⟩, Nat.le_of_ble_eq_true rfl, Nat.le_of_ble_eq_true rfl⟩ rfl hl.1 rfl (Nat.le_of_ble_eq_true rfl) ⟨by omega, by omega⟩ dL_law_473 (fun z3 G3 Z3 H locs hQ3 hC => ?_)
  obtain ⟨hz3, hg3, hy3⟩ := hQ3
  rw [hg3, hy3] at hC
  rw [hz3, t1]
  refine lv_iload hx hb dL_law_476 (lv_at hl 1 rfl) ?_
  refine li_icmp_eq (tgt := 483) hx hb dL_law_478 (by decide) (⟨by omega, by omega⟩) (fun c_478 => ?_) (fun c_478 => ?_)
  · refine lv_iload hx hb dL_law_483 (lv_at hl 1 rfl) ?_
    refine li_if_ne (tgt := 500) hx hb dL_law_485 (by decide) (by omega) (fun c_485 => ?_) (fun c_485 => ?_)
    · refine lv_goto (tgt := 1382) hx hb dL_law_500 (by decide) ?_
      refine W.widen (k := cells + 10) (n := slots + 60) (by omega) (by omega) ?_
      exact kk G1 Y1 f1 Z2 H locs ls hI1 hY1 hC (lv_sub hl [2, 3, 4, 5, 6] rfl)
    · have hK0 : K = 0 := by omega
      refine lv_aload_n hx hb dL_law_488 rfl (lv_at hl 6 rfl) ?_
      refine li_c hx hb dL_law_489 ?_
      refine l_load X hC dL_law_490 ?_
      refine lv_iload hx hb dL_law_491 (lv_at hl 0 rfl) ?_
      refine lv_i2l hx hb dL_law_493 rfl ?_
      rw [show f1 0 = (iI z2).toInt64 from (by rw [(hA1 hK0).2, (t2 hK0).1])]
      refine W.lcmp hx hb dL_law_494 ?_
      rw [lcmp_s]
      refine li_if_eq (tgt := 500) hx hb dL_law_495 (by decide) (by omega) (fun c_495 => ?_) (fun c_495 => ?_)
      · refine lv_goto (tgt := 1382) hx hb dL_law_500 (by decide) ?_
        refine W.widen (k := cells + 10) (n := slots + 60) (by omega) (by omega) ?_
        exact kk G1 Y1 f1 Z2 H locs ls hI1 hY1 hC (lv_sub hl [2, 3, 4, 5, 6] rfl)
      · exfalso; omega
  · exfalso; omega

set_option maxHeartbeats 8000000 in
set_option maxRecDepth 100000 in
theorem lw_case_4 {p : Program} {l : Launch} {e : Env} {s : State} {m : MethodId} {args : Array Value} {below : List Frame} {meth : Method} {c : Code} {H : Heap} {locs : List Loc} {cells slots : Nat} {Q : State → Prop} {ls : Array Slot} {A B : AD} {o : Nat} {G : GS} {Y : YS} {f : Nat → Int64} {Z : ZS} {b L i : Nat} {xs : Nat → Int32}
    (X : lwX l p s m c args A B o) (hI : Inv G) (hY : YI Y) (hC : lwC A B o G Y f G Z s H locs) (hl : lv_has ls 9 [(4, .int (iI ((5 * i : Nat) : Int))), (0, .ref b), (1, .ref (A.a 0)), (2, .ref (B.a 0)), (3, .ref o)]) (hi : 5 * i + 5 ≤ L) (hL : L ≤ 2560) (hX : va_X b L xs s s.heap) (hbl : b < s.heap.size) (hcl : cells + 10 ≤ room_1.cells) (hsl : slots + 60 ≤ room_1.slots)
    (kk : ∀ (G' : GS) (Y' : YS) (f' : Nat → Int64) (Z' : ZS) (H' : Heap) (locs' : List Loc) (ls' : Array Slot), Inv G' → YI Y' → lwC A B o G' Y' f' G' Z' s H' locs' → lv_has ls' 9 [(4, .int (iI ((5 * i : Nat) : Int))), (0, .ref b), (1, .ref (A.a 0)), (2, .ref (B.a 0)), (3, .ref o)] → W p l e room_1 s m args below meth c H' locs' (cells + 10) (slots + 60) Q (F0 m 1382 ls' [])) : W p l e room_1 s m args below meth c H locs cells slots Q (F0 m 503 ls []) := by
  obtain ⟨hx, hb, hml, hown, hts⟩ := id X.1
  obtain ⟨a1, ha1, ea1⟩ := iI_of (xs ((5 * i) + 1))
  obtain ⟨a2, ha2, ea2⟩ := iI_of (xs ((5 * i) + 2))
  refine lv_aload_n hx hb dL_law_503 rfl (lv_at hl 2 rfl) ?_
  refine lv_aload_n hx hb dL_law_504 rfl (lv_at hl 1 rfl) ?_
  refine lv_iload hx hb dL_law_505 (lv_at hl 0 rfl) ?_
  refine li_c hx hb dL_law_507 ?_
  refine li_addN (x := 5 * i) (y := 1) hx hb dL_law_508 rfl rfl ?_
  refine l_sld (k0 := (5 * i) + 1) (z := a1) X hC hX hbl hL (by omega) ea1 dL_law_509 ?_
  refine lv_aload_n hx hb dL_law_510 rfl (lv_at hl 1 rfl) ?_
  refine lv_iload hx hb dL_law_511 (lv_at hl 0 rfl) ?_
  refine li_c hx hb dL_law_513 ?_
  refine li_addN (x := 5 * i) (y := 2) hx hb dL_law_514 rfl rfl ?_
  refine l_sld (k0 := (5 * i) + 2) (z := a2) X hC hX hbl hL (by omega) ea2 dL_law_515 ?_
  refine lv_aload_n hx hb dL_law_516 rfl (lv_at hl 4 rfl) ?_
  obtain ⟨K, hKd⟩ : ∃ K, K = (if (0 ≤ a1 ∧ a1 < (G.rr : Int)) ∧ (0 ≤ a2 ∧ a2 ≤ 1) then 0 else 1) := ⟨_, rfl⟩
  have hM := wL_depth l X.2.2.2.2.2.2.2.1 A o G Y f hI hY a1 a2 (by omega) (by omega)
  rw [← hKd] at hM
  have hK3 : K ≤ 3 := by rw [hKd]; exact (by split <;> omega)
  refine l_callW (n := 4) (As := [.ref (A.a 0), .int (iI a1), .int (iI a2), .ref o]) (rest := []) X hC hM gL_law_L_depth ⟨_, rfl⟩ rfl rfl ⟨by decide, by decide, by decide +kernel⟩ ⟨Nat.le_of_ble_eq_true rfl, Nat.le_of_ble_eq_true rfl⟩ rfl hl.1 rfl (Nat.le_of_ble_eq_true rfl) ⟨by omega, by omega⟩ dL_law_517 (fun G1 Y1 f1 H locs hY1 hA1 hB1 hC => ?_)
  have hI1 : Inv G1 := by by_cases hq : K = 0; rw [(hA1 hq).1]; exact hI; rw [hB1 hq]; exact hI
  refine lv_istore (lv' := [(5, .int (iI (K : Int))), (4, .int (iI ((5 * i : Nat) : Int))), (0, .ref b), (1, .ref (A.a 0)), (2, .ref (B.a 0)), (3, .ref o)]) hx hb dL_law_520 hl (by decide) rfl (fun ls hl => ?_)
  refine lv_aload_n hx hb dL_law_522 rfl (lv_at hl 4 rfl) ?_
  refine lv_aload_n hx hb dL_law_523 rfl (lv_at hl 2 rfl) ?_
  refine lv_iload hx hb dL_law_524 (lv_at hl 1 rfl) ?_
  refine li_c hx hb dL_law_526 ?_
  refine li_addN (x := 5 * i) (y := 1) hx hb dL_law_527 rfl rfl ?_
  refine l_sld (k0 := (5 * i) + 1) (z := a1) X hC hX hbl hL (by omega) ea1 dL_law_528 ?_
  refine lv_aload_n hx hb dL_law_529 rfl (lv_at hl 2 rfl) ?_
  refine lv_iload hx hb dL_law_530 (lv_at hl 1 rfl) ?_
  refine li_c hx hb dL_law_532 ?_
  refine li_addN (x := 5 * i) (y := 2) hx hb dL_law_533 rfl rfl ?_
  refine l_sld (k0 := (5 * i) + 2) (z := a2) X hC hX hbl hL (by omega) ea2 dL_law_534 ?_
  have hM2 := mX4_depth l B G Z a1 a2 hI (by omega) (by omega)
  rw [← hKd] at hM2
  refine l_callDi (n := 2) (As := [.int (iI a1), .int (iI a2)]) (rest := []) X hC hM2 rfl ⟨gL_law_X4_depth, ⟨_, rfl⟩, rfl, rfl, ⟨by decide, by decide, by decide +kernel⟩, Nat.le_of_ble_eq_true rfl, Nat.le_of_ble_eq_true rfl⟩ rfl hl.1 rfl (Nat.le_of_ble_eq_true rfl) ⟨by omega, by omega⟩ dL_law_535 (fun z2 G2 Z2 H locs hQ hC => ?_)
  obtain ⟨t1, t2, t3⟩ := yKI.o hQ
  have hgg : G2 = G1 := by by_cases hq : K = 0; exact (t2 hq).2.trans (hA1 hq).1.symm; exact (t3 hq).2.trans (hB1 hq).symm
  rw [hgg] at hC
  refine lv_istore (lv' := [(6, .int (iI z2)), (5, .int (iI (K : Int))), (4, .int (iI ((5 * i : Nat) : Int))), (0, .ref b), (1, .ref (A.a 0)), (2, .ref (B.a 0)), (3, .ref o)]) hx hb dL_law_538 hl (by decide) rfl (fun ls hl => ?_)
  refine lv_aload_n hx hb dL_law_540 rfl (lv_at hl 5 rfl) ?_
  refine l_callDi (n := 0) (As := []) (rest := []) X hC (mX4_thrown l B G1 Z2) rfl ⟨gL_law_X4_thrown, ⟨_, rfl⟩, rfl, rfl, ⟨by decide, by decide, by decide +kernel⟩, Nat.le_of_ble_eq_true rfl, Nat.le_of_ble_eq_true rfl⟩ rfl hl.1 rfl (Nat.le_of_ble_eq_true rfl) ⟨by omega, by omega⟩ dL_law_541 (fun z3 G3 Z3 H locs hQ3 hC => ?_)
  obtain ⟨hz3, hg3, hy3⟩ := hQ3
  rw [hg3, hy3] at hC
  rw [hz3, t1]
  refine lv_iload hx hb dL_law_544 (lv_at hl 1 rfl) ?_
  refine li_icmp_eq (tgt := 551) hx hb dL_law_546 (by decide) (⟨by omega, by omega⟩) (fun c_546 => ?_) (fun c_546 => ?_)
  · refine lv_iload hx hb dL_law_551 (lv_at hl 1 rfl) ?_
    refine li_if_ne (tgt := 568) hx hb dL_law_553 (by decide) (by omega) (fun c_553 => ?_) (fun c_553 => ?_)
    · refine lv_goto (tgt := 1382) hx hb dL_law_568 (by decide) ?_
      refine W.widen (k := cells + 10) (n := slots + 60) (by omega) (by omega) ?_
      exact kk G1 Y1 f1 Z2 H locs ls hI1 hY1 hC (lv_sub hl [2, 3, 4, 5, 6] rfl)
    · have hK0 : K = 0 := by omega
      refine lv_aload_n hx hb dL_law_556 rfl (lv_at hl 6 rfl) ?_
      refine li_c hx hb dL_law_557 ?_
      refine l_load X hC dL_law_558 ?_
      refine lv_iload hx hb dL_law_559 (lv_at hl 0 rfl) ?_
      refine lv_i2l hx hb dL_law_561 rfl ?_
      rw [show f1 0 = (iI z2).toInt64 from (by rw [(hA1 hK0).2, (t2 hK0).1])]
      refine W.lcmp hx hb dL_law_562 ?_
      rw [lcmp_s]
      refine li_if_eq (tgt := 568) hx hb dL_law_563 (by decide) (by omega) (fun c_563 => ?_) (fun c_563 => ?_)
      · refine lv_goto (tgt := 1382) hx hb dL_law_568 (by decide) ?_
        refine W.widen (k := cells + 10) (n := slots + 60) (by omega) (by omega) ?_
        exact kk G1 Y1 f1 Z2 H locs ls hI1 hY1 hC (lv_sub hl [2, 3, 4, 5, 6] rfl)
      · exfalso; omega
  · exfalso; omega

set_option maxHeartbeats 8000000 in
set_option maxRecDepth 100000 in
theorem lw_case_5 {p : Program} {l : Launch} {e : Env} {s : State} {m : MethodId} {args : Array Value} {below : List Frame} {meth : Method} {c : Code} {H : Heap} {locs : List Loc} {cells slots : Nat} {Q : State → Prop} {ls : Array Slot} {A B : AD} {o : Nat} {G : GS} {Y : YS} {f : Nat → Int64} {Z : ZS} {b L i : Nat} {xs : Nat → Int32}
    (X : lwX l p s m c args A B o) (hI : Inv G) (hY : YI Y) (hC : lwC A B o G Y f G Z s H locs) (hl : lv_has ls 9 [(4, .int (iI ((5 * i : Nat) : Int))), (0, .ref b), (1, .ref (A.a 0)), (2, .ref (B.a 0)), (3, .ref o)]) (hi : 5 * i + 5 ≤ L) (hL : L ≤ 2560) (hX : va_X b L xs s s.heap) (hbl : b < s.heap.size) (hcl : cells + 10 ≤ room_1.cells) (hsl : slots + 60 ≤ room_1.slots)
    (kk : ∀ (G' : GS) (Y' : YS) (f' : Nat → Int64) (Z' : ZS) (H' : Heap) (locs' : List Loc) (ls' : Array Slot), Inv G' → YI Y' → lwC A B o G' Y' f' G' Z' s H' locs' → lv_has ls' 9 [(4, .int (iI ((5 * i : Nat) : Int))), (0, .ref b), (1, .ref (A.a 0)), (2, .ref (B.a 0)), (3, .ref o)] → W p l e room_1 s m args below meth c H' locs' (cells + 10) (slots + 60) Q (F0 m 1382 ls' [])) : W p l e room_1 s m args below meth c H locs cells slots Q (F0 m 571 ls []) := by
  obtain ⟨hx, hb, hml, hown, hts⟩ := id X.1
  obtain ⟨a1, ha1, ea1⟩ := iI_of (xs ((5 * i) + 1))
  obtain ⟨a2, ha2, ea2⟩ := iI_of (xs ((5 * i) + 2))
  refine lv_aload_n hx hb dL_law_571 rfl (lv_at hl 2 rfl) ?_
  refine lv_aload_n hx hb dL_law_572 rfl (lv_at hl 1 rfl) ?_
  refine lv_iload hx hb dL_law_573 (lv_at hl 0 rfl) ?_
  refine li_c hx hb dL_law_575 ?_
  refine li_addN (x := 5 * i) (y := 1) hx hb dL_law_576 rfl rfl ?_
  refine l_sld (k0 := (5 * i) + 1) (z := a1) X hC hX hbl hL (by omega) ea1 dL_law_577 ?_
  refine lv_aload_n hx hb dL_law_578 rfl (lv_at hl 1 rfl) ?_
  refine lv_iload hx hb dL_law_579 (lv_at hl 0 rfl) ?_
  refine li_c hx hb dL_law_581 ?_
  refine li_addN (x := 5 * i) (y := 2) hx hb dL_law_582 rfl rfl ?_
  refine l_sld (k0 := (5 * i) + 2) (z := a2) X hC hX hbl hL (by omega) ea2 dL_law_583 ?_
  refine lv_aload_n hx hb dL_law_584 rfl (lv_at hl 4 rfl) ?_
  obtain ⟨K, hKd⟩ : ∃ K, K = (if (0 ≤ a1 ∧ a1 < (G.rr : Int)) ∧ (0 ≤ a2 ∧ a2 ≤ 1) then 0 else 1) := ⟨_, rfl⟩
  have hM := wL_isSalted l X.2.2.2.2.2.2.2.1 A o G Y f hI hY a1 a2 (by omega) (by omega)
  rw [← hKd] at hM
  have hK3 : K ≤ 3 := by rw [hKd]; exact (by split <;> omega)
  refine l_callW (n := 4) (As := [.ref (A.a 0), .int (iI a1), .int (iI a2), .ref o]) (rest := []) X hC hM gL_law_L_isSalted ⟨_, rfl⟩ rfl rfl ⟨by decide, by decide, by decide +kernel⟩ ⟨Nat.le_of_ble_eq_true rfl, Nat.le_of_ble_eq_true rfl⟩ rfl hl.1 rfl (Nat.le_of_ble_eq_true rfl) ⟨by omega, by omega⟩ dL_law_585 (fun G1 Y1 f1 H locs hY1 hA1 hB1 hC => ?_)
  have hI1 : Inv G1 := by by_cases hq : K = 0; rw [(hA1 hq).1]; exact hI; rw [hB1 hq]; exact hI
  refine lv_istore (lv' := [(5, .int (iI (K : Int))), (4, .int (iI ((5 * i : Nat) : Int))), (0, .ref b), (1, .ref (A.a 0)), (2, .ref (B.a 0)), (3, .ref o)]) hx hb dL_law_588 hl (by decide) rfl (fun ls hl => ?_)
  refine lv_aload_n hx hb dL_law_590 rfl (lv_at hl 4 rfl) ?_
  refine lv_aload_n hx hb dL_law_591 rfl (lv_at hl 2 rfl) ?_
  refine lv_iload hx hb dL_law_592 (lv_at hl 1 rfl) ?_
  refine li_c hx hb dL_law_594 ?_
  refine li_addN (x := 5 * i) (y := 1) hx hb dL_law_595 rfl rfl ?_
  refine l_sld (k0 := (5 * i) + 1) (z := a1) X hC hX hbl hL (by omega) ea1 dL_law_596 ?_
  refine lv_aload_n hx hb dL_law_597 rfl (lv_at hl 2 rfl) ?_
  refine lv_iload hx hb dL_law_598 (lv_at hl 1 rfl) ?_
  refine li_c hx hb dL_law_600 ?_
  refine li_addN (x := 5 * i) (y := 2) hx hb dL_law_601 rfl rfl ?_
  refine l_sld (k0 := (5 * i) + 2) (z := a2) X hC hX hbl hL (by omega) ea2 dL_law_602 ?_
  have hM2 := mX4_isSalted l B G Z a1 a2 hI (by omega) (by omega)
  rw [← hKd] at hM2
  refine l_callDi (n := 2) (As := [.int (iI a1), .int (iI a2)]) (rest := []) X hC hM2 rfl ⟨gL_law_X4_isSalted, ⟨_, rfl⟩, rfl, rfl, ⟨by decide, by decide, by decide +kernel⟩, Nat.le_of_ble_eq_true rfl, Nat.le_of_ble_eq_true rfl⟩ rfl hl.1 rfl (Nat.le_of_ble_eq_true rfl) ⟨by omega, by omega⟩ dL_law_603 (fun z2 G2 Z2 H locs hQ hC => ?_)
  obtain ⟨t1, t2, t3⟩ := yKI.o hQ
  have hgg : G2 = G1 := by by_cases hq : K = 0; exact (t2 hq).2.trans (hA1 hq).1.symm; exact (t3 hq).2.trans (hB1 hq).symm
  rw [hgg] at hC
  have hz2 : K = 0 → 0 ≤ z2 ∧ z2 ≤ 1 := fun hq => by rw [(t2 hq).1]; have h7 := hI.sa (2 * a1 + a2).toNat; omega
  refine lv_istore (lv' := [(6, .int (iI z2)), (5, .int (iI (K : Int))), (4, .int (iI ((5 * i : Nat) : Int))), (0, .ref b), (1, .ref (A.a 0)), (2, .ref (B.a 0)), (3, .ref o)]) hx hb dL_law_606 hl (by decide) rfl (fun ls hl => ?_)
  refine lv_aload_n hx hb dL_law_608 rfl (lv_at hl 5 rfl) ?_
  refine l_callDi (n := 0) (As := []) (rest := []) X hC (mX4_thrown l B G1 Z2) rfl ⟨gL_law_X4_thrown, ⟨_, rfl⟩, rfl, rfl, ⟨by decide, by decide, by decide +kernel⟩, Nat.le_of_ble_eq_true rfl, Nat.le_of_ble_eq_true rfl⟩ rfl hl.1 rfl (Nat.le_of_ble_eq_true rfl) ⟨by omega, by omega⟩ dL_law_609 (fun z3 G3 Z3 H locs hQ3 hC => ?_)
  obtain ⟨hz3, hg3, hy3⟩ := hQ3
  rw [hg3, hy3] at hC
  rw [hz3, t1]
  refine lv_iload hx hb dL_law_612 (lv_at hl 1 rfl) ?_
  refine li_icmp_eq (tgt := 619) hx hb dL_law_614 (by decide) (⟨by omega, by omega⟩) (fun c_614 => ?_) (fun c_614 => ?_)
  · refine lv_iload hx hb dL_law_619 (lv_at hl 1 rfl) ?_
    refine li_if_ne (tgt := 643) hx hb dL_law_621 (by decide) (by omega) (fun c_621 => ?_) (fun c_621 => ?_)
    · refine lv_goto (tgt := 1382) hx hb dL_law_643 (by decide) ?_
      refine W.widen (k := cells + 10) (n := slots + 60) (by omega) (by omega) ?_
      exact kk G1 Y1 f1 Z2 H locs ls hI1 hY1 hC (lv_sub hl [2, 3, 4, 5, 6] rfl)
    · have hK0 : K = 0 := by omega
      have hz2' := hz2 hK0
      refine lv_aload_n hx hb dL_law_624 rfl (lv_at hl 6 rfl) ?_
      refine li_c hx hb dL_law_625 ?_
      refine l_load X hC dL_law_626 ?_
      refine lv_iload hx hb dL_law_627 (lv_at hl 0 rfl) ?_
      refine li_if_eq (tgt := 636) hx hb dL_law_629 (by decide) (by omega) (fun c_629 => ?_) (fun c_629 => ?_)
      · refine lv_lconst (v := 0) hx hb dL_law_636 rfl ?_
        rw [show f1 0 = 0 from (by rw [(hA1 hK0).2]; exact if_pos ((t2 hK0).1.symm.trans c_629))]
        refine W.lcmp hx hb dL_law_637 ?_
        rw [lcmp_s]
        refine li_if_eq (tgt := 643) hx hb dL_law_638 (by decide) (by omega) (fun c_638 => ?_) (fun c_638 => ?_)
        · refine lv_goto (tgt := 1382) hx hb dL_law_643 (by decide) ?_
          refine W.widen (k := cells + 10) (n := slots + 60) (by omega) (by omega) ?_
          exact kk G1 Y1 f1 Z2 H locs ls hI1 hY1 hC (lv_sub hl [2, 3, 4, 5, 6] rfl)
        · exfalso; omega
      · refine lv_lconst (v := 1) hx hb dL_law_632 rfl ?_
        refine lv_goto (tgt := 637) hx hb dL_law_633 (by decide) ?_
        rw [show f1 0 = 1 from (by rw [(hA1 hK0).2]; exact if_neg (fun hq => c_629 ((t2 hK0).1.trans hq)))]
        refine W.lcmp hx hb dL_law_637 ?_
        rw [lcmp_s]
        refine li_if_eq (tgt := 643) hx hb dL_law_638 (by decide) (by omega) (fun c_638 => ?_) (fun c_638 => ?_)
        · refine lv_goto (tgt := 1382) hx hb dL_law_643 (by decide) ?_
          refine W.widen (k := cells + 10) (n := slots + 60) (by omega) (by omega) ?_
          exact kk G1 Y1 f1 Z2 H locs ls hI1 hY1 hC (lv_sub hl [2, 3, 4, 5, 6] rfl)
        · exfalso; omega
  · exfalso; omega

set_option maxHeartbeats 8000000 in
set_option maxRecDepth 100000 in
theorem lw_case_6 {p : Program} {l : Launch} {e : Env} {s : State} {m : MethodId} {args : Array Value} {below : List Frame} {meth : Method} {c : Code} {H : Heap} {locs : List Loc} {cells slots : Nat} {Q : State → Prop} {ls : Array Slot} {A B : AD} {o : Nat} {G : GS} {Y : YS} {f : Nat → Int64} {Z : ZS} {b L i : Nat} {xs : Nat → Int32}
    (X : lwX l p s m c args A B o) (hI : Inv G) (hY : YI Y) (hC : lwC A B o G Y f G Z s H locs) (hl : lv_has ls 9 [(4, .int (iI ((5 * i : Nat) : Int))), (0, .ref b), (1, .ref (A.a 0)), (2, .ref (B.a 0)), (3, .ref o)]) (hi : 5 * i + 5 ≤ L) (hL : L ≤ 2560) (hX : va_X b L xs s s.heap) (hbl : b < s.heap.size) (hcl : cells + 10 ≤ room_1.cells) (hsl : slots + 60 ≤ room_1.slots)
    (kk : ∀ (G' : GS) (Y' : YS) (f' : Nat → Int64) (Z' : ZS) (H' : Heap) (locs' : List Loc) (ls' : Array Slot), Inv G' → YI Y' → lwC A B o G' Y' f' G' Z' s H' locs' → lv_has ls' 9 [(4, .int (iI ((5 * i : Nat) : Int))), (0, .ref b), (1, .ref (A.a 0)), (2, .ref (B.a 0)), (3, .ref o)] → W p l e room_1 s m args below meth c H' locs' (cells + 10) (slots + 60) Q (F0 m 1382 ls' [])) : W p l e room_1 s m args below meth c H locs cells slots Q (F0 m 646 ls []) := by
  obtain ⟨hx, hb, hml, hown, hts⟩ := id X.1
  obtain ⟨a1, ha1, ea1⟩ := iI_of (xs ((5 * i) + 1))
  refine lv_aload_n hx hb dL_law_646 rfl (lv_at hl 2 rfl) ?_
  refine lv_aload_n hx hb dL_law_647 rfl (lv_at hl 1 rfl) ?_
  refine lv_iload hx hb dL_law_648 (lv_at hl 0 rfl) ?_
  refine li_c hx hb dL_law_650 ?_
  refine li_addN (x := 5 * i) (y := 1) hx hb dL_law_651 rfl rfl ?_
  refine l_sld (k0 := (5 * i) + 1) (z := a1) X hC hX hbl hL (by omega) ea1 dL_law_652 ?_
  refine lv_aload_n hx hb dL_law_653 rfl (lv_at hl 4 rfl) ?_
  obtain ⟨K, hKd⟩ : ∃ K, K = (if 0 ≤ a1 ∧ a1 ≤ 2 then 0 else 1) := ⟨_, rfl⟩
  have hM := wL_worst l X.2.2.2.2.2.2.2.1 A o G Y f hI hY a1 (by omega)
  rw [← hKd] at hM
  have hK3 : K ≤ 3 := by rw [hKd]; exact (by split <;> omega)
  refine l_callW (n := 3) (As := [.ref (A.a 0), .int (iI a1), .ref o]) (rest := []) X hC hM gL_law_L_worst ⟨_, rfl⟩ rfl rfl ⟨by decide, by decide, by decide +kernel⟩ ⟨Nat.le_of_ble_eq_true rfl, Nat.le_of_ble_eq_true rfl⟩ rfl hl.1 rfl (Nat.le_of_ble_eq_true rfl) ⟨by omega, by omega⟩ dL_law_654 (fun G1 Y1 f1 H locs hY1 hA1 hB1 hC => ?_)
  have hI1 : Inv G1 := by by_cases hq : K = 0; rw [(hA1 hq).1]; exact hI; rw [hB1 hq]; exact hI
  refine lv_istore (lv' := [(5, .int (iI (K : Int))), (4, .int (iI ((5 * i : Nat) : Int))), (0, .ref b), (1, .ref (A.a 0)), (2, .ref (B.a 0)), (3, .ref o)]) hx hb dL_law_657 hl (by decide) rfl (fun ls hl => ?_)
  refine lv_aload_n hx hb dL_law_659 rfl (lv_at hl 4 rfl) ?_
  refine lv_aload_n hx hb dL_law_660 rfl (lv_at hl 2 rfl) ?_
  refine lv_iload hx hb dL_law_661 (lv_at hl 1 rfl) ?_
  refine li_c hx hb dL_law_663 ?_
  refine li_addN (x := 5 * i) (y := 1) hx hb dL_law_664 rfl rfl ?_
  refine l_sld (k0 := (5 * i) + 1) (z := a1) X hC hX hbl hL (by omega) ea1 dL_law_665 ?_
  have hM2 := mX4_worst l B G Z a1 hI (by omega)
  rw [← hKd] at hM2
  refine l_callDi (n := 1) (As := [.int (iI a1)]) (rest := []) X hC hM2 rfl ⟨gL_law_X4_worst, ⟨_, rfl⟩, rfl, rfl, ⟨by decide, by decide, by decide +kernel⟩, Nat.le_of_ble_eq_true rfl, Nat.le_of_ble_eq_true rfl⟩ rfl hl.1 rfl (Nat.le_of_ble_eq_true rfl) ⟨by omega, by omega⟩ dL_law_666 (fun z2 G2 Z2 H locs hQ hC => ?_)
  obtain ⟨t1, t2, t3⟩ := yKI.o hQ
  have hgg : G2 = G1 := by by_cases hq : K = 0; exact (t2 hq).2.trans (hA1 hq).1.symm; exact (t3 hq).2.trans (hB1 hq).symm
  rw [hgg] at hC
  refine lv_istore (lv' := [(6, .int (iI z2)), (5, .int (iI (K : Int))), (4, .int (iI ((5 * i : Nat) : Int))), (0, .ref b), (1, .ref (A.a 0)), (2, .ref (B.a 0)), (3, .ref o)]) hx hb dL_law_669 hl (by decide) rfl (fun ls hl => ?_)
  refine lv_aload_n hx hb dL_law_671 rfl (lv_at hl 5 rfl) ?_
  refine l_callDi (n := 0) (As := []) (rest := []) X hC (mX4_thrown l B G1 Z2) rfl ⟨gL_law_X4_thrown, ⟨_, rfl⟩, rfl, rfl, ⟨by decide, by decide, by decide +kernel⟩, Nat.le_of_ble_eq_true rfl, Nat.le_of_ble_eq_true rfl⟩ rfl hl.1 rfl (Nat.le_of_ble_eq_true rfl) ⟨by omega, by omega⟩ dL_law_672 (fun z3 G3 Z3 H locs hQ3 hC => ?_)
  obtain ⟨hz3, hg3, hy3⟩ := hQ3
  rw [hg3, hy3] at hC
  rw [hz3, t1]
  refine lv_iload hx hb dL_law_675 (lv_at hl 1 rfl) ?_
  refine li_icmp_eq (tgt := 682) hx hb dL_law_677 (by decide) (⟨by omega, by omega⟩) (fun c_677 => ?_) (fun c_677 => ?_)
  · refine lv_iload hx hb dL_law_682 (lv_at hl 1 rfl) ?_
    refine li_if_ne (tgt := 699) hx hb dL_law_684 (by decide) (by omega) (fun c_684 => ?_) (fun c_684 => ?_)
    · refine lv_goto (tgt := 1382) hx hb dL_law_699 (by decide) ?_
      refine W.widen (k := cells + 10) (n := slots + 60) (by omega) (by omega) ?_
      exact kk G1 Y1 f1 Z2 H locs ls hI1 hY1 hC (lv_sub hl [2, 3, 4, 5, 6] rfl)
    · have hK0 : K = 0 := by omega
      refine lv_aload_n hx hb dL_law_687 rfl (lv_at hl 6 rfl) ?_
      refine li_c hx hb dL_law_688 ?_
      refine l_load X hC dL_law_689 ?_
      refine lv_iload hx hb dL_law_690 (lv_at hl 0 rfl) ?_
      refine lv_i2l hx hb dL_law_692 rfl ?_
      rw [show f1 0 = (iI z2).toInt64 from (by rw [(hA1 hK0).2, (t2 hK0).1])]
      refine W.lcmp hx hb dL_law_693 ?_
      rw [lcmp_s]
      refine li_if_eq (tgt := 699) hx hb dL_law_694 (by decide) (by omega) (fun c_694 => ?_) (fun c_694 => ?_)
      · refine lv_goto (tgt := 1382) hx hb dL_law_699 (by decide) ?_
        refine W.widen (k := cells + 10) (n := slots + 60) (by omega) (by omega) ?_
        exact kk G1 Y1 f1 Z2 H locs ls hI1 hY1 hC (lv_sub hl [2, 3, 4, 5, 6] rfl)
      · exfalso; omega
  · exfalso; omega

set_option maxHeartbeats 8000000 in
set_option maxRecDepth 100000 in
theorem lw_case_7 {p : Program} {l : Launch} {e : Env} {s : State} {m : MethodId} {args : Array Value} {below : List Frame} {meth : Method} {c : Code} {H : Heap} {locs : List Loc} {cells slots : Nat} {Q : State → Prop} {ls : Array Slot} {A B : AD} {o : Nat} {G : GS} {Y : YS} {f : Nat → Int64} {Z : ZS} {b L i : Nat} {xs : Nat → Int32}
    (X : lwX l p s m c args A B o) (hI : Inv G) (hY : YI Y) (hC : lwC A B o G Y f G Z s H locs) (hl : lv_has ls 9 [(4, .int (iI ((5 * i : Nat) : Int))), (0, .ref b), (1, .ref (A.a 0)), (2, .ref (B.a 0)), (3, .ref o)]) (hi : 5 * i + 5 ≤ L) (hL : L ≤ 2560) (hX : va_X b L xs s s.heap) (hbl : b < s.heap.size) (hcl : cells + 10 ≤ room_1.cells) (hsl : slots + 60 ≤ room_1.slots)
    (kk : ∀ (G' : GS) (Y' : YS) (f' : Nat → Int64) (Z' : ZS) (H' : Heap) (locs' : List Loc) (ls' : Array Slot), Inv G' → YI Y' → lwC A B o G' Y' f' G' Z' s H' locs' → lv_has ls' 9 [(4, .int (iI ((5 * i : Nat) : Int))), (0, .ref b), (1, .ref (A.a 0)), (2, .ref (B.a 0)), (3, .ref o)] → W p l e room_1 s m args below meth c H' locs' (cells + 10) (slots + 60) Q (F0 m 1382 ls' [])) : W p l e room_1 s m args below meth c H locs cells slots Q (F0 m 702 ls []) := by
  obtain ⟨hx, hb, hml, hown, hts⟩ := id X.1
  obtain ⟨a1, ha1, ea1⟩ := iI_of (xs ((5 * i) + 1))
  refine lv_aload_n hx hb dL_law_702 rfl (lv_at hl 2 rfl) ?_
  refine lv_aload_n hx hb dL_law_703 rfl (lv_at hl 1 rfl) ?_
  refine lv_iload hx hb dL_law_704 (lv_at hl 0 rfl) ?_
  refine li_c hx hb dL_law_706 ?_
  refine li_addN (x := 5 * i) (y := 1) hx hb dL_law_707 rfl rfl ?_
  refine l_sld (k0 := (5 * i) + 1) (z := a1) X hC hX hbl hL (by omega) ea1 dL_law_708 ?_
  refine lv_aload_n hx hb dL_law_709 rfl (lv_at hl 4 rfl) ?_
  obtain ⟨K, hKd⟩ : ∃ K, K = (if 0 ≤ a1 ∧ a1 < (G.nn : Int) then 0 else 1) := ⟨_, rfl⟩
  have hM := wL_reach l X.2.2.2.2.2.2.2.1 A o G Y f hI hY a1 (by omega)
  rw [← hKd] at hM
  have hK3 : K ≤ 3 := by rw [hKd]; exact (by split <;> omega)
  refine l_callW (n := 3) (As := [.ref (A.a 0), .int (iI a1), .ref o]) (rest := []) X hC hM gL_law_L_reach ⟨_, rfl⟩ rfl rfl ⟨by decide, by decide, by decide +kernel⟩ ⟨Nat.le_of_ble_eq_true rfl, Nat.le_of_ble_eq_true rfl⟩ rfl hl.1 rfl (Nat.le_of_ble_eq_true rfl) ⟨by omega, by omega⟩ dL_law_710 (fun G1 Y1 f1 H locs hY1 hA1 hB1 hC => ?_)
  have hI1 : Inv G1 := by by_cases hq : K = 0; rw [(hA1 hq).1]; exact hI; rw [hB1 hq]; exact hI
  refine lv_istore (lv' := [(5, .int (iI (K : Int))), (4, .int (iI ((5 * i : Nat) : Int))), (0, .ref b), (1, .ref (A.a 0)), (2, .ref (B.a 0)), (3, .ref o)]) hx hb dL_law_713 hl (by decide) rfl (fun ls hl => ?_)
  refine lv_aload_n hx hb dL_law_715 rfl (lv_at hl 4 rfl) ?_
  refine lv_aload_n hx hb dL_law_716 rfl (lv_at hl 2 rfl) ?_
  refine lv_iload hx hb dL_law_717 (lv_at hl 1 rfl) ?_
  refine li_c hx hb dL_law_719 ?_
  refine li_addN (x := 5 * i) (y := 1) hx hb dL_law_720 rfl rfl ?_
  refine l_sld (k0 := (5 * i) + 1) (z := a1) X hC hX hbl hL (by omega) ea1 dL_law_721 ?_
  have hM2 := mX4_reach l B G Z a1 hI (by omega)
  rw [← hKd] at hM2
  refine l_callDi (n := 1) (As := [.int (iI a1)]) (rest := []) X hC hM2 rfl ⟨gL_law_X4_reach, ⟨_, rfl⟩, rfl, rfl, ⟨by decide, by decide, by decide +kernel⟩, Nat.le_of_ble_eq_true rfl, Nat.le_of_ble_eq_true rfl⟩ rfl hl.1 rfl (Nat.le_of_ble_eq_true rfl) ⟨by omega, by omega⟩ dL_law_722 (fun z2 G2 Z2 H locs hQ hC => ?_)
  obtain ⟨t1, t2, t3⟩ := yKI.o hQ
  have hgg : G2 = G1 := by by_cases hq : K = 0; exact (t2 hq).2.trans (hA1 hq).1.symm; exact (t3 hq).2.trans (hB1 hq).symm
  rw [hgg] at hC
  refine lv_istore (lv' := [(6, .int (iI z2)), (5, .int (iI (K : Int))), (4, .int (iI ((5 * i : Nat) : Int))), (0, .ref b), (1, .ref (A.a 0)), (2, .ref (B.a 0)), (3, .ref o)]) hx hb dL_law_725 hl (by decide) rfl (fun ls hl => ?_)
  refine lv_aload_n hx hb dL_law_727 rfl (lv_at hl 5 rfl) ?_
  refine l_callDi (n := 0) (As := []) (rest := []) X hC (mX4_thrown l B G1 Z2) rfl ⟨gL_law_X4_thrown, ⟨_, rfl⟩, rfl, rfl, ⟨by decide, by decide, by decide +kernel⟩, Nat.le_of_ble_eq_true rfl, Nat.le_of_ble_eq_true rfl⟩ rfl hl.1 rfl (Nat.le_of_ble_eq_true rfl) ⟨by omega, by omega⟩ dL_law_728 (fun z3 G3 Z3 H locs hQ3 hC => ?_)
  obtain ⟨hz3, hg3, hy3⟩ := hQ3
  rw [hg3, hy3] at hC
  rw [hz3, t1]
  refine lv_iload hx hb dL_law_731 (lv_at hl 1 rfl) ?_
  refine li_icmp_eq (tgt := 738) hx hb dL_law_733 (by decide) (⟨by omega, by omega⟩) (fun c_733 => ?_) (fun c_733 => ?_)
  · refine lv_iload hx hb dL_law_738 (lv_at hl 1 rfl) ?_
    refine li_if_ne (tgt := 755) hx hb dL_law_740 (by decide) (by omega) (fun c_740 => ?_) (fun c_740 => ?_)
    · refine lv_goto (tgt := 1382) hx hb dL_law_755 (by decide) ?_
      refine W.widen (k := cells + 10) (n := slots + 60) (by omega) (by omega) ?_
      exact kk G1 Y1 f1 Z2 H locs ls hI1 hY1 hC (lv_sub hl [2, 3, 4, 5, 6] rfl)
    · have hK0 : K = 0 := by omega
      refine lv_aload_n hx hb dL_law_743 rfl (lv_at hl 6 rfl) ?_
      refine li_c hx hb dL_law_744 ?_
      refine l_load X hC dL_law_745 ?_
      refine lv_iload hx hb dL_law_746 (lv_at hl 0 rfl) ?_
      refine lv_i2l hx hb dL_law_748 rfl ?_
      rw [show f1 0 = (iI z2).toInt64 from (by rw [(hA1 hK0).2, (t2 hK0).1, itw_8 hI (by have := k0_of (hKd.symm.trans hK0); omega)])]
      refine W.lcmp hx hb dL_law_749 ?_
      rw [lcmp_s]
      refine li_if_eq (tgt := 755) hx hb dL_law_750 (by decide) (by omega) (fun c_750 => ?_) (fun c_750 => ?_)
      · refine lv_goto (tgt := 1382) hx hb dL_law_755 (by decide) ?_
        refine W.widen (k := cells + 10) (n := slots + 60) (by omega) (by omega) ?_
        exact kk G1 Y1 f1 Z2 H locs ls hI1 hY1 hC (lv_sub hl [2, 3, 4, 5, 6] rfl)
      · exfalso; omega
  · exfalso; omega

set_option maxHeartbeats 8000000 in
set_option maxRecDepth 100000 in
theorem lw_case_8 {p : Program} {l : Launch} {e : Env} {s : State} {m : MethodId} {args : Array Value} {below : List Frame} {meth : Method} {c : Code} {H : Heap} {locs : List Loc} {cells slots : Nat} {Q : State → Prop} {ls : Array Slot} {A B : AD} {o : Nat} {G : GS} {Y : YS} {f : Nat → Int64} {Z : ZS} {b L i : Nat} {xs : Nat → Int32}
    (X : lwX l p s m c args A B o) (hI : Inv G) (hY : YI Y) (hC : lwC A B o G Y f G Z s H locs) (hl : lv_has ls 9 [(4, .int (iI ((5 * i : Nat) : Int))), (0, .ref b), (1, .ref (A.a 0)), (2, .ref (B.a 0)), (3, .ref o)]) (hi : 5 * i + 5 ≤ L) (hL : L ≤ 2560) (hX : va_X b L xs s s.heap) (hbl : b < s.heap.size) (hcl : cells + 10 ≤ room_1.cells) (hsl : slots + 60 ≤ room_1.slots)
    (kk : ∀ (G' : GS) (Y' : YS) (f' : Nat → Int64) (Z' : ZS) (H' : Heap) (locs' : List Loc) (ls' : Array Slot), Inv G' → YI Y' → lwC A B o G' Y' f' G' Z' s H' locs' → lv_has ls' 9 [(4, .int (iI ((5 * i : Nat) : Int))), (0, .ref b), (1, .ref (A.a 0)), (2, .ref (B.a 0)), (3, .ref o)] → W p l e room_1 s m args below meth c H' locs' (cells + 10) (slots + 60) Q (F0 m 1382 ls' [])) : W p l e room_1 s m args below meth c H locs cells slots Q (F0 m 758 ls []) := by
  obtain ⟨hx, hb, hml, hown, hts⟩ := id X.1
  refine lv_aload_n hx hb dL_law_758 rfl (lv_at hl 2 rfl) ?_
  refine l_callCd (n := 0) (As := []) (rest := []) X hC (mX3_bare l A G Y hI) rfl ⟨gL_law_X3_bare, ⟨_, rfl⟩, rfl, rfl, ⟨by decide, by decide, by decide +kernel⟩, Nat.le_of_ble_eq_true rfl, Nat.le_of_ble_eq_true rfl⟩ rfl hl.1 rfl (Nat.le_of_ble_eq_true rfl) ⟨by omega, by omega⟩ dL_law_759 (fun z5 G5 Y5 H locs hQ5 hC => ?_)
  obtain ⟨hz5, hg5, hy5⟩ := hQ5
  rw [hg5, hy5] at hC
  rw [hz5]
  refine lv_dstore (lv' := [(5, .double (bareV (cnt0 G.de (2 * G.rr)) G.rr)), (4, .int (iI ((5 * i : Nat) : Int))), (0, .ref b), (1, .ref (A.a 0)), (2, .ref (B.a 0)), (3, .ref o)]) hx hb dL_law_762 hl (by decide) rfl (fun ls hl => ?_)
  refine lv_aload_n hx hb dL_law_764 rfl (lv_at hl 4 rfl) ?_
  refine l_callDd (n := 0) (As := []) (rest := []) X hC (mX4_bare l B G Z hI) rfl ⟨gL_law_X4_bare, ⟨_, rfl⟩, rfl, rfl, ⟨by decide, by decide, by decide +kernel⟩, Nat.le_of_ble_eq_true rfl, Nat.le_of_ble_eq_true rfl⟩ rfl hl.1 rfl (Nat.le_of_ble_eq_true rfl) ⟨by omega, by omega⟩ dL_law_765 (fun z6 G6 Z6 H locs hQ6 hC => ?_)
  obtain ⟨hz6, hg6, hy6⟩ := hQ6
  rw [hg6, hy6] at hC
  rw [hz6]
  refine lv_dstore (lv' := [(7, .double (bareV (cnt0 G.de (2 * G.rr)) G.rr)), (5, .double (bareV (cnt0 G.de (2 * G.rr)) G.rr)), (4, .int (iI ((5 * i : Nat) : Int))), (0, .ref b), (1, .ref (A.a 0)), (2, .ref (B.a 0)), (3, .ref o)]) hx hb dL_law_768 hl (by decide) rfl (fun ls hl => ?_)
  refine lv_dload hx hb dL_law_770 (lv_at hl 1 rfl) ?_
  refine lv_dload hx hb dL_law_772 (lv_at hl 0 rfl) ?_
  refine lv_dcmp hx hb dL_law_774 ?_
  rw [bareV_c hI.rr (by have := cnt0_le G.de (2 * G.rr); have := hI.rr; omega), iI_0]
  refine li_if_eq (tgt := 796) hx hb dL_law_775 (by decide) (by omega) (fun c_775 => ?_) (fun c_775 => ?_)
  · refine lv_goto (tgt := 1382) hx hb dL_law_796 (by decide) ?_
    refine W.widen (k := cells + 10) (n := slots + 60) (by omega) (by omega) ?_
    exact kk G Y f (Z.th' 0) H locs ls hI hY hC (lv_sub hl [2, 3, 4, 5, 6] rfl)
  · exfalso; omega

set_option maxHeartbeats 8000000 in
set_option maxRecDepth 100000 in
theorem lw_case_9 {p : Program} {l : Launch} {e : Env} {s : State} {m : MethodId} {args : Array Value} {below : List Frame} {meth : Method} {c : Code} {H : Heap} {locs : List Loc} {cells slots : Nat} {Q : State → Prop} {ls : Array Slot} {A B : AD} {o : Nat} {G : GS} {Y : YS} {f : Nat → Int64} {Z : ZS} {b L i : Nat} {xs : Nat → Int32}
    (X : lwX l p s m c args A B o) (hI : Inv G) (hY : YI Y) (hC : lwC A B o G Y f G Z s H locs) (hl : lv_has ls 9 [(4, .int (iI ((5 * i : Nat) : Int))), (0, .ref b), (1, .ref (A.a 0)), (2, .ref (B.a 0)), (3, .ref o)]) (hi : 5 * i + 5 ≤ L) (hL : L ≤ 2560) (hX : va_X b L xs s s.heap) (hbl : b < s.heap.size) (hcl : cells + 10 ≤ room_1.cells) (hsl : slots + 60 ≤ room_1.slots)
    (kk : ∀ (G' : GS) (Y' : YS) (f' : Nat → Int64) (Z' : ZS) (H' : Heap) (locs' : List Loc) (ls' : Array Slot), Inv G' → YI Y' → lwC A B o G' Y' f' G' Z' s H' locs' → lv_has ls' 9 [(4, .int (iI ((5 * i : Nat) : Int))), (0, .ref b), (1, .ref (A.a 0)), (2, .ref (B.a 0)), (3, .ref o)] → W p l e room_1 s m args below meth c H' locs' (cells + 10) (slots + 60) Q (F0 m 1382 ls' [])) : W p l e room_1 s m args below meth c H locs cells slots Q (F0 m 799 ls []) := by
  obtain ⟨hx, hb, hml, hown, hts⟩ := id X.1
  obtain ⟨a1, ha1, ea1⟩ := iI_of (xs ((5 * i) + 1))
  refine lv_aload_n hx hb dL_law_799 rfl (lv_at hl 2 rfl) ?_
  refine lv_aload_n hx hb dL_law_800 rfl (lv_at hl 1 rfl) ?_
  refine lv_iload hx hb dL_law_801 (lv_at hl 0 rfl) ?_
  refine li_c hx hb dL_law_803 ?_
  refine li_addN (x := 5 * i) (y := 1) hx hb dL_law_804 rfl rfl ?_
  refine l_sld (k0 := (5 * i) + 1) (z := a1) X hC hX hbl hL (by omega) ea1 dL_law_805 ?_
  refine li_if_eq (tgt := 813) hx hb dL_law_806 (by decide) (by omega) (fun c_806 => ?_) (fun c_806 => ?_)
  · refine li_c hx hb dL_law_813 ?_
    have hvw := hI.vw
    refine l_callCi (n := 1) (As := [.int (iI 0)]) (rest := []) X hC (mX3_strew l A G Y 0 (by decide) hI.vw) rfl ⟨gL_law_X3_strew, ⟨_, rfl⟩, rfl, rfl, ⟨by decide, by decide, by decide +kernel⟩, Nat.le_of_ble_eq_true rfl, Nat.le_of_ble_eq_true rfl⟩ rfl hl.1 rfl (Nat.le_of_ble_eq_true rfl) ⟨by omega, by omega⟩ dL_law_814 (fun z5 G5 Y5 H locs hQ5 hC => ?_)
    obtain ⟨hz5, hg5, hy5⟩ := hQ5
    rw [hg5, hy5] at hC
    rw [hz5]
    refine lv_aload_n hx hb dL_law_817 rfl (lv_at hl 3 rfl) ?_
    refine lv_aload_n hx hb dL_law_818 rfl (lv_at hl 1 rfl) ?_
    refine lv_iload hx hb dL_law_819 (lv_at hl 0 rfl) ?_
    refine li_c hx hb dL_law_821 ?_
    refine li_addN (x := 5 * i) (y := 1) hx hb dL_law_822 rfl rfl ?_
    refine l_sld (k0 := (5 * i) + 1) (z := a1) X hC hX hbl hL (by omega) ea1 dL_law_823 ?_
    refine li_if_eq (tgt := 831) hx hb dL_law_824 (by decide) (by omega) (fun c_824 => ?_) (fun c_824 => ?_)
    · refine li_c hx hb dL_law_831 ?_
      have hvw := hI.vw
      refine l_callDi (n := 1) (As := [.int (iI 0)]) (rest := [.int (iI (G.vw : Int))]) X hC (mX4_strew l B G Z 0 (by decide) hI.vw) rfl ⟨gL_law_X4_strew, ⟨_, rfl⟩, rfl, rfl, ⟨by decide, by decide, by decide +kernel⟩, Nat.le_of_ble_eq_true rfl, Nat.le_of_ble_eq_true rfl⟩ rfl hl.1 rfl (Nat.le_of_ble_eq_true rfl) ⟨by omega, by omega⟩ dL_law_832 (fun z6 G6 Z6 H locs hQ6 hC => ?_)
      obtain ⟨hz6, hg6, hy6⟩ := hQ6
      rw [hg6, hy6] at hC
      rw [hz6]
      refine li_icmp_eq (tgt := 1382) hx hb dL_law_835 (by decide) (⟨by omega, by omega⟩) (fun c_835 => ?_) (fun c_835 => ?_)
      · refine W.widen (k := cells + 10) (n := slots + 60) (by omega) (by omega) ?_
        exact kk (G.vw' 0) Y f (Z.th' 0) H locs ls (Inv_strew hI (by decide)) hY hC (lv_sub hl [0, 1, 2, 3, 4] rfl)
      · exfalso; omega
    · exfalso; omega
  · refine li_c hx hb dL_law_809 ?_
    refine lv_goto (tgt := 814) hx hb dL_law_810 (by decide) ?_
    have hvw := hI.vw
    refine l_callCi (n := 1) (As := [.int (iI 1)]) (rest := []) X hC (mX3_strew l A G Y 1 (by decide) hI.vw) rfl ⟨gL_law_X3_strew, ⟨_, rfl⟩, rfl, rfl, ⟨by decide, by decide, by decide +kernel⟩, Nat.le_of_ble_eq_true rfl, Nat.le_of_ble_eq_true rfl⟩ rfl hl.1 rfl (Nat.le_of_ble_eq_true rfl) ⟨by omega, by omega⟩ dL_law_814 (fun z5 G5 Y5 H locs hQ5 hC => ?_)
    obtain ⟨hz5, hg5, hy5⟩ := hQ5
    rw [hg5, hy5] at hC
    rw [hz5]
    refine lv_aload_n hx hb dL_law_817 rfl (lv_at hl 3 rfl) ?_
    refine lv_aload_n hx hb dL_law_818 rfl (lv_at hl 1 rfl) ?_
    refine lv_iload hx hb dL_law_819 (lv_at hl 0 rfl) ?_
    refine li_c hx hb dL_law_821 ?_
    refine li_addN (x := 5 * i) (y := 1) hx hb dL_law_822 rfl rfl ?_
    refine l_sld (k0 := (5 * i) + 1) (z := a1) X hC hX hbl hL (by omega) ea1 dL_law_823 ?_
    refine li_if_eq (tgt := 831) hx hb dL_law_824 (by decide) (by omega) (fun c_824 => ?_) (fun c_824 => ?_)
    · exfalso; omega
    · refine li_c hx hb dL_law_827 ?_
      refine lv_goto (tgt := 832) hx hb dL_law_828 (by decide) ?_
      have hvw := hI.vw
      refine l_callDi (n := 1) (As := [.int (iI 1)]) (rest := [.int (iI (G.vw : Int))]) X hC (mX4_strew l B G Z 1 (by decide) hI.vw) rfl ⟨gL_law_X4_strew, ⟨_, rfl⟩, rfl, rfl, ⟨by decide, by decide, by decide +kernel⟩, Nat.le_of_ble_eq_true rfl, Nat.le_of_ble_eq_true rfl⟩ rfl hl.1 rfl (Nat.le_of_ble_eq_true rfl) ⟨by omega, by omega⟩ dL_law_832 (fun z6 G6 Z6 H locs hQ6 hC => ?_)
      obtain ⟨hz6, hg6, hy6⟩ := hQ6
      rw [hg6, hy6] at hC
      rw [hz6]
      refine li_icmp_eq (tgt := 1382) hx hb dL_law_835 (by decide) (⟨by omega, by omega⟩) (fun c_835 => ?_) (fun c_835 => ?_)
      · refine W.widen (k := cells + 10) (n := slots + 60) (by omega) (by omega) ?_
        exact kk (G.vw' 1) Y f (Z.th' 0) H locs ls (Inv_strew hI (by decide)) hY hC (lv_sub hl [0, 1, 2, 3, 4] rfl)
      · exfalso; omega

set_option maxHeartbeats 8000000 in
set_option maxRecDepth 100000 in
theorem lw_case_10 {p : Program} {l : Launch} {e : Env} {s : State} {m : MethodId} {args : Array Value} {below : List Frame} {meth : Method} {c : Code} {H : Heap} {locs : List Loc} {cells slots : Nat} {Q : State → Prop} {ls : Array Slot} {A B : AD} {o : Nat} {G : GS} {Y : YS} {f : Nat → Int64} {Z : ZS} {b L i : Nat} {xs : Nat → Int32}
    (X : lwX l p s m c args A B o) (hI : Inv G) (hY : YI Y) (hC : lwC A B o G Y f G Z s H locs) (hl : lv_has ls 9 [(4, .int (iI ((5 * i : Nat) : Int))), (0, .ref b), (1, .ref (A.a 0)), (2, .ref (B.a 0)), (3, .ref o)]) (hi : 5 * i + 5 ≤ L) (hL : L ≤ 2560) (hX : va_X b L xs s s.heap) (hbl : b < s.heap.size) (hcl : cells + 10 ≤ room_1.cells) (hsl : slots + 60 ≤ room_1.slots)
    (kk : ∀ (G' : GS) (Y' : YS) (f' : Nat → Int64) (Z' : ZS) (H' : Heap) (locs' : List Loc) (ls' : Array Slot), Inv G' → YI Y' → lwC A B o G' Y' f' G' Z' s H' locs' → lv_has ls' 9 [(4, .int (iI ((5 * i : Nat) : Int))), (0, .ref b), (1, .ref (A.a 0)), (2, .ref (B.a 0)), (3, .ref o)] → W p l e room_1 s m args below meth c H' locs' (cells + 10) (slots + 60) Q (F0 m 1382 ls' [])) : W p l e room_1 s m args below meth c H locs cells slots Q (F0 m 840 ls []) := by
  obtain ⟨hx, hb, hml, hown, hts⟩ := id X.1
  obtain ⟨a1, ha1, ea1⟩ := iI_of (xs ((5 * i) + 1))
  refine lv_aload_n hx hb dL_law_840 rfl (lv_at hl 2 rfl) ?_
  refine lv_aload_n hx hb dL_law_841 rfl (lv_at hl 1 rfl) ?_
  refine lv_iload hx hb dL_law_842 (lv_at hl 0 rfl) ?_
  refine li_c hx hb dL_law_844 ?_
  refine li_addN (x := 5 * i) (y := 1) hx hb dL_law_845 rfl rfl ?_
  refine l_sld (k0 := (5 * i) + 1) (z := a1) X hC hX hbl hL (by omega) ea1 dL_law_846 ?_
  refine lv_aload_n hx hb dL_law_847 rfl (lv_at hl 4 rfl) ?_
  obtain ⟨K, hKd⟩ : ∃ K, K = (kGo G a1) := ⟨_, rfl⟩
  have hM := wL_go l X.2.2.2.2.2.2.2.1 A o G Y f hI hY a1 (by omega)
  rw [← hKd] at hM
  have hK3 : K ≤ 3 := by rw [hKd]; exact (kGo_le _ _)
  refine l_callW (n := 3) (As := [.ref (A.a 0), .int (iI a1), .ref o]) (rest := []) X hC hM gL_law_L_go ⟨_, rfl⟩ rfl rfl ⟨by decide, by decide, by decide +kernel⟩ ⟨Nat.le_of_ble_eq_true rfl, Nat.le_of_ble_eq_true rfl⟩ rfl hl.1 rfl (Nat.le_of_ble_eq_true rfl) ⟨by omega, by omega⟩ dL_law_848 (fun G1 Y1 f1 H locs hY1 hA1 hB1 hC => ?_)
  have hI1 : Inv G1 := by by_cases hq : K = 0; rw [(hA1 hq).1]; exact drv_Inv hI (kGo_0 (hKd.symm.trans hq)); rw [hB1 hq]; exact hI
  refine lv_istore (lv' := [(5, .int (iI (K : Int))), (4, .int (iI ((5 * i : Nat) : Int))), (0, .ref b), (1, .ref (A.a 0)), (2, .ref (B.a 0)), (3, .ref o)]) hx hb dL_law_851 hl (by decide) rfl (fun ls hl => ?_)
  refine lv_aload_n hx hb dL_law_853 rfl (lv_at hl 4 rfl) ?_
  refine lv_aload_n hx hb dL_law_854 rfl (lv_at hl 2 rfl) ?_
  refine lv_iload hx hb dL_law_855 (lv_at hl 1 rfl) ?_
  refine li_c hx hb dL_law_857 ?_
  refine li_addN (x := 5 * i) (y := 1) hx hb dL_law_858 rfl rfl ?_
  refine l_sld (k0 := (5 * i) + 1) (z := a1) X hC hX hbl hL (by omega) ea1 dL_law_859 ?_
  have hM2 := mX4_go l B G Z a1 hI (by omega)
  rw [← hKd] at hM2
  refine l_callDi (n := 1) (As := [.int (iI a1)]) (rest := []) X hC hM2 rfl ⟨gL_law_X4_go, ⟨_, rfl⟩, rfl, rfl, ⟨by decide, by decide, by decide +kernel⟩, Nat.le_of_ble_eq_true rfl, Nat.le_of_ble_eq_true rfl⟩ rfl hl.1 rfl (Nat.le_of_ble_eq_true rfl) ⟨by omega, by omega⟩ dL_law_860 (fun z2 G2 Z2 H locs hQ hC => ?_)
  obtain ⟨t1, t2, t3⟩ := yKI.o hQ
  have hgg : G2 = G1 := by by_cases hq : K = 0; exact (t2 hq).2.trans (hA1 hq).1.symm; exact (t3 hq).2.trans (hB1 hq).symm
  rw [hgg] at hC
  refine lv_istore (lv' := [(6, .int (iI z2)), (5, .int (iI (K : Int))), (4, .int (iI ((5 * i : Nat) : Int))), (0, .ref b), (1, .ref (A.a 0)), (2, .ref (B.a 0)), (3, .ref o)]) hx hb dL_law_863 hl (by decide) rfl (fun ls hl => ?_)
  refine lv_aload_n hx hb dL_law_865 rfl (lv_at hl 5 rfl) ?_
  refine l_callDi (n := 0) (As := []) (rest := []) X hC (mX4_thrown l B G1 Z2) rfl ⟨gL_law_X4_thrown, ⟨_, rfl⟩, rfl, rfl, ⟨by decide, by decide, by decide +kernel⟩, Nat.le_of_ble_eq_true rfl, Nat.le_of_ble_eq_true rfl⟩ rfl hl.1 rfl (Nat.le_of_ble_eq_true rfl) ⟨by omega, by omega⟩ dL_law_866 (fun z3 G3 Z3 H locs hQ3 hC => ?_)
  obtain ⟨hz3, hg3, hy3⟩ := hQ3
  rw [hg3, hy3] at hC
  rw [hz3, t1]
  refine lv_iload hx hb dL_law_869 (lv_at hl 1 rfl) ?_
  refine li_icmp_eq (tgt := 876) hx hb dL_law_871 (by decide) (⟨by omega, by omega⟩) (fun c_871 => ?_) (fun c_871 => ?_)
  · refine lv_iload hx hb dL_law_876 (lv_at hl 1 rfl) ?_
    refine li_if_ne (tgt := 893) hx hb dL_law_878 (by decide) (by omega) (fun c_878 => ?_) (fun c_878 => ?_)
    · refine lv_goto (tgt := 1382) hx hb dL_law_893 (by decide) ?_
      refine W.widen (k := cells + 10) (n := slots + 60) (by omega) (by omega) ?_
      exact kk G1 Y1 f1 Z2 H locs ls hI1 hY1 hC (lv_sub hl [2, 3, 4, 5, 6] rfl)
    · have hK0 : K = 0 := by omega
      refine lv_aload_n hx hb dL_law_881 rfl (lv_at hl 6 rfl) ?_
      refine li_c hx hb dL_law_882 ?_
      refine l_load X hC dL_law_883 ?_
      refine lv_iload hx hb dL_law_884 (lv_at hl 0 rfl) ?_
      refine lv_i2l hx hb dL_law_886 rfl ?_
      rw [show f1 0 = (iI z2).toInt64 from (by rw [(hA1 hK0).2, (t2 hK0).1])]
      refine W.lcmp hx hb dL_law_887 ?_
      rw [lcmp_s]
      refine li_if_eq (tgt := 893) hx hb dL_law_888 (by decide) (by omega) (fun c_888 => ?_) (fun c_888 => ?_)
      · refine lv_goto (tgt := 1382) hx hb dL_law_893 (by decide) ?_
        refine W.widen (k := cells + 10) (n := slots + 60) (by omega) (by omega) ?_
        exact kk G1 Y1 f1 Z2 H locs ls hI1 hY1 hC (lv_sub hl [2, 3, 4, 5, 6] rfl)
      · exfalso; omega
  · exfalso; omega

set_option maxHeartbeats 8000000 in
set_option maxRecDepth 100000 in
theorem lw_case_11 {p : Program} {l : Launch} {e : Env} {s : State} {m : MethodId} {args : Array Value} {below : List Frame} {meth : Method} {c : Code} {H : Heap} {locs : List Loc} {cells slots : Nat} {Q : State → Prop} {ls : Array Slot} {A B : AD} {o : Nat} {G : GS} {Y : YS} {f : Nat → Int64} {Z : ZS} {b L i : Nat} {xs : Nat → Int32}
    (X : lwX l p s m c args A B o) (hI : Inv G) (hY : YI Y) (hC : lwC A B o G Y f G Z s H locs) (hl : lv_has ls 9 [(4, .int (iI ((5 * i : Nat) : Int))), (0, .ref b), (1, .ref (A.a 0)), (2, .ref (B.a 0)), (3, .ref o)]) (hi : 5 * i + 5 ≤ L) (hL : L ≤ 2560) (hX : va_X b L xs s s.heap) (hbl : b < s.heap.size) (hcl : cells + 10 ≤ room_1.cells) (hsl : slots + 60 ≤ room_1.slots)
    (kk : ∀ (G' : GS) (Y' : YS) (f' : Nat → Int64) (Z' : ZS) (H' : Heap) (locs' : List Loc) (ls' : Array Slot), Inv G' → YI Y' → lwC A B o G' Y' f' G' Z' s H' locs' → lv_has ls' 9 [(4, .int (iI ((5 * i : Nat) : Int))), (0, .ref b), (1, .ref (A.a 0)), (2, .ref (B.a 0)), (3, .ref o)] → W p l e room_1 s m args below meth c H' locs' (cells + 10) (slots + 60) Q (F0 m 1382 ls' [])) : W p l e room_1 s m args below meth c H locs cells slots Q (F0 m 896 ls []) := by
  obtain ⟨hx, hb, hml, hown, hts⟩ := id X.1
  refine lv_aload_n hx hb dL_law_896 rfl (lv_at hl 2 rfl) ?_
  refine lv_aload_n hx hb dL_law_897 rfl (lv_at hl 4 rfl) ?_
  obtain ⟨K, hKd⟩ : ∃ K, K = (if G.st G.vn ≠ 0 then 0 else 1) := ⟨_, rfl⟩
  have hM := wL_fill l X.2.2.2.2.2.2.2.1 A o G Y f hI hY
  rw [← hKd] at hM
  have hK3 : K ≤ 3 := by rw [hKd]; exact (by split <;> omega)
  refine l_callW (n := 2) (As := [.ref (A.a 0), .ref o]) (rest := []) X hC hM gL_law_L_fill ⟨_, rfl⟩ rfl rfl ⟨by decide, by decide, by decide +kernel⟩ ⟨Nat.le_of_ble_eq_true rfl, Nat.le_of_ble_eq_true rfl⟩ rfl hl.1 rfl (Nat.le_of_ble_eq_true rfl) ⟨by omega, by omega⟩ dL_law_898 (fun G1 Y1 f1 H locs hY1 hA1 hB1 hC => ?_)
  have hI1 : Inv G1 := by by_cases hq : K = 0; rw [(hA1 hq).1]; exact tks_Inv hI; rw [hB1 hq]; exact hI
  refine lv_istore (lv' := [(5, .int (iI (K : Int))), (4, .int (iI ((5 * i : Nat) : Int))), (0, .ref b), (1, .ref (A.a 0)), (2, .ref (B.a 0)), (3, .ref o)]) hx hb dL_law_901 hl (by decide) rfl (fun ls hl => ?_)
  refine lv_aload_n hx hb dL_law_903 rfl (lv_at hl 4 rfl) ?_
  have hM2 := mX4_fill l B G Z hI
  rw [← hKd] at hM2
  refine l_callDi (n := 0) (As := []) (rest := []) X hC hM2 rfl ⟨gL_law_X4_fill, ⟨_, rfl⟩, rfl, rfl, ⟨by decide, by decide, by decide +kernel⟩, Nat.le_of_ble_eq_true rfl, Nat.le_of_ble_eq_true rfl⟩ rfl hl.1 rfl (Nat.le_of_ble_eq_true rfl) ⟨by omega, by omega⟩ dL_law_904 (fun z2 G2 Z2 H locs hQ hC => ?_)
  obtain ⟨t1, t2, t3⟩ := yKI.o hQ
  have hgg : G2 = G1 := by by_cases hq : K = 0; exact (t2 hq).2.trans (hA1 hq).1.symm; exact (t3 hq).2.trans (hB1 hq).symm
  rw [hgg] at hC
  refine lv_istore (lv' := [(6, .int (iI z2)), (5, .int (iI (K : Int))), (4, .int (iI ((5 * i : Nat) : Int))), (0, .ref b), (1, .ref (A.a 0)), (2, .ref (B.a 0)), (3, .ref o)]) hx hb dL_law_907 hl (by decide) rfl (fun ls hl => ?_)
  refine lv_aload_n hx hb dL_law_909 rfl (lv_at hl 5 rfl) ?_
  refine l_callDi (n := 0) (As := []) (rest := []) X hC (mX4_thrown l B G1 Z2) rfl ⟨gL_law_X4_thrown, ⟨_, rfl⟩, rfl, rfl, ⟨by decide, by decide, by decide +kernel⟩, Nat.le_of_ble_eq_true rfl, Nat.le_of_ble_eq_true rfl⟩ rfl hl.1 rfl (Nat.le_of_ble_eq_true rfl) ⟨by omega, by omega⟩ dL_law_910 (fun z3 G3 Z3 H locs hQ3 hC => ?_)
  obtain ⟨hz3, hg3, hy3⟩ := hQ3
  rw [hg3, hy3] at hC
  rw [hz3, t1]
  refine lv_iload hx hb dL_law_913 (lv_at hl 1 rfl) ?_
  refine li_icmp_eq (tgt := 920) hx hb dL_law_915 (by decide) (⟨by omega, by omega⟩) (fun c_915 => ?_) (fun c_915 => ?_)
  · refine lv_iload hx hb dL_law_920 (lv_at hl 1 rfl) ?_
    refine li_if_ne (tgt := 937) hx hb dL_law_922 (by decide) (by omega) (fun c_922 => ?_) (fun c_922 => ?_)
    · refine lv_goto (tgt := 1382) hx hb dL_law_937 (by decide) ?_
      refine W.widen (k := cells + 10) (n := slots + 60) (by omega) (by omega) ?_
      exact kk G1 Y1 f1 Z2 H locs ls hI1 hY1 hC (lv_sub hl [2, 3, 4, 5, 6] rfl)
    · have hK0 : K = 0 := by omega
      refine lv_aload_n hx hb dL_law_925 rfl (lv_at hl 6 rfl) ?_
      refine li_c hx hb dL_law_926 ?_
      refine l_load X hC dL_law_927 ?_
      refine lv_iload hx hb dL_law_928 (lv_at hl 0 rfl) ?_
      refine lv_i2l hx hb dL_law_930 rfl ?_
      rw [show f1 0 = (iI z2).toInt64 from (by rw [(hA1 hK0).2, (t2 hK0).1])]
      refine W.lcmp hx hb dL_law_931 ?_
      rw [lcmp_s]
      refine li_if_eq (tgt := 937) hx hb dL_law_932 (by decide) (by omega) (fun c_932 => ?_) (fun c_932 => ?_)
      · refine lv_goto (tgt := 1382) hx hb dL_law_937 (by decide) ?_
        refine W.widen (k := cells + 10) (n := slots + 60) (by omega) (by omega) ?_
        exact kk G1 Y1 f1 Z2 H locs ls hI1 hY1 hC (lv_sub hl [2, 3, 4, 5, 6] rfl)
      · exfalso; omega
  · exfalso; omega

set_option maxHeartbeats 8000000 in
set_option maxRecDepth 100000 in
theorem lw_case_12 {p : Program} {l : Launch} {e : Env} {s : State} {m : MethodId} {args : Array Value} {below : List Frame} {meth : Method} {c : Code} {H : Heap} {locs : List Loc} {cells slots : Nat} {Q : State → Prop} {ls : Array Slot} {A B : AD} {o : Nat} {G : GS} {Y : YS} {f : Nat → Int64} {Z : ZS} {b L i : Nat} {xs : Nat → Int32}
    (X : lwX l p s m c args A B o) (hI : Inv G) (hY : YI Y) (hC : lwC A B o G Y f G Z s H locs) (hl : lv_has ls 9 [(4, .int (iI ((5 * i : Nat) : Int))), (0, .ref b), (1, .ref (A.a 0)), (2, .ref (B.a 0)), (3, .ref o)]) (hi : 5 * i + 5 ≤ L) (hL : L ≤ 2560) (hX : va_X b L xs s s.heap) (hbl : b < s.heap.size) (hcl : cells + 10 ≤ room_1.cells) (hsl : slots + 60 ≤ room_1.slots)
    (kk : ∀ (G' : GS) (Y' : YS) (f' : Nat → Int64) (Z' : ZS) (H' : Heap) (locs' : List Loc) (ls' : Array Slot), Inv G' → YI Y' → lwC A B o G' Y' f' G' Z' s H' locs' → lv_has ls' 9 [(4, .int (iI ((5 * i : Nat) : Int))), (0, .ref b), (1, .ref (A.a 0)), (2, .ref (B.a 0)), (3, .ref o)] → W p l e room_1 s m args below meth c H' locs' (cells + 10) (slots + 60) Q (F0 m 1382 ls' [])) : W p l e room_1 s m args below meth c H locs cells slots Q (F0 m 940 ls []) := by
  obtain ⟨hx, hb, hml, hown, hts⟩ := id X.1
  obtain ⟨a1, ha1, ea1⟩ := iI_of (xs ((5 * i) + 1))
  refine lv_aload_n hx hb dL_law_940 rfl (lv_at hl 2 rfl) ?_
  refine lv_aload_n hx hb dL_law_941 rfl (lv_at hl 1 rfl) ?_
  refine lv_iload hx hb dL_law_942 (lv_at hl 0 rfl) ?_
  refine li_c hx hb dL_law_944 ?_
  refine li_addN (x := 5 * i) (y := 1) hx hb dL_law_945 rfl rfl ?_
  refine l_sld (k0 := (5 * i) + 1) (z := a1) X hC hX hbl hL (by omega) ea1 dL_law_946 ?_
  refine lv_aload_n hx hb dL_law_947 rfl (lv_at hl 4 rfl) ?_
  obtain ⟨K, hKd⟩ : ∃ K, K = (if 0 ≤ a1 ∧ a1 ≤ 3 then 0 else 1) := ⟨_, rfl⟩
  have hM := wL_plough l X.2.2.2.2.2.2.2.1 A o G Y f hI hY a1 (by omega)
  rw [← hKd] at hM
  have hK3 : K ≤ 3 := by rw [hKd]; exact (by split <;> omega)
  refine l_callW (n := 3) (As := [.ref (A.a 0), .int (iI a1), .ref o]) (rest := []) X hC hM gL_law_L_plough ⟨_, rfl⟩ rfl rfl ⟨by decide, by decide, by decide +kernel⟩ ⟨Nat.le_of_ble_eq_true rfl, Nat.le_of_ble_eq_true rfl⟩ rfl hl.1 rfl (Nat.le_of_ble_eq_true rfl) ⟨by omega, by omega⟩ dL_law_948 (fun G1 Y1 f1 H locs hY1 hA1 hB1 hC => ?_)
  have hI1 : Inv G1 := by by_cases hq : K = 0; rw [(hA1 hq).1]; exact hI; rw [hB1 hq]; exact hI
  refine lv_istore (lv' := [(5, .int (iI (K : Int))), (4, .int (iI ((5 * i : Nat) : Int))), (0, .ref b), (1, .ref (A.a 0)), (2, .ref (B.a 0)), (3, .ref o)]) hx hb dL_law_951 hl (by decide) rfl (fun ls hl => ?_)
  refine lv_aload_n hx hb dL_law_953 rfl (lv_at hl 4 rfl) ?_
  refine lv_aload_n hx hb dL_law_954 rfl (lv_at hl 2 rfl) ?_
  refine lv_iload hx hb dL_law_955 (lv_at hl 1 rfl) ?_
  refine li_c hx hb dL_law_957 ?_
  refine li_addN (x := 5 * i) (y := 1) hx hb dL_law_958 rfl rfl ?_
  refine l_sld (k0 := (5 * i) + 1) (z := a1) X hC hX hbl hL (by omega) ea1 dL_law_959 ?_
  have hM2 := mX4_plough l B G Z a1 hI (by omega)
  rw [← hKd] at hM2
  refine l_callDi (n := 1) (As := [.int (iI a1)]) (rest := []) X hC hM2 rfl ⟨gL_law_X4_plough, ⟨_, rfl⟩, rfl, rfl, ⟨by decide, by decide, by decide +kernel⟩, Nat.le_of_ble_eq_true rfl, Nat.le_of_ble_eq_true rfl⟩ rfl hl.1 rfl (Nat.le_of_ble_eq_true rfl) ⟨by omega, by omega⟩ dL_law_960 (fun z2 G2 Z2 H locs hQ hC => ?_)
  obtain ⟨t1, t2, t3⟩ := yKI.o hQ
  have hgg : G2 = G1 := by by_cases hq : K = 0; exact (t2 hq).2.trans (hA1 hq).1.symm; exact (t3 hq).2.trans (hB1 hq).symm
  rw [hgg] at hC
  refine lv_istore (lv' := [(6, .int (iI z2)), (5, .int (iI (K : Int))), (4, .int (iI ((5 * i : Nat) : Int))), (0, .ref b), (1, .ref (A.a 0)), (2, .ref (B.a 0)), (3, .ref o)]) hx hb dL_law_963 hl (by decide) rfl (fun ls hl => ?_)
  refine lv_aload_n hx hb dL_law_965 rfl (lv_at hl 5 rfl) ?_
  refine l_callDi (n := 0) (As := []) (rest := []) X hC (mX4_thrown l B G1 Z2) rfl ⟨gL_law_X4_thrown, ⟨_, rfl⟩, rfl, rfl, ⟨by decide, by decide, by decide +kernel⟩, Nat.le_of_ble_eq_true rfl, Nat.le_of_ble_eq_true rfl⟩ rfl hl.1 rfl (Nat.le_of_ble_eq_true rfl) ⟨by omega, by omega⟩ dL_law_966 (fun z3 G3 Z3 H locs hQ3 hC => ?_)
  obtain ⟨hz3, hg3, hy3⟩ := hQ3
  rw [hg3, hy3] at hC
  rw [hz3, t1]
  refine lv_iload hx hb dL_law_969 (lv_at hl 1 rfl) ?_
  refine li_icmp_eq (tgt := 976) hx hb dL_law_971 (by decide) (⟨by omega, by omega⟩) (fun c_971 => ?_) (fun c_971 => ?_)
  · refine lv_iload hx hb dL_law_976 (lv_at hl 1 rfl) ?_
    refine li_if_ne (tgt := 993) hx hb dL_law_978 (by decide) (by omega) (fun c_978 => ?_) (fun c_978 => ?_)
    · refine lv_goto (tgt := 1382) hx hb dL_law_993 (by decide) ?_
      refine W.widen (k := cells + 10) (n := slots + 60) (by omega) (by omega) ?_
      exact kk G1 Y1 f1 Z2 H locs ls hI1 hY1 hC (lv_sub hl [2, 3, 4, 5, 6] rfl)
    · have hK0 : K = 0 := by omega
      refine lv_aload_n hx hb dL_law_981 rfl (lv_at hl 6 rfl) ?_
      refine li_c hx hb dL_law_982 ?_
      refine l_load X hC dL_law_983 ?_
      refine lv_iload hx hb dL_law_984 (lv_at hl 0 rfl) ?_
      refine lv_i2l hx hb dL_law_986 rfl ?_
      rw [show f1 0 = (iI z2).toInt64 from (by rw [(hA1 hK0).2, (t2 hK0).1])]
      refine W.lcmp hx hb dL_law_987 ?_
      rw [lcmp_s]
      refine li_if_eq (tgt := 993) hx hb dL_law_988 (by decide) (by omega) (fun c_988 => ?_) (fun c_988 => ?_)
      · refine lv_goto (tgt := 1382) hx hb dL_law_993 (by decide) ?_
        refine W.widen (k := cells + 10) (n := slots + 60) (by omega) (by omega) ?_
        exact kk G1 Y1 f1 Z2 H locs ls hI1 hY1 hC (lv_sub hl [2, 3, 4, 5, 6] rfl)
      · exfalso; omega
  · exfalso; omega

set_option maxHeartbeats 8000000 in
set_option maxRecDepth 100000 in
theorem lw_case_13 {p : Program} {l : Launch} {e : Env} {s : State} {m : MethodId} {args : Array Value} {below : List Frame} {meth : Method} {c : Code} {H : Heap} {locs : List Loc} {cells slots : Nat} {Q : State → Prop} {ls : Array Slot} {A B : AD} {o : Nat} {G : GS} {Y : YS} {f : Nat → Int64} {Z : ZS} {b L i : Nat} {xs : Nat → Int32}
    (X : lwX l p s m c args A B o) (hI : Inv G) (hY : YI Y) (hC : lwC A B o G Y f G Z s H locs) (hl : lv_has ls 9 [(4, .int (iI ((5 * i : Nat) : Int))), (0, .ref b), (1, .ref (A.a 0)), (2, .ref (B.a 0)), (3, .ref o)]) (hi : 5 * i + 5 ≤ L) (hL : L ≤ 2560) (hX : va_X b L xs s s.heap) (hbl : b < s.heap.size) (hcl : cells + 10 ≤ room_1.cells) (hsl : slots + 60 ≤ room_1.slots)
    (kk : ∀ (G' : GS) (Y' : YS) (f' : Nat → Int64) (Z' : ZS) (H' : Heap) (locs' : List Loc) (ls' : Array Slot), Inv G' → YI Y' → lwC A B o G' Y' f' G' Z' s H' locs' → lv_has ls' 9 [(4, .int (iI ((5 * i : Nat) : Int))), (0, .ref b), (1, .ref (A.a 0)), (2, .ref (B.a 0)), (3, .ref o)] → W p l e room_1 s m args below meth c H' locs' (cells + 10) (slots + 60) Q (F0 m 1382 ls' [])) : W p l e room_1 s m args below meth c H locs cells slots Q (F0 m 996 ls []) := by
  obtain ⟨hx, hb, hml, hown, hts⟩ := id X.1
  obtain ⟨a1, ha1, ea1⟩ := iI_of (xs ((5 * i) + 1))
  refine lv_aload_n hx hb dL_law_996 rfl (lv_at hl 2 rfl) ?_
  refine lv_aload_n hx hb dL_law_997 rfl (lv_at hl 1 rfl) ?_
  refine lv_iload hx hb dL_law_998 (lv_at hl 0 rfl) ?_
  refine li_c hx hb dL_law_1000 ?_
  refine li_addN (x := 5 * i) (y := 1) hx hb dL_law_1001 rfl rfl ?_
  refine l_sld (k0 := (5 * i) + 1) (z := a1) X hC hX hbl hL (by omega) ea1 dL_law_1002 ?_
  refine lv_aload_n hx hb dL_law_1003 rfl (lv_at hl 4 rfl) ?_
  obtain ⟨K, hKd⟩ : ∃ K, K = (if 0 ≤ a1 ∧ a1 < (G.nn : Int) then 0 else 1) := ⟨_, rfl⟩
  have hM := wL_way l X.2.2.2.2.2.2.2.1 A o G Y f hI hY a1 (by omega)
  rw [← hKd] at hM
  have hK3 : K ≤ 3 := by rw [hKd]; exact (by split <;> omega)
  refine l_callW (n := 3) (As := [.ref (A.a 0), .int (iI a1), .ref o]) (rest := []) X hC hM gL_law_L_way ⟨_, rfl⟩ rfl rfl ⟨by decide, by decide, by decide +kernel⟩ ⟨Nat.le_of_ble_eq_true rfl, Nat.le_of_ble_eq_true rfl⟩ rfl hl.1 rfl (Nat.le_of_ble_eq_true rfl) ⟨by omega, by omega⟩ dL_law_1004 (fun G1 Y1 f1 H locs hY1 hA1 hB1 hC => ?_)
  have hI1 : Inv G1 := by by_cases hq : K = 0; rw [(hA1 hq).1]; exact hI; rw [hB1 hq]; exact hI
  refine lv_istore (lv' := [(5, .int (iI (K : Int))), (4, .int (iI ((5 * i : Nat) : Int))), (0, .ref b), (1, .ref (A.a 0)), (2, .ref (B.a 0)), (3, .ref o)]) hx hb dL_law_1007 hl (by decide) rfl (fun ls hl => ?_)
  refine lv_aload_n hx hb dL_law_1009 rfl (lv_at hl 4 rfl) ?_
  refine lv_aload_n hx hb dL_law_1010 rfl (lv_at hl 2 rfl) ?_
  refine lv_iload hx hb dL_law_1011 (lv_at hl 1 rfl) ?_
  refine li_c hx hb dL_law_1013 ?_
  refine li_addN (x := 5 * i) (y := 1) hx hb dL_law_1014 rfl rfl ?_
  refine l_sld (k0 := (5 * i) + 1) (z := a1) X hC hX hbl hL (by omega) ea1 dL_law_1015 ?_
  have hM2 := mX4_way l B G Z a1 hI (by omega)
  rw [← hKd] at hM2
  refine l_callDi (n := 1) (As := [.int (iI a1)]) (rest := []) X hC hM2 rfl ⟨gL_law_X4_way, ⟨_, rfl⟩, rfl, rfl, ⟨by decide, by decide, by decide +kernel⟩, Nat.le_of_ble_eq_true rfl, Nat.le_of_ble_eq_true rfl⟩ rfl hl.1 rfl (Nat.le_of_ble_eq_true rfl) ⟨by omega, by omega⟩ dL_law_1016 (fun z2 G2 Z2 H locs hQ hC => ?_)
  obtain ⟨t1, t2, t3⟩ := yKJ.o hQ
  have hgg : G2 = G1 := by by_cases hq : K = 0; exact (t2 hq).2.trans (hA1 hq).1.symm; exact (t3 hq).2.trans (hB1 hq).symm
  rw [hgg] at hC
  refine lv_istore (lv' := [(6, .int (iI z2)), (5, .int (iI (K : Int))), (4, .int (iI ((5 * i : Nat) : Int))), (0, .ref b), (1, .ref (A.a 0)), (2, .ref (B.a 0)), (3, .ref o)]) hx hb dL_law_1019 hl (by decide) rfl (fun ls hl => ?_)
  refine lv_aload_n hx hb dL_law_1021 rfl (lv_at hl 5 rfl) ?_
  refine l_callDi (n := 0) (As := []) (rest := []) X hC (mX4_thrown l B G1 Z2) rfl ⟨gL_law_X4_thrown, ⟨_, rfl⟩, rfl, rfl, ⟨by decide, by decide, by decide +kernel⟩, Nat.le_of_ble_eq_true rfl, Nat.le_of_ble_eq_true rfl⟩ rfl hl.1 rfl (Nat.le_of_ble_eq_true rfl) ⟨by omega, by omega⟩ dL_law_1022 (fun z3 G3 Z3 H locs hQ3 hC => ?_)
  obtain ⟨hz3, hg3, hy3⟩ := hQ3
  rw [hg3, hy3] at hC
  rw [hz3, t1]
  refine lv_iload hx hb dL_law_1025 (lv_at hl 1 rfl) ?_
  refine li_icmp_eq (tgt := 1032) hx hb dL_law_1027 (by decide) (⟨by omega, by omega⟩) (fun c_1027 => ?_) (fun c_1027 => ?_)
  · refine lv_iload hx hb dL_law_1032 (lv_at hl 1 rfl) ?_
    refine li_if_ne (tgt := 1049) hx hb dL_law_1034 (by decide) (by omega) (fun c_1034 => ?_) (fun c_1034 => ?_)
    · refine lv_goto (tgt := 1382) hx hb dL_law_1049 (by decide) ?_
      refine W.widen (k := cells + 10) (n := slots + 60) (by omega) (by omega) ?_
      exact kk G1 Y1 f1 Z2 H locs ls hI1 hY1 hC (lv_sub hl [2, 3, 4, 5, 6] rfl)
    · have hK0 : K = 0 := by omega
      refine lv_aload_n hx hb dL_law_1037 rfl (lv_at hl 6 rfl) ?_
      refine li_c hx hb dL_law_1038 ?_
      refine l_load X hC dL_law_1039 ?_
      refine lv_iload hx hb dL_law_1040 (lv_at hl 0 rfl) ?_
      refine lv_i2l hx hb dL_law_1042 rfl ?_
      rw [show f1 0 = (iI z2).toInt64 from (by rw [(hA1 hK0).2, (t2 hK0).1])]
      refine W.lcmp hx hb dL_law_1043 ?_
      rw [lcmp_s]
      refine li_if_eq (tgt := 1049) hx hb dL_law_1044 (by decide) (by omega) (fun c_1044 => ?_) (fun c_1044 => ?_)
      · refine lv_goto (tgt := 1382) hx hb dL_law_1049 (by decide) ?_
        refine W.widen (k := cells + 10) (n := slots + 60) (by omega) (by omega) ?_
        exact kk G1 Y1 f1 Z2 H locs ls hI1 hY1 hC (lv_sub hl [2, 3, 4, 5, 6] rfl)
      · exfalso; omega
  · exfalso; omega

set_option maxHeartbeats 8000000 in
set_option maxRecDepth 100000 in
theorem lw_case_14 {p : Program} {l : Launch} {e : Env} {s : State} {m : MethodId} {args : Array Value} {below : List Frame} {meth : Method} {c : Code} {H : Heap} {locs : List Loc} {cells slots : Nat} {Q : State → Prop} {ls : Array Slot} {A B : AD} {o : Nat} {G : GS} {Y : YS} {f : Nat → Int64} {Z : ZS} {b L i : Nat} {xs : Nat → Int32}
    (X : lwX l p s m c args A B o) (hI : Inv G) (hY : YI Y) (hC : lwC A B o G Y f G Z s H locs) (hl : lv_has ls 9 [(4, .int (iI ((5 * i : Nat) : Int))), (0, .ref b), (1, .ref (A.a 0)), (2, .ref (B.a 0)), (3, .ref o)]) (hi : 5 * i + 5 ≤ L) (hL : L ≤ 2560) (hX : va_X b L xs s s.heap) (hbl : b < s.heap.size) (hcl : cells + 10 ≤ room_1.cells) (hsl : slots + 60 ≤ room_1.slots)
    (kk : ∀ (G' : GS) (Y' : YS) (f' : Nat → Int64) (Z' : ZS) (H' : Heap) (locs' : List Loc) (ls' : Array Slot), Inv G' → YI Y' → lwC A B o G' Y' f' G' Z' s H' locs' → lv_has ls' 9 [(4, .int (iI ((5 * i : Nat) : Int))), (0, .ref b), (1, .ref (A.a 0)), (2, .ref (B.a 0)), (3, .ref o)] → W p l e room_1 s m args below meth c H' locs' (cells + 10) (slots + 60) Q (F0 m 1382 ls' [])) : W p l e room_1 s m args below meth c H locs cells slots Q (F0 m 1052 ls []) := by
  obtain ⟨hx, hb, hml, hown, hts⟩ := id X.1
  obtain ⟨a1, ha1, ea1⟩ := iI_of (xs ((5 * i) + 1))
  refine lv_aload_n hx hb dL_law_1052 rfl (lv_at hl 2 rfl) ?_
  refine lv_aload_n hx hb dL_law_1053 rfl (lv_at hl 1 rfl) ?_
  refine lv_iload hx hb dL_law_1054 (lv_at hl 0 rfl) ?_
  refine li_c hx hb dL_law_1056 ?_
  refine li_addN (x := 5 * i) (y := 1) hx hb dL_law_1057 rfl rfl ?_
  refine l_sld (k0 := (5 * i) + 1) (z := a1) X hC hX hbl hL (by omega) ea1 dL_law_1058 ?_
  refine lv_aload_n hx hb dL_law_1059 rfl (lv_at hl 4 rfl) ?_
  obtain ⟨K, hKd⟩ : ∃ K, K = (if 0 ≤ a1 ∧ a1 < (G.nn : Int) then 0 else 1) := ⟨_, rfl⟩
  have hM := wL_first l X.2.2.2.2.2.2.2.1 A o G Y f hI hY a1 (by omega)
  rw [← hKd] at hM
  have hK3 : K ≤ 3 := by rw [hKd]; exact (by split <;> omega)
  refine l_callW (n := 3) (As := [.ref (A.a 0), .int (iI a1), .ref o]) (rest := []) X hC hM gL_law_L_first ⟨_, rfl⟩ rfl rfl ⟨by decide, by decide, by decide +kernel⟩ ⟨Nat.le_of_ble_eq_true rfl, Nat.le_of_ble_eq_true rfl⟩ rfl hl.1 rfl (Nat.le_of_ble_eq_true rfl) ⟨by omega, by omega⟩ dL_law_1060 (fun G1 Y1 f1 H locs hY1 hA1 hB1 hC => ?_)
  have hI1 : Inv G1 := by by_cases hq : K = 0; rw [(hA1 hq).1]; exact hI; rw [hB1 hq]; exact hI
  refine lv_istore (lv' := [(5, .int (iI (K : Int))), (4, .int (iI ((5 * i : Nat) : Int))), (0, .ref b), (1, .ref (A.a 0)), (2, .ref (B.a 0)), (3, .ref o)]) hx hb dL_law_1063 hl (by decide) rfl (fun ls hl => ?_)
  refine lv_aload_n hx hb dL_law_1065 rfl (lv_at hl 4 rfl) ?_
  refine lv_aload_n hx hb dL_law_1066 rfl (lv_at hl 2 rfl) ?_
  refine lv_iload hx hb dL_law_1067 (lv_at hl 1 rfl) ?_
  refine li_c hx hb dL_law_1069 ?_
  refine li_addN (x := 5 * i) (y := 1) hx hb dL_law_1070 rfl rfl ?_
  refine l_sld (k0 := (5 * i) + 1) (z := a1) X hC hX hbl hL (by omega) ea1 dL_law_1071 ?_
  have hM2 := mX4_first l B G Z a1 hI (by omega)
  rw [← hKd] at hM2
  refine l_callDi (n := 1) (As := [.int (iI a1)]) (rest := []) X hC hM2 rfl ⟨gL_law_X4_first, ⟨_, rfl⟩, rfl, rfl, ⟨by decide, by decide, by decide +kernel⟩, Nat.le_of_ble_eq_true rfl, Nat.le_of_ble_eq_true rfl⟩ rfl hl.1 rfl (Nat.le_of_ble_eq_true rfl) ⟨by omega, by omega⟩ dL_law_1072 (fun z2 G2 Z2 H locs hQ hC => ?_)
  obtain ⟨t1, t2, t3⟩ := yKJ.o hQ
  have hgg : G2 = G1 := by by_cases hq : K = 0; exact (t2 hq).2.trans (hA1 hq).1.symm; exact (t3 hq).2.trans (hB1 hq).symm
  rw [hgg] at hC
  refine lv_istore (lv' := [(6, .int (iI z2)), (5, .int (iI (K : Int))), (4, .int (iI ((5 * i : Nat) : Int))), (0, .ref b), (1, .ref (A.a 0)), (2, .ref (B.a 0)), (3, .ref o)]) hx hb dL_law_1075 hl (by decide) rfl (fun ls hl => ?_)
  refine lv_aload_n hx hb dL_law_1077 rfl (lv_at hl 5 rfl) ?_
  refine l_callDi (n := 0) (As := []) (rest := []) X hC (mX4_thrown l B G1 Z2) rfl ⟨gL_law_X4_thrown, ⟨_, rfl⟩, rfl, rfl, ⟨by decide, by decide, by decide +kernel⟩, Nat.le_of_ble_eq_true rfl, Nat.le_of_ble_eq_true rfl⟩ rfl hl.1 rfl (Nat.le_of_ble_eq_true rfl) ⟨by omega, by omega⟩ dL_law_1078 (fun z3 G3 Z3 H locs hQ3 hC => ?_)
  obtain ⟨hz3, hg3, hy3⟩ := hQ3
  rw [hg3, hy3] at hC
  rw [hz3, t1]
  refine lv_iload hx hb dL_law_1081 (lv_at hl 1 rfl) ?_
  refine li_icmp_eq (tgt := 1088) hx hb dL_law_1083 (by decide) (⟨by omega, by omega⟩) (fun c_1083 => ?_) (fun c_1083 => ?_)
  · refine lv_iload hx hb dL_law_1088 (lv_at hl 1 rfl) ?_
    refine li_if_ne (tgt := 1105) hx hb dL_law_1090 (by decide) (by omega) (fun c_1090 => ?_) (fun c_1090 => ?_)
    · refine lv_goto (tgt := 1382) hx hb dL_law_1105 (by decide) ?_
      refine W.widen (k := cells + 10) (n := slots + 60) (by omega) (by omega) ?_
      exact kk G1 Y1 f1 Z2 H locs ls hI1 hY1 hC (lv_sub hl [2, 3, 4, 5, 6] rfl)
    · have hK0 : K = 0 := by omega
      refine lv_aload_n hx hb dL_law_1093 rfl (lv_at hl 6 rfl) ?_
      refine li_c hx hb dL_law_1094 ?_
      refine l_load X hC dL_law_1095 ?_
      refine lv_iload hx hb dL_law_1096 (lv_at hl 0 rfl) ?_
      refine lv_i2l hx hb dL_law_1098 rfl ?_
      rw [show f1 0 = (iI z2).toInt64 from (by rw [(hA1 hK0).2, (t2 hK0).1])]
      refine W.lcmp hx hb dL_law_1099 ?_
      rw [lcmp_s]
      refine li_if_eq (tgt := 1105) hx hb dL_law_1100 (by decide) (by omega) (fun c_1100 => ?_) (fun c_1100 => ?_)
      · refine lv_goto (tgt := 1382) hx hb dL_law_1105 (by decide) ?_
        refine W.widen (k := cells + 10) (n := slots + 60) (by omega) (by omega) ?_
        exact kk G1 Y1 f1 Z2 H locs ls hI1 hY1 hC (lv_sub hl [2, 3, 4, 5, 6] rfl)
      · exfalso; omega
  · exfalso; omega

set_option maxHeartbeats 8000000 in
set_option maxRecDepth 100000 in
theorem lw_case_15 {p : Program} {l : Launch} {e : Env} {s : State} {m : MethodId} {args : Array Value} {below : List Frame} {meth : Method} {c : Code} {H : Heap} {locs : List Loc} {cells slots : Nat} {Q : State → Prop} {ls : Array Slot} {A B : AD} {o : Nat} {G : GS} {Y : YS} {f : Nat → Int64} {Z : ZS} {b L i : Nat} {xs : Nat → Int32}
    (X : lwX l p s m c args A B o) (hI : Inv G) (hY : YI Y) (hC : lwC A B o G Y f G Z s H locs) (hl : lv_has ls 9 [(4, .int (iI ((5 * i : Nat) : Int))), (0, .ref b), (1, .ref (A.a 0)), (2, .ref (B.a 0)), (3, .ref o)]) (hi : 5 * i + 5 ≤ L) (hL : L ≤ 2560) (hX : va_X b L xs s s.heap) (hbl : b < s.heap.size) (hcl : cells + 10 ≤ room_1.cells) (hsl : slots + 60 ≤ room_1.slots)
    (kk : ∀ (G' : GS) (Y' : YS) (f' : Nat → Int64) (Z' : ZS) (H' : Heap) (locs' : List Loc) (ls' : Array Slot), Inv G' → YI Y' → lwC A B o G' Y' f' G' Z' s H' locs' → lv_has ls' 9 [(4, .int (iI ((5 * i : Nat) : Int))), (0, .ref b), (1, .ref (A.a 0)), (2, .ref (B.a 0)), (3, .ref o)] → W p l e room_1 s m args below meth c H' locs' (cells + 10) (slots + 60) Q (F0 m 1382 ls' [])) : W p l e room_1 s m args below meth c H locs cells slots Q (F0 m 1108 ls []) := by
  obtain ⟨hx, hb, hml, hown, hts⟩ := id X.1
  obtain ⟨a1, ha1, ea1⟩ := iI_of (xs ((5 * i) + 1))
  obtain ⟨a2, ha2, ea2⟩ := iI_of (xs ((5 * i) + 2))
  refine lv_aload_n hx hb dL_law_1108 rfl (lv_at hl 2 rfl) ?_
  refine lv_aload_n hx hb dL_law_1109 rfl (lv_at hl 1 rfl) ?_
  refine lv_iload hx hb dL_law_1110 (lv_at hl 0 rfl) ?_
  refine li_c hx hb dL_law_1112 ?_
  refine li_addN (x := 5 * i) (y := 1) hx hb dL_law_1113 rfl rfl ?_
  refine l_sld (k0 := (5 * i) + 1) (z := a1) X hC hX hbl hL (by omega) ea1 dL_law_1114 ?_
  refine lv_aload_n hx hb dL_law_1115 rfl (lv_at hl 1 rfl) ?_
  refine lv_iload hx hb dL_law_1116 (lv_at hl 0 rfl) ?_
  refine li_c hx hb dL_law_1118 ?_
  refine li_addN (x := 5 * i) (y := 2) hx hb dL_law_1119 rfl rfl ?_
  refine l_sld (k0 := (5 * i) + 2) (z := a2) X hC hX hbl hL (by omega) ea2 dL_law_1120 ?_
  refine lv_aload_n hx hb dL_law_1121 rfl (lv_at hl 4 rfl) ?_
  obtain ⟨K, hKd⟩ : ∃ K, K = (if (0 ≤ a1 ∧ a1 < (G.rr : Int)) ∧ (0 ≤ a2 ∧ a2 ≤ 1) then 0 else 1) := ⟨_, rfl⟩
  have hM := wL_wayToSide l X.2.2.2.2.2.2.2.1 A o G Y f hI hY a1 a2 (by omega) (by omega)
  rw [← hKd] at hM
  have hK3 : K ≤ 3 := by rw [hKd]; exact (by split <;> omega)
  refine l_callW (n := 4) (As := [.ref (A.a 0), .int (iI a1), .int (iI a2), .ref o]) (rest := []) X hC hM gL_law_L_wayToSide ⟨_, rfl⟩ rfl rfl ⟨by decide, by decide, by decide +kernel⟩ ⟨Nat.le_of_ble_eq_true rfl, Nat.le_of_ble_eq_true rfl⟩ rfl hl.1 rfl (Nat.le_of_ble_eq_true rfl) ⟨by omega, by omega⟩ dL_law_1122 (fun G1 Y1 f1 H locs hY1 hA1 hB1 hC => ?_)
  have hI1 : Inv G1 := by by_cases hq : K = 0; rw [(hA1 hq).1]; exact hI; rw [hB1 hq]; exact hI
  refine lv_istore (lv' := [(5, .int (iI (K : Int))), (4, .int (iI ((5 * i : Nat) : Int))), (0, .ref b), (1, .ref (A.a 0)), (2, .ref (B.a 0)), (3, .ref o)]) hx hb dL_law_1125 hl (by decide) rfl (fun ls hl => ?_)
  refine lv_aload_n hx hb dL_law_1127 rfl (lv_at hl 4 rfl) ?_
  refine lv_aload_n hx hb dL_law_1128 rfl (lv_at hl 2 rfl) ?_
  refine lv_iload hx hb dL_law_1129 (lv_at hl 1 rfl) ?_
  refine li_c hx hb dL_law_1131 ?_
  refine li_addN (x := 5 * i) (y := 1) hx hb dL_law_1132 rfl rfl ?_
  refine l_sld (k0 := (5 * i) + 1) (z := a1) X hC hX hbl hL (by omega) ea1 dL_law_1133 ?_
  refine lv_aload_n hx hb dL_law_1134 rfl (lv_at hl 2 rfl) ?_
  refine lv_iload hx hb dL_law_1135 (lv_at hl 1 rfl) ?_
  refine li_c hx hb dL_law_1137 ?_
  refine li_addN (x := 5 * i) (y := 2) hx hb dL_law_1138 rfl rfl ?_
  refine l_sld (k0 := (5 * i) + 2) (z := a2) X hC hX hbl hL (by omega) ea2 dL_law_1139 ?_
  have hM2 := mX4_wayToSide l B G Z a1 a2 hI (by omega) (by omega)
  rw [← hKd] at hM2
  refine l_callDi (n := 2) (As := [.int (iI a1), .int (iI a2)]) (rest := []) X hC hM2 rfl ⟨gL_law_X4_wayToSide, ⟨_, rfl⟩, rfl, rfl, ⟨by decide, by decide, by decide +kernel⟩, Nat.le_of_ble_eq_true rfl, Nat.le_of_ble_eq_true rfl⟩ rfl hl.1 rfl (Nat.le_of_ble_eq_true rfl) ⟨by omega, by omega⟩ dL_law_1140 (fun z2 G2 Z2 H locs hQ hC => ?_)
  obtain ⟨t1, t2, t3⟩ := yKJ.o hQ
  have hgg : G2 = G1 := by by_cases hq : K = 0; exact (t2 hq).2.trans (hA1 hq).1.symm; exact (t3 hq).2.trans (hB1 hq).symm
  rw [hgg] at hC
  refine lv_istore (lv' := [(6, .int (iI z2)), (5, .int (iI (K : Int))), (4, .int (iI ((5 * i : Nat) : Int))), (0, .ref b), (1, .ref (A.a 0)), (2, .ref (B.a 0)), (3, .ref o)]) hx hb dL_law_1143 hl (by decide) rfl (fun ls hl => ?_)
  refine lv_aload_n hx hb dL_law_1145 rfl (lv_at hl 5 rfl) ?_
  refine l_callDi (n := 0) (As := []) (rest := []) X hC (mX4_thrown l B G1 Z2) rfl ⟨gL_law_X4_thrown, ⟨_, rfl⟩, rfl, rfl, ⟨by decide, by decide, by decide +kernel⟩, Nat.le_of_ble_eq_true rfl, Nat.le_of_ble_eq_true rfl⟩ rfl hl.1 rfl (Nat.le_of_ble_eq_true rfl) ⟨by omega, by omega⟩ dL_law_1146 (fun z3 G3 Z3 H locs hQ3 hC => ?_)
  obtain ⟨hz3, hg3, hy3⟩ := hQ3
  rw [hg3, hy3] at hC
  rw [hz3, t1]
  refine lv_iload hx hb dL_law_1149 (lv_at hl 1 rfl) ?_
  refine li_icmp_eq (tgt := 1156) hx hb dL_law_1151 (by decide) (⟨by omega, by omega⟩) (fun c_1151 => ?_) (fun c_1151 => ?_)
  · refine lv_iload hx hb dL_law_1156 (lv_at hl 1 rfl) ?_
    refine li_if_ne (tgt := 1173) hx hb dL_law_1158 (by decide) (by omega) (fun c_1158 => ?_) (fun c_1158 => ?_)
    · refine lv_goto (tgt := 1382) hx hb dL_law_1173 (by decide) ?_
      refine W.widen (k := cells + 10) (n := slots + 60) (by omega) (by omega) ?_
      exact kk G1 Y1 f1 Z2 H locs ls hI1 hY1 hC (lv_sub hl [2, 3, 4, 5, 6] rfl)
    · have hK0 : K = 0 := by omega
      refine lv_aload_n hx hb dL_law_1161 rfl (lv_at hl 6 rfl) ?_
      refine li_c hx hb dL_law_1162 ?_
      refine l_load X hC dL_law_1163 ?_
      refine lv_iload hx hb dL_law_1164 (lv_at hl 0 rfl) ?_
      refine lv_i2l hx hb dL_law_1166 rfl ?_
      rw [show f1 0 = (iI z2).toInt64 from (by rw [(hA1 hK0).2, (t2 hK0).1])]
      refine W.lcmp hx hb dL_law_1167 ?_
      rw [lcmp_s]
      refine li_if_eq (tgt := 1173) hx hb dL_law_1168 (by decide) (by omega) (fun c_1168 => ?_) (fun c_1168 => ?_)
      · refine lv_goto (tgt := 1382) hx hb dL_law_1173 (by decide) ?_
        refine W.widen (k := cells + 10) (n := slots + 60) (by omega) (by omega) ?_
        exact kk G1 Y1 f1 Z2 H locs ls hI1 hY1 hC (lv_sub hl [2, 3, 4, 5, 6] rfl)
      · exfalso; omega
  · exfalso; omega

set_option maxHeartbeats 8000000 in
set_option maxRecDepth 100000 in
theorem lw_case_16 {p : Program} {l : Launch} {e : Env} {s : State} {m : MethodId} {args : Array Value} {below : List Frame} {meth : Method} {c : Code} {H : Heap} {locs : List Loc} {cells slots : Nat} {Q : State → Prop} {ls : Array Slot} {A B : AD} {o : Nat} {G : GS} {Y : YS} {f : Nat → Int64} {Z : ZS} {b L i : Nat} {xs : Nat → Int32}
    (X : lwX l p s m c args A B o) (hI : Inv G) (hY : YI Y) (hC : lwC A B o G Y f G Z s H locs) (hl : lv_has ls 9 [(4, .int (iI ((5 * i : Nat) : Int))), (0, .ref b), (1, .ref (A.a 0)), (2, .ref (B.a 0)), (3, .ref o)]) (hi : 5 * i + 5 ≤ L) (hL : L ≤ 2560) (hX : va_X b L xs s s.heap) (hbl : b < s.heap.size) (hcl : cells + 10 ≤ room_1.cells) (hsl : slots + 60 ≤ room_1.slots)
    (kk : ∀ (G' : GS) (Y' : YS) (f' : Nat → Int64) (Z' : ZS) (H' : Heap) (locs' : List Loc) (ls' : Array Slot), Inv G' → YI Y' → lwC A B o G' Y' f' G' Z' s H' locs' → lv_has ls' 9 [(4, .int (iI ((5 * i : Nat) : Int))), (0, .ref b), (1, .ref (A.a 0)), (2, .ref (B.a 0)), (3, .ref o)] → W p l e room_1 s m args below meth c H' locs' (cells + 10) (slots + 60) Q (F0 m 1382 ls' [])) : W p l e room_1 s m args below meth c H locs cells slots Q (F0 m 1176 ls []) := by
  obtain ⟨hx, hb, hml, hown, hts⟩ := id X.1
  obtain ⟨a1, ha1, ea1⟩ := iI_of (xs ((5 * i) + 1))
  obtain ⟨a2, ha2, ea2⟩ := iI_of (xs ((5 * i) + 2))
  refine lv_aload_n hx hb dL_law_1176 rfl (lv_at hl 2 rfl) ?_
  refine lv_aload_n hx hb dL_law_1177 rfl (lv_at hl 1 rfl) ?_
  refine lv_iload hx hb dL_law_1178 (lv_at hl 0 rfl) ?_
  refine li_c hx hb dL_law_1180 ?_
  refine li_addN (x := 5 * i) (y := 1) hx hb dL_law_1181 rfl rfl ?_
  refine l_sld (k0 := (5 * i) + 1) (z := a1) X hC hX hbl hL (by omega) ea1 dL_law_1182 ?_
  refine lv_aload_n hx hb dL_law_1183 rfl (lv_at hl 1 rfl) ?_
  refine lv_iload hx hb dL_law_1184 (lv_at hl 0 rfl) ?_
  refine li_c hx hb dL_law_1186 ?_
  refine li_addN (x := 5 * i) (y := 2) hx hb dL_law_1187 rfl rfl ?_
  refine l_sld (k0 := (5 * i) + 2) (z := a2) X hC hX hbl hL (by omega) ea2 dL_law_1188 ?_
  refine lv_aload_n hx hb dL_law_1189 rfl (lv_at hl 4 rfl) ?_
  obtain ⟨K, hKd⟩ : ∃ K, K = (if (0 ≤ a1 ∧ a1 < (G.rr : Int)) ∧ (0 ≤ a2 ∧ a2 ≤ 1) then 0 else 1) := ⟨_, rfl⟩
  have hM := wL_firstToSide l X.2.2.2.2.2.2.2.1 A o G Y f hI hY a1 a2 (by omega) (by omega)
  rw [← hKd] at hM
  have hK3 : K ≤ 3 := by rw [hKd]; exact (by split <;> omega)
  refine l_callW (n := 4) (As := [.ref (A.a 0), .int (iI a1), .int (iI a2), .ref o]) (rest := []) X hC hM gL_law_L_firstToSide ⟨_, rfl⟩ rfl rfl ⟨by decide, by decide, by decide +kernel⟩ ⟨Nat.le_of_ble_eq_true rfl, Nat.le_of_ble_eq_true rfl⟩ rfl hl.1 rfl (Nat.le_of_ble_eq_true rfl) ⟨by omega, by omega⟩ dL_law_1190 (fun G1 Y1 f1 H locs hY1 hA1 hB1 hC => ?_)
  have hI1 : Inv G1 := by by_cases hq : K = 0; rw [(hA1 hq).1]; exact hI; rw [hB1 hq]; exact hI
  refine lv_istore (lv' := [(5, .int (iI (K : Int))), (4, .int (iI ((5 * i : Nat) : Int))), (0, .ref b), (1, .ref (A.a 0)), (2, .ref (B.a 0)), (3, .ref o)]) hx hb dL_law_1193 hl (by decide) rfl (fun ls hl => ?_)
  refine lv_aload_n hx hb dL_law_1195 rfl (lv_at hl 4 rfl) ?_
  refine lv_aload_n hx hb dL_law_1196 rfl (lv_at hl 2 rfl) ?_
  refine lv_iload hx hb dL_law_1197 (lv_at hl 1 rfl) ?_
  refine li_c hx hb dL_law_1199 ?_
  refine li_addN (x := 5 * i) (y := 1) hx hb dL_law_1200 rfl rfl ?_
  refine l_sld (k0 := (5 * i) + 1) (z := a1) X hC hX hbl hL (by omega) ea1 dL_law_1201 ?_
  refine lv_aload_n hx hb dL_law_1202 rfl (lv_at hl 2 rfl) ?_
  refine lv_iload hx hb dL_law_1203 (lv_at hl 1 rfl) ?_
  refine li_c hx hb dL_law_1205 ?_
  refine li_addN (x := 5 * i) (y := 2) hx hb dL_law_1206 rfl rfl ?_
  refine l_sld (k0 := (5 * i) + 2) (z := a2) X hC hX hbl hL (by omega) ea2 dL_law_1207 ?_
  have hM2 := mX4_firstToSide l B G Z a1 a2 hI (by omega) (by omega)
  rw [← hKd] at hM2
  refine l_callDi (n := 2) (As := [.int (iI a1), .int (iI a2)]) (rest := []) X hC hM2 rfl ⟨gL_law_X4_firstToSide, ⟨_, rfl⟩, rfl, rfl, ⟨by decide, by decide, by decide +kernel⟩, Nat.le_of_ble_eq_true rfl, Nat.le_of_ble_eq_true rfl⟩ rfl hl.1 rfl (Nat.le_of_ble_eq_true rfl) ⟨by omega, by omega⟩ dL_law_1208 (fun z2 G2 Z2 H locs hQ hC => ?_)
  obtain ⟨t1, t2, t3⟩ := yKJ.o hQ
  have hgg : G2 = G1 := by by_cases hq : K = 0; exact (t2 hq).2.trans (hA1 hq).1.symm; exact (t3 hq).2.trans (hB1 hq).symm
  rw [hgg] at hC
  refine lv_istore (lv' := [(6, .int (iI z2)), (5, .int (iI (K : Int))), (4, .int (iI ((5 * i : Nat) : Int))), (0, .ref b), (1, .ref (A.a 0)), (2, .ref (B.a 0)), (3, .ref o)]) hx hb dL_law_1211 hl (by decide) rfl (fun ls hl => ?_)
  refine lv_aload_n hx hb dL_law_1213 rfl (lv_at hl 5 rfl) ?_
  refine l_callDi (n := 0) (As := []) (rest := []) X hC (mX4_thrown l B G1 Z2) rfl ⟨gL_law_X4_thrown, ⟨_, rfl⟩, rfl, rfl, ⟨by decide, by decide, by decide +kernel⟩, Nat.le_of_ble_eq_true rfl, Nat.le_of_ble_eq_true rfl⟩ rfl hl.1 rfl (Nat.le_of_ble_eq_true rfl) ⟨by omega, by omega⟩ dL_law_1214 (fun z3 G3 Z3 H locs hQ3 hC => ?_)
  obtain ⟨hz3, hg3, hy3⟩ := hQ3
  rw [hg3, hy3] at hC
  rw [hz3, t1]
  refine lv_iload hx hb dL_law_1217 (lv_at hl 1 rfl) ?_
  refine li_icmp_eq (tgt := 1224) hx hb dL_law_1219 (by decide) (⟨by omega, by omega⟩) (fun c_1219 => ?_) (fun c_1219 => ?_)
  · refine lv_iload hx hb dL_law_1224 (lv_at hl 1 rfl) ?_
    refine li_if_ne (tgt := 1241) hx hb dL_law_1226 (by decide) (by omega) (fun c_1226 => ?_) (fun c_1226 => ?_)
    · refine lv_goto (tgt := 1382) hx hb dL_law_1241 (by decide) ?_
      refine W.widen (k := cells + 10) (n := slots + 60) (by omega) (by omega) ?_
      exact kk G1 Y1 f1 Z2 H locs ls hI1 hY1 hC (lv_sub hl [2, 3, 4, 5, 6] rfl)
    · have hK0 : K = 0 := by omega
      refine lv_aload_n hx hb dL_law_1229 rfl (lv_at hl 6 rfl) ?_
      refine li_c hx hb dL_law_1230 ?_
      refine l_load X hC dL_law_1231 ?_
      refine lv_iload hx hb dL_law_1232 (lv_at hl 0 rfl) ?_
      refine lv_i2l hx hb dL_law_1234 rfl ?_
      rw [show f1 0 = (iI z2).toInt64 from (by rw [(hA1 hK0).2, (t2 hK0).1])]
      refine W.lcmp hx hb dL_law_1235 ?_
      rw [lcmp_s]
      refine li_if_eq (tgt := 1241) hx hb dL_law_1236 (by decide) (by omega) (fun c_1236 => ?_) (fun c_1236 => ?_)
      · refine lv_goto (tgt := 1382) hx hb dL_law_1241 (by decide) ?_
        refine W.widen (k := cells + 10) (n := slots + 60) (by omega) (by omega) ?_
        exact kk G1 Y1 f1 Z2 H locs ls hI1 hY1 hC (lv_sub hl [2, 3, 4, 5, 6] rfl)
      · exfalso; omega
  · exfalso; omega

set_option maxHeartbeats 8000000 in
set_option maxRecDepth 100000 in
theorem lw_case_17 {p : Program} {l : Launch} {e : Env} {s : State} {m : MethodId} {args : Array Value} {below : List Frame} {meth : Method} {c : Code} {H : Heap} {locs : List Loc} {cells slots : Nat} {Q : State → Prop} {ls : Array Slot} {A B : AD} {o : Nat} {G : GS} {Y : YS} {f : Nat → Int64} {Z : ZS} {b L i : Nat} {xs : Nat → Int32}
    (X : lwX l p s m c args A B o) (hI : Inv G) (hY : YI Y) (hC : lwC A B o G Y f G Z s H locs) (hl : lv_has ls 9 [(4, .int (iI ((5 * i : Nat) : Int))), (0, .ref b), (1, .ref (A.a 0)), (2, .ref (B.a 0)), (3, .ref o)]) (hi : 5 * i + 5 ≤ L) (hL : L ≤ 2560) (hX : va_X b L xs s s.heap) (hbl : b < s.heap.size) (hcl : cells + 10 ≤ room_1.cells) (hsl : slots + 60 ≤ room_1.slots)
    (kk : ∀ (G' : GS) (Y' : YS) (f' : Nat → Int64) (Z' : ZS) (H' : Heap) (locs' : List Loc) (ls' : Array Slot), Inv G' → YI Y' → lwC A B o G' Y' f' G' Z' s H' locs' → lv_has ls' 9 [(4, .int (iI ((5 * i : Nat) : Int))), (0, .ref b), (1, .ref (A.a 0)), (2, .ref (B.a 0)), (3, .ref o)] → W p l e room_1 s m args below meth c H' locs' (cells + 10) (slots + 60) Q (F0 m 1382 ls' [])) : W p l e room_1 s m args below meth c H locs cells slots Q (F0 m 1244 ls []) := by
  obtain ⟨hx, hb, hml, hown, hts⟩ := id X.1
  refine lv_aload_n hx hb dL_law_1244 rfl (lv_at hl 2 rfl) ?_
  refine l_callCi (n := 0) (As := []) (rest := []) X hC (mX3_next l A G Y hI hY) rfl ⟨gL_law_X3_next, ⟨_, rfl⟩, rfl, rfl, ⟨by decide, by decide, by decide +kernel⟩, Nat.le_of_ble_eq_true rfl, Nat.le_of_ble_eq_true rfl⟩ rfl hl.1 rfl (Nat.le_of_ble_eq_true rfl) ⟨by omega, by omega⟩ dL_law_1245 (fun z5 G5 Y5 H locs hQ5 hC => ?_)
  obtain ⟨hz5, hg5, hy5⟩ := hQ5
  rw [hg5, hy5] at hC
  rw [hz5, fnb_S hI hY _ (Nat.le_refl _)]
  refine lv_aload_n hx hb dL_law_1248 rfl (lv_at hl 3 rfl) ?_
  refine l_callDi (n := 0) (As := []) (rest := [.int (iI (nxt G))]) X hC (mX4_next l B G Z hI) rfl ⟨gL_law_X4_next, ⟨_, rfl⟩, rfl, rfl, ⟨by decide, by decide, by decide +kernel⟩, Nat.le_of_ble_eq_true rfl, Nat.le_of_ble_eq_true rfl⟩ rfl hl.1 rfl (Nat.le_of_ble_eq_true rfl) ⟨by omega, by omega⟩ dL_law_1249 (fun z6 G6 Z6 H locs hQ6 hC => ?_)
  obtain ⟨t1, t2, t3⟩ := yKJ.o hQ6
  rw [(t2 rfl).2] at hC
  rw [(t2 rfl).1]
  have hnr := fnS_rng G (2 * G.rr)
  have hrr := hI.rr
  have hnd : nxt G = fnS G (2 * G.rr) := rfl
  refine li_icmp_eq (tgt := 1382) hx hb dL_law_1252 (by decide) (⟨by omega, by omega⟩) (fun c_1252 => ?_) (fun c_1252 => ?_)
  · refine W.widen (k := cells + 10) (n := slots + 60) (by omega) (by omega) ?_
    exact kk G (lka G Y) f Z6 H locs ls hI (lka_YI hI hY) hC (lv_sub hl [0, 1, 2, 3, 4] rfl)
  · exfalso; omega

set_option maxHeartbeats 8000000 in
set_option maxRecDepth 100000 in
theorem lw_case_18 {p : Program} {l : Launch} {e : Env} {s : State} {m : MethodId} {args : Array Value} {below : List Frame} {meth : Method} {c : Code} {H : Heap} {locs : List Loc} {cells slots : Nat} {Q : State → Prop} {ls : Array Slot} {A B : AD} {o : Nat} {G : GS} {Y : YS} {f : Nat → Int64} {Z : ZS} {b L i : Nat} {xs : Nat → Int32}
    (X : lwX l p s m c args A B o) (hI : Inv G) (hY : YI Y) (hC : lwC A B o G Y f G Z s H locs) (hl : lv_has ls 9 [(4, .int (iI ((5 * i : Nat) : Int))), (0, .ref b), (1, .ref (A.a 0)), (2, .ref (B.a 0)), (3, .ref o)]) (hi : 5 * i + 5 ≤ L) (hL : L ≤ 2560) (hX : va_X b L xs s s.heap) (hbl : b < s.heap.size) (hcl : cells + 10 ≤ room_1.cells) (hsl : slots + 60 ≤ room_1.slots)
    (kk : ∀ (G' : GS) (Y' : YS) (f' : Nat → Int64) (Z' : ZS) (H' : Heap) (locs' : List Loc) (ls' : Array Slot), Inv G' → YI Y' → lwC A B o G' Y' f' G' Z' s H' locs' → lv_has ls' 9 [(4, .int (iI ((5 * i : Nat) : Int))), (0, .ref b), (1, .ref (A.a 0)), (2, .ref (B.a 0)), (3, .ref o)] → W p l e room_1 s m args below meth c H' locs' (cells + 10) (slots + 60) Q (F0 m 1382 ls' [])) : W p l e room_1 s m args below meth c H locs cells slots Q (F0 m 1257 ls []) := by
  obtain ⟨hx, hb, hml, hown, hts⟩ := id X.1
  obtain ⟨a1, ha1, ea1⟩ := iI_of (xs ((5 * i) + 1))
  refine lv_aload_n hx hb dL_law_1257 rfl (lv_at hl 2 rfl) ?_
  refine lv_aload_n hx hb dL_law_1258 rfl (lv_at hl 1 rfl) ?_
  refine lv_iload hx hb dL_law_1259 (lv_at hl 0 rfl) ?_
  refine li_c hx hb dL_law_1261 ?_
  refine li_addN (x := 5 * i) (y := 1) hx hb dL_law_1262 rfl rfl ?_
  refine l_sld (k0 := (5 * i) + 1) (z := a1) X hC hX hbl hL (by omega) ea1 dL_law_1263 ?_
  refine lv_aload_n hx hb dL_law_1264 rfl (lv_at hl 4 rfl) ?_
  obtain ⟨K, hKd⟩ : ∃ K, K = (if 0 ≤ a1 ∧ a1 ≤ 300 then 0 else 1) := ⟨_, rfl⟩
  have hM := wL_clear l X.2.2.2.2.2.2.2.1 A o G Y f hI hY a1 (by omega)
  rw [← hKd] at hM
  have hK3 : K ≤ 3 := by rw [hKd]; exact (by split <;> omega)
  refine l_callW (n := 3) (As := [.ref (A.a 0), .int (iI a1), .ref o]) (rest := []) X hC hM gL_law_L_clear ⟨_, rfl⟩ rfl rfl ⟨by decide, by decide, by decide +kernel⟩ ⟨Nat.le_of_ble_eq_true rfl, Nat.le_of_ble_eq_true rfl⟩ rfl hl.1 rfl (Nat.le_of_ble_eq_true rfl) ⟨by omega, by omega⟩ dL_law_1265 (fun G1 Y1 f1 H locs hY1 hA1 hB1 hC => ?_)
  have hI1 : Inv G1 := by by_cases hq : K = 0; rw [(hA1 hq).1]; exact Inv_clr _ _ hI; rw [hB1 hq]; exact hI
  refine lv_istore (lv' := [(5, .int (iI (K : Int))), (4, .int (iI ((5 * i : Nat) : Int))), (0, .ref b), (1, .ref (A.a 0)), (2, .ref (B.a 0)), (3, .ref o)]) hx hb dL_law_1268 hl (by decide) rfl (fun ls hl => ?_)
  refine lv_aload_n hx hb dL_law_1270 rfl (lv_at hl 4 rfl) ?_
  refine lv_aload_n hx hb dL_law_1271 rfl (lv_at hl 2 rfl) ?_
  refine lv_iload hx hb dL_law_1272 (lv_at hl 1 rfl) ?_
  refine li_c hx hb dL_law_1274 ?_
  refine li_addN (x := 5 * i) (y := 1) hx hb dL_law_1275 rfl rfl ?_
  refine l_sld (k0 := (5 * i) + 1) (z := a1) X hC hX hbl hL (by omega) ea1 dL_law_1276 ?_
  have hM2 := mX4_clear l B G Z a1 hI (by omega)
  rw [← hKd] at hM2
  refine l_callDi (n := 1) (As := [.int (iI a1)]) (rest := []) X hC hM2 rfl ⟨gL_law_X4_clear, ⟨_, rfl⟩, rfl, rfl, ⟨by decide, by decide, by decide +kernel⟩, Nat.le_of_ble_eq_true rfl, Nat.le_of_ble_eq_true rfl⟩ rfl hl.1 rfl (Nat.le_of_ble_eq_true rfl) ⟨by omega, by omega⟩ dL_law_1277 (fun z2 G2 Z2 H locs hQ hC => ?_)
  obtain ⟨t1, t2, t3⟩ := yKJ.o hQ
  have hgg : G2 = G1 := by by_cases hq : K = 0; exact (t2 hq).2.trans (hA1 hq).1.symm; exact (t3 hq).2.trans (hB1 hq).symm
  rw [hgg] at hC
  refine lv_istore (lv' := [(6, .int (iI z2)), (5, .int (iI (K : Int))), (4, .int (iI ((5 * i : Nat) : Int))), (0, .ref b), (1, .ref (A.a 0)), (2, .ref (B.a 0)), (3, .ref o)]) hx hb dL_law_1280 hl (by decide) rfl (fun ls hl => ?_)
  refine lv_aload_n hx hb dL_law_1282 rfl (lv_at hl 5 rfl) ?_
  refine l_callDi (n := 0) (As := []) (rest := []) X hC (mX4_thrown l B G1 Z2) rfl ⟨gL_law_X4_thrown, ⟨_, rfl⟩, rfl, rfl, ⟨by decide, by decide, by decide +kernel⟩, Nat.le_of_ble_eq_true rfl, Nat.le_of_ble_eq_true rfl⟩ rfl hl.1 rfl (Nat.le_of_ble_eq_true rfl) ⟨by omega, by omega⟩ dL_law_1283 (fun z3 G3 Z3 H locs hQ3 hC => ?_)
  obtain ⟨hz3, hg3, hy3⟩ := hQ3
  rw [hg3, hy3] at hC
  rw [hz3, t1]
  refine lv_iload hx hb dL_law_1286 (lv_at hl 1 rfl) ?_
  refine li_icmp_eq (tgt := 1293) hx hb dL_law_1288 (by decide) (⟨by omega, by omega⟩) (fun c_1288 => ?_) (fun c_1288 => ?_)
  · refine lv_iload hx hb dL_law_1293 (lv_at hl 1 rfl) ?_
    refine li_if_ne (tgt := 1310) hx hb dL_law_1295 (by decide) (by omega) (fun c_1295 => ?_) (fun c_1295 => ?_)
    · refine lv_goto (tgt := 1382) hx hb dL_law_1310 (by decide) ?_
      refine W.widen (k := cells + 10) (n := slots + 60) (by omega) (by omega) ?_
      exact kk G1 Y1 f1 Z2 H locs ls hI1 hY1 hC (lv_sub hl [2, 3, 4, 5, 6] rfl)
    · have hK0 : K = 0 := by omega
      refine lv_aload_n hx hb dL_law_1298 rfl (lv_at hl 6 rfl) ?_
      refine li_c hx hb dL_law_1299 ?_
      refine l_load X hC dL_law_1300 ?_
      refine lv_iload hx hb dL_law_1301 (lv_at hl 0 rfl) ?_
      refine lv_i2l hx hb dL_law_1303 rfl ?_
      rw [show f1 0 = (iI z2).toInt64 from (by rw [(hA1 hK0).2, (t2 hK0).1])]
      refine W.lcmp hx hb dL_law_1304 ?_
      rw [lcmp_s]
      refine li_if_eq (tgt := 1310) hx hb dL_law_1305 (by decide) (by omega) (fun c_1305 => ?_) (fun c_1305 => ?_)
      · refine lv_goto (tgt := 1382) hx hb dL_law_1310 (by decide) ?_
        refine W.widen (k := cells + 10) (n := slots + 60) (by omega) (by omega) ?_
        exact kk G1 Y1 f1 Z2 H locs ls hI1 hY1 hC (lv_sub hl [2, 3, 4, 5, 6] rfl)
      · exfalso; omega
  · exfalso; omega

set_option maxHeartbeats 8000000 in
set_option maxRecDepth 100000 in
theorem lw_case_19 {p : Program} {l : Launch} {e : Env} {s : State} {m : MethodId} {args : Array Value} {below : List Frame} {meth : Method} {c : Code} {H : Heap} {locs : List Loc} {cells slots : Nat} {Q : State → Prop} {ls : Array Slot} {A B : AD} {o : Nat} {G : GS} {Y : YS} {f : Nat → Int64} {Z : ZS} {b L i : Nat} {xs : Nat → Int32}
    (X : lwX l p s m c args A B o) (hI : Inv G) (hY : YI Y) (hC : lwC A B o G Y f G Z s H locs) (hl : lv_has ls 9 [(4, .int (iI ((5 * i : Nat) : Int))), (0, .ref b), (1, .ref (A.a 0)), (2, .ref (B.a 0)), (3, .ref o)]) (hi : 5 * i + 5 ≤ L) (hL : L ≤ 2560) (hX : va_X b L xs s s.heap) (hbl : b < s.heap.size) (hcl : cells + 10 ≤ room_1.cells) (hsl : slots + 60 ≤ room_1.slots)
    (kk : ∀ (G' : GS) (Y' : YS) (f' : Nat → Int64) (Z' : ZS) (H' : Heap) (locs' : List Loc) (ls' : Array Slot), Inv G' → YI Y' → lwC A B o G' Y' f' G' Z' s H' locs' → lv_has ls' 9 [(4, .int (iI ((5 * i : Nat) : Int))), (0, .ref b), (1, .ref (A.a 0)), (2, .ref (B.a 0)), (3, .ref o)] → W p l e room_1 s m args below meth c H' locs' (cells + 10) (slots + 60) Q (F0 m 1382 ls' [])) : W p l e room_1 s m args below meth c H locs cells slots Q (F0 m 1313 ls []) := by
  obtain ⟨hx, hb, hml, hown, hts⟩ := id X.1
  obtain ⟨a1, ha1, ea1⟩ := iI_of (xs ((5 * i) + 1))
  refine lv_aload_n hx hb dL_law_1313 rfl (lv_at hl 2 rfl) ?_
  refine lv_aload_n hx hb dL_law_1314 rfl (lv_at hl 1 rfl) ?_
  refine lv_iload hx hb dL_law_1315 (lv_at hl 0 rfl) ?_
  refine li_c hx hb dL_law_1317 ?_
  refine li_addN (x := 5 * i) (y := 1) hx hb dL_law_1318 rfl rfl ?_
  refine l_sld (k0 := (5 * i) + 1) (z := a1) X hC hX hbl hL (by omega) ea1 dL_law_1319 ?_
  refine lv_aload_n hx hb dL_law_1320 rfl (lv_at hl 4 rfl) ?_
  obtain ⟨K, hKd⟩ : ∃ K, K = (if 0 ≤ a1 ∧ a1 ≤ 3 then 0 else 1) := ⟨_, rfl⟩
  have hM := wL_total l X.2.2.2.2.2.2.2.1 A o G Y f hI hY a1 (by omega)
  rw [← hKd] at hM
  have hK3 : K ≤ 3 := by rw [hKd]; exact (by split <;> omega)
  refine l_callW (n := 3) (As := [.ref (A.a 0), .int (iI a1), .ref o]) (rest := []) X hC hM gL_law_L_total ⟨_, rfl⟩ rfl rfl ⟨by decide, by decide, by decide +kernel⟩ ⟨Nat.le_of_ble_eq_true rfl, Nat.le_of_ble_eq_true rfl⟩ rfl hl.1 rfl (Nat.le_of_ble_eq_true rfl) ⟨by omega, by omega⟩ dL_law_1321 (fun G1 Y1 f1 H locs hY1 hA1 hB1 hC => ?_)
  have hI1 : Inv G1 := by by_cases hq : K = 0; rw [(hA1 hq).1]; exact hI; rw [hB1 hq]; exact hI
  refine lv_istore (lv' := [(5, .int (iI (K : Int))), (4, .int (iI ((5 * i : Nat) : Int))), (0, .ref b), (1, .ref (A.a 0)), (2, .ref (B.a 0)), (3, .ref o)]) hx hb dL_law_1324 hl (by decide) rfl (fun ls hl => ?_)
  refine lv_aload_n hx hb dL_law_1326 rfl (lv_at hl 4 rfl) ?_
  refine lv_aload_n hx hb dL_law_1327 rfl (lv_at hl 2 rfl) ?_
  refine lv_iload hx hb dL_law_1328 (lv_at hl 1 rfl) ?_
  refine li_c hx hb dL_law_1330 ?_
  refine li_addN (x := 5 * i) (y := 1) hx hb dL_law_1331 rfl rfl ?_
  refine l_sld (k0 := (5 * i) + 1) (z := a1) X hC hX hbl hL (by omega) ea1 dL_law_1332 ?_
  have hM2 := mX4_total l B G Z a1 hI (by omega)
  rw [← hKd] at hM2
  refine l_callDl (n := 1) (As := [.int (iI a1)]) (rest := []) X hC hM2 rfl ⟨gL_law_X4_total, ⟨_, rfl⟩, rfl, rfl, ⟨by decide, by decide, by decide +kernel⟩, Nat.le_of_ble_eq_true rfl, Nat.le_of_ble_eq_true rfl⟩ rfl hl.1 rfl (Nat.le_of_ble_eq_true rfl) ⟨by omega, by omega⟩ dL_law_1333 (fun z2 G2 Z2 H locs hQ hC => ?_)
  obtain ⟨t1, t2, t3⟩ := yKL.o hQ
  have hgg : G2 = G1 := by by_cases hq : K = 0; exact (t2 hq).2.trans (hA1 hq).1.symm; exact (t3 hq).2.trans (hB1 hq).symm
  rw [hgg] at hC
  refine lv_lstore (lv' := [(6, .long z2), (5, .int (iI (K : Int))), (4, .int (iI ((5 * i : Nat) : Int))), (0, .ref b), (1, .ref (A.a 0)), (2, .ref (B.a 0)), (3, .ref o)]) hx hb dL_law_1336 hl (by decide) rfl (fun ls hl => ?_)
  refine lv_aload_n hx hb dL_law_1338 rfl (lv_at hl 5 rfl) ?_
  refine l_callDi (n := 0) (As := []) (rest := []) X hC (mX4_thrown l B G1 Z2) rfl ⟨gL_law_X4_thrown, ⟨_, rfl⟩, rfl, rfl, ⟨by decide, by decide, by decide +kernel⟩, Nat.le_of_ble_eq_true rfl, Nat.le_of_ble_eq_true rfl⟩ rfl hl.1 rfl (Nat.le_of_ble_eq_true rfl) ⟨by omega, by omega⟩ dL_law_1339 (fun z3 G3 Z3 H locs hQ3 hC => ?_)
  obtain ⟨hz3, hg3, hy3⟩ := hQ3
  rw [hg3, hy3] at hC
  rw [hz3, t1]
  refine lv_iload hx hb dL_law_1342 (lv_at hl 1 rfl) ?_
  refine li_icmp_eq (tgt := 1349) hx hb dL_law_1344 (by decide) (⟨by omega, by omega⟩) (fun c_1344 => ?_) (fun c_1344 => ?_)
  · refine lv_iload hx hb dL_law_1349 (lv_at hl 1 rfl) ?_
    refine li_if_ne (tgt := 1365) hx hb dL_law_1351 (by decide) (by omega) (fun c_1351 => ?_) (fun c_1351 => ?_)
    · refine lv_goto (tgt := 1382) hx hb dL_law_1365 (by decide) ?_
      refine W.widen (k := cells + 10) (n := slots + 60) (by omega) (by omega) ?_
      exact kk G1 Y1 f1 Z2 H locs ls hI1 hY1 hC (lv_sub hl [2, 3, 4, 5, 6] rfl)
    · have hK0 : K = 0 := by omega
      refine lv_aload_n hx hb dL_law_1354 rfl (lv_at hl 6 rfl) ?_
      refine li_c hx hb dL_law_1355 ?_
      refine l_load X hC dL_law_1356 ?_
      refine lv_lload hx hb dL_law_1357 (lv_at hl 0 rfl) ?_
      rw [show f1 0 = z2 from (by rw [(hA1 hK0).2, (t2 hK0).1])]
      refine W.lcmp hx hb dL_law_1359 ?_
      rw [lcmp_s]
      refine li_if_eq (tgt := 1365) hx hb dL_law_1360 (by decide) (by omega) (fun c_1360 => ?_) (fun c_1360 => ?_)
      · refine lv_goto (tgt := 1382) hx hb dL_law_1365 (by decide) ?_
        refine W.widen (k := cells + 10) (n := slots + 60) (by omega) (by omega) ?_
        exact kk G1 Y1 f1 Z2 H locs ls hI1 hY1 hC (lv_sub hl [2, 3, 4, 5, 6] rfl)
      · exfalso; omega
  · exfalso; omega

set_option maxHeartbeats 8000000 in
set_option maxRecDepth 100000 in
theorem lw_case_20 {p : Program} {l : Launch} {e : Env} {s : State} {m : MethodId} {args : Array Value} {below : List Frame} {meth : Method} {c : Code} {H : Heap} {locs : List Loc} {cells slots : Nat} {Q : State → Prop} {ls : Array Slot} {A B : AD} {o : Nat} {G : GS} {Y : YS} {f : Nat → Int64} {Z : ZS} {b L i : Nat} {xs : Nat → Int32}
    (X : lwX l p s m c args A B o) (hI : Inv G) (hY : YI Y) (hC : lwC A B o G Y f G Z s H locs) (hl : lv_has ls 9 [(4, .int (iI ((5 * i : Nat) : Int))), (0, .ref b), (1, .ref (A.a 0)), (2, .ref (B.a 0)), (3, .ref o)]) (hi : 5 * i + 5 ≤ L) (hL : L ≤ 2560) (hX : va_X b L xs s s.heap) (hbl : b < s.heap.size) (hcl : cells + 10 ≤ room_1.cells) (hsl : slots + 60 ≤ room_1.slots)
    (kk : ∀ (G' : GS) (Y' : YS) (f' : Nat → Int64) (Z' : ZS) (H' : Heap) (locs' : List Loc) (ls' : Array Slot), Inv G' → YI Y' → lwC A B o G' Y' f' G' Z' s H' locs' → lv_has ls' 9 [(4, .int (iI ((5 * i : Nat) : Int))), (0, .ref b), (1, .ref (A.a 0)), (2, .ref (B.a 0)), (3, .ref o)] → W p l e room_1 s m args below meth c H' locs' (cells + 10) (slots + 60) Q (F0 m 1382 ls' [])) : W p l e room_1 s m args below meth c H locs cells slots Q (F0 m 1368 ls []) := by
  obtain ⟨hx, hb, hml, hown, hts⟩ := id X.1
  refine lv_aload_n hx hb dL_law_1368 rfl (lv_at hl 2 rfl) ?_
  refine l_callCl (n := 0) (As := []) (rest := []) X hC (mX3_digest l A G Y hI) rfl ⟨gL_law_X3_digest, ⟨_, rfl⟩, rfl, rfl, ⟨by decide, by decide, by decide +kernel⟩, Nat.le_of_ble_eq_true rfl, Nat.le_of_ble_eq_true rfl⟩ rfl hl.1 rfl (Nat.le_of_ble_eq_true rfl) ⟨by omega, by omega⟩ dL_law_1369 (fun z5 G5 Y5 H locs hQ5 hC => ?_)
  obtain ⟨hz5, hg5, hy5⟩ := hQ5
  rw [hg5, hy5] at hC
  rw [hz5]
  refine lv_aload_n hx hb dL_law_1372 rfl (lv_at hl 3 rfl) ?_
  refine l_callDl (n := 0) (As := []) (rest := [.long (dgT G (dgS G (dgR G 223 G.rr) 4) 4)]) X hC (mX4_digest l B G Z hI) rfl ⟨gL_law_X4_digest, ⟨_, rfl⟩, rfl, rfl, ⟨by decide, by decide, by decide +kernel⟩, Nat.le_of_ble_eq_true rfl, Nat.le_of_ble_eq_true rfl⟩ rfl hl.1 rfl (Nat.le_of_ble_eq_true rfl) ⟨by omega, by omega⟩ dL_law_1373 (fun z6 G6 Z6 H locs hQ6 hC => ?_)
  obtain ⟨t1, t2, t3⟩ := yKL.o hQ6
  rw [(t2 rfl).2] at hC
  rw [(t2 rfl).1]
  refine W.lcmp hx hb dL_law_1376 ?_
  rw [lcmp_s]
  refine li_if_eq (tgt := 1382) hx hb dL_law_1377 (by decide) (by omega) (fun c_1377 => ?_) (fun c_1377 => ?_)
  · refine W.widen (k := cells + 10) (n := slots + 60) (by omega) (by omega) ?_
    exact kk G Y f Z6 H locs ls hI hY hC (lv_sub hl [0, 1, 2, 3, 4] rfl)
  · exfalso; omega
