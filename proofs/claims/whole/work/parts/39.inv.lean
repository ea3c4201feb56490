/-! 39: the state stays as it must be; the reached nodes; how the reference's end is told -/
theorem up_le {f : Nat → Nat} {k x b : Nat} (h : ∀ j, f j ≤ b) (hx : x ≤ b) : ∀ j, up f k x j ≤ b := fun j => by
  by_cases e : j = k
  · subst e; rw [up_s]; exact hx
  · rw [up_n _ _ e]; exact h j
theorem up_lt {f : Nat → Nat} {k x b : Nat} (h : ∀ j, f j < b) (hx : x < b) : ∀ j, up f k x j < b := fun j => by
  by_cases e : j = k
  · subst e; rw [up_s]; exact hx
  · rw [up_n _ _ e]; exact h j
theorem Inv_addNode {G : GS} (hI : Inv G) {t u : Nat} (ht : t ≤ 1) (hu : u ≤ 1) (hn : G.nn < 8) : Inv (((G.tu' (up G.tu G.nn t)).st' (up G.st G.nn u)).nn' (G.nn + 1)) :=
  ⟨⟨Nat.le_add_left 1 _, hn⟩, hI.rr, up_le hI.tu ht, up_le hI.st hu, fun k => Nat.lt_succ_of_lt (hI.sm k), hI.mi, fun _ hk => hI.mi1 hk, hI.pr, hI.de, hI.sa, Nat.lt_succ_of_lt hI.vn, hI.vc, hI.vs, hI.vw, fun _ hk => hI.ab hk⟩
theorem Inv_setNode {G : GS} (hI : Inv G) {z : Int} {b x : Nat} (hx : x ≤ 1) : Inv ((G.tu' (if b ≠ 0 then G.tu else up G.tu (z).toNat x)).st' (if b ≠ 0 then up G.st (z).toNat x else G.st)) := by
  refine ⟨hI.nn, hI.rr, ?_, ?_, hI.sm, hI.mi, fun _ hk => hI.mi1 hk, hI.pr, hI.de, hI.sa, hI.vn, hI.vc, hI.vs, hI.vw, fun _ hk => hI.ab hk⟩
  · show ∀ k, (if b ≠ 0 then G.tu else up G.tu z.toNat x) k ≤ 1
    split
    · exact hI.tu
    · exact up_le hI.tu hx
  · show ∀ k, (if b ≠ 0 then up G.st z.toNat x else G.st) k ≤ 1
    split
    · exact up_le hI.st hx
    · exact hI.st
theorem Inv_addRoad {G : GS} (hI : Inv G) {a b mm q : Int} (h : kRoad G a b mm q = 0) : Inv ((((G.sm' (up (up G.sm (2 * G.rr) (a).toNat) (2 * G.rr + 1) (b).toNat)).mi' (up G.mi G.rr (mm).toNat)).pr' (up G.pr G.rr (q).toNat)).rr' (G.rr + 1)) := by
  unfold kRoad at h
  by_cases h1 : (0 ≤ a ∧ a < (G.nn : Int)) ∧ (0 ≤ b ∧ b < (G.nn : Int))
  · rw [if_pos h1] at h
    by_cases h2 : a ≠ b ∧ (1 ≤ mm ∧ mm ≤ 30) ∧ (0 ≤ q ∧ q ≤ 2)
    · rw [if_pos h2] at h
      by_cases h3 : G.rr < 12
      · have hvc := hI.vc
        refine ⟨hI.nn, h3, hI.tu, hI.st, up_lt (up_lt hI.sm (show a.toNat < G.nn by omega)) (show b.toNat < G.nn by omega), up_le hI.mi (by omega), fun k hk => ?_, up_le hI.pr (by omega), hI.de, hI.sa, hI.vn, ⟨hvc.1, ?_⟩, hI.vs, hI.vw, fun k hk => ?_⟩
        · show 1 ≤ up G.mi G.rr mm.toNat k
          have hk : k < G.rr + 1 := hk
          by_cases e : k = G.rr
          · subst e; rw [up_s]; omega
          · rw [up_n _ _ e]; exact hI.mi1 (by omega)
        · show G.vc < ((G.rr + 1 : Nat) : Int); omega
        · show up (up G.sm (2 * G.rr) a.toNat) (2 * G.rr + 1) b.toNat (2 * k) ≠ up (up G.sm (2 * G.rr) a.toNat) (2 * G.rr + 1) b.toNat (2 * k + 1)
          have hk : k < G.rr + 1 := hk
          by_cases e : k = G.rr
          · subst e
            rw [up_s, up_n _ _ (by omega), up_s]; omega
          · rw [up_n _ _ (by omega), up_n _ _ (by omega), up_n _ _ (by omega), up_n _ _ (by omega)]
            exact hI.ab (by omega)
      · rw [if_neg h3] at h; cases h
    · rw [if_neg h2] at h; cases h
  · rw [if_neg h1] at h; cases h
theorem Inv_strew {G : GS} (hI : Inv G) {b : Nat} (hb : b ≤ 1) : Inv (G.vw' b) := ⟨hI.nn, hI.rr, hI.tu, hI.st, hI.sm, hI.mi, fun _ hk => hI.mi1 hk, hI.pr, hI.de, hI.sa, hI.vn, hI.vc, hI.vs, hb, fun _ hk => hI.ab hk⟩
theorem Inv_clr {lim : Int} : ∀ (n : Nat) (p : Int × GS), Inv p.2 → Inv (clr lim n p).2
  | 0, _, h => h
  | n + 1, p, h => by
    rw [clr_s]
    by_cases q : p.1 < lim ∧ nxt p.2 ≠ -1
    · rw [if_pos q]; exact Inv_clr n _ (cR_ok h q.2).1
    · rw [if_neg q]; exact h
theorem kRoad_le (G : GS) (a b m q : Int) : kRoad G a b m q ≤ 3 := by unfold kRoad; split <;> (try split) <;> (try split) <;> omega
theorem kGo_le (G : GS) (z : Int) : kGo G z ≤ 3 := by
  unfold kGo
  by_cases h : 0 ≤ z ∧ z < (G.rr : Int)
  · rw [if_pos h]; split <;> omega
  · rw [if_neg h]; omega
theorem kGo_0 {G : GS} {z : Int} (h : kGo G z = 0) : z.toNat < G.rr := by
  unfold kGo at h
  by_cases h1 : 0 ≤ z ∧ z < (G.rr : Int)
  · omega
  · rw [if_neg h1] at h; cases h
/-- bits -/
def bc (z : Nat) : Nat → Nat
  | 0 => 0
  | n + 1 => bc z n + (if z.testBit n = true then 1 else 0)
theorem bc_le {z z' : Nat} (h : ∀ i, z.testBit i = true → z'.testBit i = true) : ∀ n, bc z n ≤ bc z' n
  | 0 => Nat.le_refl _
  | n + 1 => by
    have := bc_le h n
    show bc z n + _ ≤ bc z' n + _
    by_cases e : z.testBit n = true
    · rw [if_pos e, if_pos (h n e)]; omega
    · rw [if_neg e]; omega
theorem bc_lt {z z' i : Nat} (h : ∀ i, z.testBit i = true → z'.testBit i = true) (h1 : ¬ z.testBit i = true) (h2 : z'.testBit i = true) : ∀ n, i < n → bc z n < bc z' n
  | 0, hi => absurd hi (Nat.not_lt_zero _)
  | n + 1, hi => by
    show bc z n + _ < bc z' n + _
    by_cases e : i = n
    · subst e
      have := bc_le h i
      rw [if_neg h1, if_pos h2]; omega
    · have := bc_lt h h1 h2 n (by omega)
      by_cases e2 : z.testBit n = true
      · rw [if_pos e2, if_pos (h n e2)]; omega
      · rw [if_neg e2]; omega
theorem bc_max (z : Nat) : ∀ n, bc z n ≤ n
  | 0 => Nat.le_refl _
  | n + 1 => by
    have := bc_max z n
    show bc z n + _ ≤ n + 1
    split <;> omega
theorem wnb_sub (G : GS) (z : Nat) : ∀ n i, z.testBit i = true → (wnb G z n).testBit i = true
  | 0, _, h => h
  | n + 1, i, h => by
    have := wnb_sub G z n i h
    rw [wnb_s]
    split
    · rw [Nat.testBit_or, this]; rfl
    · exact this
theorem wnb_in {G : GS} (hI : Inv G) {z : Nat} (hz : ∀ i, z.testBit i = true → i < G.nn) : ∀ n i, (wnb G z n).testBit i = true → i < G.nn
  | 0, i, h => hz i h
  | n + 1, i, h => by
    rw [wnb_s] at h
    split at h
    · rw [Nat.testBit_or, Bool.or_eq_true] at h
      rcases h with h | h
      · exact wnb_in hI hz n i h
      · rw [Nat.testBit_two_pow] at h
        have e := of_decide_eq_true h
        rw [← e]; exact hI.sm _
    · exact wnb_in hI hz n i h
theorem itw_in {G : GS} (hI : Inv G) {k : Nat} (hk : k < G.nn) : ∀ n i, (itw G (2 ^ k) n).testBit i = true → i < G.nn
  | 0, i, h => by
    rw [show itw G (2 ^ k) 0 = 2 ^ k from rfl, Nat.testBit_two_pow] at h
    have e := of_decide_eq_true h
    rw [← e]; exact hk
  | n + 1, i, h => wnb_in hI (itw_in hI hk n) _ i h
theorem itw_stop {G : GS} {z n : Nat} (h : itw G z (n + 1) = itw G z n) : ∀ j, itw G z (n + j) = itw G z n
  | 0 => rfl
  | j + 1 => by
    show wnb G (itw G z (n + j)) (2 * G.rr) = _
    rw [itw_stop h j]; exact h
theorem itw_step {G : GS} (hI : Inv G) {k n : Nat} (hk : k < G.nn) (hne : itw G (2 ^ k) (n + 1) ≠ itw G (2 ^ k) n) : bc (itw G (2 ^ k) n) G.nn < bc (itw G (2 ^ k) (n + 1)) G.nn := by
  have hsub : ∀ i, (itw G (2 ^ k) n).testBit i = true → (itw G (2 ^ k) (n + 1)).testBit i = true := fun i h => wnb_sub G _ _ i h
  have hex : ∃ i, ¬ (itw G (2 ^ k) n).testBit i = true ∧ (itw G (2 ^ k) (n + 1)).testBit i = true := Classical.byContradiction (fun q => hne (Nat.eq_of_testBit_eq (fun i => by
    cases h1 : (itw G (2 ^ k) n).testBit i with
    | true => exact hsub i h1
    | false =>
      cases h2 : (itw G (2 ^ k) (n + 1)).testBit i with
      | false => rfl
      | true => exact absurd ⟨i, by rw [h1]; decide, h2⟩ q)))
  obtain ⟨i, h1, h2⟩ := hex
  exact bc_lt hsub h1 h2 G.nn (itw_in hI hk (n + 1) i h2)
theorem itw_grow {G : GS} (hI : Inv G) {k : Nat} (hk : k < G.nn) (n : Nat) : (∃ j, j ≤ n ∧ itw G (2 ^ k) (j + 1) = itw G (2 ^ k) j) ∨ n + 2 ≤ bc (itw G (2 ^ k) (n + 1)) G.nn := by
  induction n with
  | zero =>
    by_cases e : itw G (2 ^ k) (0 + 1) = itw G (2 ^ k) 0
    · exact Or.inl ⟨0, Nat.le_refl _, e⟩
    · right
      have hs := itw_step hI hk e
      have h1 : 1 ≤ bc (itw G (2 ^ k) 0) G.nn := by
        have h0 : ∀ i, (0 : Nat).testBit i = true → (itw G (2 ^ k) 0).testBit i = true := fun i h => by rw [Nat.zero_testBit] at h; cases h
        have := bc_lt h0 (i := k) (by rw [Nat.zero_testBit]; decide) (by show (2 ^ k).testBit k = true; rw [Nat.testBit_two_pow]; exact decide_eq_true rfl) G.nn hk
        omega
      omega
  | succ n ih =>
    by_cases e : itw G (2 ^ k) (n + 1 + 1) = itw G (2 ^ k) (n + 1)
    · exact Or.inl ⟨n + 1, Nat.le_refl _, e⟩
    · have hs := itw_step hI hk e
      rcases ih with ⟨j, hj, h⟩ | h
      · exact Or.inl ⟨j, by omega, h⟩
      · right; omega
theorem itw_8 {G : GS} (hI : Inv G) {k : Nat} (hk : k < G.nn) : itw G (2 ^ k) 8 = itw G (2 ^ k) (G.nn - 1) := by
  have hn := hI.nn
  rcases itw_grow hI hk (G.nn - 1) with ⟨j, hj, h⟩ | h
  · have h1 := itw_stop h (8 - j)
    have h2 := itw_stop h (G.nn - 1 - j)
    rw [show j + (8 - j) = 8 by omega] at h1
    rw [show j + (G.nn - 1 - j) = G.nn - 1 by omega] at h2
    exact h1.trans h2.symm
  · have := bc_max (itw G (2 ^ k) (G.nn - 1 + 1)) G.nn
    omega
theorem yKI.o {K : Nat} {v : Int} {G0 G' : GS} {Z0 Z' : ZS} {z : Int} {g : GS} {t : ZS} (h : yKI K v G0 G' Z0 Z' z g t) : t.th = K ∧ (K = 0 → z = v ∧ g = G') ∧ (K ≠ 0 → z = 0 ∧ g = G0) := by
  rcases h with ⟨h0, h1, h2, h3⟩ | ⟨h0, h1, h2, h3⟩
  · exact ⟨by rw [h3, h0]; rfl, fun _ => ⟨h1, h2⟩, fun q => absurd h0 q⟩
  · exact ⟨by rw [h3]; rfl, fun q => absurd q h0, fun _ => ⟨h1, h2⟩⟩
theorem yKJ.o {K : Nat} {v : Int} {G0 G' : GS} {z : Int} {g : GS} {t : ZS} (h : yKJ K v G0 G' z g t) : t.th = K ∧ (K = 0 → z = v ∧ g = G') ∧ (K ≠ 0 → z = 0 ∧ g = G0) := by
  rcases h with ⟨h0, h1, h2, h3⟩ | ⟨h0, h1, h2, h3⟩
  · exact ⟨by rw [h3, h0], fun _ => ⟨h1, h2⟩, fun q => absurd h0 q⟩
  · exact ⟨h3, fun q => absurd q h0, fun _ => ⟨h1, h2⟩⟩
theorem yKL.o {K : Nat} {v : Int64} {G0 G' : GS} {Z0 Z' : ZS} {z : Int64} {g : GS} {t : ZS} (h : yKL K v G0 G' Z0 Z' z g t) : t.th = K ∧ (K = 0 → z = v ∧ g = G') ∧ (K ≠ 0 → z = 0 ∧ g = G0) := by
  rcases h with ⟨h0, h1, h2, h3⟩ | ⟨h0, h1, h2, h3⟩
  · exact ⟨by rw [h3, h0]; rfl, fun _ => ⟨h1, h2⟩, fun q => absurd h0 q⟩
  · exact ⟨by rw [h3]; rfl, fun q => absurd q h0, fun _ => ⟨h1, h2⟩⟩
section SL
variable {p : Program} {l : Launch} {e : Env} {R : Room} {s : State} {m : MethodId} {args : Array Value} {below : List Frame} {meth : Method} {c : Code} {H : Heap} {locs : List Loc} {cells slots : Nat} {Q : State → Prop}
variable {pc : Nat} {ls : Array Slot} {rest st0 : List Value} {A B : AD} {o : Nat} {G G2 : GS} {Y : YS} {f : Nat → Int64} {Z : ZS}
theorem l_sld {b L k0 : Nat} {xs : Nat → Int32} {z : Int} (X : lwX l p s m c args A B o) (hC : lwC A B o G Y f G2 Z s H locs) (hX : va_X b L xs s s.heap) (hbl : b < s.heap.size) (hL : L ≤ 2560) (hk : k0 < L) (ez : xs k0 = iI z) (hdg : decode code pc = .ok (.iaload, 1)) (k : W p l e R s m args below meth c H locs cells slots Q (F0 m (pc + 1) ls (.int (iI z) :: rest))) : W p l e R s m args below meth c H locs cells slots Q (F0 m pc ls (.int (iI ((k0 : Nat) : Int)) :: .ref b :: rest)) :=
  va_sld (A := lwN s) X.1.1 X.1.2.1 hX hbl (Nat.not_le.mpr hbl) hC.2 (iI_in (k := k0) rfl hk (by omega)) hdg (by rw [iI_cl (k := k0) rfl (by omega), ez]; exact k)
theorem l_slen {b L : Nat} {xs : Nat → Int32} (X : lwX l p s m c args A B o) (hC : lwC A B o G Y f G2 Z s H locs) (hX : va_X b L xs s s.heap) (hbl : b < s.heap.size) (hdg : decode code pc = .ok (.arraylength, 1)) (k : W p l e R s m args below meth c H locs cells slots Q (F0 m (pc + 1) ls (.int (iI ((L : Nat) : Int)) :: rest))) : W p l e R s m args below meth c H locs cells slots Q (F0 m pc ls (.ref b :: rest)) :=
  va_slen (A := lwN s) X.1.1 X.1.2.1 hX hbl (Nat.not_le.mpr hbl) hC.2 hdg (by rw [iI_nat] at k; exact k)
end SL
