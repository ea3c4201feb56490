/-! 08b.more: from whole, what is needed here -/
theorem lk_I {G : GS} {Y : YS} (hI : Inv G) (hY : YI Y) : ∀ n, n ≤ 2 * G.rr → (lkI G (lk G Y n) n ∧ True) ∨ (∃ k, k < n ∧ lkI G (lk G Y k) k ∧ nos (lk G Y k) (2 * G.rr) = -1 ∧ lk G Y n = lk G Y k)
  | 0, _ => Or.inl ⟨lk0_I hI hY, trivial⟩
  | n + 1, hn => by
    rcases lk_I hI hY n (by omega) with ⟨h, -⟩ | ⟨k, h1, h2, h3, h4⟩
    · by_cases e : nos (lk G Y n) (2 * G.rr) = -1
      · exact Or.inr ⟨n, by omega, h, e, lk_stop e 1⟩
      · have hr := nos_rng (lk G Y n) (2 * G.rr)
        have ho := nos_open (lk G Y n) (2 * G.rr) e
        refine Or.inl ⟨?_, trivial⟩
        rw [lk_go e]
        exact lkE_I hI h (by omega) ho.1
    · refine Or.inr ⟨k, by omega, h2, h3, ?_⟩
      have h5 := lk_stop h3 (n + 1 - k)
      rw [show k + (n + 1 - k) = n + 1 by omega] at h5
      exact h5
theorem lka_YI {G : GS} {Y : YS} (hI : Inv G) (hY : YI Y) : YI (lka G Y) := by
  rcases lk_I hI hY (2 * G.rr) (Nat.le_refl _) with ⟨h, -⟩ | ⟨k, -, h2, -, h4⟩
  · exact h.1
  · show YI (lk G Y (2 * G.rr))
    rw [h4]; exact h2.1
theorem lka_ws {G : GS} {Y : YS} (hI : Inv G) (hY : YI Y) : (lka G Y).ws = G.vn := by
  rcases lk_I hI hY (2 * G.rr) (Nat.le_refl _) with ⟨h, -⟩ | ⟨k, -, h2, -, h4⟩
  · exact h.2.2.2
  · show (lk G Y (2 * G.rr)).ws = G.vn
    rw [h4]; exact h2.2.2.2
/-- side a is more urgent than b -/
abbrev mu (G : GS) (Y : YS) (a : Nat) (b : Int) : Prop := b = -1 ∨ (G.pr (a / 2) < G.pr (b.toNat / 2) ∨ (G.pr (a / 2) = G.pr (b.toNat / 2) ∧ mtZ Y (a : Int) < mtZ Y b))
def fnb (G : GS) (Y : YS) : Nat → Int
  | 0 => -1
  | n + 1 => if 50 ≤ G.de n ∧ ¬ mtZ Y (n : Int) = -1 ∧ mu G Y n (fnb G Y n) then (n : Int) else fnb G Y n
theorem fnb_s (G : GS) (Y : YS) (n : Nat) : fnb G Y (n + 1) = if 50 ≤ G.de n ∧ ¬ mtZ Y (n : Int) = -1 ∧ mu G Y n (fnb G Y n) then (n : Int) else fnb G Y n := rfl
theorem fnb_rng (G : GS) (Y : YS) : ∀ n, -1 ≤ fnb G Y n ∧ fnb G Y n < (n : Int)
  | 0 => by unfold fnb; omega
  | n + 1 => by have := fnb_rng G Y n; rw [fnb_s]; split <;> omega
/-- a way, from the node v, come by the road c: its sides -/
def isW (G : GS) : Nat → Int → List Nat → Prop
  | _, _, [] => True
  | v, c, k :: w => (k < 2 * G.rr ∧ G.sm k = v ∧ (((k / 2 : Nat) : Int) ≠ c ∨ G.tu v ≠ 0)) ∧ isW G (G.sm (op k)) ((k / 2 : Nat) : Int) w
/-- going it: the state behind, and the minutes -/
def flG : GS → List Nat → GS
  | g, [] => g
  | g, k :: w => flG (drv g (k / 2) k) w
def flM : GS → List Nat → Int
  | _, [] => 0
  | g, k :: w => dMin g (k / 2) k + flM (drv g (k / 2) k) w
theorem sF_side {G : GS} {v k : Nat} (hI : Inv G) (hk : k < 2 * G.rr) (h : G.sm k = v) : sF G v (k / 2) = (k : Int) := by
  have hab := hI.ab (k := k / 2) (by omega)
  unfold sF
  rcases Nat.mod_two_eq_zero_or_one k with e | e
  · rw [show 2 * (k / 2) = k by omega] at hab ⊢
    rw [if_pos h]
  · rw [show 2 * (k / 2) + 1 = k by omega] at hab ⊢
    rw [if_neg (fun q => hab (q.trans h.symm)), if_pos h]
theorem drv_Inv {G : GS} {r k : Nat} (hI : Inv G) (hr : r < G.rr) : Inv (drv G r k) := by
  have hd : ∀ j, dDe G k j ≤ 999 := fun j => by
    unfold dDe
    by_cases h : j = k
    · subst h; rw [up_s]; omega
    · rw [up_n _ _ h]
      by_cases h2 : j = op k
      · subst h2; rw [up_s]; exact Nat.min_le_left _ _
      · rw [up_n _ _ h2]; exact hI.de j
  have hsa : ∀ j, (if dSt G r k then up G.sa k 1 else G.sa) j ≤ 1 := fun j => by
    split
    · by_cases h : j = k
      · subst h; rw [up_s]; omega
      · rw [up_n _ _ h]; exact hI.sa j
    · exact hI.sa j
  have hvs : (if dSt G r k then G.vs - G.mi r else G.vs) ≤ 120 := by
    have := hI.vs
    split <;> omega
  refine ⟨hI.nn, hI.rr, hI.tu, hI.st, hI.sm, hI.mi, fun k hk => hI.mi1 hk, hI.pr, hd, hsa, hI.sm _, ⟨?_, ?_⟩, hvs, hI.vw, fun k hk => hI.ab hk⟩
  · show -1 ≤ (r : Int); omega
  · show (r : Int) < (G.rr : Int); omega
/-- what a way sees of the town stays as it was -/
def sameTown (G G' : GS) : Prop := G'.tu = G.tu ∧ G'.st = G.st ∧ G'.sm = G.sm ∧ G'.mi = G.mi ∧ G'.pr = G.pr ∧ G'.nn = G.nn ∧ G'.rr = G.rr ∧ G'.vw = G.vw
theorem sameTown.refl (G : GS) : sameTown G G := ⟨rfl, rfl, rfl, rfl, rfl, rfl, rfl, rfl⟩
theorem sameTown.trans {G1 G2 G3 : GS} (a : sameTown G1 G2) (b : sameTown G2 G3) : sameTown G1 G3 := ⟨b.1.trans a.1, b.2.1.trans a.2.1, b.2.2.1.trans a.2.2.1, b.2.2.2.1.trans a.2.2.2.1, b.2.2.2.2.1.trans a.2.2.2.2.1, b.2.2.2.2.2.1.trans a.2.2.2.2.2.1, b.2.2.2.2.2.2.1.trans a.2.2.2.2.2.2.1, b.2.2.2.2.2.2.2.trans a.2.2.2.2.2.2.2⟩
theorem drv_same (G : GS) (r k : Nat) : sameTown G (drv G r k) := ⟨rfl, rfl, rfl, rfl, rfl, rfl, rfl, rfl⟩
theorem isW_same {G G' : GS} (h : sameTown G G') : ∀ (w : List Nat) (v : Nat) (c : Int), isW G v c w → isW G' v c w
  | [], _, _, _ => trivial
  | k :: w, v, c, hw => by
    obtain ⟨h1, h2⟩ := hw
    refine ⟨?_, ?_⟩
    · rw [h.2.2.2.2.2.2.1, h.2.2.1, h.1]; exact h1
    · have := isW_same h w _ _ h2
      rw [h.2.2.1]; exact this
theorem fl_Inv : ∀ (w : List Nat) (G : GS), Inv G → isW G G.vn G.vc w → Inv (flG G w) ∧ sameTown G (flG G w)
  | [], G, hI, _ => ⟨hI, sameTown.refl G⟩
  | j :: w, G, hI, h => by
    have hj : j / 2 < G.rr := by have := h.1.1; omega
    obtain ⟨a1, a2⟩ := fl_Inv w (drv G (j / 2) j) (drv_Inv hI hj) (isW_same (drv_same G (j / 2) j) _ _ _ h.2)
    exact ⟨a1, (drv_same G (j / 2) j).trans a2⟩
theorem dMin_rng {G : GS} {r k : Nat} (hI : Inv G) : 0 ≤ dMin G r k ∧ dMin G r k ≤ 62 := by
  have := hI.mi r
  unfold dMin; split <;> split <;> omega
theorem flM_rng : ∀ (w : List Nat) (G : GS), Inv G → isW G G.vn G.vc w → 0 ≤ flM G w ∧ flM G w ≤ 62 * (w.length : Int)
  | [], _, _, _ => ⟨Int.le_refl 0, Int.le_refl _⟩
  | j :: w, G, hI, h => by
    have hj : j / 2 < G.rr := by have := h.1.1; omega
    have a1 := flM_rng w (drv G (j / 2) j) (drv_Inv hI hj) (isW_same (drv_same G (j / 2) j) _ _ _ h.2)
    have a2 := dMin_rng (r := j / 2) (k := j) hI
    show 0 ≤ dMin G (j / 2) j + flM (drv G (j / 2) j) w ∧ dMin G (j / 2) j + flM (drv G (j / 2) j) w ≤ 62 * ((w.length + 1 : Nat) : Int)
    omega
/-- the row of roads at z is the way w -/
def rowW (Y : YS) (z : Int) (w : List Nat) : Prop := w.length = layL Y z ∧ ∀ t (h : t < w.length), Y.wr z.toNat t = w[t] / 2
/-- filled up -/
def tks (G : GS) : GS := (G.vs' 120).tt' (up G.tt 0 (G.tt 0 + 4))
theorem sn_Inv {G : GS} (hI : Inv G) (mm : Nat) : Inv ((G.de' (snD G mm (2 * G.rr))).sa' (snS G (2 * G.rr))) := by
  refine ⟨hI.nn, hI.rr, hI.tu, hI.st, hI.sm, hI.mi, fun k hk => hI.mi1 hk, hI.pr, fun j => ?_, fun j => ?_, hI.vn, hI.vc, hI.vs, hI.vw, fun k hk => hI.ab hk⟩
  · show snD G mm (2 * G.rr) j ≤ 999
    unfold snD; split
    · exact Nat.min_le_left _ _
    · exact hI.de j
  · show snS G (2 * G.rr) j ≤ 1
    unfold snS; split
    · omega
    · exact hI.sa j
