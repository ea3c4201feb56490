/-! 40: what the property's words say, told of the class's own functions (whole's contracts say that its methods do these) -/
/-- the snow on the first n sides -/
def sumD (f : Nat → Nat) : Nat → Nat
  | 0 => 0
  | n + 1 => sumD f n + f n
theorem sumD_out (f : Nat → Nat) {k : Nat} (x : Nat) : ∀ n, n ≤ k → sumD (up f k x) n = sumD f n
  | 0, _ => rfl
  | n + 1, h => by
    show sumD (up f k x) n + up f k x n = sumD f n + f n
    rw [sumD_out f x n (by omega), up_n _ _ (by omega)]
theorem sumD_up (f : Nat → Nat) {k : Nat} (x : Nat) : ∀ n, k < n → sumD (up f k x) n + f k = sumD f n + x
  | 0, h => absurd h (Nat.not_lt_zero _)
  | n + 1, h => by
    show sumD (up f k x) n + up f k x n + f k = sumD f n + f n + x
    by_cases e : k = n
    · subst e; rw [sumD_out f x k (Nat.le_refl _), up_s]; omega
    · have := sumD_up f (k := k) x n (by omega)
      rw [up_n _ _ (show n ≠ k by omega)]; omega
theorem i6 {z : Int} (h : -2147483648 ≤ z ∧ z < 2147483648) : (iI z).toInt64 = Int64.ofInt z := by
  apply Int64.toInt_inj.mp
  rw [Int32.toInt_toInt64, iI_t h, Int64.toInt_ofInt_of_le (by omega) (by omega)]
/-- salt that was strewed, and salt in the plough -/
def slt (G : GS) : Int64 := G.tt 1 + Int64.ofInt (G.vs : Int)
/-- a drive: no more snow, its minutes, no salt lost -/
theorem drv_snow {G : GS} {r k : Nat} (hk : k < 2 * G.rr) : sumD (drv G r k).de (2 * G.rr) ≤ sumD G.de (2 * G.rr) := by
  show sumD (dDe G k) (2 * G.rr) ≤ _
  unfold dDe
  have h1 := sumD_up (up G.de (op k) (min 999 (G.de (op k) + G.de k / 2))) 0 (2 * G.rr) hk
  have h2 := sumD_up G.de (k := op k) (min 999 (G.de (op k) + G.de k / 2)) (2 * G.rr) (op_lt hk)
  rw [up_n _ _ (fun e => op_ne k e.symm)] at h1
  have h3 : min 999 (G.de (op k) + G.de k / 2) ≤ G.de (op k) + G.de k / 2 := Nat.min_le_right _ _
  omega
theorem drv_tt0 {G : GS} (hI : Inv G) (r k : Nat) : (drv G r k).tt 0 = G.tt 0 + Int64.ofInt (dMin G r k) := by
  have h := dMin_rng (r := r) (k := k) hI
  show dTt G.tt (dSt G r k) ((r : Int) = G.vc) (G.mi r) (dMin G r k) 0 = _
  unfold dTt
  rw [if_pos rfl, i6 (by omega)]
theorem drv_slt {G : GS} (hI : Inv G) (r k : Nat) : slt (drv G r k) = slt G := by
  have hm := hI.mi r
  show dTt G.tt (dSt G r k) ((r : Int) = G.vc) (G.mi r) (dMin G r k) 1 + Int64.ofInt ((if dSt G r k then G.vs - G.mi r else G.vs : Nat) : Int) = G.tt 1 + Int64.ofInt (G.vs : Int)
  unfold dTt
  rw [if_neg (by decide), if_pos rfl]
  by_cases h : dSt G r k
  · rw [if_pos h, if_pos h, i6 (by omega), Int64.add_assoc, ← Int64.ofInt_add]
    have := h.2.2
    rw [show (G.mi r : Int) + ((G.vs - G.mi r : Nat) : Int) = (G.vs : Int) by omega]
  · rw [if_neg h, if_neg h]
theorem fl_words : ∀ (w : List Nat) (G : GS), Inv G → isW G G.vn G.vc w → sumD (flG G w).de (2 * G.rr) ≤ sumD G.de (2 * G.rr) ∧ (flG G w).tt 0 = G.tt 0 + Int64.ofInt (flM G w) ∧ slt (flG G w) = slt G
  | [], G, _, _ => ⟨Nat.le_refl _, (Int64.add_zero _).symm, rfl⟩
  | j :: w, G, hI, h => by
    have hj : j / 2 < G.rr := by have := h.1.1; omega
    obtain ⟨a, b, c⟩ := fl_words w (drv G (j / 2) j) (drv_Inv hI hj) (isW_same (drv_same G (j / 2) j) _ _ _ h.2)
    refine ⟨Nat.le_trans a (drv_snow h.1.1), ?_, c.trans (drv_slt hI _ _)⟩
    show (flG (drv G (j / 2) j) w).tt 0 = G.tt 0 + Int64.ofInt (dMin G (j / 2) j + flM (drv G (j / 2) j) w)
    rw [b, drv_tt0 hI, Int64.ofInt_add, Int64.add_assoc]
/-- from p to q: the same town, no more snow, the minutes told, f of salt filled in -/
def pcl (p q : Int × GS) (f : Int) : Prop := sameTown p.2 q.2 ∧ sumD q.2.de (2 * p.2.rr) ≤ sumD p.2.de (2 * p.2.rr) ∧ q.2.tt 0 = p.2.tt 0 + Int64.ofInt (q.1 - p.1) ∧ slt q.2 = slt p.2 + Int64.ofInt f
theorem pcl.refl (p : Int × GS) : pcl p p 0 := ⟨sameTown.refl _, Nat.le_refl _, by rw [Int.sub_self]; exact (Int64.add_zero _).symm, (Int64.add_zero _).symm⟩
theorem pcl.trans {p q r : Int × GS} {f g : Int} (a : pcl p q f) (b : pcl q r g) : pcl p r (f + g) := by
  obtain ⟨a1, a2, a3, a4⟩ := a
  obtain ⟨b1, b2, b3, b4⟩ := b
  have hr : q.2.rr = p.2.rr := a1.2.2.2.2.2.2.1
  rw [hr] at b2
  refine ⟨a1.trans b1, Nat.le_trans b2 a2, ?_, ?_⟩
  · rw [b3, a3, Int64.add_assoc, ← Int64.ofInt_add, show q.1 - p.1 + (r.1 - q.1) = r.1 - p.1 by omega]
  · rw [b4, a4, Int64.add_assoc, ← Int64.ofInt_add]
/-- what is filled in on the way -/
noncomputable def filF (p : Int × GS) : Int := if (p.2.vw ≠ 0 ∧ p.2.vs < p.2.mi ((nxt p.2).toNat / 2)) ∧ sto p.2 ≠ -1 then ((120 - (flG p.2 (spW p.2 (sto p.2) (-1))).vs : Nat) : Int) else 0
theorem tks_slt {G : GS} (hI : Inv G) : slt (tks G) = slt G + Int64.ofInt ((120 - G.vs : Nat) : Int) := by
  have h := hI.vs
  show up G.tt 0 (G.tt 0 + 4) 1 + Int64.ofInt ((120 : Nat) : Int) = G.tt 1 + Int64.ofInt (G.vs : Int) + Int64.ofInt ((120 - G.vs : Nat) : Int)
  rw [up_n _ _ (by decide), Int64.add_assoc, ← Int64.ofInt_add, show (G.vs : Int) + ((120 - G.vs : Nat) : Int) = ((120 : Nat) : Int) by omega]
theorem cF_words {p : Int × GS} (hI : Inv p.2) : pcl p (cF9 p) (filF p) := by
  unfold cF9 filF
  split
  · rename_i h
    obtain ⟨a, b, c⟩ := sto_ok hI h.2
    obtain ⟨d1, d2, d3⟩ := fl_words _ _ hI b.1
    obtain ⟨e1, e2⟩ := fl_Inv _ _ hI b.1
    refine ⟨e2.trans ⟨rfl, rfl, rfl, rfl, rfl, rfl, rfl, rfl⟩, d1, ?_, ?_⟩
    · show (flG p.2 (spW p.2 (sto p.2) (-1))).tt 0 + 4 = p.2.tt 0 + Int64.ofInt (p.1 + (flM p.2 (spW p.2 (sto p.2) (-1)) + 4) - p.1)
      rw [d2, show p.1 + (flM p.2 (spW p.2 (sto p.2) (-1)) + 4) - p.1 = flM p.2 (spW p.2 (sto p.2) (-1)) + 4 by omega, Int64.ofInt_add, Int64.add_assoc]
      rfl
    · show slt (tks (flG p.2 (spW p.2 (sto p.2) (-1)))) = _
      rw [tks_slt e1, d3]
  · exact pcl.refl p
theorem cD_words {p : Int × GS} (hI : Inv p.2) : pcl p (cD9 p) 0 := by
  unfold cD9
  by_cases h : nxt p.2 = -1
  · rw [if_pos h]; exact pcl.refl p
  · rw [if_neg h]
    obtain ⟨a, b, c⟩ := nxt_ok hI h
    obtain ⟨d1, d2, d3⟩ := fl_words _ _ hI b.1
    refine ⟨(fl_Inv _ _ hI b.1).2, d1, ?_, by rw [show slt _ = slt p.2 from d3]; exact (Int64.add_zero _).symm⟩
    show (flG p.2 (spW p.2 (-1) (nxt p.2))).tt 0 = p.2.tt 0 + Int64.ofInt (p.1 + flM p.2 (spW p.2 (-1) (nxt p.2)) - p.1)
    rw [d2, show p.1 + flM p.2 (spW p.2 (-1) (nxt p.2)) - p.1 = flM p.2 (spW p.2 (-1) (nxt p.2)) by omega]
noncomputable def clF (lim : Int) : Nat → Int × GS → Int
  | 0, _ => 0
  | n + 1, p => if p.1 < lim ∧ nxt p.2 ≠ -1 then filF p + clF lim n (cD9 (cF9 p)) else 0
theorem clr_words (lim : Int) : ∀ (n : Nat) (p : Int × GS), Inv p.2 → pcl p (clr lim n p) (clF lim n p) ∧ Inv (clr lim n p).2 ∧ p.1 ≤ (clr lim n p).1 ∧ (lim ≤ p.1 + (n : Int) → (clr lim n p).1 < lim → nxt (clr lim n p).2 = -1)
  | 0, p, hI => ⟨pcl.refl p, hI, Int.le_refl _, fun h q => absurd (show p.1 < lim from q) (by omega)⟩
  | n + 1, p, hI => by
    rw [clr_s]
    show pcl p _ (if p.1 < lim ∧ nxt p.2 ≠ -1 then filF p + clF lim n (cD9 (cF9 p)) else 0) ∧ _
    by_cases h : p.1 < lim ∧ nxt p.2 ≠ -1
    · rw [if_pos h, if_pos h]
      obtain ⟨c1, c2, c3⟩ := cR_ok hI h.2
      obtain ⟨d1, d2, d3, d4⟩ := clr_words lim n (cD9 (cF9 p)) c1
      refine ⟨?_, d2, by omega, fun e q => d4 (by omega) q⟩
      have := ((cF_words hI).trans (cD_words (cF_ok hI).1)).trans d1
      rw [Int.add_zero] at this
      exact this
    · rw [if_neg h, if_neg h]
      exact ⟨pcl.refl p, hI, Int.le_refl _, fun _ q => Decidable.byContradiction fun e => h ⟨q, e⟩⟩
/-- CLEAR, from any state of the planner: no more snow in all; the minutes of all grow by what is told; less than the limit told: no next side; the salt is what it was and what was filled in; never more than 120 in the plough -/
theorem clear_words {G : GS} (hI : Inv G) {z : Int} (hz : 0 ≤ z ∧ z ≤ 300) :
    Inv (clr z z.toNat ((0 : Int), G)).2 ∧ sameTown G (clr z z.toNat ((0 : Int), G)).2 ∧ 0 ≤ (clr z z.toNat ((0 : Int), G)).1
    ∧ sumD (clr z z.toNat ((0 : Int), G)).2.de (2 * G.rr) ≤ sumD G.de (2 * G.rr)
    ∧ (clr z z.toNat ((0 : Int), G)).2.tt 0 = G.tt 0 + Int64.ofInt (clr z z.toNat ((0 : Int), G)).1
    ∧ ((clr z z.toNat ((0 : Int), G)).1 < z → nxt (clr z z.toNat ((0 : Int), G)).2 = -1)
    ∧ slt (clr z z.toNat ((0 : Int), G)).2 = slt G + Int64.ofInt (clF z z.toNat ((0 : Int), G))
    ∧ (clr z z.toNat ((0 : Int), G)).2.vs ≤ 120 := by
  obtain ⟨⟨a1, a2, a3, a4⟩, b, c, d⟩ := clr_words z z.toNat ((0 : Int), G) hI
  refine ⟨b, a1, c, a2, ?_, fun q => d (show z ≤ 0 + ((z.toNat : Nat) : Int) by omega) q, a4, b.vs⟩
  rw [a3, show (clr z z.toNat ((0 : Int), G)).1 - ((0 : Int), G).1 = (clr z z.toNat ((0 : Int), G)).1 from Int.sub_zero _]
/-- .. and then next() answers -1, whatever ways were laid before -/
theorem clear_next {G : GS} (hI : Inv G) {z : Int} (hz : 0 ≤ z ∧ z ≤ 300) (h : (clr z z.toNat ((0 : Int), G)).1 < z) {Y : YS} (hY : YI Y) : fnb (clr z z.toNat ((0 : Int), G)).2 (lka (clr z z.toNat ((0 : Int), G)).2 Y) (2 * (clr z z.toNat ((0 : Int), G)).2.rr) = -1 := by
  obtain ⟨a, -, -, -, -, b, -⟩ := clear_words hI hz
  rw [fnb_S a hY _ (Nat.le_refl _)]
  exact b h
/-- GO works just if the node is an end of the road, and the road is not the one by which it came, or the node is a turning place -/
theorem go_can {G : GS} {r : Nat} (hr : r < G.rr) : kGo G (r : Int) = 0 ↔ (G.sm (2 * r) = G.vn ∨ G.sm (2 * r + 1) = G.vn) ∧ ((r : Int) ≠ G.vc ∨ G.tu G.vn ≠ 0) := by
  unfold kGo cG sF
  rw [if_pos (by omega), Int.toNat_natCast]
  by_cases h1 : G.sm (2 * r) = G.vn
  · rw [if_pos h1, Int.toNat_natCast, show ((2 * r : Nat) : Int) / 2 = (r : Int) by omega]
    constructor
    · intro h
      by_cases q : (0 ≤ ((2 * r : Nat) : Int) ∧ ((2 * r : Nat) : Int) < ((2 * G.rr : Nat) : Int)) ∧ G.sm (2 * r) = G.vn ∧ ((r : Int) ≠ G.vc ∨ G.tu G.vn ≠ 0)
      · exact ⟨Or.inl h1, q.2.2⟩
      · rw [if_neg q] at h; cases h
    · intro h
      exact if_pos ⟨by omega, h1, h.2⟩
  · rw [if_neg h1]
    by_cases h2 : G.sm (2 * r + 1) = G.vn
    · rw [if_pos h2, Int.toNat_natCast, show ((2 * r + 1 : Nat) : Int) / 2 = (r : Int) by omega]
      constructor
      · intro h
        by_cases q : (0 ≤ ((2 * r + 1 : Nat) : Int) ∧ ((2 * r + 1 : Nat) : Int) < ((2 * G.rr : Nat) : Int)) ∧ G.sm (2 * r + 1) = G.vn ∧ ((r : Int) ≠ G.vc ∨ G.tu G.vn ≠ 0)
        · exact ⟨Or.inr h2, q.2.2⟩
        · rw [if_neg q] at h; cases h
      · intro h
        exact if_pos ⟨by omega, h2, h.2⟩
    · rw [if_neg h2]
      constructor
      · intro h
        rw [if_neg (fun q => absurd q.1.1 (by decide))] at h; cases h
      · intro h
        exact absurd h.1 (fun q => q.elim h1 h2)
/-- .. then it is at the other end, came by this road, the side is bare, and no salt is lost -/
theorem go_did {G : GS} (hI : Inv G) {r : Nat} (hr : r < G.rr) (h : kGo G (r : Int) = 0) :
    (drv G r (sF G G.vn r).toNat).vn ≠ G.vn ∧ (drv G r (sF G G.vn r).toNat).vc = (r : Int) ∧ (drv G r (sF G G.vn r).toNat).de (2 * r + (if G.sm (2 * r) = G.vn then 0 else 1)) = 0 ∧ slt (drv G r (sF G G.vn r).toNat) = slt G ∧ Inv (drv G r (sF G G.vn r).toNat) := by
  have hc := (go_can hr).mp h
  have hab := hI.ab hr
  have he : (sF G G.vn r).toNat = 2 * r + (if G.sm (2 * r) = G.vn then 0 else 1) := by
    unfold sF
    by_cases h1 : G.sm (2 * r) = G.vn
    · rw [if_pos h1, if_pos h1]; rfl
    · rw [if_neg h1, if_neg h1, if_pos (hc.1.elim (fun q => absurd q h1) id)]; rfl
  refine ⟨?_, rfl, ?_, drv_slt hI _ _, drv_Inv hI hr⟩
  · rw [he]
    show G.sm (op (2 * r + (if G.sm (2 * r) = G.vn then 0 else 1))) ≠ G.vn
    by_cases h1 : G.sm (2 * r) = G.vn
    · rw [if_pos h1, show op (2 * r + 0) = 2 * r + 1 by unfold op; rw [if_pos (by omega)]]
      exact fun q => hab (h1.trans q.symm)
    · rw [if_neg h1, show op (2 * r + 1) = 2 * r by unfold op; rw [if_neg (by omega)]; omega]
      exact h1
  · rw [he]
    exact up_s _ _ _
/-- FILL: the salt is what it was and what was filled in; 120 in the plough -/
theorem fill_words {G : GS} (hI : Inv G) : slt ((G.vs' 120).tt' (up G.tt 0 (G.tt 0 + 4))) = slt G + Int64.ofInt ((120 - G.vs : Nat) : Int) ∧ ((G.vs' 120).tt' (up G.tt 0 (G.tt 0 + 4))).vs = 120 := ⟨tks_slt hI, rfl⟩
/-- BARE lies from 0 to 1 (as dcmpl and dcmpg compare) -/
theorem bare_01 : ∀ r : Fin 12, ∀ c : Fin 25, c.val ≤ 2 * (r.val + 1) → (0 ≤ (Op.cmpValue (FP.dcmp (FP.ddiv (FP.i2d (iI ((c.val : Nat) : Int))) (FP.i2d (iI ((2 * (r.val + 1) : Nat) : Int)))) FP.dconst0) .l)) ∧ (Op.cmpValue (FP.dcmp (FP.ddiv (FP.i2d (iI ((c.val : Nat) : Int))) (FP.i2d (iI ((2 * (r.val + 1) : Nat) : Int)))) FP.dconst1) .g ≤ 0) := by decide +kernel
