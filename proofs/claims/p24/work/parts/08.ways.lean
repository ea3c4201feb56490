/-! 08.ways: from whole, what is needed here -/
def cpr (wr : Nat → Nat → Nat) (a b len : Nat) : Nat → Nat := fun j => if j < len then wr a j else wr b j
/-- the first difference decides: n places from t on -/
def lexB (f g : Nat → Nat) : Nat → Nat → Bool
  | 0, _ => false
  | n + 1, t => if f t = g t then lexB f g n (t + 1) else decide (f t < g t)
abbrev shr (Y : YS) (i j : Nat) : Prop := Y.wm i < Y.wm j ∨ (Y.wm i = Y.wm j ∧ (Y.wl i < Y.wl j ∨ (Y.wl i = Y.wl j ∧ lexB (Y.wr i) (Y.wr j) (Y.wl i) 0 = true)))
def layL (Y : YS) (z : Int) : Nat := if z = -1 then 0 else Y.wl z.toNat
def layM (Y : YS) (z : Int) : Int := if z = -1 then 0 else Y.wm z.toNat
def mtZ (Y : YS) (z : Int) : Int := if z = -1 then -1 else Y.wm z.toNat
def rdZ (Y : YS) (z : Int) (t : Nat) : Int := if t < layL Y z then (Y.wr z.toNat t : Int) else -1
def lay (G : GS) (Y : YS) (z : Int) (k x : Nat) : YS := ((Y.wr' (up Y.wr 24 (up (cpr Y.wr z.toNat 24 (layL Y z)) (layL Y z) (k / 2)))).wl' (up Y.wl 24 (layL Y z + 1))).wm' (up Y.wm 24 (layM Y z + (G.mi (k / 2) : Int) + (x : Int)))
def tk (Y : YS) (i : Nat) : YS := ((Y.wr' (up Y.wr i (cpr Y.wr 24 i (Y.wl 24)))).wm' (up Y.wm i (Y.wm 24))).wl' (up Y.wl i (Y.wl 24))
def gsX (i : Nat) (c : Int) : Nat := if ((i / 2 : Nat) : Int) = c then 2 else 0
def gsL (G : GS) (Y : YS) (z : Int) (i x : Nat) : YS := if (lay G Y z i x).wm i = -1 ∨ shr (lay G Y z i x) 24 i then tk (lay G Y z i x) i else lay G Y z i x
def gst (G : GS) (Y : YS) (z : Int) (v : Nat) (c : Int) (i : Nat) : YS := if Y.we i = 0 ∧ cG G v c (i : Int) then gsL G Y z i (gsX i c) else Y
theorem gsX_le (i : Nat) (c : Int) : gsX i c ≤ 2 := by unfold gsX; split <;> omega
def gof (G : GS) (Y : YS) (z : Int) (v : Nat) (c : Int) : Nat → YS
  | 0 => Y
  | n + 1 => gst G (gof G Y z v c n) z v c n
def nos (Y : YS) : Nat → Int
  | 0 => -1
  | n + 1 => if Y.we n = 0 ∧ ¬ Y.wm n = -1 ∧ (nos Y n = -1 ∨ Y.wm n < Y.wm (nos Y n).toNat) then (n : Int) else nos Y n
def fgM (Y : YS) (i : Nat) : Nat → Int := fun k => if k < i then -1 else Y.wm k
def fgL (Y : YS) (i : Nat) : Nat → Nat := fun k => if k < i then 0 else Y.wl k
def fgE (Y : YS) (i : Nat) : Nat → Nat := fun k => if k < i then 0 else Y.we k
def fgt (Y : YS) : YS := ((Y.wm' (fgM Y 24)).wl' (fgL Y 24)).we' (fgE Y 24)
def lk0 (G : GS) (Y : YS) : YS := gof G (fgt (Y.ws' G.vn)) (-1) G.vn G.vc (2 * G.rr)
def lkE (G : GS) (Y : YS) (k : Nat) : YS := gof G (Y.we' (up Y.we k 1)) (k : Int) (G.sm (op k)) ((k / 2 : Nat) : Int) (2 * G.rr)
def lkS (G : GS) (Y : YS) : YS := if nos Y (2 * G.rr) = -1 then Y else lkE G Y (nos Y (2 * G.rr)).toNat
def lk (G : GS) (Y : YS) : Nat → YS
  | 0 => lk0 G Y
  | n + 1 => lkS G (lk G Y n)
def lka (G : GS) (Y : YS) : YS := lk G Y (2 * G.rr)
def lst (G : GS) (Y : YS) (v : Nat) : Nat → Int
  | 0 => -1
  | n + 1 => if G.sm (op n) = v ∧ ¬ Y.wm n = -1 ∧ (lst G Y v n = -1 ∨ shr Y n (lst G Y v n).toNat) then (n : Int) else lst G Y v n
def lstZ (G : GS) (Y : YS) (v : Nat) : Int := if v = Y.ws then -1 else lst G Y v (2 * G.rr)
def mnZ (G : GS) (Y : YS) (v : Nat) : Int := if v = Y.ws then 0 else mtZ Y (lstZ G Y v)
/-- what holds of the rows of the ways at any time -/
def YI (Y : YS) : Prop := (∀ k, -1 ≤ Y.wm k ∧ Y.wm k ≤ 32 * (Y.wl k : Int)) ∧ (∀ k, Y.wl k ≤ 24) ∧ (∀ k, Y.we k ≤ 1) ∧ (∀ a j, Y.wr a j ≤ 12) ∧ Y.ws ≤ 8
theorem YI.wm {Y : YS} (h : YI Y) (k : Nat) : -1 ≤ Y.wm k ∧ Y.wm k ≤ 32 * (Y.wl k : Int) := h.1 k
theorem YI.wl {Y : YS} (h : YI Y) (k : Nat) : Y.wl k ≤ 24 := h.2.1 k
theorem YI.we {Y : YS} (h : YI Y) (k : Nat) : Y.we k ≤ 1 := h.2.2.1 k
theorem YI.wr {Y : YS} (h : YI Y) (a j : Nat) : Y.wr a j ≤ 12 := h.2.2.2.1 a j
theorem YI.ws {Y : YS} (h : YI Y) : Y.ws ≤ 8 := h.2.2.2.2
theorem nos_rng (Y : YS) : ∀ n, -1 ≤ nos Y n ∧ nos Y n < (n : Int)
  | 0 => by unfold nos; omega
  | n + 1 => by have := nos_rng Y n; unfold nos; split <;> omega
theorem layL_le {Y : YS} (h : YI Y) (z : Int) : layL Y z ≤ 24 := by
  unfold layL; split
  · omega
  · exact h.wl _
theorem layM_le {Y : YS} (h : YI Y) (z : Int) : -1 ≤ layM Y z ∧ layM Y z ≤ 32 * (layL Y z : Int) := by
  unfold layM layL; split
  · omega
  · exact h.wm _
theorem lay_YI {G : GS} {Y : YS} {z : Int} {k x : Nat} (hI : Inv G) (h : YI Y) (hL : layL Y z < 24) (hx : x ≤ 2) (hk : k < 2 * G.rr) : YI (lay G Y z k x) := by
  have hm := layM_le h z
  have hmi := hI.mi (k / 2)
  have hrr := hI.rr
  refine ⟨fun j => ?_, fun j => ?_, h.we, fun a j => ?_, h.ws⟩
  · show -1 ≤ up Y.wm 24 (layM Y z + (G.mi (k / 2) : Int) + (x : Int)) j ∧ up Y.wm 24 (layM Y z + (G.mi (k / 2) : Int) + (x : Int)) j ≤ 32 * ((up Y.wl 24 (layL Y z + 1) j : Nat) : Int)
    by_cases hj : j = 24
    · subst hj; rw [up_s, up_s]; omega
    · rw [up_n _ _ hj, up_n _ _ hj]; exact h.wm j
  · show up Y.wl 24 (layL Y z + 1) j ≤ 24
    by_cases hj : j = 24
    · subst hj; rw [up_s]; omega
    · rw [up_n _ _ hj]; exact h.wl j
  · show up Y.wr 24 (up (cpr Y.wr z.toNat 24 (layL Y z)) (layL Y z) (k / 2)) a j ≤ 12
    by_cases ha : a = 24
    · subst ha; rw [up_s]
      by_cases hj : j = layL Y z
      · subst hj; rw [up_s]; omega
      · rw [up_n _ _ hj]; unfold cpr; split
        · exact h.wr _ _
        · exact h.wr _ _
    · rw [up_n _ _ ha]; exact h.wr _ _
theorem tk_YI {Y : YS} {i : Nat} (h : YI Y) : YI (tk Y i) := by
  refine ⟨fun j => ?_, fun j => ?_, h.we, fun a j => ?_, h.ws⟩
  · show -1 ≤ up Y.wm i (Y.wm 24) j ∧ up Y.wm i (Y.wm 24) j ≤ 32 * ((up Y.wl i (Y.wl 24) j : Nat) : Int)
    by_cases hj : j = i
    · subst hj; rw [up_s, up_s]; exact h.wm 24
    · rw [up_n _ _ hj, up_n _ _ hj]; exact h.wm j
  · show up Y.wl i (Y.wl 24) j ≤ 24
    by_cases hj : j = i
    · subst hj; rw [up_s]; exact h.wl 24
    · rw [up_n _ _ hj]; exact h.wl j
  · show up Y.wr i (cpr Y.wr 24 i (Y.wl 24)) a j ≤ 12
    by_cases ha : a = i
    · subst ha; rw [up_s]; unfold cpr; split
      · exact h.wr _ _
      · exact h.wr _ _
    · rw [up_n _ _ ha]; exact h.wr _ _
theorem gst_we (G : GS) (Y : YS) (z : Int) (v : Nat) (c : Int) (i : Nat) : (gst G Y z v c i).we = Y.we ∧ (gst G Y z v c i).ws = Y.ws := by
  unfold gst
  split
  · unfold gsL; split <;> exact ⟨rfl, rfl⟩
  · exact ⟨rfl, rfl⟩
theorem lay_keep (G : GS) (Y : YS) (z : Int) (k x : Nat) {j : Nat} (hj : j ≠ 24) : (lay G Y z k x).wm j = Y.wm j ∧ (lay G Y z k x).wl j = Y.wl j ∧ (lay G Y z k x).wr j = Y.wr j := by
  refine ⟨?_, ?_, ?_⟩
  · show up Y.wm 24 _ j = _; rw [up_n _ _ hj]
  · show up Y.wl 24 _ j = _; rw [up_n _ _ hj]
  · show up Y.wr 24 _ j = _; rw [up_n _ _ hj]
theorem tk_keep (Y : YS) (i : Nat) {j : Nat} (hj : j ≠ i) : (tk Y i).wm j = Y.wm j ∧ (tk Y i).wl j = Y.wl j ∧ (tk Y i).wr j = Y.wr j := by
  refine ⟨?_, ?_, ?_⟩
  · show up Y.wm i _ j = _; rw [up_n _ _ hj]
  · show up Y.wl i _ j = _; rw [up_n _ _ hj]
  · show up Y.wr i _ j = _; rw [up_n _ _ hj]
theorem gst_keep (G : GS) (Y : YS) (z : Int) (v : Nat) (c : Int) (i : Nat) {j : Nat} (hj : j ≠ 24) (h : j ≠ i ∨ Y.we j ≠ 0) : (gst G Y z v c i).wm j = Y.wm j ∧ (gst G Y z v c i).wl j = Y.wl j ∧ (gst G Y z v c i).wr j = Y.wr j := by
  unfold gst
  split
  · rename_i hc
    have hi : j ≠ i := by
      intro e; subst e
      rcases h with h | h
      · exact h rfl
      · exact h hc.1
    unfold gsL
    split
    · obtain ⟨a1, a2, a3⟩ := tk_keep (lay G Y z i (gsX i c)) i hi
      obtain ⟨b1, b2, b3⟩ := lay_keep G Y z i (gsX i c) hj
      exact ⟨a1.trans b1, a2.trans b2, a3.trans b3⟩
    · exact lay_keep G Y z i _ hj
  · exact ⟨rfl, rfl, rfl⟩
/-- what goes on from a settled side, or from the start -/
def zOk (Y : YS) (z : Int) : Prop := z = -1 ∨ (0 ≤ z ∧ z < 24 ∧ Y.we z.toNat ≠ 0)
theorem gst_lay {G : GS} {Y : YS} {z : Int} {v : Nat} {c : Int} {i : Nat} (hz : zOk Y z) : layL (gst G Y z v c i) z = layL Y z ∧ layM (gst G Y z v c i) z = layM Y z := by
  unfold layL layM
  rcases hz with rfl | ⟨h0, h1, h2⟩
  · exact ⟨rfl, rfl⟩
  · obtain ⟨a1, a2, a3⟩ := gst_keep G Y z v c i (j := z.toNat) (by omega) (Or.inr h2)
    rw [a1, a2]; exact ⟨rfl, rfl⟩
theorem gst_YI {G : GS} {Y : YS} {z : Int} {v : Nat} {c : Int} {i : Nat} (hI : Inv G) (h : YI Y) (hL : Y.we i = 0 → layL Y z < 24) (hi : i < 2 * G.rr) : YI (gst G Y z v c i) := by
  unfold gst
  split
  · rename_i hc
    have h1 : YI (lay G Y z i (gsX i c)) := lay_YI hI h (hL hc.1) (gsX_le i c) hi
    unfold gsL
    split
    · exact tk_YI h1
    · exact h1
  · exact h
/-- going on from a side: what stays as it was -/
theorem gof_inv {G : GS} {Y : YS} {z : Int} {v : Nat} {c : Int} (hI : Inv G) (h : YI Y) (hz : zOk Y z) (hL : ∀ k, k < 2 * G.rr → Y.we k = 0 → layL Y z < 24) : ∀ n, n ≤ 2 * G.rr → YI (gof G Y z v c n) ∧ (gof G Y z v c n).we = Y.we ∧ (gof G Y z v c n).ws = Y.ws ∧ layL (gof G Y z v c n) z = layL Y z ∧ layM (gof G Y z v c n) z = layM Y z
  | 0, _ => ⟨h, rfl, rfl, rfl, rfl⟩
  | n + 1, hn => by
    obtain ⟨a1, a2, a3, a4, a5⟩ := gof_inv (v := v) (c := c) hI h hz hL n (by omega)
    have hz2 : zOk (gof G Y z v c n) z := by unfold zOk at hz ⊢; rw [a2]; exact hz
    obtain ⟨b1, b2⟩ := gst_we G (gof G Y z v c n) z v c n
    obtain ⟨c1, c2⟩ := gst_lay (G := G) (v := v) (c := c) (i := n) hz2
    refine ⟨gst_YI hI a1 (fun q => ?_) (by omega), b1.trans a2, b2.trans a3, c1.trans a4, c2.trans a5⟩
    rw [a4]; rw [a2] at q
    exact hL n (by omega) q
theorem gof_keep {G : GS} {Y : YS} {z : Int} {v : Nat} {c : Int} {j : Nat} (hj : j ≠ 24) : ∀ n, (n ≤ j ∨ Y.we j ≠ 0) → (gof G Y z v c n).wm j = Y.wm j ∧ (gof G Y z v c n).wl j = Y.wl j ∧ (gof G Y z v c n).wr j = Y.wr j
  | 0, _ => ⟨rfl, rfl, rfl⟩
  | n + 1, h => by
    obtain ⟨a1, a2, a3⟩ := gof_keep (G := G) (Y := Y) (z := z) (v := v) (c := c) hj n (by rcases h with h | h; exact Or.inl (by omega); exact Or.inr h)
    have hwe : ∀ m, (gof G Y z v c m).we = Y.we := fun m => by
      induction m with
      | zero => rfl
      | succ m ih => exact (gst_we G (gof G Y z v c m) z v c m).1.trans ih
    obtain ⟨b1, b2, b3⟩ := gst_keep G (gof G Y z v c n) z v c n (j := j) hj (by
      rcases h with h | h
      · exact Or.inl (by omega)
      · exact Or.inr (by rw [hwe n]; exact h))
    exact ⟨b1.trans a1, b2.trans a2, b3.trans a3⟩
theorem gof_we {G : GS} {Y : YS} {z : Int} {v : Nat} {c : Int} : ∀ n, (gof G Y z v c n).we = Y.we
  | 0 => rfl
  | n + 1 => (gst_we G (gof G Y z v c n) z v c n).1.trans (gof_we n)
/-- the lengths grow by one side at most -/
theorem gst_wl {G : GS} {Y : YS} {z : Int} {v : Nat} {c : Int} {i b : Nat} (h : ∀ j, j < 24 → Y.wl j ≤ b) (hb : layL Y z + 1 ≤ b) {j : Nat} (hj : j < 24) : (gst G Y z v c i).wl j ≤ b := by
  unfold gst
  split
  · unfold gsL
    split
    · show up (lay G Y z i _).wl i ((lay G Y z i _).wl 24) j ≤ b
      by_cases e : j = i
      · subst e; rw [up_s]
        show up Y.wl 24 (layL Y z + 1) 24 ≤ b
        rw [up_s]; exact hb
      · rw [up_n _ _ e, (lay_keep G Y z i _ (show j ≠ 24 by omega)).2.1]; exact h j hj
    · rw [(lay_keep G Y z i _ (show j ≠ 24 by omega)).2.1]; exact h j hj
  · exact h j hj
theorem gof_wl {G : GS} {Y : YS} {z : Int} {v : Nat} {c : Int} {b : Nat} (hz : zOk Y z) (h : ∀ j, j < 24 → Y.wl j ≤ b) (hb : layL Y z + 1 ≤ b) : ∀ n j, j < 24 → (gof G Y z v c n).wl j ≤ b
  | 0, j, hj => h j hj
  | n + 1, j, hj => by
    have hl : ∀ m, layL (gof G Y z v c m) z = layL Y z := fun m => by
      induction m with
      | zero => rfl
      | succ m ih => exact (gst_lay (G := G) (v := v) (c := c) (i := m) (by unfold zOk at hz ⊢; rw [gof_we]; exact hz)).1.trans ih
    exact gst_wl (fun j hj => gof_wl hz h hb n j hj) (by rw [hl n]; exact hb) hj
/-- how many of the first n are settled -/
def cS (f : Nat → Nat) : Nat → Nat
  | 0 => 0
  | n + 1 => cS f n + (if f n = 0 then 0 else 1)
theorem cS_le (f : Nat → Nat) : ∀ n, cS f n ≤ n
  | 0 => Nat.le_refl _
  | n + 1 => by have := cS_le f n; unfold cS; split <;> omega
theorem cS_lt {f : Nat → Nat} {k : Nat} (h : f k = 0) : ∀ n, k < n → cS f n < n
  | 0, hk => absurd hk (Nat.not_lt_zero k)
  | n + 1, hk => by
    unfold cS
    by_cases e : k = n
    · subst e; have := cS_le f k; rw [if_pos h]; omega
    · have := cS_lt h n (by omega); split <;> omega
theorem cS_ne {f : Nat → Nat} {k x : Nat} : ∀ n, n ≤ k → cS (up f k x) n = cS f n
  | 0, _ => rfl
  | n + 1, hk => by unfold cS; rw [cS_ne n (by omega), up_n _ _ (by omega)]
theorem cS_up {f : Nat → Nat} {k : Nat} (h : f k = 0) : ∀ n, k < n → cS (up f k 1) n = cS f n + 1
  | 0, hk => absurd hk (Nat.not_lt_zero k)
  | n + 1, hk => by
    unfold cS
    by_cases e : k = n
    · subst e; rw [cS_ne k (Nat.le_refl _), up_s, if_neg (by decide), if_pos h]
    · rw [cS_up h n (by omega), up_n _ _ (by omega)]; omega
theorem cS_all {f : Nat → Nat} : ∀ n, (∀ k, k < n → f k = 0) → cS f n = 0
  | 0, _ => rfl
  | n + 1, h => by unfold cS; rw [cS_all n (fun k hk => h k (by omega)), if_pos (h n (by omega))]
theorem nos_open (Y : YS) : ∀ n, nos Y n ≠ -1 → Y.we (nos Y n).toNat = 0 ∧ Y.wm (nos Y n).toNat ≠ -1
  | 0, h => absurd rfl h
  | n + 1, h => by
    unfold nos at h ⊢
    split
    · rename_i hc; exact ⟨hc.1, hc.2.1⟩
    · rename_i hc; rw [if_neg hc] at h; exact nos_open Y n h
/-- the search after n settled sides -/
def lkI (G : GS) (Y : YS) (n : Nat) : Prop := YI Y ∧ (∀ j, j < 24 → Y.wl j ≤ n + 1) ∧ cS Y.we (2 * G.rr) = n ∧ Y.ws = G.vn
theorem fgt_YI {Y : YS} (h : YI Y) : YI (fgt Y) := by
  refine ⟨fun k => ?_, fun k => ?_, fun k => ?_, h.wr, h.ws⟩
  · show -1 ≤ fgM Y 24 k ∧ fgM Y 24 k ≤ 32 * ((fgL Y 24 k : Nat) : Int)
    unfold fgM fgL
    by_cases hk : k < 24
    · rw [if_pos hk, if_pos hk]; omega
    · rw [if_neg hk, if_neg hk]; exact h.wm k
  · show fgL Y 24 k ≤ 24
    unfold fgL; split
    · omega
    · exact h.wl k
  · show fgE Y 24 k ≤ 1
    unfold fgE; split
    · omega
    · exact h.we k
theorem ws_YI {Y : YS} (h : YI Y) {v : Nat} (hv : v ≤ 8) : YI (Y.ws' v) := ⟨h.1, h.2.1, h.2.2.1, h.2.2.2.1, hv⟩
theorem lk0_I {G : GS} {Y : YS} (hI : Inv G) (h : YI Y) : lkI G (lk0 G Y) 0 := by
  have hnn := hI.nn
  have hvn := hI.vn
  have hrr := hI.rr
  have h1 : YI (fgt (Y.ws' G.vn)) := fgt_YI (ws_YI h (by omega))
  obtain ⟨a1, a2, a3, -, -⟩ := gof_inv (z := -1) (v := G.vn) (c := G.vc) hI h1 (Or.inl rfl) (fun _ _ _ => by show 0 < 24; omega) (2 * G.rr) (Nat.le_refl _)
  refine ⟨a1, fun j hj => gof_wl (Or.inl rfl) (fun j hj => ?_) (by show 0 + 1 ≤ 0 + 1; omega) _ j hj, ?_, ?_⟩
  · show fgL (Y.ws' G.vn) 24 j ≤ 0 + 1
    unfold fgL; rw [if_pos hj]; omega
  · show cS (gof G (fgt (Y.ws' G.vn)) (-1) G.vn G.vc (2 * G.rr)).we (2 * G.rr) = 0
    rw [a2]
    refine cS_all _ (fun k hk => ?_)
    show fgE (Y.ws' G.vn) 24 k = 0
    unfold fgE; rw [if_pos (by omega)]
  · exact a3
theorem lkE_pre {G : GS} {Y : YS} {n k : Nat} (hI : Inv G) (h : lkI G Y n) (hk : k < 2 * G.rr) (h0 : Y.we k = 0) : YI (Y.we' (up Y.we k 1)) ∧ zOk (Y.we' (up Y.we k 1)) (k : Int) ∧ (∀ j, j < 2 * G.rr → (Y.we' (up Y.we k 1)).we j = 0 → layL (Y.we' (up Y.we k 1)) (k : Int) < 24) ∧ layL (Y.we' (up Y.we k 1)) (k : Int) ≤ n + 1 ∧ cS (Y.we' (up Y.we k 1)).we (2 * G.rr) = n + 1 := by
  obtain ⟨a1, a2, a3, a4⟩ := h
  have hrr := hI.rr
  have hc : cS (Y.we' (up Y.we k 1)).we (2 * G.rr) = n + 1 := by
    show cS (up Y.we k 1) (2 * G.rr) = n + 1
    rw [cS_up h0 _ hk, a3]
  have hl : layL (Y.we' (up Y.we k 1)) (k : Int) ≤ n + 1 := by
    unfold layL; rw [if_neg (by omega)]
    exact a2 k (by omega)
  refine ⟨⟨a1.1, a1.2.1, fun j => ?_, a1.2.2.2.1, a1.2.2.2.2⟩, Or.inr ⟨by omega, by omega, ?_⟩, fun j hj q => ?_, hl, hc⟩
  · show up Y.we k 1 j ≤ 1
    by_cases e : j = k
    · subst e; rw [up_s]; omega
    · rw [up_n _ _ e]; exact a1.we j
  · show up Y.we k 1 k ≠ 0
    rw [up_s]; decide
  · have := cS_lt q (2 * G.rr) hj
    omega
theorem lkE_I {G : GS} {Y : YS} {n k : Nat} (hI : Inv G) (h : lkI G Y n) (hk : k < 2 * G.rr) (h0 : Y.we k = 0) : lkI G (lkE G Y k) (n + 1) := by
  obtain ⟨b1, b2, b3, b4, b5⟩ := lkE_pre hI h hk h0
  obtain ⟨a1, a2, a3, -, -⟩ := gof_inv (v := G.sm (op k)) (c := ((k / 2 : Nat) : Int)) hI b1 b2 b3 (2 * G.rr) (Nat.le_refl _)
  have hrr := hI.rr
  refine ⟨a1, fun j hj => gof_wl b2 (fun j hj => ?_) (by omega) _ j hj, ?_, ?_⟩
  · have := h.2.1 j hj
    show Y.wl j ≤ n + 1 + 1
    omega
  · show cS (gof G _ _ _ _ _).we _ = _
    rw [a2]; exact b5
  · exact a3.trans h.2.2.2
theorem lk_stop {G : GS} {Y : YS} {n : Nat} (h : nos (lk G Y n) (2 * G.rr) = -1) : ∀ m, lk G Y (n + m) = lk G Y n
  | 0 => rfl
  | m + 1 => by
    show lkS G (lk G Y (n + m)) = _
    rw [lk_stop h m]
    unfold lkS; rw [if_pos h]
theorem lk_go {G : GS} {Y : YS} {n : Nat} (h : nos (lk G Y n) (2 * G.rr) ≠ -1) : lk G Y (n + 1) = lkE G (lk G Y n) (nos (lk G Y n) (2 * G.rr)).toNat := by
  show lkS G (lk G Y n) = _
  unfold lkS; rw [if_neg h]
theorem lexB_s (f g : Nat → Nat) (n t : Nat) : lexB f g (n + 1) t = if f t = g t then lexB f g n (t + 1) else decide (f t < g t) := rfl
theorem nos_s (Y : YS) (n : Nat) : nos Y (n + 1) = if Y.we n = 0 ∧ ¬ Y.wm n = -1 ∧ (nos Y n = -1 ∨ Y.wm n < Y.wm (nos Y n).toNat) then (n : Int) else nos Y n := rfl
theorem lst_s (G : GS) (Y : YS) (v n : Nat) : lst G Y v (n + 1) = if G.sm (op n) = v ∧ ¬ Y.wm n = -1 ∧ (lst G Y v n = -1 ∨ shr Y n (lst G Y v n).toNat) then (n : Int) else lst G Y v n := rfl
theorem gof_s (G : GS) (Y : YS) (z : Int) (v : Nat) (c : Int) (n : Nat) : gof G Y z v c (n + 1) = gst G (gof G Y z v c n) z v c n := rfl
theorem layL_1 {Y : YS} {z : Int} (h : z ≠ -1) : layL Y z = Y.wl z.toNat := if_neg h
theorem mtZ_1 {Y : YS} {z : Int} (h : z ≠ -1) : mtZ Y z = Y.wm z.toNat := if_neg h
