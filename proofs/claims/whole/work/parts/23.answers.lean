/-! 23: the answers, told of best ways alone -/
def noW (G : GS) (n k : Int) : Prop := ∀ w, isW G G.vn G.vc w → ¬ wGl G n k G.vn w
/-- a goal that can be asked for -/
def gOk (G : GS) (n k : Int) : Prop := (k = -1 ∧ 0 ≤ n) ∨ (n = -1 ∧ 0 ≤ k ∧ k < ((2 * G.rr : Nat) : Int))
noncomputable def spW (G : GS) (n k : Int) : List Nat := @dite _ (∃ w, BW G n k G.vn G.vc w) (Classical.propDecidable _) (fun h => Classical.choose h) (fun _ => [])
noncomputable def spM (G : GS) (n k : Int) : Int := @ite _ (∃ w, BW G n k G.vn G.vc w) (Classical.propDecidable _) (mns G G.vc (spW G n k) : Int) (-1)
def hd1 (w : List Nat) : Int := match w with | [] => -1 | j :: _ => ((j / 2 : Nat) : Int)
theorem spW_eq {G : GS} (hI : Inv G) {n k : Int} {w : List Nat} (h : BW G n k G.vn G.vc w) : spW G n k = w := by
  have hh : ∃ w, BW G n k G.vn G.vc w := ⟨w, h⟩
  unfold spW; rw [dif_pos hh]
  exact (Classical.choose_spec hh).uniq hI h
theorem spM_eq {G : GS} (hI : Inv G) {n k : Int} {w : List Nat} (h : BW G n k G.vn G.vc w) : spM G n k = (mns G G.vc w : Int) := by
  unfold spM; rw [if_pos ⟨w, h⟩, spW_eq hI h]
theorem sp_no {G : GS} {n k : Int} (h : noW G n k) : spM G n k = -1 ∧ spW G n k = [] := by
  have hh : ¬ ∃ w, BW G n k G.vn G.vc w := fun ⟨w, q⟩ => h w q.1 q.2.1
  unfold spM spW
  rw [if_neg hh, dif_neg hh]; exact ⟨rfl, rfl⟩
def Y00 : YS := (fun _ => -1, fun _ => 0, fun _ _ => 0, fun _ => 0, 0)
theorem Y00_I : YI Y00 := ⟨fun _ => ⟨Int.le_refl _, by show (-1 : Int) ≤ 32 * ((0 : Nat) : Int); omega⟩, fun _ => Nat.zero_le _, fun _ => Nat.zero_le _, fun _ _ => Nat.zero_le _, Nat.zero_le _⟩
/-- there is none, or one is best: then it is short -/
theorem sp_or {G : GS} (hI : Inv G) {n k : Int} (hg : gOk G n k) : noW G n k ∨ ∃ w, BW G n k G.vn G.vc w ∧ w.length ≤ 24 := by
  have hYl := lka_YI hI Y00_I
  rcases hg with ⟨rfl, hn⟩ | ⟨rfl, hk0, hk⟩
  · obtain ⟨v, rfl⟩ := Int.eq_ofNat_of_zero_le hn
    rcases lka_node hI Y00_I (v := v) with ⟨-, -, h⟩ | ⟨w, h1, -, h3⟩
    · left; intro w hw hg
      rcases hg with q | q
      · exact h w hw (by omega)
      · rcases snoc_of w with rfl | ⟨a, s, rfl⟩
        · exact absurd q (by show (-2 : Int) ≠ -1; decide)
        · rw [wLs_snoc] at q; omega
    · exact Or.inr ⟨w, h1, by rw [h3.1]; exact layL_le hYl _⟩
  · obtain ⟨j, rfl⟩ := Int.eq_ofNat_of_zero_le hk0
    rcases lka_side hI Y00_I (k := j) (by omega) with ⟨-, h⟩ | ⟨w, h1, h2⟩
    · left; intro w hw hg
      exact h w hw (hg.elim (fun q => absurd q (by omega)) id)
    · exact Or.inr ⟨w, h1, by rw [← h2.2.1]; exact hYl.wl j⟩
theorem mns_le {G : GS} (hI : Inv G) : ∀ (w : List Nat) (c : Int), mns G c w ≤ 32 * w.length
  | [], _ => Nat.le_refl _
  | j :: w, c => by
    have := mns_le hI w ((j / 2 : Nat) : Int)
    have := hI.mi (j / 2)
    show G.mi (j / 2) + (if ((j / 2 : Nat) : Int) = c then 2 else 0) + mns G ((j / 2 : Nat) : Int) w ≤ 32 * (w.length + 1)
    split <;> omega
/-- the class -/
theorem cl_side {G : GS} {Y : YS} (hI : Inv G) (hY : YI Y) {k : Nat} (hk : k < 2 * G.rr) : mtZ (lka G Y) (k : Int) = spM G (-1) (k : Int) ∧ rdZ (lka G Y) (k : Int) 0 = hd1 (spW G (-1) (k : Int)) ∧ (spM G (-1) (k : Int) ≠ -1 → BW G (-1) (k : Int) G.vn G.vc (spW G (-1) (k : Int)) ∧ rowW (lka G Y) (k : Int) (spW G (-1) (k : Int))) := by
  have hm : mtZ (lka G Y) (k : Int) = (lka G Y).wm k := by rw [mtZ_1 (by omega), Int.toNat_natCast]
  have hL : layL (lka G Y) (k : Int) = (lka G Y).wl k := by rw [layL_1 (by omega), Int.toNat_natCast]
  rcases lka_side hI hY hk with ⟨h1, h2⟩ | ⟨w, h1, h2⟩
  · obtain ⟨h1, h0⟩ := h1
    have hn : noW G (-1) (k : Int) := fun w hw hg => h2 w hw (hg.elim (fun q => absurd q (by omega)) id)
    obtain ⟨e1, e2⟩ := sp_no hn
    have hl := (lka_YI hI hY).wm k
    refine ⟨by rw [hm, h1, e1], ?_, fun q => absurd e1 q⟩
    rw [e2]
    unfold rdZ; rw [hL, h0, if_neg (by omega)]; rfl
  · rw [spW_eq hI h1, spM_eq hI h1]
    refine ⟨by rw [hm, h2.1], ?_, fun _ => ⟨h1, by rw [hL]; exact h2.2.1.symm, fun t ht => by rw [Int.toNat_natCast]; exact h2.2.2 t ht⟩⟩
    unfold rdZ; rw [hL, h2.2.1, Int.toNat_natCast]
    cases w with
    | nil => exact if_neg (Nat.lt_irrefl _)
    | cons j w => rw [if_pos (show 0 < (j :: w).length from Nat.zero_lt_succ _), h2.2.2 0 (Nat.zero_lt_succ _)]; rfl
theorem cl_node {G : GS} {Y : YS} (hI : Inv G) (hY : YI Y) (v : Nat) : mnZ G (lka G Y) v = spM G (v : Int) (-1) ∧ rdZ (lka G Y) (lstZ G (lka G Y) v) 0 = hd1 (spW G (v : Int) (-1)) ∧ (spM G (v : Int) (-1) ≠ -1 → BW G (v : Int) (-1) G.vn G.vc (spW G (v : Int) (-1)) ∧ rowW (lka G Y) (lstZ G (lka G Y) v) (spW G (v : Int) (-1))) := by
  rcases lka_node hI hY (v := v) with ⟨h0, h1, h2⟩ | ⟨w, h1, h2, h3⟩
  · have hn : noW G (v : Int) (-1) := fun w hw hg => h2 w hw (by
      rcases hg with q | q
      · omega
      · rcases snoc_of w with rfl | ⟨a, s, rfl⟩
        · exact absurd q (by show (-2 : Int) ≠ -1; decide)
        · rw [wLs_snoc] at q; omega)
    obtain ⟨e1, e2⟩ := sp_no hn
    refine ⟨by rw [h1, e1], ?_, fun q => absurd e1 q⟩
    rw [e2, h0]; rfl
  · rw [spW_eq hI h1, spM_eq hI h1]
    refine ⟨h2, ?_, fun _ => ⟨h1, h3⟩⟩
    unfold rdZ; rw [← h3.1]
    cases w with
    | nil => exact if_neg (Nat.lt_irrefl _)
    | cons j w => rw [if_pos (show 0 < (j :: w).length from Nat.zero_lt_succ _), h3.2 0 (Nat.zero_lt_succ _)]; rfl
/-- the reference: a weight is a best way's -/
theorem ref_val {G : GS} (hI : Inv G) {n k : Int} (hk : -1 ≤ k) {f : Nat → Nat} (hW : WOK G n k f) {v : Nat} {c : Int} (hv : v < G.nn) (h1 : -1 ≤ c) (h2 : c < (G.rr : Int)) {w : List Nat} (hB : BW G n k v c w) (hl : w.length ≤ 24) : f (wI v c) = cst G c w ∧ cst G c w ≤ 800000 := by
  have hle := WOK_le hI hk hW w v c hv h1 h2 hB.1 hB.2.1
  have hm := mns_le hI w c
  have hc := cst_mns G w c
  refine ⟨?_, by omega⟩
  rcases hW.1.2.1 v c hv h1 h2 with q | ⟨u, u1, u2, u3⟩
  · omega
  · have hb := hB.2.2 u u1 u2
    have hcu := cst_mns G u c
    have : ¬ (mns G c u < mns G c w) := fun q => hb (key_lt.mpr (Or.inl q))
    have : ¬ (mns G c u = mns G c w ∧ u.length < w.length) := fun q => hb (key_lt.mpr (Or.inr ⟨q.1, Or.inl q.2⟩))
    omega
theorem ref_no {G : GS} {n k : Int} {f : Nat → Nat} (hI : Inv G) (hW : WOK G n k f) (h : noW G n k) : f (wI G.vn G.vc) = 1000000000 := by
  rcases hW.1.2.1 G.vn G.vc hI.vn hI.vc.1 hI.vc.2 with q | ⟨u, u1, u2, -⟩
  · exact q
  · exact absurd u2 (h u u1)
theorem mlf_sp {G : GS} (hI : Inv G) {n k : Int} (hk : -1 ≤ k) (hg : gOk G n k) {f : Nat → Nat} (hW : WOK G n k f) : mlf G f = spM G n k := by
  unfold mlf
  rcases sp_or hI hg with h | ⟨w, h, hl⟩
  · rw [if_pos (ref_no hI hW h), (sp_no h).1]
  · obtain ⟨a, b⟩ := ref_val hI hk hW hI.vn hI.vc.1 hI.vc.2 h hl
    rw [if_neg (by omega), spM_eq hI h, a, cst_mns]
    have : (1000 * mns G G.vc w + w.length) / 1000 = mns G G.vc w := by omega
    rw [this]
/-- the first road of a best way is the first that keeps its weight -/
theorem ref_nx {G : GS} (hI : Inv G) {n k : Int} (hk : -1 ≤ k) {f : Nat → Nat} (hW : WOK G n k f) {v : Nat} {c : Int} (hv : v < G.nn) (h1 : -1 ≤ c) (h2 : c < (G.rr : Int)) {j : Nat} {w : List Nat} (hB : BW G n k v c (j :: w)) (hl : (j :: w).length ≤ 24) : f (wI v c) ≠ 0 ∧ f (wI v c) ≠ 1000000000 ∧ j / 2 < G.rr ∧ wBy G f k (j / 2) v c = f (wI v c) ∧ ∀ r, r < j / 2 → wBy G f k r v c ≠ f (wI v c) := by
  obtain ⟨a, b⟩ := ref_val hI hk hW hv h1 h2 hB hl
  have hjr : j / 2 < G.rr := by have := hB.1.1.1; omega
  have hc := cst_mns G (j :: w) c
  have hlen : (j :: w).length = w.length + 1 := rfl
  refine ⟨by omega, by omega, hjr, ?_, fun r hr q => ?_⟩
  · have hfx := hW.2 v c hv h1 h2 (j / 2) hjr
    have hto : wBy G f k (j / 2) v c ≤ cst G c (j :: w) := wBy_to hI hB.1.1 (fun e2 => by
      refine WOK_le hI hk hW w _ _ (hI.sm _) (by omega) (by omega) hB.1.2 ?_
      cases w with
      | nil => exact Or.inl (hB.2.1.elim id (fun h => absurd h e2))
      | cons i w => exact hB.2.1)
    omega
  · obtain ⟨i, u, e1, u1, u2, u3⟩ := wBy_way hI hk hW.1 (v := v) (c := c) (show r < G.rr by omega) (by omega)
    have hb := hB.2.2 _ u1 u2
    have hcu := cst_mns G (i :: u) c
    have z1 : ¬ (mns G c (i :: u) < mns G c (j :: w)) := fun q => hb (key_lt.mpr (Or.inl q))
    have z2 : mns G c (i :: u) = mns G c (j :: w) ∧ (i :: u).length = (j :: w).length := by constructor <;> omega
    refine hb (key_lt.mpr (Or.inr ⟨z2.1, Or.inr ⟨z2.2, ?_⟩⟩))
    show i / 2 :: rds u < j / 2 :: rds w
    rw [List.cons_lt_cons_iff]; exact Or.inl (by omega)
theorem nx_sp {G : GS} (hI : Inv G) {n k : Int} (hk : -1 ≤ k) (hg : gOk G n k) {f : Nat → Nat} (hW : WOK G n k f) : (f (wI G.vn G.vc) = 0 ∨ f (wI G.vn G.vc) = 1000000000 ∨ ((hd1 (spW G n k)).toNat < G.rr ∧ wBy G f k (hd1 (spW G n k)).toNat G.vn G.vc = f (wI G.vn G.vc) ∧ ∀ j, j < (hd1 (spW G n k)).toNat → wBy G f k j G.vn G.vc ≠ f (wI G.vn G.vc))) ∧ (if f (wI G.vn G.vc) = 0 ∨ f (wI G.vn G.vc) = 1000000000 then -1 else (((hd1 (spW G n k)).toNat : Nat) : Int)) = hd1 (spW G n k) := by
  rcases sp_or hI hg with h | ⟨w, h, hl⟩
  · have e := ref_no hI hW h
    rw [(sp_no h).2]
    exact ⟨Or.inr (Or.inl e), by rw [if_pos (Or.inr e)]; rfl⟩
  · rw [spW_eq hI h]
    cases w with
    | nil =>
      have e : f (wI G.vn G.vc) = 0 := (ref_val hI hk hW hI.vn hI.vc.1 hI.vc.2 h hl).1
      exact ⟨Or.inl e, by rw [if_pos (Or.inl e)]; rfl⟩
    | cons j w =>
      obtain ⟨a, b, c, d, e⟩ := ref_nx hI hk hW hI.vn hI.vc.1 hI.vc.2 h hl
      have ht : (hd1 (j :: w)).toNat = j / 2 := Int.toNat_natCast _
      rw [ht]
      exact ⟨Or.inr (Or.inr ⟨c, d, e⟩), by rw [if_neg (fun q => q.elim a b)]; rfl⟩
