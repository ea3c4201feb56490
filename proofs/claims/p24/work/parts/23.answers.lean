/-! 23.answers: from whole, what is needed here -/
def noW (G : GS) (n k : Int) : Prop := ∀ w, isW G G.vn G.vc w → ¬ wGl G n k G.vn w
/-- a goal that can be asked for -/
def gOk (G : GS) (n k : Int) : Prop := (k = -1 ∧ 0 ≤ n) ∨ (n = -1 ∧ 0 ≤ k ∧ k < ((2 * G.rr : Nat) : Int))
noncomputable def spW (G : GS) (n k : Int) : List Nat := @dite _ (∃ w, BW G n k G.vn G.vc w) (Classical.propDecidable _) (fun h => Classical.choose h) (fun _ => [])
noncomputable def spM (G : GS) (n k : Int) : Int := @ite _ (∃ w, BW G n k G.vn G.vc w) (Classical.propDecidable _) (mns G G.vc (spW G n k) : Int) (-1)
def hd1 (w : List Nat) : Int := match w with | [] => -1 | j :: _ => ((j / 2 : Nat) : Int)
theorem spW_eq {G : GS} (hI : Inv G) {n k : Int} {w : List Nat} (h : BW G n k G.vn G.vc w) : spW G n k = w := by
  have hh : ∃ w, BW G n k G.vn G.vc w := ⟨w, h⟩
  unfold spW; rw [dif_pos hh]
  exact (Classical.choose_spec hh).uniq hI h
theorem spM_eq {G : GS} (hI : Inv G) {n k : Int} {w : List Nat} (h : BW G n k G.vn G.vc w) : spM G n k = (mns G G.vc w : Int) := by
  unfold spM; rw [if_pos ⟨w, h⟩, spW_eq hI h]
theorem sp_no {G : GS} {n k : Int} (h : noW G n k) : spM G n k = -1 ∧ spW G n k = [] := by
  have hh : ¬ ∃ w, BW G n k G.vn G.vc w := fun ⟨w, q⟩ => h w q.1 q.2.1
  unfold spM spW
  rw [if_neg hh, dif_neg hh]; exact ⟨rfl, rfl⟩
def Y00 : YS := (fun _ => -1, fun _ => 0, fun _ _ => 0, fun _ => 0, 0)
theorem Y00_I : YI Y00 := ⟨fun _ => ⟨Int.le_refl _, by show (-1 : Int) ≤ 32 * ((0 : Nat) : Int); omega⟩, fun _ => Nat.zero_le _, fun _ => Nat.zero_le _, fun _ _ => Nat.zero_le _, Nat.zero_le _⟩
/-- there is none, or one is best: then it is short -/
theorem sp_or {G : GS} (hI : Inv G) {n k : Int} (hg : gOk G n k) : noW G n k ∨ ∃ w, BW G n k G.vn G.vc w ∧ w.length ≤ 24 := by
  have hYl := lka_YI hI Y00_I
  rcases hg with ⟨rfl, hn⟩ | ⟨rfl, hk0, hk⟩
  · obtain ⟨v, rfl⟩ := Int.eq_ofNat_of_zero_le hn
    rcases lka_node hI Y00_I (v := v) with ⟨-, -, h⟩ | ⟨w, h1, -, h3⟩
    · left; intro w hw hg
      rcases hg with q | q
      · exact h w hw (by omega)
      · rcases snoc_of w with rfl | ⟨a, s, rfl⟩
        · exact absurd q (by show (-2 : Int) ≠ -1; decide)
        · rw [wLs_snoc] at q; omega
    · exact Or.inr ⟨w, h1, by rw [h3.1]; exact layL_le hYl _⟩
  · obtain ⟨j, rfl⟩ := Int.eq_ofNat_of_zero_le hk0
    rcases lka_side hI Y00_I (k := j) (by omega) with ⟨-, h⟩ | ⟨w, h1, h2⟩
    · left; intro w hw hg
      exact h w hw (hg.elim (fun q => absurd q (by omega)) id)
    · exact Or.inr ⟨w, h1, by rw [← h2.2.1]; exact hYl.wl j⟩
/-- the class -/
theorem cl_side {G : GS} {Y : YS} (hI : Inv G) (hY : YI Y) {k : Nat} (hk : k < 2 * G.rr) : mtZ (lka G Y) (k : Int) = spM G (-1) (k : Int) ∧ rdZ (lka G Y) (k : Int) 0 = hd1 (spW G (-1) (k : Int)) ∧ (spM G (-1) (k : Int) ≠ -1 → BW G (-1) (k : Int) G.vn G.vc (spW G (-1) (k : Int)) ∧ rowW (lka G Y) (k : Int) (spW G (-1) (k : Int))) := by
  have hm : mtZ (lka G Y) (k : Int) = (lka G Y).wm k := by rw [mtZ_1 (by omega), Int.toNat_natCast]
  have hL : layL (lka G Y) (k : Int) = (lka G Y).wl k := by rw [layL_1 (by omega), Int.toNat_natCast]
  rcases lka_side hI hY hk with ⟨h1, h2⟩ | ⟨w, h1, h2⟩
  · obtain ⟨h1, h0⟩ := h1
    have hn : noW G (-1) (k : Int) := fun w hw hg => h2 w hw (hg.elim (fun q => absurd q (by omega)) id)
    obtain ⟨e1, e2⟩ := sp_no hn
    have hl := (lka_YI hI hY).wm k
    refine ⟨by rw [hm, h1, e1], ?_, fun q => absurd e1 q⟩
    rw [e2]
    unfold rdZ; rw [hL, h0, if_neg (by omega)]; rfl
  · rw [spW_eq hI h1, spM_eq hI h1]
    refine ⟨by rw [hm, h2.1], ?_, fun _ => ⟨h1, by rw [hL]; exact h2.2.1.symm, fun t ht => by rw [Int.toNat_natCast]; exact h2.2.2 t ht⟩⟩
    unfold rdZ; rw [hL, h2.2.1, Int.toNat_natCast]
    cases w with
    | nil => exact if_neg (Nat.lt_irrefl _)
    | cons j w => rw [if_pos (show 0 < (j :: w).length from Nat.zero_lt_succ _), h2.2.2 0 (Nat.zero_lt_succ _)]; rfl
