/-! 21.dijkstra: from whole, what is needed here -/
def rowD (G : GS) (Y : YS) (k : Nat) (w : List Nat) : Prop := Y.wm k = (mns G G.vc w : Int) ∧ Y.wl k = w.length ∧ ∀ t (h : t < w.length), Y.wr k t = w[t] / 2
theorem rowD.of {G : GS} {Y Y' : YS} {k k' : Nat} {w : List Nat} (h : rowD G Y k w) (h1 : Y'.wm k' = Y.wm k) (h2 : Y'.wl k' = Y.wl k) (h3 : ∀ t, t < Y.wl k → Y'.wr k' t = Y.wr k t) : rowD G Y' k' w :=
  ⟨h1.trans h.1, h2.trans h.2.1, fun t ht => (h3 t (by rw [h.2.1]; exact ht)).trans (h.2.2 t ht)⟩
theorem rds_get (w : List Nat) (t : Nat) (h : t < (rds w).length) : (rds w)[t] = w[t]'(by rw [rds_len] at h; exact h) / 2 := List.getElem_map (f := fun j => j / 2) (l := w) (i := t) (h := h)
theorem shr_key {G : GS} {Y : YS} {i j : Nat} {u w : List Nat} (hu : rowD G Y i u) (hw : rowD G Y j w) : shr Y i j ↔ key G G.vc u < key G G.vc w := by
  rw [key_lt]
  unfold shr
  rw [hu.1, hw.1, hu.2.1, hw.2.1]
  have hl : u.length = w.length → (lexB (Y.wr i) (Y.wr j) u.length 0 = true ↔ rds u < rds w) := fun e => by
    have := lexB_lt (rds u) (rds w) (Y.wr i) (Y.wr j) 0 (by rw [rds_len, rds_len]; exact e)
      (fun p hp => by rw [Nat.zero_add, rds_get]; exact hu.2.2 p (by rw [rds_len] at hp; exact hp))
      (fun p hp => by rw [Nat.zero_add, rds_get]; exact hw.2.2 p (by rw [rds_len] at hp; exact hp))
    rw [rds_len] at this
    exact this
  constructor
  · rintro (h | ⟨h1, h2 | ⟨h2, h3⟩⟩)
    · exact Or.inl (by omega)
    · exact Or.inr ⟨by omega, Or.inl h2⟩
    · exact Or.inr ⟨by omega, Or.inr ⟨h2, (hl h2).mp h3⟩⟩
  · rintro (h | ⟨h1, h2 | ⟨h2, h3⟩⟩)
    · exact Or.inl (by omega)
    · exact Or.inr ⟨by omega, Or.inl h2⟩
    · exact Or.inr ⟨by omega, Or.inr ⟨h2, (hl h2).mpr h3⟩⟩
/-- the way to a settled side, or to the start -/
def wzI (wz : Nat → List Nat) (z : Int) : List Nat := if z = -1 then [] else wz z.toNat
def cand (G : GS) (wz : Nat → List Nat) (z : Int) (k : Nat) : Prop := stp G (wEnd G G.vn (wzI wz z)) (wRd G.vc (wzI wz z)) k
def JO (G : GS) (Y : YS) (wz : Nat → List Nat) (S : Int → Prop) (k : Nat) : Prop :=
  ((Y.wm k = -1 ∧ Y.wl k = 0) ∧ ∀ z, S z → ¬ cand G wz z k) ∨ (∃ w, isW G G.vn G.vc w ∧ wLs w = (k : Int) ∧ rowD G Y k w ∧ ∀ z, S z → cand G wz z k → ¬ key G G.vc (wzI wz z ++ [k]) < key G G.vc w)
def JS (G : GS) (Y : YS) (wz : Nat → List Nat) : Prop := ∀ k, k < 2 * G.rr → Y.we k ≠ 0 → isW G G.vn G.vc (wz k) ∧ wLs (wz k) = (k : Int) ∧ rowD G Y k (wz k) ∧ ∀ u, isW G G.vn G.vc u → wLs u = (k : Int) → ¬ key G G.vc u < key G G.vc (wz k)
theorem JO.of {G : GS} {Y Y' : YS} {wz wz' : Nat → List Nat} {S S' : Int → Prop} {k : Nat} (h : JO G Y wz S k) (h1 : Y'.wm k = Y.wm k) (h2 : Y'.wl k = Y.wl k) (h3 : ∀ t, Y'.wr k t = Y.wr k t) (hS : ∀ z, S' z → S z ∧ wzI wz' z = wzI wz z) : JO G Y' wz' S' k := by
  rcases h with ⟨a, b⟩ | ⟨w, a, b, c, d⟩
  · refine Or.inl ⟨⟨h1.trans a.1, h2.trans a.2⟩, fun z hz => ?_⟩
    obtain ⟨s1, s2⟩ := hS z hz
    unfold cand; rw [s2]; exact b z s1
  · refine Or.inr ⟨w, a, b, c.of h1 h2 (fun t _ => h3 t), fun z hz => ?_⟩
    obtain ⟨s1, s2⟩ := hS z hz
    unfold cand; rw [s2]; exact d z s1
theorem JO.notm {G : GS} {Y : YS} {wz : Nat → List Nat} {S : Int → Prop} {k : Nat} (h : JO G Y wz S k) (hm : Y.wm k ≠ -1) : ∃ w, isW G G.vn G.vc w ∧ wLs w = (k : Int) ∧ rowD G Y k w ∧ ∀ z, S z → cand G wz z k → ¬ key G G.vc (wzI wz z ++ [k]) < key G G.vc w := by
  rcases h with ⟨a, _⟩ | h
  · exact absurd a.1 hm
  · exact h
theorem rowD.ne {G : GS} {Y : YS} {k : Nat} {w : List Nat} (h : rowD G Y k w) : Y.wm k ≠ -1 := by have := h.1; omega
/-- the source's row is its way -/
def rowZ (G : GS) (Y : YS) (z : Int) (u : List Nat) : Prop := layM Y z = (mns G G.vc u : Int) ∧ layL Y z = u.length ∧ ∀ t (h : t < u.length), Y.wr z.toNat t = u[t] / 2
theorem lay_row {G : GS} {Y : YS} {z : Int} {u : List Nat} {i : Nat} (h : rowZ G Y z u) : rowD G (lay G Y z i (gsX i (wRd G.vc u))) 24 (u ++ [i]) := by
  refine ⟨?_, ?_, ?_⟩
  · show up Y.wm 24 (layM Y z + (G.mi (i / 2) : Int) + ((gsX i (wRd G.vc u) : Nat) : Int)) 24 = _
    rw [up_s, h.1, mns_app]
    show _ = ((mns G G.vc u + (G.mi (i / 2) + (if ((i / 2 : Nat) : Int) = wRd G.vc u then 2 else 0) + 0) : Nat) : Int)
    unfold gsX; omega
  · show up Y.wl 24 (layL Y z + 1) 24 = _
    rw [up_s, h.2.1, List.length_append]; rfl
  · intro t ht
    show up Y.wr 24 (up (cpr Y.wr z.toNat 24 (layL Y z)) (layL Y z) (i / 2)) 24 t = _
    rw [up_s, h.2.1]
    rw [List.length_append] at ht
    by_cases e : t = u.length
    · subst e; rw [up_s, List.getElem_append_right (Nat.le_refl _)]; simp
    · have hlt : t < u.length := by have : ([i] : List Nat).length = 1 := rfl; omega
      rw [up_n _ _ e, List.getElem_append_left hlt]
      unfold cpr; rw [if_pos hlt]; exact h.2.2 t hlt
theorem cG_stp {G : GS} {v k : Nat} {c : Int} : cG G v c (k : Int) ↔ stp G v c k := by
  unfold stp
  constructor
  · rintro ⟨a, b, d⟩
    exact ⟨by omega, b, by rw [show ((k / 2 : Nat) : Int) = (k : Int) / 2 by omega]; exact d⟩
  · rintro ⟨a, b, d⟩
    exact ⟨⟨by omega, by omega⟩, b, by rw [show (k : Int) / 2 = ((k / 2 : Nat) : Int) by omega]; exact d⟩
theorem gst_JO {G : GS} {Y : YS} {wz : Nat → List Nat} {S : Int → Prop} {z : Int} {i : Nat} (hi : i < 24) (h0 : Y.we i = 0) (hz : isW G G.vn G.vc (wzI wz z)) (hr : rowZ G Y z (wzI wz z)) (h : JO G Y wz S i) : JO G (gst G Y z (wEnd G G.vn (wzI wz z)) (wRd G.vc (wzI wz z)) i) wz (fun x => S x ∨ x = z) i := by
  unfold gst
  by_cases hc : cG G (wEnd G G.vn (wzI wz z)) (wRd G.vc (wzI wz z)) (i : Int)
  · rw [if_pos ⟨h0, hc⟩]
    have hca : cand G wz z i := cG_stp.mp hc
    have hlr := lay_row (i := i) hr
    obtain ⟨k1, k2, k3⟩ := lay_keep G Y z i (gsX i (wRd G.vc (wzI wz z))) (show i ≠ 24 by omega)
    have hnw : isW G G.vn G.vc (wzI wz z ++ [i]) := (isW_snoc G _ _ _ _).mpr ⟨hz, hca⟩
    have htk : ∀ Y' : YS, rowD G Y' 24 (wzI wz z ++ [i]) → rowD G (tk Y' i) i (wzI wz z ++ [i]) := fun Y' hY' => by
      refine hY'.of ?_ ?_ (fun t ht => ?_)
      · show up Y'.wm i (Y'.wm 24) i = _; rw [up_s]
      · show up Y'.wl i (Y'.wl 24) i = _; rw [up_s]
      · show up Y'.wr i (cpr Y'.wr 24 i (Y'.wl 24)) i t = _
        rw [up_s]; unfold cpr; rw [if_pos ht]
    unfold gsL
    rcases h with ⟨a, b⟩ | ⟨w, a, b, c, d⟩
    · rw [if_pos (Or.inl (k1.trans a.1))]
      exact Or.inr ⟨_, hnw, wLs_snoc _ _, htk _ hlr, fun x hx hxc => hx.elim (fun hx => absurd hxc (b x hx)) (fun e => by rw [e]; exact key_ir)⟩
    · have hcw : rowD G (lay G Y z i (gsX i (wRd G.vc (wzI wz z)))) i w := c.of k1 k2 (fun t _ => by rw [k3])
      have hsk := shr_key hlr hcw
      by_cases hs : key G G.vc (wzI wz z ++ [i]) < key G G.vc w
      · rw [if_pos (Or.inr (hsk.mpr hs))]
        refine Or.inr ⟨_, hnw, wLs_snoc _ _, htk _ hlr, fun x hx hxc => hx.elim (fun hx q => d x hx hxc (key_tr q hs)) (fun e => by rw [e]; exact key_ir)⟩
      · rw [if_neg (fun q => q.elim (fun q => hcw.ne q) (fun q => hs (hsk.mp q)))]
        exact Or.inr ⟨w, a, b, hcw, fun x hx hxc => hx.elim (fun hx => d x hx hxc) (fun e => by rw [e]; exact hs)⟩
  · rw [if_neg (fun q => hc q.2)]
    have hnc : ¬ cand G wz z i := fun q => hc (cG_stp.mpr q)
    rcases h with ⟨a, b⟩ | ⟨w, a, b, c, d⟩
    · exact Or.inl ⟨a, fun x hx => hx.elim (b x) (fun e => by rw [e]; exact hnc)⟩
    · exact Or.inr ⟨w, a, b, c, fun x hx hxc => hx.elim (fun hx => d x hx hxc) (fun e => by rw [e] at hxc; exact absurd hxc hnc)⟩
theorem gof_JO {G : GS} {Y : YS} {wz : Nat → List Nat} {S : Int → Prop} {z : Int} (hI : Inv G) (hzo : zOk Y z) (hz : isW G G.vn G.vc (wzI wz z)) (hr : rowZ G Y z (wzI wz z)) (h : ∀ k, k < 2 * G.rr → Y.we k = 0 → JO G Y wz S k) : ∀ n, n ≤ 2 * G.rr → ∀ k, k < 2 * G.rr → Y.we k = 0 → JO G (gof G Y z (wEnd G G.vn (wzI wz z)) (wRd G.vc (wzI wz z)) n) wz (fun x => S x ∨ (x = z ∧ k < n)) k
  | 0, _, k, hk, h0 => (h k hk h0).of rfl rfl (fun _ => rfl) (fun x hx => ⟨hx.elim id (fun q => absurd q.2 (Nat.not_lt_zero _)), rfl⟩)
  | n + 1, hn, k, hk, h0 => by
    have ih := gof_JO hI hzo hz hr h n (by omega) k hk h0
    have hrr := hI.rr
    have hw9 := gof_we (G := G) (Y := Y) (z := z) (v := wEnd G G.vn (wzI wz z)) (c := wRd G.vc (wzI wz z)) n
    rw [gof_s]
    by_cases e : k = n
    · subst e
      have hzr : rowZ G (gof G Y z (wEnd G G.vn (wzI wz z)) (wRd G.vc (wzI wz z)) k) z (wzI wz z) := by
        rcases hzo with rfl | ⟨z0, z1, z2⟩
        · exact ⟨hr.1, hr.2.1, fun t ht => absurd ht (by show ¬ t < ([] : List Nat).length; exact Nat.not_lt_zero _)⟩
        · obtain ⟨a1, a2, a3⟩ := gof_keep (G := G) (Y := Y) (z := z) (v := wEnd G G.vn (wzI wz z)) (c := wRd G.vc (wzI wz z)) (j := z.toNat) (by omega) k (Or.inr z2)
          refine ⟨?_, ?_, fun t ht => ?_⟩
          · rw [← hr.1]; unfold layM; rw [a1]
          · rw [← hr.2.1]; unfold layL; rw [a2]
          · rw [a3]; exact hr.2.2 t ht
      have := gst_JO (by omega) (by rw [hw9]; exact h0) hz hzr ih
      exact this.of rfl rfl (fun _ => rfl) (fun x hx => ⟨hx.elim (fun q => Or.inl (Or.inl q)) (fun q => Or.inr q.1), rfl⟩)
    · obtain ⟨b1, b2, b3⟩ := gst_keep G (gof G Y z (wEnd G G.vn (wzI wz z)) (wRd G.vc (wzI wz z)) n) z (wEnd G G.vn (wzI wz z)) (wRd G.vc (wzI wz z)) n (j := k) (by omega) (Or.inl e)
      refine ih.of b1 b2 (fun t => by rw [b3]) (fun x hx => ⟨hx.elim Or.inl (fun q => Or.inr ⟨q.1, by omega⟩), rfl⟩)
/-- in a list with an unsettled side, the first such -/
theorem first_open (we : Nat → Nat) : ∀ (u : List Nat), (∃ i ∈ u, we i = 0) → ∃ u1 j u2, u = u1 ++ j :: u2 ∧ (∀ x ∈ u1, we x ≠ 0) ∧ we j = 0
  | [], h => by obtain ⟨i, hi, _⟩ := h; cases hi
  | x :: u, h => by
    by_cases e : we x = 0
    · exact ⟨[], x, u, rfl, fun y hy => (by cases hy), e⟩
    · obtain ⟨i, hi, h0⟩ := h
      have hiu : i ∈ u := by
        rcases List.mem_cons.mp hi with rfl | q
        · exact absurd h0 e
        · exact q
      obtain ⟨u1, j, u2, a, b, c⟩ := first_open we u ⟨i, hiu, h0⟩
      exact ⟨x :: u1, j, u2, by rw [a]; rfl, fun y hy => by
        rcases List.mem_cons.mp hy with rfl | q
        · exact e
        · exact b y q, c⟩
theorem isW_mem {G : GS} : ∀ (w : List Nat) (v : Nat) (c : Int), isW G v c w → ∀ x ∈ w, x < 2 * G.rr
  | [], _, _, _, _, h => by cases h
  | j :: w, _, _, hw, x, hx => by
    rcases List.mem_cons.mp hx with rfl | q
    · exact hw.1.1
    · exact isW_mem w _ _ hw.2 x q
def lkS9 (Y : YS) (z : Int) : Prop := z = -1 ∨ (0 ≤ z ∧ z < 24 ∧ Y.we z.toNat ≠ 0)
theorem snoc_of : ∀ (l : List Nat), l = [] ∨ ∃ a s, l = a ++ [s]
  | [] => Or.inl rfl
  | x :: l => by
    rcases snoc_of l with rfl | ⟨a, s, rfl⟩
    · exact Or.inr ⟨[], x, rfl⟩
    · exact Or.inr ⟨x :: a, s, rfl⟩
/-- the first unsettled side of a way has a row, no worse than the way so far -/
theorem first_row {G : GS} {Y : YS} {wz : Nat → List Nat} (hI : Inv G) (hJS : JS G Y wz) (hJO : ∀ k, k < 2 * G.rr → Y.we k = 0 → JO G Y wz (lkS9 Y) k) {u1 : List Nat} {j : Nat} (hw : isW G G.vn G.vc (u1 ++ [j])) (hs : ∀ x ∈ u1, Y.we x ≠ 0) (hj : Y.we j = 0) : ∃ w, isW G G.vn G.vc w ∧ wLs w = (j : Int) ∧ rowD G Y j w ∧ ¬ key G G.vc (u1 ++ [j]) < key G G.vc w := by
  obtain ⟨hw1, hst⟩ := (isW_snoc G _ _ _ _).mp hw
  have hrr := hI.rr
  rcases snoc_of u1 with rfl | ⟨a, s, rfl⟩
  · have hc : cand G wz (-1) j := hst
    rcases hJO j hst.1 hj with ⟨-, b⟩ | ⟨w, a, b, c, d⟩
    · exact absurd hc (b (-1) (Or.inl rfl))
    · exact ⟨w, a, b, c, d (-1) (Or.inl rfl) hc⟩
  · have hsl : wLs (a ++ [s]) = (s : Int) := wLs_snoc a s
    have hs0 : Y.we s ≠ 0 := hs s (List.mem_append.mpr (Or.inr (List.mem_singleton.mpr rfl)))
    have hsr : s < 2 * G.rr := isW_mem _ _ _ hw1 s (List.mem_append.mpr (Or.inr (List.mem_singleton.mpr rfl)))
    obtain ⟨j1, j2, j3, j4⟩ := hJS s hsr hs0
    obtain ⟨e1, e2⟩ := wLs_at G _ G.vn G.vc hsl
    obtain ⟨f1, f2⟩ := wLs_at G _ G.vn G.vc j2
    have hzi : wzI wz (s : Int) = wz s := by unfold wzI; rw [if_neg (by omega), Int.toNat_natCast]
    have hc : cand G wz (s : Int) j := by unfold cand; rw [hzi, f1, f2, ← e1, ← e2]; exact hst
    have hS : lkS9 Y (s : Int) := Or.inr ⟨by omega, by omega, by rw [Int.toNat_natCast]; exact hs0⟩
    rcases hJO j hst.1 hj with ⟨-, b⟩ | ⟨w, a', b, c, d⟩
    · exact absurd hc (b _ hS)
    · refine ⟨w, a', b, c, fun q => ?_⟩
      have h1 := d _ hS hc
      rw [hzi] at h1
      have h2 : ¬ key G G.vc (a ++ [s] ++ [j]) < key G G.vc (wz s ++ [j]) := fun q2 => j4 _ hw1 hsl ((key_snoc (e2.trans f2.symm)).mp q2)
      exact h1 (key_lelt h2 q)
theorem mns_pos {G : GS} (hI : Inv G) {v : Nat} {c : Int} {w : List Nat} (hw : isW G v c w) (h : w ≠ []) : 0 < mns G c w := by
  cases w with
  | nil => exact absurd rfl h
  | cons j w =>
    have := hI.mi1 (k := j / 2) (by have := hw.1.1; omega)
    show 0 < G.mi (j / 2) + _ + _
    omega
/-- the nearest unsettled side's row is a best way -/
theorem near_best {G : GS} {Y : YS} {wz : Nat → List Nat} (hI : Inv G) (hJS : JS G Y wz) (hJO : ∀ k, k < 2 * G.rr → Y.we k = 0 → JO G Y wz (lkS9 Y) k) {i : Nat} (hi : i < 2 * G.rr) (h0 : Y.we i = 0) (hmin : ∀ j, j < 2 * G.rr → Y.we j = 0 → Y.wm j ≠ -1 → Y.wm i ≤ Y.wm j) {w : List Nat} (hw : rowD G Y i w) {u : List Nat} (hu : isW G G.vn G.vc u) (hul : wLs u = (i : Int)) : ¬ key G G.vc u < key G G.vc w := by
  obtain ⟨ua, rfl⟩ := wLs_split u hul
  obtain ⟨u1, j, u2, e, hs, hj⟩ := first_open Y.we (ua ++ [i]) ⟨i, List.mem_append.mpr (Or.inr (List.mem_singleton.mpr rfl)), h0⟩
  have e' : ua ++ [i] = (u1 ++ [j]) ++ u2 := by rw [e]; simp
  have hu' := hu
  rw [e'] at hu'
  obtain ⟨hw1, hw2⟩ := (isW_apd G _ _ _ _).mp hu'
  obtain ⟨wj, a, b, c, d⟩ := first_row hI hJS hJO hw1 hs hj
  by_cases e2 : u2 = []
  · subst e2
    have e3 : ua ++ [i] = u1 ++ [j] := e
    have hji : i = j := by
      have h1 := wLs_snoc ua i
      rw [e3, wLs_snoc] at h1; omega
    subst hji
    rw [e3]
    intro q
    have hk : key G G.vc wj = key G G.vc w := by
      have hm : mns G G.vc wj = mns G G.vc w := by have := c.1; have := hw.1; omega
      have hl : wj.length = w.length := c.2.1.symm.trans hw.2.1
      have hr : rds wj = rds w := by
        refine List.ext_getElem (by rw [rds_len, rds_len, hl]) (fun t h1 h2 => ?_)
        rw [rds_get, rds_get, ← c.2.2 t (by rw [rds_len] at h1; exact h1), ← hw.2.2 t (by rw [rds_len] at h2; exact h2)]
      unfold key; rw [hm, hl, hr]
    rw [← hk] at q
    exact d q
  · have hm1 : Y.wm i ≤ Y.wm j := hmin j (isW_mem _ _ _ hw1 j (List.mem_append.mpr (Or.inr (List.mem_singleton.mpr rfl)))) hj c.ne
    have hp := mns_pos hI hw2 e2
    have hma := mns_app G (u1 ++ [j]) G.vc u2
    rw [← e'] at hma
    have hd : mns G G.vc wj ≤ mns G G.vc (u1 ++ [j]) := by
      refine Classical.byContradiction (fun q => d (key_lt.mpr (Or.inl (by omega))))
    have := hw.1
    have := c.1
    intro q
    rcases key_lt.mp q with q | ⟨q, -⟩ <;> omega
theorem nos_no (Y : YS) : ∀ n, nos Y n = -1 → ∀ j, j < n → Y.we j = 0 → Y.wm j = -1
  | 0, _, j, hj, _ => absurd hj (Nat.not_lt_zero _)
  | n + 1, h, j, hj, h0 => by
    rw [nos_s] at h
    by_cases q : Y.we n = 0 ∧ ¬ Y.wm n = -1 ∧ (nos Y n = -1 ∨ Y.wm n < Y.wm (nos Y n).toNat)
    · rw [if_pos q] at h; omega
    · rw [if_neg q] at h
      by_cases e : j = n
      · subst e
        exact Classical.byContradiction (fun z => q ⟨h0, z, Or.inl h⟩)
      · exact nos_no Y n h j (by omega) h0
theorem nos_min (Y : YS) : ∀ n, nos Y n ≠ -1 → ∀ j, j < n → Y.we j = 0 → Y.wm j ≠ -1 → Y.wm (nos Y n).toNat ≤ Y.wm j
  | 0, _, j, hj, _, _ => absurd hj (Nat.not_lt_zero _)
  | n + 1, h, j, hj, h0, h1 => by
    rw [nos_s] at h ⊢
    by_cases q : Y.we n = 0 ∧ ¬ Y.wm n = -1 ∧ (nos Y n = -1 ∨ Y.wm n < Y.wm (nos Y n).toNat)
    · rw [if_pos q, Int.toNat_natCast]
      by_cases e : j = n
      · subst e; exact Int.le_refl _
      · rcases q.2.2 with z | z
        · exact absurd (nos_no Y n z j (by omega) h0) h1
        · by_cases z2 : nos Y n = -1
          · exact absurd (nos_no Y n z2 j (by omega) h0) h1
          · have := nos_min Y n z2 j (by omega) h0 h1; omega
    · rw [if_neg q] at h ⊢
      by_cases e : j = n
      · subst e
        have z2 : ¬ nos Y j = -1 := h
        exact Classical.byContradiction (fun z => q ⟨h0, h1, Or.inr (by omega)⟩)
      · exact nos_min Y n h j (by omega) h0 h1
def lkJ (G : GS) (Y : YS) : Prop := ∃ wz, JS G Y wz ∧ ∀ k, k < 2 * G.rr → Y.we k = 0 → JO G Y wz (lkS9 Y) k
theorem lk0_J {G : GS} {Y : YS} (hI : Inv G) : lkJ G (lk0 G Y) := by
  have hrr := hI.rr
  have hwe : ∀ k, k < 24 → (fgt (Y.ws' G.vn)).we k = 0 := fun k hk => by
    show fgE (Y.ws' G.vn) 24 k = 0
    unfold fgE; rw [if_pos hk]
  have hwm : ∀ k, k < 24 → (fgt (Y.ws' G.vn)).wm k = -1 := fun k hk => by
    show fgM (Y.ws' G.vn) 24 k = -1
    unfold fgM; rw [if_pos hk]
  have h := gof_JO (Y := fgt (Y.ws' G.vn)) (wz := fun _ => []) (S := fun _ => False) (z := -1) hI (Or.inl rfl) trivial ⟨rfl, rfl, fun t ht => absurd ht (Nat.not_lt_zero _)⟩ (fun k hk _ => Or.inl ⟨⟨hwm k (by omega), by show fgL (Y.ws' G.vn) 24 k = 0; unfold fgL; rw [if_pos (by omega)]⟩, fun z hz => hz.elim⟩) (2 * G.rr) (Nat.le_refl _)
  have hw2 := gof_we (G := G) (Y := fgt (Y.ws' G.vn)) (z := -1) (v := G.vn) (c := G.vc) (2 * G.rr)
  refine ⟨fun _ => [], fun k hk h0 => ?_, fun k hk h0 => ?_⟩
  · refine absurd ?_ h0
    show (gof G (fgt (Y.ws' G.vn)) (-1) G.vn G.vc (2 * G.rr)).we k = 0
    rw [hw2]; exact hwe k (by omega)
  · refine (h k hk (hwe k (by omega))).of rfl rfl (fun _ => rfl) (fun z hz => ⟨?_, rfl⟩)
    rcases hz with e | ⟨e1, e2, e3⟩
    · exact Or.inr ⟨e, hk⟩
    · refine absurd ?_ e3
      show (gof G (fgt (Y.ws' G.vn)) (-1) G.vn G.vc (2 * G.rr)).we z.toNat = 0
      rw [hw2]; exact hwe _ (by omega)
theorem lkE_J {G : GS} {Y : YS} {i : Nat} (hI : Inv G) (h : lkJ G Y) (hi : i < 2 * G.rr) (h0 : Y.we i = 0) (h1 : Y.wm i ≠ -1) (hmin : ∀ j, j < 2 * G.rr → Y.we j = 0 → Y.wm j ≠ -1 → Y.wm i ≤ Y.wm j) : lkJ G (lkE G Y i) := by
  obtain ⟨wz, hJS, hJO⟩ := h
  have hrr := hI.rr
  obtain ⟨w, a, b, c, -⟩ := (hJO i hi h0).notm h1
  have hb : ∀ u, isW G G.vn G.vc u → wLs u = (i : Int) → ¬ key G G.vc u < key G G.vc w := fun u hu hul => near_best hI hJS hJO hi h0 hmin c hu hul
  have hzi : wzI (up wz i w) (i : Int) = w := by unfold wzI; rw [if_neg (by omega), Int.toNat_natCast, up_s]
  obtain ⟨e1, e2⟩ := wLs_at G w G.vn G.vc b
  have hzo : zOk (Y.we' (up Y.we i 1)) (i : Int) := Or.inr ⟨by omega, by omega, by
    show up Y.we i 1 (i : Int).toNat ≠ 0
    rw [Int.toNat_natCast, up_s]; decide⟩
  have hold : ∀ z, lkS9 Y z → wzI (up wz i w) z = wzI wz z := fun z hz => by
    unfold wzI
    rcases hz with e | ⟨z1, z2, z3⟩
    · rw [if_pos e, if_pos e]
    · rw [if_neg (by omega), if_neg (by omega), up_n]
      intro q; rw [q] at z3; exact z3 h0
  have hopen : ∀ k, (Y.we' (up Y.we i 1)).we k = 0 → k ≠ i ∧ Y.we k = 0 := fun k hk => by
    have hk : up Y.we i 1 k = 0 := hk
    by_cases e : k = i
    · rw [e, up_s] at hk; omega
    · rw [up_n _ _ e] at hk; exact ⟨e, hk⟩
  have hg := gof_JO (Y := Y.we' (up Y.we i 1)) (wz := up wz i w) (S := lkS9 Y) (z := (i : Int)) hI hzo (by rw [hzi]; exact a)
    (by
      rw [hzi]
      refine ⟨?_, ?_, fun t ht => ?_⟩
      · unfold layM; rw [if_neg (by omega), Int.toNat_natCast]; exact c.1
      · unfold layL; rw [if_neg (by omega), Int.toNat_natCast]; exact c.2.1
      · rw [Int.toNat_natCast]; exact c.2.2 t ht)
    (fun k hk hk0 => (hJO k hk (hopen k hk0).2).of rfl rfl (fun _ => rfl) (fun z hz => ⟨hz, hold z hz⟩)) (2 * G.rr) (Nat.le_refl _)
  rw [hzi, e1, e2] at hg
  have hw2 := gof_we (G := G) (Y := Y.we' (up Y.we i 1)) (z := (i : Int)) (v := G.sm (op i)) (c := ((i / 2 : Nat) : Int)) (2 * G.rr)
  refine ⟨up wz i w, fun k hk hk0 => ?_, fun k hk hk0 => ?_⟩
  · have hk1 : (Y.we' (up Y.we i 1)).we k ≠ 0 := by
      intro q; apply hk0
      show (gof G (Y.we' (up Y.we i 1)) (i : Int) (G.sm (op i)) ((i / 2 : Nat) : Int) (2 * G.rr)).we k = 0
      rw [hw2]; exact q
    obtain ⟨k1, k2, k3⟩ := gof_keep (G := G) (Y := Y.we' (up Y.we i 1)) (z := (i : Int)) (v := G.sm (op i)) (c := ((i / 2 : Nat) : Int)) (j := k) (by omega) (2 * G.rr) (Or.inr hk1)
    by_cases e : k = i
    · subst e
      rw [up_s]
      exact ⟨a, b, c.of k1 k2 (fun t _ => by show (gof G _ _ _ _ _).wr k t = _; rw [k3]; rfl), hb⟩
    · rw [up_n _ _ e]
      have hk2 : Y.we k ≠ 0 := by
        have hk1 : up Y.we i 1 k ≠ 0 := hk1
        rw [up_n _ _ e] at hk1; exact hk1
      obtain ⟨j1, j2, j3, j4⟩ := hJS k hk hk2
      exact ⟨j1, j2, j3.of k1 k2 (fun t _ => by show (gof G _ _ _ _ _).wr k t = _; rw [k3]; rfl), j4⟩
  · have hk1 : (Y.we' (up Y.we i 1)).we k = 0 := by
      rw [← hw2]; exact hk0
    refine (hg k hk hk1).of rfl rfl (fun _ => rfl) (fun z hz => ⟨?_, rfl⟩)
    rcases hz with q | ⟨z1, z2, z3⟩
    · exact Or.inl (Or.inl q)
    · by_cases e : z = (i : Int)
      · exact Or.inr ⟨e, hk⟩
      · refine Or.inl (Or.inr ⟨z1, z2, ?_⟩)
        intro q
        apply z3
        show (gof G (Y.we' (up Y.we i 1)) (i : Int) (G.sm (op i)) ((i / 2 : Nat) : Int) (2 * G.rr)).we z.toNat = 0
        rw [hw2]
        show up Y.we i 1 z.toNat = 0
        rw [up_n _ _ (by omega)]; exact q
theorem lk_J {G : GS} {Y : YS} (hI : Inv G) : ∀ n, lkJ G (lk G Y n)
  | 0 => lk0_J hI
  | n + 1 => by
    have ih := lk_J (Y := Y) hI n
    show lkJ G (lkS G (lk G Y n))
    unfold lkS
    by_cases e : nos (lk G Y n) (2 * G.rr) = -1
    · rw [if_pos e]; exact ih
    · rw [if_neg e]
      have hr := nos_rng (lk G Y n) (2 * G.rr)
      have ho := nos_open (lk G Y n) (2 * G.rr) e
      exact lkE_J hI ih (by omega) ho.1 ho.2 (fun j hj a b => nos_min _ _ e j hj a b)
theorem cS_full {f : Nat → Nat} {n : Nat} (h : cS f n = n) : ∀ k, k < n → f k ≠ 0 := fun k hk q => by have := cS_lt q n hk; omega
/-- what the search tells of a side -/
theorem lka_side {G : GS} {Y : YS} (hI : Inv G) (hY : YI Y) {k : Nat} (hk : k < 2 * G.rr) : (((lka G Y).wm k = -1 ∧ (lka G Y).wl k = 0) ∧ ∀ w, isW G G.vn G.vc w → wLs w ≠ (k : Int)) ∨ ∃ w, BW G (-1) (k : Int) G.vn G.vc w ∧ rowD G (lka G Y) k w := by
  obtain ⟨wz, hJS, hJO⟩ : lkJ G (lka G Y) := lk_J hI (2 * G.rr)
  by_cases h0 : (lka G Y).we k = 0
  · left
    have hno : ∀ j, j < 2 * G.rr → (lka G Y).we j = 0 → (lka G Y).wm j = -1 := by
      rcases lk_I hI hY (2 * G.rr) (Nat.le_refl _) with ⟨h, -⟩ | ⟨n, h1, h2, h3, h4⟩
      · exact absurd h0 (cS_full h.2.2.1 k hk)
      · have h5 : lka G Y = lk G Y n := h4
        rw [h5]; exact fun j hj q => nos_no _ _ h3 j hj q
    refine ⟨⟨hno k hk h0, (hJO k hk h0).elim (fun q => q.1.2) (fun ⟨w, _, _, q, _⟩ => absurd (hno k hk h0) q.ne)⟩, fun u hu hul => ?_⟩
    obtain ⟨ua, rfl⟩ := wLs_split u hul
    obtain ⟨u1, j, u2, e, hs, hj⟩ := first_open (lka G Y).we (ua ++ [k]) ⟨k, List.mem_append.mpr (Or.inr (List.mem_singleton.mpr rfl)), h0⟩
    have e' : ua ++ [k] = (u1 ++ [j]) ++ u2 := by rw [e]; simp
    rw [e'] at hu
    have hw1 := ((isW_apd G _ _ _ _).mp hu).1
    obtain ⟨wj, -, -, c, -⟩ := first_row hI hJS hJO hw1 hs hj
    exact c.ne (hno j (isW_mem _ _ _ hw1 j (List.mem_append.mpr (Or.inr (List.mem_singleton.mpr rfl)))) hj)
  · right
    obtain ⟨a, b, c, d⟩ := hJS k hk h0
    refine ⟨wz k, ⟨a, Or.inr b, fun u hu hg => ?_⟩, c⟩
    exact d u hu (hg.elim (fun q => absurd q (by omega)) id)
