/-! 22.spec: from whole, what is needed here -/
theorem key_nil {G : GS} {c c' : Int} {u : List Nat} : ¬ key G c u < key G c' [] := by
  intro q
  rcases key_lt.mp q with q | ⟨-, q | ⟨-, q⟩⟩
  · exact absurd q (Nat.not_lt_zero _)
  · exact absurd q (Nat.not_lt_zero _)
  · exact List.not_lt_nil _ q
theorem lst_no (G : GS) (Y : YS) (v : Nat) : ∀ n, lst G Y v n = -1 → ∀ j, j < n → G.sm (op j) = v → Y.wm j = -1
  | 0, _, j, hj, _ => absurd hj (Nat.not_lt_zero _)
  | n + 1, h, j, hj, h0 => by
    rw [lst_s] at h
    by_cases q : G.sm (op n) = v ∧ ¬ Y.wm n = -1 ∧ (lst G Y v n = -1 ∨ shr Y n (lst G Y v n).toNat)
    · rw [if_pos q] at h; omega
    · rw [if_neg q] at h
      by_cases e : j = n
      · subst e
        exact Classical.byContradiction (fun z => q ⟨h0, z, Or.inl h⟩)
      · exact lst_no G Y v n h j (by omega) h0
theorem lst_is {G : GS} {Y : YS} {v : Nat} (R : ∀ j, j < 2 * G.rr → Y.wm j ≠ -1 → ∃ w, rowD G Y j w) : ∀ n, n ≤ 2 * G.rr → lst G Y v n ≠ -1 → (0 ≤ lst G Y v n ∧ lst G Y v n < (n : Int)) ∧ G.sm (op (lst G Y v n).toNat) = v ∧ Y.wm (lst G Y v n).toNat ≠ -1 ∧ ∀ j, j < n → G.sm (op j) = v → ∀ u w, rowD G Y j u → rowD G Y (lst G Y v n).toNat w → ¬ key G G.vc u < key G G.vc w
  | 0, _, h => absurd rfl h
  | n + 1, hn, h => by
    rw [lst_s] at h ⊢
    by_cases q : G.sm (op n) = v ∧ ¬ Y.wm n = -1 ∧ (lst G Y v n = -1 ∨ shr Y n (lst G Y v n).toNat)
    · rw [if_pos q, Int.toNat_natCast]
      refine ⟨⟨by omega, by omega⟩, q.1, q.2.1, fun j hj hjv u w hu hw => ?_⟩
      by_cases e : j = n
      · subst e
        intro z
        exact absurd ((shr_key hu hw).mpr z) (fun z => by
          rcases z with z | ⟨-, z | ⟨-, z⟩⟩
          · omega
          · omega
          · have e1 : rds u = rds w := by
              refine List.ext_getElem (by rw [rds_len, rds_len, ← hu.2.1, hw.2.1]) (fun t h1 h2 => ?_)
              rw [rds_get, rds_get, ← hu.2.2 t (by rw [rds_len] at h1; exact h1), ← hw.2.2 t (by rw [rds_len] at h2; exact h2)]
            have z2 := (shr_key hu hw).mp (Or.inr ⟨rfl, Or.inr ⟨rfl, z⟩⟩)
            have e2 : key G G.vc u = key G G.vc w := by
              unfold key
              rw [e1, show mns G G.vc u = mns G G.vc w by have := hu.1; have := hw.1; omega, show u.length = w.length from hu.2.1.symm.trans hw.2.1]
            rw [e2] at z2; exact key_ir z2)
      · rcases q.2.2 with z | z
        · exact absurd (lst_no G Y v n z j (by omega) hjv) hu.ne
        · by_cases z2 : lst G Y v n = -1
          · exact absurd (lst_no G Y v n z2 j (by omega) hjv) hu.ne
          · obtain ⟨a1, a2, a3, a4⟩ := lst_is R n (by omega) z2
            obtain ⟨w2, hw2⟩ := R (lst G Y v n).toNat (by omega) a3
            have h1 := a4 j (by omega) hjv u w2 hu hw2
            have h2 := (shr_key hw hw2).mp z
            exact fun z3 => h1 (key_tr z3 h2)
    · rw [if_neg q] at h ⊢
      have z2 : lst G Y v n ≠ -1 := h
      obtain ⟨a1, a2, a3, a4⟩ := lst_is R n (by omega) z2
      refine ⟨⟨a1.1, by omega⟩, a2, a3, fun j hj hjv u w hu hw => ?_⟩
      by_cases e : j = n
      · subst e
        intro z
        exact q ⟨hjv, hu.ne, Or.inr ((shr_key hu hw).mpr z)⟩
      · exact a4 j (by omega) hjv u w hu hw
/-- what the search tells of a node -/
theorem lka_node {G : GS} {Y : YS} (hI : Inv G) (hY : YI Y) {v : Nat} : (lstZ G (lka G Y) v = -1 ∧ mnZ G (lka G Y) v = -1 ∧ ∀ w, isW G G.vn G.vc w → wEnd G G.vn w ≠ v) ∨ ∃ w, BW G (v : Int) (-1) G.vn G.vc w ∧ mnZ G (lka G Y) v = (mns G G.vc w : Int) ∧ rowW (lka G Y) (lstZ G (lka G Y) v) w := by
  have hws := lka_ws hI hY
  have hrr := hI.rr
  by_cases e : v = (lka G Y).ws
  · right
    refine ⟨[], ⟨trivial, Or.inl (by rw [e, hws]; rfl), fun u _ _ => key_nil⟩, ?_, ?_⟩
    · unfold mnZ; rw [if_pos e]; rfl
    · have : lstZ G (lka G Y) v = -1 := by unfold lstZ; rw [if_pos e]
      rw [this]
      exact ⟨rfl, fun t h => absurd h (Nat.not_lt_zero _)⟩
  · have hlz : lstZ G (lka G Y) v = lst G (lka G Y) v (2 * G.rr) := by unfold lstZ; rw [if_neg e]
    have hmz : mnZ G (lka G Y) v = mtZ (lka G Y) (lstZ G (lka G Y) v) := by unfold mnZ; rw [if_neg e]
    have hR : ∀ j, j < 2 * G.rr → (lka G Y).wm j ≠ -1 → ∃ w, BW G (-1) (j : Int) G.vn G.vc w ∧ rowD G (lka G Y) j w := fun j hj hm => (lka_side hI hY hj).elim (fun q => absurd q.1.1 hm) id
    have hlast : ∀ u, isW G G.vn G.vc u → wEnd G G.vn u = v → ∃ a s, u = a ++ [s] ∧ s < 2 * G.rr ∧ G.sm (op s) = v := fun u hu hv => by
      rcases snoc_of u with rfl | ⟨a, s, rfl⟩
      · exact absurd (hv.symm.trans hws.symm) e
      · refine ⟨a, s, rfl, isW_mem _ _ _ hu s (List.mem_append.mpr (Or.inr (List.mem_singleton.mpr rfl))), ?_⟩
        rw [← (wLs_at G _ G.vn G.vc (wLs_snoc a s)).1]; exact hv
    by_cases hl : lst G (lka G Y) v (2 * G.rr) = -1
    · left
      refine ⟨hlz.trans hl, ?_, fun u hu hv => ?_⟩
      · rw [hmz, hlz, hl]; rfl
      · obtain ⟨a, s, rfl, h1, h2⟩ := hlast u hu hv
        have h3 := lst_no G _ v _ hl s h1 h2
        rcases lka_side hI hY h1 with q | ⟨w, -, q⟩
        · exact q.2 _ hu (wLs_snoc a s)
        · exact q.ne h3
    · right
      obtain ⟨a1, a2, a3, a4⟩ := lst_is (G := G) (Y := lka G Y) (v := v) (fun j hj hm => by obtain ⟨w, -, q⟩ := hR j hj hm; exact ⟨w, q⟩) (2 * G.rr) (Nat.le_refl _) hl
      obtain ⟨w, b1, b2⟩ := hR _ (by omega) a3
      have hlt : lst G (lka G Y) v (2 * G.rr) = (((lst G (lka G Y) v (2 * G.rr)).toNat : Nat) : Int) := by omega
      have hwl : wLs w = (((lst G (lka G Y) v (2 * G.rr)).toNat : Nat) : Int) := b1.2.1.elim (fun q => absurd q (by omega)) id
      refine ⟨w, ⟨b1.1, Or.inl (by rw [(wLs_at G w G.vn G.vc hwl).1, a2]), fun u hu hg => ?_⟩, ?_, ?_⟩
      · have hv : wEnd G G.vn u = v := by
          rcases hg with q | q
          · omega
          · have := hu
            rcases snoc_of u with rfl | ⟨a, s, rfl⟩
            · exact absurd q (by show (-2 : Int) ≠ -1; decide)
            · rw [wLs_snoc] at q; omega
        obtain ⟨a, s, rfl, h1, h2⟩ := hlast u hu hv
        rcases lka_side hI hY h1 with q | ⟨w2, q1, q2⟩
        · exact absurd (wLs_snoc a s) (q.2 _ hu)
        · have h3 := a4 s h1 h2 w2 w q2 b2
          have h4 := q1.2.2 _ hu (Or.inr (wLs_snoc a s))
          exact fun z => h3 (key_lelt h4 z)
      · rw [hmz, hlz]
        unfold mtZ; rw [if_neg hl]; exact b2.1
      · rw [hlz]
        refine ⟨?_, b2.2.2⟩
        unfold layL; rw [if_neg hl]; exact b2.2.1.symm
