/-! 20.order: from whole, what is needed here -/
def mns (G : GS) : Int → List Nat → Nat
  | _, [] => 0
  | c, j :: w => G.mi (j / 2) + (if ((j / 2 : Nat) : Int) = c then 2 else 0) + mns G ((j / 2 : Nat) : Int) w
def rds (w : List Nat) : List Nat := w.map (fun j => j / 2)
def key (G : GS) (c : Int) (w : List Nat) : List Nat := mns G c w :: w.length :: rds w
def wRd : Int → List Nat → Int
  | c, [] => c
  | _, j :: w => wRd ((j / 2 : Nat) : Int) w
def stp (G : GS) (v : Nat) (c : Int) (k : Nat) : Prop := k < 2 * G.rr ∧ G.sm k = v ∧ (((k / 2 : Nat) : Int) ≠ c ∨ G.tu v ≠ 0)
theorem isW_apd (G : GS) : ∀ (a : List Nat) (v : Nat) (c : Int) (b : List Nat), isW G v c (a ++ b) ↔ isW G v c a ∧ isW G (wEnd G v a) (wRd c a) b
  | [], _, _, _ => ⟨fun h => ⟨trivial, h⟩, fun h => h.2⟩
  | j :: a, v, c, b => by
    have h := isW_apd G a (G.sm (op j)) ((j / 2 : Nat) : Int) b
    exact ⟨fun q => ⟨⟨q.1, (h.mp q.2).1⟩, (h.mp q.2).2⟩, fun q => ⟨q.1.1, h.mpr ⟨q.1.2, q.2⟩⟩⟩
theorem isW_one (G : GS) (v : Nat) (c : Int) (k : Nat) : isW G v c [k] ↔ stp G v c k := ⟨fun h => h.1, fun h => ⟨h, trivial⟩⟩
theorem isW_snoc (G : GS) (w : List Nat) (v : Nat) (c : Int) (k : Nat) : isW G v c (w ++ [k]) ↔ isW G v c w ∧ stp G (wEnd G v w) (wRd c w) k := by
  rw [isW_apd, isW_one]
theorem mns_app (G : GS) : ∀ (a : List Nat) (c : Int) (b : List Nat), mns G c (a ++ b) = mns G c a + mns G (wRd c a) b
  | [], c, b => by show _ = 0 + _; rw [Nat.zero_add]; rfl
  | j :: a, c, b => by
    show _ + mns G ((j / 2 : Nat) : Int) (a ++ b) = _ + mns G ((j / 2 : Nat) : Int) a + mns G (wRd ((j / 2 : Nat) : Int) a) b
    rw [mns_app G a]; omega
theorem wLs_snoc : ∀ (w : List Nat) (k : Nat), wLs (w ++ [k]) = (k : Int)
  | [], _ => rfl
  | [_], _ => rfl
  | _ :: i :: w, k => wLs_snoc (i :: w) k
theorem wLs_at (G : GS) {s : Nat} : ∀ (w : List Nat) (v : Nat) (c : Int), wLs w = (s : Int) → wEnd G v w = G.sm (op s) ∧ wRd c w = ((s / 2 : Nat) : Int)
  | [], _, _, h => absurd h (show (-2 : Int) ≠ (s : Int) by omega)
  | [j], _, _, h => by
    have : j = s := by have h : (j : Int) = (s : Int) := h; omega
    subst this; exact ⟨rfl, rfl⟩
  | j :: i :: w, _, _, h => wLs_at G (i :: w) (G.sm (op j)) ((j / 2 : Nat) : Int) h
theorem wLs_split {s : Nat} : ∀ (w : List Nat), wLs w = (s : Int) → ∃ u, w = u ++ [s]
  | [], h => absurd h (show (-2 : Int) ≠ (s : Int) by omega)
  | [j], h => by
    have : j = s := by have h : (j : Int) = (s : Int) := h; omega
    subst this; exact ⟨[], rfl⟩
  | j :: i :: w, h => by
    obtain ⟨u, hu⟩ := wLs_split (i :: w) h
    exact ⟨j :: u, by rw [hu]; rfl⟩
theorem key_lt {G : GS} {c c' : Int} {u w : List Nat} : key G c u < key G c' w ↔ mns G c u < mns G c' w ∨ (mns G c u = mns G c' w ∧ (u.length < w.length ∨ (u.length = w.length ∧ rds u < rds w))) := by
  unfold key
  rw [List.cons_lt_cons_iff, List.cons_lt_cons_iff]
theorem key_tr {a b c : List Nat} (h1 : a < b) (h2 : b < c) : a < c := List.lt_trans h1 h2
theorem key_ir {a : List Nat} : ¬ a < a := List.lt_irrefl a
theorem lt_snoc (x : Nat) : ∀ a b : List Nat, a.length = b.length → (a ++ [x] < b ++ [x] ↔ a < b)
  | [], [], _ => ⟨fun h => absurd h (List.lt_irrefl _), fun h => absurd h (List.lt_irrefl _)⟩
  | a :: as, b :: bs, h => by
    show a :: (as ++ [x]) < b :: (bs ++ [x]) ↔ _
    rw [List.cons_lt_cons_iff, List.cons_lt_cons_iff, lt_snoc x as bs (by simpa using h)]
  | [], _ :: _, h => by simp at h
  | _ :: _, [], h => by simp at h
theorem rds_len (w : List Nat) : (rds w).length = w.length := List.length_map ..
theorem rds_app (a b : List Nat) : rds (a ++ b) = rds a ++ rds b := List.map_append ..
theorem key_snoc {G : GS} {c : Int} {u w : List Nat} {k : Nat} (h : wRd c u = wRd c w) : key G c (u ++ [k]) < key G c (w ++ [k]) ↔ key G c u < key G c w := by
  rw [key_lt, key_lt, mns_app, mns_app, h, List.length_append, List.length_append, rds_app, rds_app]
  show _ + _ < _ + _ ∨ (_ ∧ (_ + 1 < _ + 1 ∨ (_ + 1 = _ + 1 ∧ rds u ++ [k / 2] < rds w ++ [k / 2]))) ↔ _
  by_cases e : u.length = w.length
  · rw [lt_snoc _ _ _ (by rw [rds_len, rds_len]; exact e)]
    constructor
    · rintro (q | ⟨q1, q2 | ⟨q2, q3⟩⟩)
      · exact Or.inl (by omega)
      · exact Or.inr ⟨by omega, Or.inl (by omega)⟩
      · exact Or.inr ⟨by omega, Or.inr ⟨e, q3⟩⟩
    · rintro (q | ⟨q1, q2 | ⟨q2, q3⟩⟩)
      · exact Or.inl (by omega)
      · exact Or.inr ⟨by omega, Or.inl (by omega)⟩
      · exact Or.inr ⟨by omega, Or.inr ⟨by omega, q3⟩⟩
  · constructor
    · rintro (q | ⟨q1, q2 | ⟨q2, q3⟩⟩)
      · exact Or.inl (by omega)
      · exact Or.inr ⟨by omega, Or.inl (by omega)⟩
      · omega
    · rintro (q | ⟨q1, q2 | ⟨q2, q3⟩⟩)
      · exact Or.inl (by omega)
      · exact Or.inr ⟨by omega, Or.inl (by omega)⟩
      · omega
theorem lexB_lt : ∀ (a b : List Nat) (f g : Nat → Nat) (t : Nat), a.length = b.length → (∀ p (h : p < a.length), f (t + p) = a[p]) → (∀ p (h : p < b.length), g (t + p) = b[p]) → (lexB f g a.length t = true ↔ a < b)
  | [], [], _, _, _, _, _, _ => ⟨fun h => (by cases h), fun h => absurd h (List.lt_irrefl _)⟩
  | x :: as, y :: bs, f, g, t, h, hf, hg => by
    have e1 : f t = x := hf 0 (Nat.zero_lt_succ _)
    have e2 : g t = y := hg 0 (Nat.zero_lt_succ _)
    have ih := lexB_lt as bs f g (t + 1) (by simpa using h) (fun p hp => by have := hf (p + 1) (Nat.succ_lt_succ hp); rw [show t + 1 + p = t + (p + 1) by omega]; exact this) (fun p hp => by have := hg (p + 1) (Nat.succ_lt_succ hp); rw [show t + 1 + p = t + (p + 1) by omega]; exact this)
    rw [List.cons_lt_cons_iff]
    show lexB f g (as.length + 1) t = true ↔ _
    rw [lexB_s, e1, e2]
    by_cases q : x = y
    · rw [if_pos q]
      exact ⟨fun z => Or.inr ⟨q, ih.mp z⟩, fun z => z.elim (fun z => absurd z (by omega)) (fun z => ih.mpr z.2)⟩
    · rw [if_neg q]
      exact ⟨fun z => Or.inl (of_decide_eq_true z), fun z => z.elim (fun z => decide_eq_true z) (fun z => absurd z.1 q)⟩
  | [], _ :: _, _, _, _, h, _, _ => by simp at h
  | _ :: _, [], _, _, _, h, _, _ => by simp at h
/-- roads tell the sides -/
theorem isW_inj {G : GS} (hI : Inv G) : ∀ (a b : List Nat) (v : Nat) (c : Int), isW G v c a → isW G v c b → rds a = rds b → a = b
  | [], [], _, _, _, _, _ => rfl
  | [], _ :: _, _, _, _, _, h => by simp [rds] at h
  | _ :: _, [], _, _, _, _, h => by simp [rds] at h
  | i :: a, j :: b, v, c, ha, hb, h => by
    have h1 : i / 2 = j / 2 := by have := congrArg List.head? h; simpa [rds] using this
    have h2 : rds a = rds b := by have := congrArg List.tail h; simpa [rds] using this
    have hij : i = j := by
      have e1 := sF_side hI ha.1.1 ha.1.2.1
      have e2 := sF_side hI hb.1.1 hb.1.2.1
      rw [h1, e2] at e1; omega
    subst hij
    rw [isW_inj hI a b _ _ ha.2 hb.2 h2]
theorem key_eq {G : GS} {c : Int} {u w : List Nat} (h1 : ¬ key G c u < key G c w) (h2 : ¬ key G c w < key G c u) : key G c u = key G c w := by
  rcases (List.le_iff_lt_or_eq (l₁ := key G c w) (l₂ := key G c u)).mp h1 with h | h
  · exact absurd h h2
  · exact h.symm
theorem key_rds {G : GS} {c : Int} {u w : List Nat} (h : key G c u = key G c w) : mns G c u = mns G c w ∧ u.length = w.length ∧ rds u = rds w := by
  unfold key at h
  injection h with h1 h2
  injection h2 with h2 h3
  exact ⟨h1, h2, h3⟩
theorem key_lelt {a b c : List Nat} (h1 : ¬ b < a) (h2 : b < c) : a < c := List.lt_of_le_of_lt h1 h2
/-- a best way to a goal -/
def BW (G : GS) (n k : Int) (v : Nat) (c : Int) (w : List Nat) : Prop := isW G v c w ∧ wGl G n k v w ∧ ∀ u, isW G v c u → wGl G n k v u → ¬ key G c u < key G c w
theorem BW.uniq {G : GS} (hI : Inv G) {n k : Int} {v : Nat} {c : Int} {u w : List Nat} (h1 : BW G n k v c u) (h2 : BW G n k v c w) : u = w :=
  isW_inj hI u w v c h1.1 h2.1 (key_rds (key_eq (h2.2.2 u h1.1 h1.2.1) (h1.2.2 w h2.1 h2.2.1))).2.2
