section
-- ===== PART A: goes FIRST, ahead of the names: the tables' words, and 'selects' of the private methods out of them =====
/-- a private method of a class that the tables say can be made, by its rows of tables_1 -/
def lw_okq (q : MethodName × Nat) : Prop := (q.1.cls ≠ "java/lang/invoke/MethodHandle" ∧ q.1.cls ≠ "java/lang/invoke/VarHandle") ∧ Cond.instantiable q.1.cls q.2 ∈ tables_1 ∧ Cond.privateMethod q.1 ∈ tables_1 ∧ Cond.instanceMethod q.1 ∈ tables_1
theorem lw_p0 : lw_okq (⟨"PloughPlanner", "findNextSide", "()I"⟩, 3) := ⟨⟨by decide +kernel, by decide +kernel⟩, List.mem_of_getElem? (i := 14) (by decide +kernel), List.mem_of_getElem? (i := 157) (by decide +kernel), List.mem_of_getElem? (i := 158) (by decide +kernel)⟩
theorem lw_p1 : lw_okq (⟨"PloughPlanner$Ways", "forgetAll", "()V"⟩, 7) := ⟨⟨by decide +kernel, by decide +kernel⟩, List.mem_of_getElem? (i := 92) (by decide +kernel), List.mem_of_getElem? (i := 169) (by decide +kernel), List.mem_of_getElem? (i := 170) (by decide +kernel)⟩
theorem lw_p2 : lw_okq (⟨"PloughPlanner$Ways", "goOnFrom", "(III)V"⟩, 7) := ⟨⟨by decide +kernel, by decide +kernel⟩, List.mem_of_getElem? (i := 92) (by decide +kernel), List.mem_of_getElem? (i := 177) (by decide +kernel), List.mem_of_getElem? (i := 178) (by decide +kernel)⟩
theorem lw_p3 : lw_okq (⟨"PloughPlanner$Ways", "layTrial", "(III)V"⟩, 7) := ⟨⟨by decide +kernel, by decide +kernel⟩, List.mem_of_getElem? (i := 92) (by decide +kernel), List.mem_of_getElem? (i := 198) (by decide +kernel), List.mem_of_getElem? (i := 199) (by decide +kernel)⟩
theorem lw_p4 : lw_okq (⟨"PloughPlanner$Ways", "copyRow", "(III)V"⟩, 7) := ⟨⟨by decide +kernel, by decide +kernel⟩, List.mem_of_getElem? (i := 92) (by decide +kernel), List.mem_of_getElem? (i := 207) (by decide +kernel), List.mem_of_getElem? (i := 208) (by decide +kernel)⟩
theorem lw_p5 : lw_okq (⟨"PloughPlanner$Ways", "isShorter", "(II)Z"⟩, 7) := ⟨⟨by decide +kernel, by decide +kernel⟩, List.mem_of_getElem? (i := 92) (by decide +kernel), List.mem_of_getElem? (i := 223) (by decide +kernel), List.mem_of_getElem? (i := 224) (by decide +kernel)⟩
theorem lw_p6 : lw_okq (⟨"PloughPlanner$Ways", "nearestOpenSide", "()I"⟩, 7) := ⟨⟨by decide +kernel, by decide +kernel⟩, List.mem_of_getElem? (i := 92) (by decide +kernel), List.mem_of_getElem? (i := 227) (by decide +kernel), List.mem_of_getElem? (i := 228) (by decide +kernel)⟩
theorem lw_p7 : lw_okq (⟨"PloughPlanner", "isMoreUrgent", "(II)Z"⟩, 3) := ⟨⟨by decide +kernel, by decide +kernel⟩, List.mem_of_getElem? (i := 14) (by decide +kernel), List.mem_of_getElem? (i := 240) (by decide +kernel), List.mem_of_getElem? (i := 241) (by decide +kernel)⟩
theorem lw_p8 : lw_okq (⟨"java/lang/Throwable", "fillInStackTrace", "(I)Ljava/lang/Throwable;"⟩, 6) := ⟨⟨by decide +kernel, by decide +kernel⟩, List.mem_of_getElem? (i := 322) (by decide +kernel), List.mem_of_getElem? (i := 320) (by decide +kernel), List.mem_of_getElem? (i := 321) (by decide +kernel)⟩
theorem lw_p9 : lw_okq (⟨"PloughPlanner", "checkNode", "(I)V"⟩, 3) := ⟨⟨by decide +kernel, by decide +kernel⟩, List.mem_of_getElem? (i := 14) (by decide +kernel), List.mem_of_getElem? (i := 364) (by decide +kernel), List.mem_of_getElem? (i := 365) (by decide +kernel)⟩
theorem lw_p10 : lw_okq (⟨"PloughPlanner$Town", "heap", "(II)V"⟩, 9) := ⟨⟨by decide +kernel, by decide +kernel⟩, List.mem_of_getElem? (i := 22) (by decide +kernel), List.mem_of_getElem? (i := 447) (by decide +kernel), List.mem_of_getElem? (i := 448) (by decide +kernel)⟩
theorem lw_p11 : lw_okq (⟨"PloughPlanner", "checkedSide", "(II)I"⟩, 3) := ⟨⟨by decide +kernel, by decide +kernel⟩, List.mem_of_getElem? (i := 14) (by decide +kernel), List.mem_of_getElem? (i := 468) (by decide +kernel), List.mem_of_getElem? (i := 469) (by decide +kernel)⟩
theorem lw_p12 : lw_okq (⟨"PloughPlanner$Town", "withNeighbours", "(I)I"⟩, 9) := ⟨⟨by decide +kernel, by decide +kernel⟩, List.mem_of_getElem? (i := 22) (by decide +kernel), List.mem_of_getElem? (i := 504) (by decide +kernel), List.mem_of_getElem? (i := 505) (by decide +kernel)⟩
theorem lw_p13 : lw_okq (⟨"PloughPlanner$Vehicle", "strewOn", "(II)V"⟩, 9) := ⟨⟨by decide +kernel, by decide +kernel⟩, List.mem_of_getElem? (i := 58) (by decide +kernel), List.mem_of_getElem? (i := 537) (by decide +kernel), List.mem_of_getElem? (i := 538) (by decide +kernel)⟩
theorem lw_p14 : lw_okq (⟨"PloughPlanner", "nearestStore", "()I"⟩, 3) := ⟨⟨by decide +kernel, by decide +kernel⟩, List.mem_of_getElem? (i := 14) (by decide +kernel), List.mem_of_getElem? (i := 633) (by decide +kernel), List.mem_of_getElem? (i := 634) (by decide +kernel)⟩
theorem lw_p15 : lw_okq (⟨"PloughPlanner", "fillUpAt", "(I)I"⟩, 3) := ⟨⟨by decide +kernel, by decide +kernel⟩, List.mem_of_getElem? (i := 14) (by decide +kernel), List.mem_of_getElem? (i := 637) (by decide +kernel), List.mem_of_getElem? (i := 638) (by decide +kernel)⟩
def lw_privs_1 : List (MethodName × Nat) := [(⟨"PloughPlanner", "findNextSide", "()I"⟩, 3), (⟨"PloughPlanner$Ways", "forgetAll", "()V"⟩, 7), (⟨"PloughPlanner$Ways", "goOnFrom", "(III)V"⟩, 7), (⟨"PloughPlanner$Ways", "layTrial", "(III)V"⟩, 7), (⟨"PloughPlanner$Ways", "copyRow", "(III)V"⟩, 7), (⟨"PloughPlanner$Ways", "isShorter", "(II)Z"⟩, 7), (⟨"PloughPlanner$Ways", "nearestOpenSide", "()I"⟩, 7), (⟨"PloughPlanner", "isMoreUrgent", "(II)Z"⟩, 3), (⟨"java/lang/Throwable", "fillInStackTrace", "(I)Ljava/lang/Throwable;"⟩, 6), (⟨"PloughPlanner", "checkNode", "(I)V"⟩, 3), (⟨"PloughPlanner$Town", "heap", "(II)V"⟩, 9), (⟨"PloughPlanner", "checkedSide", "(II)I"⟩, 3), (⟨"PloughPlanner$Town", "withNeighbours", "(I)I"⟩, 9), (⟨"PloughPlanner$Vehicle", "strewOn", "(II)V"⟩, 9), (⟨"PloughPlanner", "nearestStore", "()I"⟩, 3), (⟨"PloughPlanner", "fillUpAt", "(I)I"⟩, 3)]
theorem lw_r1 : ∀ q ∈ lw_privs_1, lw_okq q := List.forall_mem_cons.mpr ⟨lw_p0, List.forall_mem_cons.mpr ⟨lw_p1, List.forall_mem_cons.mpr ⟨lw_p2, List.forall_mem_cons.mpr ⟨lw_p3, List.forall_mem_cons.mpr ⟨lw_p4, List.forall_mem_cons.mpr ⟨lw_p5, List.forall_mem_cons.mpr ⟨lw_p6, List.forall_mem_cons.mpr ⟨lw_p7, List.forall_mem_cons.mpr ⟨lw_p8, List.forall_mem_cons.mpr ⟨lw_p9, List.forall_mem_cons.mpr ⟨lw_p10, List.forall_mem_cons.mpr ⟨lw_p11, List.forall_mem_cons.mpr ⟨lw_p12, List.forall_mem_cons.mpr ⟨lw_p13, List.forall_mem_cons.mpr ⟨lw_p14, List.forall_mem_cons.mpr ⟨lw_p15, fun _ h => absurd h List.not_mem_nil⟩⟩⟩⟩⟩⟩⟩⟩⟩⟩⟩⟩⟩⟩⟩⟩
theorem lw_p16 : lw_okq (⟨"PloughPlanner", "followWayTo", "(I)I"⟩, 3) := ⟨⟨by decide +kernel, by decide +kernel⟩, List.mem_of_getElem? (i := 14) (by decide +kernel), List.mem_of_getElem? (i := 641) (by decide +kernel), List.mem_of_getElem? (i := 642) (by decide +kernel)⟩
theorem lw_p17 : lw_okq (⟨"PloughPlannerModel", "fail", "(I)I"⟩, 18) := ⟨⟨by decide +kernel, by decide +kernel⟩, List.mem_of_getElem? (i := 654) (by decide +kernel), List.mem_of_getElem? (i := 724) (by decide +kernel), List.mem_of_getElem? (i := 725) (by decide +kernel)⟩
theorem lw_p18 : lw_okq (⟨"PloughPlannerModel", "isNode", "(I)Z"⟩, 18) := ⟨⟨by decide +kernel, by decide +kernel⟩, List.mem_of_getElem? (i := 654) (by decide +kernel), List.mem_of_getElem? (i := 732) (by decide +kernel), List.mem_of_getElem? (i := 733) (by decide +kernel)⟩
theorem lw_p19 : lw_okq (⟨"PloughPlannerModel", "deepest", "(I)I"⟩, 18) := ⟨⟨by decide +kernel, by decide +kernel⟩, List.mem_of_getElem? (i := 654) (by decide +kernel), List.mem_of_getElem? (i := 748) (by decide +kernel), List.mem_of_getElem? (i := 749) (by decide +kernel)⟩
theorem lw_p20 : lw_okq (⟨"PloughPlannerModel", "isSide", "(II)Z"⟩, 18) := ⟨⟨by decide +kernel, by decide +kernel⟩, List.mem_of_getElem? (i := 654) (by decide +kernel), List.mem_of_getElem? (i := 757) (by decide +kernel), List.mem_of_getElem? (i := 758) (by decide +kernel)⟩
theorem lw_p21 : lw_okq (⟨"PloughPlannerModel", "tail", "(I)I"⟩, 18) := ⟨⟨by decide +kernel, by decide +kernel⟩, List.mem_of_getElem? (i := 654) (by decide +kernel), List.mem_of_getElem? (i := 773) (by decide +kernel), List.mem_of_getElem? (i := 774) (by decide +kernel)⟩
theorem lw_p22 : lw_okq (⟨"PloughPlannerModel", "head", "(I)I"⟩, 18) := ⟨⟨by decide +kernel, by decide +kernel⟩, List.mem_of_getElem? (i := 654) (by decide +kernel), List.mem_of_getElem? (i := 777) (by decide +kernel), List.mem_of_getElem? (i := 778) (by decide +kernel)⟩
theorem lw_p23 : lw_okq (⟨"PloughPlannerModel", "sideOf", "(III)I"⟩, 18) := ⟨⟨by decide +kernel, by decide +kernel⟩, List.mem_of_getElem? (i := 654) (by decide +kernel), List.mem_of_getElem? (i := 793) (by decide +kernel), List.mem_of_getElem? (i := 794) (by decide +kernel)⟩
theorem lw_p24 : lw_okq (⟨"PloughPlannerModel", "drive", "(I)I"⟩, 18) := ⟨⟨by decide +kernel, by decide +kernel⟩, List.mem_of_getElem? (i := 654) (by decide +kernel), List.mem_of_getElem? (i := 797) (by decide +kernel), List.mem_of_getElem? (i := 798) (by decide +kernel)⟩
theorem lw_p25 : lw_okq (⟨"PloughPlannerModel", "turnTime", "(II)I"⟩, 18) := ⟨⟨by decide +kernel, by decide +kernel⟩, List.mem_of_getElem? (i := 654) (by decide +kernel), List.mem_of_getElem? (i := 801) (by decide +kernel), List.mem_of_getElem? (i := 802) (by decide +kernel)⟩
theorem lw_p26 : lw_okq (⟨"PloughPlannerModel", "fillUp", "()I"⟩, 18) := ⟨⟨by decide +kernel, by decide +kernel⟩, List.mem_of_getElem? (i := 654) (by decide +kernel), List.mem_of_getElem? (i := 809) (by decide +kernel), List.mem_of_getElem? (i := 810) (by decide +kernel)⟩
theorem lw_p27 : lw_okq (⟨"PloughPlannerModel", "told", "(I)I"⟩, 18) := ⟨⟨by decide +kernel, by decide +kernel⟩, List.mem_of_getElem? (i := 654) (by decide +kernel), List.mem_of_getElem? (i := 818) (by decide +kernel), List.mem_of_getElem? (i := 819) (by decide +kernel)⟩
theorem lw_p28 : lw_okq (⟨"PloughPlannerModel", "weigh", "(II)V"⟩, 18) := ⟨⟨by decide +kernel, by decide +kernel⟩, List.mem_of_getElem? (i := 654) (by decide +kernel), List.mem_of_getElem? (i := 826) (by decide +kernel), List.mem_of_getElem? (i := 827) (by decide +kernel)⟩
theorem lw_p29 : lw_okq (⟨"PloughPlannerModel", "weightBy", "(III)I"⟩, 18) := ⟨⟨by decide +kernel, by decide +kernel⟩, List.mem_of_getElem? (i := 654) (by decide +kernel), List.mem_of_getElem? (i := 831) (by decide +kernel), List.mem_of_getElem? (i := 832) (by decide +kernel)⟩
theorem lw_p30 : lw_okq (⟨"PloughPlannerModel", "weightAt", "(II)I"⟩, 18) := ⟨⟨by decide +kernel, by decide +kernel⟩, List.mem_of_getElem? (i := 654) (by decide +kernel), List.mem_of_getElem? (i := 835) (by decide +kernel), List.mem_of_getElem? (i := 836) (by decide +kernel)⟩
theorem lw_p31 : lw_okq (⟨"PloughPlannerModel", "minutesLeft", "()I"⟩, 18) := ⟨⟨by decide +kernel, by decide +kernel⟩, List.mem_of_getElem? (i := 654) (by decide +kernel), List.mem_of_getElem? (i := 839) (by decide +kernel), List.mem_of_getElem? (i := 840) (by decide +kernel)⟩
def lw_privs_2 : List (MethodName × Nat) := [(⟨"PloughPlanner", "followWayTo", "(I)I"⟩, 3), (⟨"PloughPlannerModel", "fail", "(I)I"⟩, 18), (⟨"PloughPlannerModel", "isNode", "(I)Z"⟩, 18), (⟨"PloughPlannerModel", "deepest", "(I)I"⟩, 18), (⟨"PloughPlannerModel", "isSide", "(II)Z"⟩, 18), (⟨"PloughPlannerModel", "tail", "(I)I"⟩, 18), (⟨"PloughPlannerModel", "head", "(I)I"⟩, 18), (⟨"PloughPlannerModel", "sideOf", "(III)I"⟩, 18), (⟨"PloughPlannerModel", "drive", "(I)I"⟩, 18), (⟨"PloughPlannerModel", "turnTime", "(II)I"⟩, 18), (⟨"PloughPlannerModel", "fillUp", "()I"⟩, 18), (⟨"PloughPlannerModel", "told", "(I)I"⟩, 18), (⟨"PloughPlannerModel", "weigh", "(II)V"⟩, 18), (⟨"PloughPlannerModel", "weightBy", "(III)I"⟩, 18), (⟨"PloughPlannerModel", "weightAt", "(II)I"⟩, 18), (⟨"PloughPlannerModel", "minutesLeft", "()I"⟩, 18)]
theorem lw_r2 : ∀ q ∈ lw_privs_2, lw_okq q := List.forall_mem_cons.mpr ⟨lw_p16, List.forall_mem_cons.mpr ⟨lw_p17, List.forall_mem_cons.mpr ⟨lw_p18, List.forall_mem_cons.mpr ⟨lw_p19, List.forall_mem_cons.mpr ⟨lw_p20, List.forall_mem_cons.mpr ⟨lw_p21, List.forall_mem_cons.mpr ⟨lw_p22, List.forall_mem_cons.mpr ⟨lw_p23, List.forall_mem_cons.mpr ⟨lw_p24, List.forall_mem_cons.mpr ⟨lw_p25, List.forall_mem_cons.mpr ⟨lw_p26, List.forall_mem_cons.mpr ⟨lw_p27, List.forall_mem_cons.mpr ⟨lw_p28, List.forall_mem_cons.mpr ⟨lw_p29, List.forall_mem_cons.mpr ⟨lw_p30, List.forall_mem_cons.mpr ⟨lw_p31, fun _ h => absurd h List.not_mem_nil⟩⟩⟩⟩⟩⟩⟩⟩⟩⟩⟩⟩⟩⟩⟩⟩
theorem lw_p32 : lw_okq (⟨"PloughPlannerModel", "nextRoad", "()I"⟩, 18) := ⟨⟨by decide +kernel, by decide +kernel⟩, List.mem_of_getElem? (i := 654) (by decide +kernel), List.mem_of_getElem? (i := 847) (by decide +kernel), List.mem_of_getElem? (i := 848) (by decide +kernel)⟩
theorem lw_p33 : lw_okq (⟨"PloughPlannerModel", "nextSide", "()I"⟩, 18) := ⟨⟨by decide +kernel, by decide +kernel⟩, List.mem_of_getElem? (i := 654) (by decide +kernel), List.mem_of_getElem? (i := 863) (by decide +kernel), List.mem_of_getElem? (i := 864) (by decide +kernel)⟩
theorem lw_p34 : lw_okq (⟨"PloughPlannerModel", "nearestStore", "()I"⟩, 18) := ⟨⟨by decide +kernel, by decide +kernel⟩, List.mem_of_getElem? (i := 654) (by decide +kernel), List.mem_of_getElem? (i := 871) (by decide +kernel), List.mem_of_getElem? (i := 872) (by decide +kernel)⟩
theorem lw_p35 : lw_okq (⟨"PloughPlannerModel", "follow", "(II)I"⟩, 18) := ⟨⟨by decide +kernel, by decide +kernel⟩, List.mem_of_getElem? (i := 654) (by decide +kernel), List.mem_of_getElem? (i := 875) (by decide +kernel), List.mem_of_getElem? (i := 876) (by decide +kernel)⟩
def lw_privs_3 : List (MethodName × Nat) := [(⟨"PloughPlannerModel", "nextRoad", "()I"⟩, 18), (⟨"PloughPlannerModel", "nextSide", "()I"⟩, 18), (⟨"PloughPlannerModel", "nearestStore", "()I"⟩, 18), (⟨"PloughPlannerModel", "follow", "(II)I"⟩, 18)]
theorem lw_r3 : ∀ q ∈ lw_privs_3, lw_okq q := List.forall_mem_cons.mpr ⟨lw_p32, List.forall_mem_cons.mpr ⟨lw_p33, List.forall_mem_cons.mpr ⟨lw_p34, List.forall_mem_cons.mpr ⟨lw_p35, fun _ h => absurd h List.not_mem_nil⟩⟩⟩⟩
def lw_privs : List (MethodName × Nat) := lw_privs_1 ++ (lw_privs_2 ++ (lw_privs_3))
def lw_tbl : List Cond := k2_sels lw_privs ++ tables_1
theorem lw_privs_ok : ∀ q ∈ lw_privs, lw_okq q := by
  show ∀ q ∈ lw_privs_1 ++ (lw_privs_2 ++ (lw_privs_3)), lw_okq q
  exact List.forall_mem_append.mpr ⟨lw_r1, List.forall_mem_append.mpr ⟨lw_r2, lw_r3⟩⟩
/-- the streams that the claim lets the run draw from -/
abbrev lw_cs : List Choice := [Jvm.Choice.named "NaN.bits"]
theorem lw_bits : nanBits ∈ lw_cs := by first | decide | exact List.mem_cons_self | simp [lw_cs, nanBits]
-- ===== end of PART A; then your names; then what follows =====
end
section
/-! ===== BEGIN words of one list among another's, by their places ===== -/
theorem goodIn_r {big : List Cond} (ws : List Cond) (ps : List Nat) (hp : ws = ps.filterMap (fun i => big[i]?)) (h : ws.all goodWord = true) : GoodIn big ws := by
  intro w hw
  have h1 := List.all_eq_true.mp h w hw
  rw [hp] at hw
  obtain ⟨i, -, hi⟩ := List.mem_filterMap.mp hw
  have hm : w ∈ big := by first | exact List.mem_of_getElem? hi | exact List.getElem?_mem hi
  exact ⟨hm, good_of_word h1⟩
theorem goodIn_app {big a b : List Cond} (ha : GoodIn big a) (hb : GoodIn big b) : GoodIn big (a ++ b) := fun w h => (List.mem_append.mp h).elim (ha w) (hb w)
theorem goodIn_ca {big a b : List Cond} {c : Cond} (ha : GoodIn big (c :: a)) (hb : GoodIn big b) : GoodIn big (c :: (a ++ b)) := fun w h => (List.mem_cons.mp h).elim (fun e => ha w (List.mem_cons.mpr (Or.inl e))) (fun h => (List.mem_append.mp h).elim (fun h => ha w (List.mem_cons.mpr (Or.inr h))) (hb w))
theorem goodIn_sub {big ws : List Cond} (hm : ∀ w ∈ ws, w ∈ big) (h : ws.all goodWord = true) : GoodIn big ws := fun w hw => ⟨hm w hw, good_of_word (List.all_eq_true.mp h w hw)⟩
/-! ===== END ===== -/

/-! ===== BEGIN new T[n][m]: the outer array a place, the inner ones among the pooled ===== -/
/-- f, but v at every address of l -/
def vr_up {α : Type} (f : Nat → α) (l : List Nat) (v : α) : Nat → α := fun a => if a ∈ l then v else f a
theorem vr_up_in {α : Type} {f : Nat → α} {l : List Nat} {v : α} {a : Nat} (h : a ∈ l) : vr_up f l v a = v := if_pos h
theorem vr_up_ne {α : Type} {f : Nat → α} {l : List Nat} {v : α} {a : Nat} (h : a ∉ l) : vr_up f l v a = f a := if_neg h
theorem vr_rows {L l : List Nat} {f : Nat → va_E} {e : va_E} (h : ∀ a, a ∈ l → a ∉ L) : va_pl L f ++ l.map (fun a => (a, e)) = va_pl (L ++ l) (vr_up f l e) := by
  unfold va_pl
  rw [List.map_append]
  congr 1
  · apply List.map_congr_left
    intro a ha
    rw [vr_up_ne (fun q => h a q ha)]
  · apply List.map_congr_left
    intro a ha
    rw [vr_up_in ha]
theorem vr_lay {X rows : va_W} {x : Nat × va_E} {pl : va_W} {D : va_G} {cl : List vw_C} {H : Heap} (hP : va_P D cl (((X ++ pl) ++ [x]) ++ rows) H) : va_P D cl ((X ++ [x]) ++ (pl ++ rows)) H := by
  rw [List.append_assoc (X ++ pl)] at hP
  have h := va_P.swap hP
  rw [← List.append_assoc X] at h
  have h2 := va_P.swap h
  rw [List.append_assoc (X ++ [x])] at h2
  exact h2
theorem vr_layD {X rows : va_W} {x : Nat × va_E} {pl : va_W} {A : Nat → Prop} (hD : va_D A (((X ++ pl) ++ [x]) ++ rows)) : va_D A ((X ++ [x]) ++ (pl ++ rows)) := by
  rw [List.append_assoc (X ++ pl)] at hD
  have h := va_D.swap hD
  rw [← List.append_assoc X] at h
  have h2 := va_D.swap h
  rw [List.append_assoc (X ++ [x])] at h2
  exact h2
theorem vr_outer (c : ClassId) (N h0 : Nat) : ∀ i : Nat, Jvm.Free.Multi.outerC c N h0 i = arrV c N (fun j => va_rf (if j < i then some (h0 + 1 + j) else none))
  | 0 => by
    show ({ cls := c, slots := Array.replicate N .null, vm := .none } : Cell) = _
    rw [arrV_new]
    refine congrArg (arrV c N) (funext fun j => ?_)
    simp [va_rf]
  | i + 1 => by
    show (Jvm.Free.Multi.outerC c N h0 i).setSlot i (.ref (h0 + 1 + i)) = _
    rw [vr_outer c N h0 i, arrV_store]
    refine congrArg (arrV c N) (funext fun j => ?_)
    by_cases e : j = i
    · subst e
      simp [updV, va_rf]
    · by_cases h : j < i
      · simp [updV, e, h, Nat.lt_succ_of_lt h]
      · simp [updV, e, h, show ¬ j < i + 1 by omega]
section VGM
variable {p : Program} {l : Launch} {e : Env} {R : Room} {s : State} {m : MethodId} {args : Array Value} {below : List Frame} {meth : Method} {c : Code} {H : Heap} {locs : List Loc} {cells slots : Nat} {Q : State → Prop}
variable {cc : ByteArray} {pc : Nat} {ls : Array Slot} {rest : List Value} {D : va_G} {cl : List vw_C} {A : Nat → Prop} {a : Nat} {tys : List (ClassId × FieldType)} {ws : va_W} {H0 : Heap}
theorem va_mna {X : va_W} {L : List Nat} {f : Nat → va_E} {cc : ByteArray} (hexec : p.tables.exec = Jvm.exec) (hb : c.code = cc) {own : String} {index : Nat} {ty : FieldType} {cy : ClassId} (hown : s.vm.findClass own = some m.cls) (hclink : (Cond.classLink own index ("[" ++ (FieldType.array ty).toString)).before args s = true) (hover : (Cond.arrayOver (.array ty)).before args s = true) (harr : (Cond.arrayClass ty).before args s = true) (hcy : s.vm.findClass (FieldType.array ty).toString = some cy)
    (hK : va_K D cl tys s) (hP : va_P D cl (X ++ va_pl L f) H) (hD : va_D A (X ++ va_pl L f)) (hS : va_S A H0 H locs) (hA : ∀ q, H0.size ≤ q → A q) {n k : Int32} {N' K' : Nat} {z : vp_A} (hn : ¬ n < 0) (hk : ¬ k < 0) (hN : n.toNatClampNeg = N') (hM : k.toNatClampNeg = K')
    (hb1 : N' * 4 ≤ 536870912) (hb2 : K' * componentBytes ty ≤ 536870912) (hb3 : K' ≤ 536870912) (hdf : fits ty (defaultValue ty) = true) (hdd : (defaultValue ty).isDefault = true) (hcells : cells + (1 + N') ≤ R.cells) (hslots : slots + (N' + N' * K') ≤ R.slots) (hz : ∀ c : ClassId, Jvm.Free.Multi.innerC c K' (defaultValue ty) = vp_cell c z) (hdg : decode cc pc = .ok (.multianewarray index 2, 4))
    (kk : ∀ (q : Nat) (r : Nat → Nat) (cA : ClassId) (H1 : Heap), (∀ i j : Nat, i < N' → j < N' → r i = r j → i = j) → (∀ i : Nat, i < N' → r i ∉ L) → va_K D cl (tys ++ [(cA, .array ty)]) s →
      va_P D cl ((X ++ [(q, .inl (cA, N', .inr (.inr (.inr (.inr (fun i => if i < N' then some (r i) else none))))))]) ++ va_pl (L ++ (List.range N').map r) (vr_up f ((List.range N').map r) (.inl (cy, z)))) H1 → va_D A ((X ++ [(q, .inl (cA, N', .inr (.inr (.inr (.inr (fun i => if i < N' then some (r i) else none))))))]) ++ va_pl (L ++ (List.range N').map r) (vr_up f ((List.range N').map r) (.inl (cy, z)))) → va_S A H0 H1 locs →
      W p l e R s m args below meth c H1 locs (cells + 1 + N') (slots + N' + N' * K') Q (F0 m (pc + 4) ls (.ref q :: rest))) : W p l e R s m args below meth c H locs cells slots Q (F0 m pc ls (.int k :: .int n :: rest)) := by
  subst hN
  subst hM
  intro T hT Xs
  obtain ⟨vm₁, cA, comp, -, fA, fC, hO, -, X', step⟩ := Xs.multianewarray2F hexec hown hclink hover harr (g := F0 m pc ls (.int k :: .int n :: rest)) rfl (by rw [hb]; exact hdg) rfl hn hk hb1 hb2 hb3 hdf hdd hcells hslots
  have ec : some cy = some comp := hcy.symm.trans fC
  cases ec
  generalize hF : Jvm.Free.Multi.fill (T.setVm vm₁) cA cy n.toNatClampNeg k.toNatClampNeg (defaultValue ty) n.toNatClampNeg = F at X' step
  have hTh : (T.setVm vm₁).heap = H := hT
  obtain ⟨f1, f2, -, -⟩ := Jvm.Free.Multi.fill_facts (T.setVm vm₁) cA cy n.toNatClampNeg k.toNatClampNeg (defaultValue ty) n.toNatClampNeg
  rw [hF, hTh] at f1 f2
  have hold : ∀ x : Nat, x < H.size → F.heap[x]? = H[x]? := fun x hx => by
    have := Jvm.Free.Multi.fill_old (T.setVm vm₁) cA cy n.toNatClampNeg k.toNatClampNeg (defaultValue ty) (a := x) (by rw [hTh]; exact hx) n.toNatClampNeg
    rw [hF, hTh] at this
    exact this
  have hrow : ∀ j : Nat, j < n.toNatClampNeg → F.heap[H.size + 1 + j]? = some (vp_cell cy z) := fun j hj => by
    have := Jvm.Free.Multi.fill_inner (T.setVm vm₁) cA cy n.toNatClampNeg k.toNatClampNeg (defaultValue ty) n.toNatClampNeg j hj
    rw [hF, hTh, hz] at this
    exact this
  have hout : Jvm.Free.Multi.outerC cA n.toNatClampNeg H.size n.toNatClampNeg = vp_cell cA (n.toNatClampNeg, .inr (.inr (.inr (.inr (fun i => if i < n.toNatClampNeg then some (H.size + 1 + i) else none))))) := by
    rw [vp_cell_q]
    exact vr_outer cA n.toNatClampNeg H.size n.toNatClampNeg
  rw [hout] at f2
  have hlt : ∀ a, a ∈ L → a < H.size := fun a ha => by
    obtain ⟨k9, hk9⟩ := va_pl_get (X := X) (f := f) ha
    exact (hP k9 _ hk9).lt
  have hnl : ∀ i : Nat, i < n.toNatClampNeg → H.size + 1 + i ∉ L := fun i _ h => by
    have := hlt _ h
    omega
  have hnm : ∀ a, a ∈ (List.range n.toNatClampNeg).map (fun i => H.size + 1 + i) → a ∉ L := fun a ha h => by
    obtain ⟨i, -, rfl⟩ := List.mem_map.mp ha
    have := hlt _ h
    omega
  have hP0 : va_P D cl (X ++ va_pl L f) F.heap := hP.kept (fun k9 x hx => hold x.1 ((hP k9 x hx).lt))
  have hP1 : va_P D cl ((X ++ va_pl L f) ++ [(H.size, .inl (cA, n.toNatClampNeg, .inr (.inr (.inr (.inr (fun i => if i < n.toNatClampNeg then some (H.size + 1 + i) else none))))))]) F.heap := hP0.app (fun k9 x hx => by
    have h0 : k9 < 1 := (List.getElem?_eq_some_iff.mp hx).1
    rw [show k9 = 0 by omega] at hx
    cases hx
    exact f2)
  have hP2 : va_P D cl (((X ++ va_pl L f) ++ [(H.size, .inl (cA, n.toNatClampNeg, .inr (.inr (.inr (.inr (fun i => if i < n.toNatClampNeg then some (H.size + 1 + i) else none))))))]) ++ ((List.range n.toNatClampNeg).map (fun i => H.size + 1 + i)).map (fun a => (a, .inl (cy, z)))) F.heap := hP1.app (fun k9 x hx => by
    obtain ⟨a, ha, rfl⟩ := List.mem_map.mp (List.mem_of_getElem? hx)
    obtain ⟨i, hi, rfl⟩ := List.mem_map.mp ha
    exact hrow i (List.mem_range.mp hi))
  have hD2 : va_D A (((X ++ va_pl L f) ++ [(H.size, .inl (cA, n.toNatClampNeg, .inr (.inr (.inr (.inr (fun i => if i < n.toNatClampNeg then some (H.size + 1 + i) else none))))))]) ++ ((List.range n.toNatClampNeg).map (fun i => H.size + 1 + i)).map (fun a => (a, .inl (cy, z)))) := by
    have hD1 := hD.push (e := .inl (cA, n.toNatClampNeg, .inr (.inr (.inr (.inr (fun i => if i < n.toNatClampNeg then some (H.size + 1 + i) else none)))))) hP rfl (hA _ hS.1)
    generalize hW1 : (X ++ va_pl L f) ++ [(H.size, .inl (cA, n.toNatClampNeg, .inr (.inr (.inr (.inr (fun i => if i < n.toNatClampNeg then some (H.size + 1 + i) else none))))))] = W1 at hD1 hP1 ⊢
    have hle : ∀ (k9 : Nat) (x : Nat × va_E), W1[k9]? = some x → x.1 ≤ H.size := fun k9 x hx => by
      rw [← hW1] at hx
      by_cases hl : k9 < (X ++ va_pl L f).length
      · rw [List.getElem?_append_left hl] at hx
        exact Nat.le_of_lt ((hP k9 x hx).lt)
      · rw [List.getElem?_append_right (by omega)] at hx
        have h0 : k9 - (X ++ va_pl L f).length < 1 := (List.getElem?_eq_some_iff.mp hx).1
        rw [show k9 - (X ++ va_pl L f).length = 0 by omega] at hx
        cases hx
        exact Nat.le_refl _
    have hr : ∀ (k9 : Nat) (x : Nat × va_E), (((List.range n.toNatClampNeg).map (fun i => H.size + 1 + i)).map (fun a => ((a, .inl (cy, z)) : Nat × va_E)))[k9]? = some x → x.1 = H.size + 1 + k9 := fun k9 x hx => by
      rw [List.getElem?_map, List.getElem?_map] at hx
      by_cases h9 : k9 < n.toNatClampNeg
      · rw [List.getElem?_range h9] at hx
        cases hx
        rfl
      · have hn0 : (List.range n.toNatClampNeg)[k9]? = none := List.getElem?_eq_none (by rw [List.length_range]; omega)
        rw [hn0] at hx
        cases hx
    refine ⟨fun i j x y hi hj hxy => ?_, fun k9 x hx => ?_⟩
    · by_cases h1 : i < W1.length <;> by_cases h2 : j < W1.length
      · rw [List.getElem?_append_left h1] at hi
        rw [List.getElem?_append_left h2] at hj
        exact hD1.1 i j x y hi hj hxy
      · rw [List.getElem?_append_left h1] at hi
        rw [List.getElem?_append_right (by omega)] at hj
        have := hle _ _ hi
        have := hr _ _ hj
        omega
      · rw [List.getElem?_append_right (by omega)] at hi
        rw [List.getElem?_append_left h2] at hj
        have := hle _ _ hj
        have := hr _ _ hi
        omega
      · rw [List.getElem?_append_right (by omega)] at hi hj
        have := hr _ _ hi
        have := hr _ _ hj
        omega
    · by_cases h1 : k9 < W1.length
      · rw [List.getElem?_append_left h1] at hx
        exact hD1.2 k9 x hx
      · rw [List.getElem?_append_right (by omega)] at hx
        have := hr _ _ hx
        exact hA _ (by have := hS.1; omega)
  have hAr : ArrOfT s cA (.array ty) := fun N9 z9 => by
    obtain ⟨-, k9, hk9, cm9, hkk9⟩ := (hO 0 0 0).1
    exact ⟨(fun q hq => by cases hq), k9, hk9, cm9, hkk9⟩
  have hK2 : va_K D cl (tys ++ [(cA, .array ty)]) s := ⟨hK.1, fun k9 x hx => by
    by_cases hl : k9 < tys.length
    · rw [List.getElem?_append_left hl] at hx
      exact hK.2 k9 x hx
    · rw [List.getElem?_append_right (by omega)] at hx
      have h0 : k9 - tys.length < 1 := (List.getElem?_eq_some_iff.mp hx).1
      rw [show k9 - tys.length = 0 by omega] at hx
      cases hx
      exact ⟨hAr, fA⟩⟩
  obtain ⟨t, a1, b1⟩ := kk H.size (fun i => H.size + 1 + i) cA F.heap (fun i j _ _ h => by have h9 : H.size + 1 + i = H.size + 1 + j := h; omega) hnl hK2 (by rw [← vr_rows hnm]; exact vr_lay hP2) (by rw [← vr_rows hnm]; exact vr_layD hD2) ⟨by rw [f1]; have := hS.1; omega, fun x h1 h2 => (hold x (Nat.lt_of_lt_of_le h1 hS.1)).trans (hS.2.1 x h1 h2), hS.2.2⟩ F rfl X'
  refine ⟨t, step t ?_, b1⟩
  have e : T.heap.size = H.size := by rw [hT]
  rw [e]
  exact a1
end VGM
/-! ===== END ===== -/

/-! ===== BEGIN exceptions that leave a method, and their catching by the caller (launches without stack traces) ===== -/
section VXA
/-! The laws vx_back, vx_callV, vx_callS, vx_callSW, vx_throw0, vx_throwS follow proofs of the library, with one case more: JvmDerived/Free/Laws.lean (Back.of_free), Shelf42/LK1.lean (callV, callS), Shelf/KitTraced.lean (throwNew0V, throwNewS). -/
/-- where a method has thrown q: the class by its name, the cell, what was written, the world -/
def vx_T (XC : String → State → State → Prop) (st : State) (q : Addr) (t : State) (mc ms : Nat) (free : Addr → Prop) : Prop :=
  ∃ (E : String) (ce : Cell) (L : List Loc), XC E st t ∧ t.heap[q]? = some ce ∧ ce.vm = .none ∧ st.vm.findClass E = some ce.cls ∧ st.WarmedH t.vm ∧ st.sameButNew ({ t with vm := st.vm } : State) L mc ms ∧ ∀ z ∈ L, free z.base
def vx_Q (Qc : Array Value → State → Outcome → State → Prop) (XC : String → State → State → Prop) (mc ms : Nat) (free : Addr → Prop) : Array Value → State → Outcome → State → Prop := fun a st o t =>
  (Qc a st o t ∧ ∃ L, FrameEnd st o t L mc ms ∧ ∀ q ∈ L, free q.base) ∨ ∃ q, o = .threw q ∧ vx_T XC st q t mc ms free
/-- a callee that returns or throws -/
def vx_Met (l : Launch) (y : MethodName) (ws : List Cond) (rm : Room) (Pc : Array Value → State → Prop) (Qc : Array Value → State → Outcome → State → Prop) (XC : String → State → State → Prop) (mc ms : Nat) (free : Addr → Prop) : Prop :=
  MetFree l y (headSpec ws rm) Pc (fun _ _ _ _ _ => True) (vx_Q Qc XC mc ms free)
def vx_Post (XC : String → State → State → Prop) (mc ms : Nat) (free : Addr → Prop) : Pt → Array Value → Addr → Pt → Prop := fun A a q B =>
  ∃ (g : JFrame) (mk : MethodId) (t : State) (L : List Loc) (E : String) (ce : Cell), B.U.heap = t.heap ∧ B.U.vm = t.vm ∧ XC E (A.U.calling g mk a) t ∧ t.heap[q]? = some ce ∧ ce.vm = .none ∧ A.U.vm.findClass E = some ce.cls ∧ B.locs = A.locs ++ L ∧ (∀ z ∈ L, free z.base) ∧ B.cells = A.cells + mc ∧ B.slots = A.slots + ms
def vx_Back (l : Launch) (R : Room) (p : Program) (e : Env) (below : List Frame) (s : State) (sargs : Array Value) (y : MethodName) (len W9 : Nat)
    (Pre : Pt → Array Value → Prop) (Post : Pt → Array Value → Option Value → Pt → Prop) (PostX : Pt → Array Value → Addr → Pt → Prop) : Prop :=
  ∀ (m : MethodId) (meth : Method) (c : Code) (A : Pt) (g : JFrame) (ig : Instr) (mk : MethodId) (a : Array Value),
    Stand p l e R s m sargs below meth c A.U A.locs A.cells A.slots → g.method = m → g.locals.size = c.maxLocals → decode c.code g.pc = .ok (ig, len) →
    2 * g.monitorRoom + (g.stack.map fun v => v.category).sum ≤ W9 → A.U.methodNamed? y = some mk → Pre A a →
    (∃ (v : Option Value) (B : Pt), Stand p l e R s m sargs below meth c B.U B.locs B.cells B.slots ∧ Post A a v B ∧
      Steps p.tables e below (doInvoke e (A.U.setTop g) [] mk a).1 (B.U.setTop { g with pc := g.pc + len, stack := v.toList ++ g.stack })) ∨
    (∃ (q : Addr) (B : Pt), Stand p l e R s m sargs below meth c B.U B.locs B.cells B.slots ∧ PostX A a q B ∧
      Steps p.tables e below (doInvoke e (A.U.setTop g) [] mk a).1 ((B.U.setTop g).pushFrame (.throwing q)))
section Payer
variable {l : Launch} {R : Room} {p : Program} {e : Env} {below : List Frame} {s : State} {sargs : Array Value} {y : MethodName} {len W9 : Nat}
theorem vx_back {ws : List Cond} {rm : Room} {Pc : Array Value → State → Prop} {Qc : Array Value → State → Outcome → State → Prop} {XC : String → State → State → Prop} {mc ms : Nat} {free : Addr → Prop} {bytes : ByteArray} {maxL : Nat} {ret : Option FieldType}
    (hM : vx_Met l y ws rm Pc Qc XC mc ms free) (hblind : FrameBlind Pc) (hrc : rm.cells = mc) (hrs : rm.slots = ms)
    (hframes : rm.frames + 1 ≤ R.frames) (hlocals : W9 + (maxL + 11) + rm.locals ≤ R.locals)
    (hws : ∀ w ∈ ws, ∀ a' U, s.WarmedH U.vm → w.before a' U = true) (hcode : Cond.code y bytes maxL ret ∈ ws) (hinit : ∀ a' U, s.WarmedH U.vm → (Cond.initialized y.cls).before a' U = true) :
    vx_Back l R p e below s sargs y len W9 (PreOf R mc ms Pc) (PostOf Qc mc ms free) (vx_Post XC mc ms free) := by
  intro m meth c A g ig mk a X hg hsize hdg hW hn hp
  have h1 : (headSpec ws rm).pre.before a A.U = true := atoms_intro fun w hw => hws w hw _ _ X.warmed
  have h2 : (Cond.code y bytes maxL ret).before a A.U = true := hws _ hcode _ _ X.warmed
  have h3 : (Cond.initialized y.cls).before a A.U = true := hinit _ _ X.warmed
  have h4 : A.cells + (headSpec ws rm).room.cells ≤ R.cells := by rw [show (headSpec ws rm).room.cells = mc from hrc]; exact hp.1
  have h5 : A.slots + (headSpec ws rm).room.slots ≤ R.slots := by rw [show (headSpec ws rm).room.slots = ms from hrs]; exact hp.2.1
  have hPc : Pc a (A.U.calling g mk a) := hblind _ _ _ _ hp.2.2
  obtain ⟨U, Ls, c0, s0⟩ := A
  dsimp only [Pt.U, Pt.locs, Pt.cells, Pt.slots] at h1 h2 h3 h4 h5 X hn hPc ⊢
  obtain ⟨methY, cY, hmY, hcY, -, hlY, -, -, -, -⟩ := Cond.code_spec hn h2
  obtain ⟨kY, hkY, -⟩ := className_of_methodNamed hn
  have hinitY : kY.init = .initialized := Cond.initialized_spec (findClass_of_methodNamed hn) hkY h3
  have h : At U g.method c below := by rw [hg]; exact X.here
  have hlocals9 : W9 + (maxL + 11) + (headSpec ws rm).room.locals ≤ R.locals := hlocals
  have happ : (headSpec ws rm).appliesLoose y e.platform (U.calling g mk a) = true :=
    Spec.appliesLoose_calling (g := g) h hdg hn hkY hinitY
      (X.room_calling (g := g) (R' := (headSpec ws rm).room) hsize hmY hcY hframes (by rw [hlY]; omega) h4 h5) h1
  obtain ⟨mid, hmid⟩ := h.above
  have hfr : (U.setTop g).frames = (.java g :: mid) ++ below := by rw [State.frames_setTop' g h.top, hmid]; rfl
  obtain ⟨o, s₂, hsteps, -, hend, hq⟩ := Steps.callFree hM p X.admits X.cas X.clock (acts := []) hfr happ hPc trivial
  have hq' : vx_Q Qc XC mc ms free a (U.calling g mk a) o s₂ := hq
  rw [State.frames_setTop' g h.top] at hend
  obtain ⟨g₀, hg0⟩ := Option.isSome_iff_exists.mp h.top
  obtain ⟨r, hr⟩ := State.topJava?_eq_some.mp hg0
  have hr' : (({ U with heap := s₂.heap, slotsUsed := s₂.slotsUsed } : State).setVm s₂.vm).frames = .java g₀ :: r := hr
  rcases hq' with ⟨hqc, L, hfe, hL⟩ | ⟨q, rfl, E, ce, L, hx, hce, hcv, hcl, hW₂, hsm, hL⟩
  · obtain ⟨⟨v, rfl⟩, hW₂, e2, q2, q3, q4, q5, q6⟩ := id hfe
    have e3 : s₂ = ({ (U.calling g mk a).setFrames s₂.frames with heap := s₂.heap, slotsUsed := s₂.slotsUsed } : State).setVm s₂.vm := by
      have : s₂ = ({ s₂ with vm := (U.calling g mk a).vm } : State).setVm s₂.vm := rfl
      rw [e2] at this
      exact this
    obtain ⟨c₂, i₂, len₂, hc₂, hd₂, hf₂⟩ := hend
    have hW' : U.WarmedH s₂.vm := hW₂
    have hcc : c₂ = c := by
      have h1 : s₂.code? g.method = U.code? g.method := by
        rw [State.code?_eq, State.code?_eq, hW'.alike.method?]
      exact Option.some.inj (hc₂.symm.trans (h1.trans h.code))
    subst hcc
    have hlen : len₂ = len := by rw [hdg] at hd₂; cases hd₂; rfl
    subst hlen
    have hs₂ : s₂ = (({ U with heap := s₂.heap, slotsUsed := s₂.slotsUsed } : State).setVm s₂.vm).setTop { g with pc := g.pc + len₂, stack := v.toList ++ g.stack } := by
      refine e3.trans ?_
      rw [hf₂, State.calling_eq h.top, State.setFrames_setFrames, State.setTop_of_frames _ hr', hr]
      rfl
    have hsame : U.sameButNew ({ U with heap := s₂.heap, slotsUsed := s₂.slotsUsed } : State) L mc ms := by
      refine ⟨?_, q2, q3, q4, q5, q6⟩
      obtain ⟨t, ht, -⟩ := State.frames_cons hr
      show ({ U with heap := s₂.heap, slotsUsed := s₂.slotsUsed } : State) = { U.setFrames U.frames with heap := s₂.heap, slotsUsed := s₂.slotsUsed }
      rw [State.setFrames_self ht]
    subst hg
    refine Or.inl ⟨v, ⟨(({ U with heap := s₂.heap, slotsUsed := s₂.slotsUsed } : State).setVm s₂.vm), Ls ++ L, c0 + mc, s0 + ms⟩,
      ⟨X.admits, X.cas, X.clock, X.frames, X.room, X.hears, X.method, X.code, (X.here.setHeapUsed s₂.heap s₂.slotsUsed).setVm hW'.alike, X.tail, State.WarmedH.trans X.warmed hW', X.limits, X.bytes, X.same.trans (hsame.setVm s.vm)⟩,
      ⟨g, mk, s₂, L, rfl, rfl, hqc, rfl, hL, rfl, rfl⟩, ?_⟩
    show Steps p.tables e below _ ((({ U with heap := s₂.heap, slotsUsed := s₂.slotsUsed } : State).setVm s₂.vm).setTop { g with pc := g.pc + len₂, stack := v.toList ++ g.stack })
    rw [← hs₂]
    exact hsteps
  · obtain ⟨e2, q2, q3, q4, q5, q6⟩ := id hsm
    have e3 : s₂ = ({ (U.calling g mk a).setFrames s₂.frames with heap := s₂.heap, slotsUsed := s₂.slotsUsed } : State).setVm s₂.vm := by
      have : s₂ = ({ s₂ with vm := (U.calling g mk a).vm } : State).setVm s₂.vm := rfl
      rw [e2] at this
      exact this
    have hf₂ : s₂.frames = .throwing q :: .java g :: U.frames.tail := hend
    have hW' : U.WarmedH s₂.vm := hW₂
    have hs₂ : s₂ = ((({ U with heap := s₂.heap, slotsUsed := s₂.slotsUsed } : State).setVm s₂.vm).setTop g).pushFrame (.throwing q) := by
      refine e3.trans ?_
      rw [hf₂, State.calling_eq h.top, State.setFrames_setFrames, State.pushFrame, State.frames_setTop _ hr', State.setTop_of_frames _ hr', State.setFrames_setFrames, hr]
      rfl
    have hsame : U.sameButNew ({ U with heap := s₂.heap, slotsUsed := s₂.slotsUsed } : State) L mc ms := by
      refine ⟨?_, q2, q3, q4, q5, q6⟩
      obtain ⟨t, ht, -⟩ := State.frames_cons hr
      show ({ U with heap := s₂.heap, slotsUsed := s₂.slotsUsed } : State) = { U.setFrames U.frames with heap := s₂.heap, slotsUsed := s₂.slotsUsed }
      rw [State.setFrames_self ht]
    subst hg
    refine Or.inr ⟨q, ⟨(({ U with heap := s₂.heap, slotsUsed := s₂.slotsUsed } : State).setVm s₂.vm), Ls ++ L, c0 + mc, s0 + ms⟩,
      ⟨X.admits, X.cas, X.clock, X.frames, X.room, X.hears, X.method, X.code, (X.here.setHeapUsed s₂.heap s₂.slotsUsed).setVm hW'.alike, X.tail, State.WarmedH.trans X.warmed hW', X.limits, X.bytes, X.same.trans (hsame.setVm s.vm)⟩,
      ⟨g, mk, s₂, L, E, ce, rfl, rfl, hx, hce, hcv, hcl, rfl, hL, rfl, rfl⟩, ?_⟩
    show Steps p.tables e below _ (((({ U with heap := s₂.heap, slotsUsed := s₂.slotsUsed } : State).setVm s₂.vm).setTop g).pushFrame (.throwing q))
    rw [← hs₂]
    exact hsteps
end Payer
section Calls
variable {p : Program} {l : Launch} {e : Env} {R : Room} {s : State} {m : MethodId} {args : Array Value} {below : List Frame} {meth : Method} {c : Code} {T : State} {locs : List Loc} {cells slots : Nat}
theorem vx_callV (X : Stand p l e R s m args below meth c T locs cells slots) (hexec : p.tables.exec = Jvm.exec) {own C : String} {index : Nat} {y : MethodName} {bytes : ByteArray} {maxL : Nat} {ret : Option FieldType}
    (hown : s.vm.findClass own = some m.cls) (hlink : (Cond.methodLink own index y).before args s = true) (hinst : (Cond.instanceMethod y).before args s = true) (hsel : (Cond.selects C y y).before args s = true)
    (hcode : (Cond.code y bytes maxL ret).before args s = true) (hy : y.cls ≠ "java/lang/invoke/MethodHandle" ∧ y.cls ≠ "java/lang/invoke/VarHandle")
    {W9 : Nat} {Pre : Pt → Array Value → Prop} {Post : Pt → Array Value → Option Value → Pt → Prop} {PostX : Pt → Array Value → Addr → Pt → Prop} (hK : vx_Back l R p e below s args y 3 W9 Pre Post PostX)
    {b : Addr} {cellB : Cell} (hcell : T.heap[b]? = some cellB) (hobj : cellB.vm.isStatics = false) (hcls : s.vm.findClass C = some cellB.cls)
    {g : JFrame} (hg : g.method = m) (hsize : g.locals.size = c.maxLocals) {argsL rest : List Value} (hlen : ∀ sig, parseMethodDescriptor y.desc = some sig → argsL.length = sig.parameters.length)
    (hstack : g.stack = argsL.reverse ++ .ref b :: rest) (hW : 2 * g.monitorRoom + (rest.map fun v => v.category).sum ≤ W9) (hdg : decode c.code g.pc = .ok (.invokevirtual index, 3))
    (hpre : ∀ vm₁, s.WarmedH vm₁ → Pre ⟨T.setVm vm₁, locs, cells, slots⟩ (Value.ref b :: argsL).toArray) :
    (∃ (v : Option Value) (vm₁ : Vm) (B : Pt), s.WarmedH vm₁ ∧ Stand p l e R s m args below meth c B.U B.locs B.cells B.slots ∧ Post ⟨T.setVm vm₁, locs, cells, slots⟩ (Value.ref b :: argsL).toArray v B ∧
      ∀ target, Steps p.tables e below (B.U.setTop { g with pc := g.pc + 3, stack := v.toList ++ rest }) target → Steps p.tables e below (T.setTop g) target) ∨
    (∃ (q : Addr) (vm₁ : Vm) (B : Pt), s.WarmedH vm₁ ∧ Stand p l e R s m args below meth c B.U B.locs B.cells B.slots ∧ PostX ⟨T.setVm vm₁, locs, cells, slots⟩ (Value.ref b :: argsL).toArray q B ∧
      Steps p.tables e below (T.setTop g) ((B.U.setTop { g with stack := rest }).pushFrame (.throwing q))) := by
  obtain ⟨mk, methM, hnamed, hmethM, hstM, habM⟩ := Cond.instanceMethod_spec hinst
  obtain ⟨methM', cM, hmethM', -, -, -, -, -, -, hsigM⟩ := Cond.code_spec hnamed hcode
  cases hmethM.symm.trans hmethM'
  obtain ⟨c2, r2, m2, q1, q2, q3, q4, kP, hkP, hkPi⟩ := Cond.selects_spec hsel
  cases hcls.symm.trans q1
  cases (State.methodFound?_of_named hnamed hy).symm.trans q2
  cases hnamed.symm.trans q3
  have hselP : selectMethod e.platform s.vm cellB.cls mk = .method mk := by rw [Launch.admits_selectMethod X.admits]; exact q4
  obtain ⟨vm₁, X₁, hstep₁⟩ := X.invokevirtual hexec hown hlink hnamed hmethM hstM hkP hkPi hy (a := b) (cell := cellB) hcell
    (fun z h => by rw [h] at hobj; cases hobj) hselP hmethM habM hkP hkPi (g := g) hg (argsL := argsL) (rest := rest) (hlen _ hsigM) hstack hdg
  rcases hK m meth c ⟨T.setVm vm₁, locs, cells, slots⟩ { g with stack := rest } (.invokevirtual index) mk (Value.ref b :: argsL).toArray X₁ hg hsize hdg hW (X₁.named hnamed) (hpre vm₁ X₁.warmed) with ⟨v, B, X', hpost, hsteps⟩ | ⟨q, B, X', hpost, hsteps⟩
  · exact Or.inl ⟨v, vm₁, B, X₁.warmed, X', hpost, fun target h => hstep₁ _ fun acts => by rw [doInvoke_state]; exact hsteps.trans h⟩
  · exact Or.inr ⟨q, vm₁, B, X₁.warmed, X', hpost, hstep₁ _ fun acts => by rw [doInvoke_state]; exact hsteps⟩
theorem vx_callS (X : Stand p l e R s m args below meth c T locs cells slots) (hexec : p.tables.exec = Jvm.exec) {own : String} {index : Nat} {y : MethodName} {bytes : ByteArray} {maxL : Nat} {ret : Option FieldType}
    (hown : s.vm.findClass own = some m.cls) (hlink : (Cond.methodLink own index y).before args s = true) (hstat : (Cond.static y).before args s = true) (hinit : (Cond.initialized y.cls).before args s = true)
    (hcode : (Cond.code y bytes maxL ret).before args s = true) (hy : y.cls ≠ "java/lang/invoke/MethodHandle" ∧ y.cls ≠ "java/lang/invoke/VarHandle")
    {W9 : Nat} {Pre : Pt → Array Value → Prop} {Post : Pt → Array Value → Option Value → Pt → Prop} {PostX : Pt → Array Value → Addr → Pt → Prop} (hK : vx_Back l R p e below s args y 3 W9 Pre Post PostX)
    {g : JFrame} (hg : g.method = m) (hsize : g.locals.size = c.maxLocals) {argsL rest : List Value} (hlen : ∀ sig, parseMethodDescriptor y.desc = some sig → argsL.length = sig.parameters.length)
    (hstack : g.stack = argsL.reverse ++ rest) (hW : 2 * g.monitorRoom + (rest.map fun v => v.category).sum ≤ W9) (hdg : decode c.code g.pc = .ok (.invokestatic index, 3))
    (hpre : ∀ vm₁, s.WarmedH vm₁ → Pre ⟨T.setVm vm₁, locs, cells, slots⟩ argsL.toArray) :
    (∃ (v : Option Value) (vm₁ : Vm) (B : Pt), s.WarmedH vm₁ ∧ Stand p l e R s m args below meth c B.U B.locs B.cells B.slots ∧ Post ⟨T.setVm vm₁, locs, cells, slots⟩ argsL.toArray v B ∧
      ∀ target, Steps p.tables e below (B.U.setTop { g with pc := g.pc + 3, stack := v.toList ++ rest }) target → Steps p.tables e below (T.setTop g) target) ∨
    (∃ (q : Addr) (vm₁ : Vm) (B : Pt), s.WarmedH vm₁ ∧ Stand p l e R s m args below meth c B.U B.locs B.cells B.slots ∧ PostX ⟨T.setVm vm₁, locs, cells, slots⟩ argsL.toArray q B ∧
      Steps p.tables e below (T.setTop g) ((B.U.setTop { g with stack := rest }).pushFrame (.throwing q))) := by
  obtain ⟨mk, hnamed⟩ := Cond.code_named hcode
  obtain ⟨methM, cM, hmethM, -, -, -, -, -, -, hsigM⟩ := Cond.code_spec hnamed hcode
  have hstatic : methM.isStatic = true := Cond.static_spec hnamed hmethM hstat
  obtain ⟨kP, hkP, -⟩ := className_of_methodNamed hnamed
  have hinitP : kP.init = .initialized := Cond.initialized_spec (findClass_of_methodNamed hnamed) hkP hinit
  obtain ⟨vm₁, X₁, hstep₁⟩ := X.invokestatic hexec hown hlink hnamed hmethM hstatic hkP hinitP hy (g := g) hg (argsL := argsL) (rest := rest) (hlen _ hsigM) hstack hdg
  rcases hK m meth c ⟨T.setVm vm₁, locs, cells, slots⟩ { g with stack := rest } (.invokestatic index) mk argsL.toArray X₁ hg hsize hdg hW (X₁.named hnamed) (hpre vm₁ X₁.warmed) with ⟨v, B, X', hpost, hsteps⟩ | ⟨q, B, X', hpost, hsteps⟩
  · exact Or.inl ⟨v, vm₁, B, X₁.warmed, X', hpost, fun target h => hstep₁ _ fun acts => by rw [doInvoke_state]; exact hsteps.trans h⟩
  · exact Or.inr ⟨q, vm₁, B, X₁.warmed, X', hpost, hstep₁ _ fun acts => by rw [doInvoke_state]; exact hsteps⟩
end Calls
theorem vx_cls {s : State} {T : State} {vm₁ : Vm} {E : String} {k : ClassId} (hW : s.WarmedH vm₁) (h : (T.setVm vm₁).vm.findClass E = some k) : s.vm.findClass E = some k := by
  have h1 : vm₁.findClass E = some k := h
  rw [hW.alike.findClass] at h1
  exact h1
/-- the method's frame g, with q thrown over it -/
def vx_W (p : Program) (l : Launch) (e : Env) (R : Room) (s : State) (m : MethodId) (args : Array Value) (below : List Frame) (meth : Method) (c : Code) (H : Heap) (locs : List Loc) (cells slots : Nat) (Q : State → Prop) (g : JFrame) (q : Addr) : Prop :=
  ∀ T : State, T.heap = H → Stand p l e R s m args below meth c T locs cells slots → ∃ t, Steps p.tables e below ((T.setTop g).pushFrame (.throwing q)) t ∧ Q t
def vx_Run (p : Program) (l : Launch) (e : Env) (R : Room) (s : State) (m : MethodId) (args : Array Value) (below : List Frame) (meth : Method) (c : Code) (H : Heap) (locs : List Loc) (cells slots mc ms : Nat) (g : JFrame) (rest : List Value) (Qa : State → Outcome → State → Prop) (XC : String → State → State → Prop) (free : Addr → Prop) : Prop :=
  ∀ T : State, T.heap = H → Stand p l e R s m args below meth c T locs cells slots →
    (∃ (v : Option Value) (st₀ t T' : State) (L : List Loc), st₀.heap = H ∧ Stand p l e R s m args below meth c T' (locs ++ L) (cells + mc) (slots + ms) ∧ (∀ q ∈ L, free q.base) ∧ T'.heap = t.heap ∧ T'.vm = t.vm ∧ Qa st₀ (.returned v) t ∧
      Goes p e below T g T' { g with pc := g.pc + 3, stack := v.toList ++ rest }) ∨
    (∃ (q : Addr) (st₀ t T' : State) (L : List Loc) (E : String) (ce : Cell), st₀.heap = H ∧ Stand p l e R s m args below meth c T' (locs ++ L) (cells + mc) (slots + ms) ∧ (∀ z ∈ L, free z.base) ∧ T'.heap = t.heap ∧ T'.vm = t.vm ∧ XC E st₀ t ∧ t.heap[q]? = some ce ∧ ce.vm = .none ∧ s.vm.findClass E = some ce.cls ∧
      Steps p.tables e below (T.setTop g) ((T'.setTop { g with stack := rest }).pushFrame (.throwing q)))
def vx_X {S : Type} (px : S → Prop) (B : String → S → State → Prop) (A : Nat → Prop) : String → State → State → Prop := fun E st t => ∃ u : S, px u ∧ B E u t ∧ va_F A st t
section Runs
variable {p : Program} {l : Launch} {e : Env} {R : Room} {s : State} {m : MethodId} {args : Array Value} {below : List Frame} {meth : Method} {c : Code} {H : Heap} {locs : List Loc} {cells slots : Nat}
variable {y : MethodName} {bytes cc : ByteArray} {maxL nL mc ms n index : Nat} {ret : Option FieldType} {ws : List Cond} {rm : Room} {Pc : Array Value → State → Prop} {Qc : Array Value → State → Outcome → State → Prop} {XC : String → State → State → Prop} {free : Addr → Prop} {Ts : List Cond} {own C : String} {b : Addr} {As rest : List Value} {g : JFrame}
theorem vx_callBack (cb : CallB R s args own index y bytes maxL ret ws rm mc ms n) (hM : vx_Met l y ws rm Pc Qc XC mc ms free) (hbl : FrameBlind Pc) : vx_Back l R p e below s args y 3 8 (PreOf R mc ms Pc) (PostOf Qc mc ms free) (vx_Post XC mc ms free) := by
  obtain ⟨hrc, hrs, hfr, hlo, hws, hcw, -, hini, -⟩ := cb
  exact vx_back (bytes := bytes) (maxL := maxL) (ret := ret) hM hbl hrc hrs hfr hlo hws hcw (fun a' U hW => word_at hW (Or.inl (by first | rfl | simp [Cond.onTables, Cond.keeps, Cond.steady])) hini)
theorem vx_runV (S : CallFix p m c cc nL s args Ts own) (hM : vx_Met l y ws rm Pc Qc XC mc ms free) (cw : CallW R s args own C index y bytes maxL ret ws rm mc ms n) (hp : PreV s H C b Pc As)
    (hg : g.method = m) (hn : As.length = n) (hsize : g.locals.size = nL) (hstack : g.stack = As.reverse ++ .ref b :: rest) (hW : 2 * g.monitorRoom + (rest.map fun v => v.category).sum ≤ 8) (hdg : decode cc g.pc = .ok (.invokevirtual index, 3)) (hf : cells + mc ≤ R.cells ∧ slots + ms ≤ R.slots) :
    vx_Run p l e R s m args below meth c H locs cells slots mc ms g rest (Qc (Value.ref b :: As).toArray) XC free := by
  have hK : vx_Back l R p e below s args y 3 8 (PreOf R mc ms Pc) (PostOf Qc mc ms free) (vx_Post XC mc ms free) := vx_callBack cw.1 hM hp.1
  obtain ⟨⟨-, -, -, -, -, -, hcode, -, hy, hlen, hl⟩, hin, hse⟩ := cw
  obtain ⟨hx, hb, hml, ho, -⟩ := S
  obtain ⟨-, ⟨cellB, hcB, hoB, hclB⟩, hPc⟩ := hp
  intro T hT X
  rcases vx_callV X hx (C := C) (bytes := bytes) (maxL := maxL) (ret := ret) ho hl hin hse hcode hy hK (by rw [hT]; exact hcB) hoB hclB hg (hsize.trans hml.symm) (argsL := As) (rest := rest) (fun sig h => hn.trans (hlen sig h)) hstack hW (by rw [hb]; exact hdg)
    (fun vm₁ hW₁ => ⟨hf.1, hf.2, hPc (T.setVm vm₁) hT hW₁⟩) with ⟨v, vm₁, ⟨U', l2, c2, s2⟩, hW₁, X', ⟨g', mk, t, L, e1, e2, hq, h1, hL, h2, h3⟩, st⟩ | ⟨q, vm₁, ⟨U', l2, c2, s2⟩, hW₁, X', ⟨g', mk, t, L, E, ce, e1, e2, hq, hce, hcv, hcl, h1, hL, h2, h3⟩, st⟩
  · dsimp only [Pt.U, Pt.locs, Pt.cells, Pt.slots] at X' e1 e2 h1 h2 h3 st
    subst h1; subst h2; subst h3
    exact Or.inl ⟨v, (T.setVm vm₁).calling g' mk (Value.ref b :: As).toArray, t, U', L, hT, X', hL, e1, e2, hq, st⟩
  · dsimp only [Pt.U, Pt.locs, Pt.cells, Pt.slots] at X' e1 e2 h1 h2 h3 st hcl
    subst h1; subst h2; subst h3
    exact Or.inr ⟨q, (T.setVm vm₁).calling g' mk (Value.ref b :: As).toArray, t, U', L, E, ce, hT, X', hL, e1, e2, hq, hce, hcv, vx_cls hW₁ hcl, st⟩
theorem vx_runS (S : CallFix p m c cc nL s args Ts own) (hM : vx_Met l y ws rm Pc Qc XC mc ms free) (cw : CallB R s args own index y bytes maxL ret ws rm mc ms n ∧ (Cond.static y).before args s = true) (hp : PreS s H Pc As)
    (hg : g.method = m) (hn : As.length = n) (hsize : g.locals.size = nL) (hstack : g.stack = As.reverse ++ rest) (hW : 2 * g.monitorRoom + (rest.map fun v => v.category).sum ≤ 8) (hdg : decode cc g.pc = .ok (.invokestatic index, 3)) (hf : cells + mc ≤ R.cells ∧ slots + ms ≤ R.slots) :
    vx_Run p l e R s m args below meth c H locs cells slots mc ms g rest (Qc As.toArray) XC free := by
  have hK : vx_Back l R p e below s args y 3 8 (PreOf R mc ms Pc) (PostOf Qc mc ms free) (vx_Post XC mc ms free) := vx_callBack cw.1 hM hp.1
  obtain ⟨⟨-, -, -, -, -, -, hcode, hini, hy, hlen, hl⟩, hstt⟩ := cw
  obtain ⟨hx, hb, hml, ho, -⟩ := S
  intro T hT X
  rcases vx_callS X hx (bytes := bytes) (maxL := maxL) (ret := ret) ho hl hstt hini hcode hy hK hg (hsize.trans hml.symm) (argsL := As) (rest := rest) (fun sig h => hn.trans (hlen sig h)) hstack hW (by rw [hb]; exact hdg)
    (fun vm₁ hW₁ => ⟨hf.1, hf.2, hp.2 (T.setVm vm₁) hT hW₁⟩) with ⟨v, vm₁, ⟨U', l2, c2, s2⟩, hW₁, X', ⟨g', mk, t, L, e1, e2, hq, h1, hL, h2, h3⟩, st⟩ | ⟨q, vm₁, ⟨U', l2, c2, s2⟩, hW₁, X', ⟨g', mk, t, L, E, ce, e1, e2, hq, hce, hcv, hcl, h1, hL, h2, h3⟩, st⟩
  · dsimp only [Pt.U, Pt.locs, Pt.cells, Pt.slots] at X' e1 e2 h1 h2 h3 st
    subst h1; subst h2; subst h3
    exact Or.inl ⟨v, (T.setVm vm₁).calling g' mk As.toArray, t, U', L, hT, X', hL, e1, e2, hq, st⟩
  · dsimp only [Pt.U, Pt.locs, Pt.cells, Pt.slots] at X' e1 e2 h1 h2 h3 st hcl
    subst h1; subst h2; subst h3
    exact Or.inr ⟨q, (T.setVm vm₁).calling g' mk As.toArray, t, U', L, E, ce, hT, X', hL, e1, e2, hq, hce, hcv, vx_cls hW₁ hcl, st⟩
end Runs
section Rows
variable {p : Program} {l : Launch} {e : Env} {R : Room} {s : State} {m : MethodId} {args : Array Value} {below : List Frame} {meth : Method} {c : Code} {H : Heap} {locs : List Loc} {cells slots : Nat} {Q : State → Prop}
variable {mc ms : Nat} {free : Addr → Prop} {A0 A1 : Nat → Prop} {H0 : Heap} {a : Array Value} {pc : Nat} {ls : Array Slot} {st0 rest : List Value}
theorem vx_keep {st₀ t T' : State} {L : List Loc} (h0 : st₀.heap = H) (e1 : T'.heap = t.heap) (hS : va_S A0 H0 H locs) (hA : ∀ q, q < H.size → A1 q → A0 q) (hf : ∀ q, free q → A0 q) (hL : ∀ q ∈ L, free q.base) (hF : va_F A1 st₀ t) :
    H.size ≤ T'.heap.size ∧ (∀ q : Nat, q < H.size → ¬ A1 q → T'.heap[q]? = H[q]?) ∧ va_S A0 H0 T'.heap (locs ++ L) := by
  obtain ⟨hz, hk⟩ := hF
  rw [h0] at hz hk
  exact ⟨by rw [e1]; exact hz, fun q h1 h2 => by rw [e1]; exact hk q h1 h2,
    ⟨Nat.le_trans hS.1 (by rw [e1]; exact hz), fun q h1 h2 => by rw [e1, hk q (Nat.lt_of_lt_of_le h1 hS.1) (fun z => h2 (hA q (Nat.lt_of_lt_of_le h1 hS.1) z))]; exact hS.2.1 q h1 h2, fun q hq => by
      rcases List.mem_append.mp hq with h | h
      · exact hS.2.2 q h
      · exact hf _ (hL q h)⟩⟩
theorem vx_calli {S SX : Type} {post : Int32 → S → Prop} {px : SX → Prop} {B : S → State → Prop} {BX : String → SX → State → Prop} {AX : Nat → Prop} (hr : vx_Run p l e R s m args below meth c H locs cells slots mc ms (F0 m pc ls st0) rest (va_Qi post B A1 a) (vx_X px BX AX) free) (hS : va_S A0 H0 H locs) (hA : ∀ q, q < H.size → A1 q → A0 q) (hf : ∀ q, free q → A0 q) (hAX : ∀ q, q < H.size → AX q → A0 q)
    (kx : ∀ (E : String) (ce : Cell) (q9 : Addr) (u : SX) (t : State) (H1 : Heap) (locs1 : List Loc), t.heap = H1 → s.vm.Alike t.vm → px u → BX E u t → H.size ≤ H1.size → (∀ q : Nat, q < H.size → ¬ AX q → H1[q]? = H[q]?) → va_S A0 H0 H1 locs1 → H1[q9]? = some ce → ce.vm = .none → s.vm.findClass E = some ce.cls → vx_W p l e R s m args below meth c H1 locs1 (cells + mc) (slots + ms) Q (F0 m pc ls rest) q9)
    (kk : ∀ (r : Int32) (u : S) (t : State) (H1 : Heap) (locs1 : List Loc), t.heap = H1 → s.vm.Alike t.vm → post r u → B u t → H.size ≤ H1.size → (∀ q : Nat, q < H.size → ¬ A1 q → H1[q]? = H[q]?) → va_S A0 H0 H1 locs1 → W p l e R s m args below meth c H1 locs1 (cells + mc) (slots + ms) Q (F0 m (pc + 3) ls (.int r :: rest))) : W p l e R s m args below meth c H locs cells slots Q (F0 m pc ls st0) := by
  intro T hT X
  rcases hr T hT X with ⟨v, st₀, t, T', L, h0, X', hL, e1, e2, ⟨⟨r, u, hv, hp, hb⟩, hF⟩, st⟩ | ⟨q, st₀, t, T', L, E, ce, h0, X', hL, e1, e2, ⟨u, hp, hb, hF⟩, hce, hcv, hcl, st⟩
  · cases hv
    obtain ⟨k1, k2, k3⟩ := vx_keep h0 e1 hS hA hf hL hF
    obtain ⟨t2, a1, b1⟩ := kk r u t T'.heap (locs ++ L) e1.symm (by rw [← e2]; exact X'.warmed.alike) hp hb k1 k2 k3 T' rfl X'
    exact ⟨t2, st t2 a1, b1⟩
  · obtain ⟨k1, k2, k3⟩ := vx_keep h0 e1 hS hAX hf hL hF
    obtain ⟨t2, a1, b1⟩ := kx E ce q u t T'.heap (locs ++ L) e1.symm (by rw [← e2]; exact X'.warmed.alike) hp hb k1 k2 k3 (by rw [e1]; exact hce) hcv hcl T' rfl X'
    exact ⟨t2, st.trans a1, b1⟩
theorem vx_calll {S SX : Type} {post : Int64 → S → Prop} {px : SX → Prop} {B : S → State → Prop} {BX : String → SX → State → Prop} {AX : Nat → Prop} (hr : vx_Run p l e R s m args below meth c H locs cells slots mc ms (F0 m pc ls st0) rest (va_Ql post B A1 a) (vx_X px BX AX) free) (hS : va_S A0 H0 H locs) (hA : ∀ q, q < H.size → A1 q → A0 q) (hf : ∀ q, free q → A0 q) (hAX : ∀ q, q < H.size → AX q → A0 q)
    (kx : ∀ (E : String) (ce : Cell) (q9 : Addr) (u : SX) (t : State) (H1 : Heap) (locs1 : List Loc), t.heap = H1 → s.vm.Alike t.vm → px u → BX E u t → H.size ≤ H1.size → (∀ q : Nat, q < H.size → ¬ AX q → H1[q]? = H[q]?) → va_S A0 H0 H1 locs1 → H1[q9]? = some ce → ce.vm = .none → s.vm.findClass E = some ce.cls → vx_W p l e R s m args below meth c H1 locs1 (cells + mc) (slots + ms) Q (F0 m pc ls rest) q9)
    (kk : ∀ (r : Int64) (u : S) (t : State) (H1 : Heap) (locs1 : List Loc), t.heap = H1 → s.vm.Alike t.vm → post r u → B u t → H.size ≤ H1.size → (∀ q : Nat, q < H.size → ¬ A1 q → H1[q]? = H[q]?) → va_S A0 H0 H1 locs1 → W p l e R s m args below meth c H1 locs1 (cells + mc) (slots + ms) Q (F0 m (pc + 3) ls (.long r :: rest))) : W p l e R s m args below meth c H locs cells slots Q (F0 m pc ls st0) := by
  intro T hT X
  rcases hr T hT X with ⟨v, st₀, t, T', L, h0, X', hL, e1, e2, ⟨⟨r, u, hv, hp, hb⟩, hF⟩, st⟩ | ⟨q, st₀, t, T', L, E, ce, h0, X', hL, e1, e2, ⟨u, hp, hb, hF⟩, hce, hcv, hcl, st⟩
  · cases hv
    obtain ⟨k1, k2, k3⟩ := vx_keep h0 e1 hS hA hf hL hF
    obtain ⟨t2, a1, b1⟩ := kk r u t T'.heap (locs ++ L) e1.symm (by rw [← e2]; exact X'.warmed.alike) hp hb k1 k2 k3 T' rfl X'
    exact ⟨t2, st t2 a1, b1⟩
  · obtain ⟨k1, k2, k3⟩ := vx_keep h0 e1 hS hAX hf hL hF
    obtain ⟨t2, a1, b1⟩ := kx E ce q u t T'.heap (locs ++ L) e1.symm (by rw [← e2]; exact X'.warmed.alike) hp hb k1 k2 k3 (by rw [e1]; exact hce) hcv hcl T' rfl X'
    exact ⟨t2, st.trans a1, b1⟩
theorem vx_callf {S SX : Type} {post : UInt32 → S → Prop} {px : SX → Prop} {B : S → State → Prop} {BX : String → SX → State → Prop} {AX : Nat → Prop} (hr : vx_Run p l e R s m args below meth c H locs cells slots mc ms (F0 m pc ls st0) rest (va_Qf post B A1 a) (vx_X px BX AX) free) (hS : va_S A0 H0 H locs) (hA : ∀ q, q < H.size → A1 q → A0 q) (hf : ∀ q, free q → A0 q) (hAX : ∀ q, q < H.size → AX q → A0 q)
    (kx : ∀ (E : String) (ce : Cell) (q9 : Addr) (u : SX) (t : State) (H1 : Heap) (locs1 : List Loc), t.heap = H1 → s.vm.Alike t.vm → px u → BX E u t → H.size ≤ H1.size → (∀ q : Nat, q < H.size → ¬ AX q → H1[q]? = H[q]?) → va_S A0 H0 H1 locs1 → H1[q9]? = some ce → ce.vm = .none → s.vm.findClass E = some ce.cls → vx_W p l e R s m args below meth c H1 locs1 (cells + mc) (slots + ms) Q (F0 m pc ls rest) q9)
    (kk : ∀ (r : UInt32) (u : S) (t : State) (H1 : Heap) (locs1 : List Loc), t.heap = H1 → s.vm.Alike t.vm → post r u → B u t → H.size ≤ H1.size → (∀ q : Nat, q < H.size → ¬ A1 q → H1[q]? = H[q]?) → va_S A0 H0 H1 locs1 → W p l e R s m args below meth c H1 locs1 (cells + mc) (slots + ms) Q (F0 m (pc + 3) ls (.float r :: rest))) : W p l e R s m args below meth c H locs cells slots Q (F0 m pc ls st0) := by
  intro T hT X
  rcases hr T hT X with ⟨v, st₀, t, T', L, h0, X', hL, e1, e2, ⟨⟨r, u, hv, hp, hb⟩, hF⟩, st⟩ | ⟨q, st₀, t, T', L, E, ce, h0, X', hL, e1, e2, ⟨u, hp, hb, hF⟩, hce, hcv, hcl, st⟩
  · cases hv
    obtain ⟨k1, k2, k3⟩ := vx_keep h0 e1 hS hA hf hL hF
    obtain ⟨t2, a1, b1⟩ := kk r u t T'.heap (locs ++ L) e1.symm (by rw [← e2]; exact X'.warmed.alike) hp hb k1 k2 k3 T' rfl X'
    exact ⟨t2, st t2 a1, b1⟩
  · obtain ⟨k1, k2, k3⟩ := vx_keep h0 e1 hS hAX hf hL hF
    obtain ⟨t2, a1, b1⟩ := kx E ce q u t T'.heap (locs ++ L) e1.symm (by rw [← e2]; exact X'.warmed.alike) hp hb k1 k2 k3 (by rw [e1]; exact hce) hcv hcl T' rfl X'
    exact ⟨t2, st.trans a1, b1⟩
theorem vx_calld {S SX : Type} {post : UInt64 → S → Prop} {px : SX → Prop} {B : S → State → Prop} {BX : String → SX → State → Prop} {AX : Nat → Prop} (hr : vx_Run p l e R s m args below meth c H locs cells slots mc ms (F0 m pc ls st0) rest (va_Qd post B A1 a) (vx_X px BX AX) free) (hS : va_S A0 H0 H locs) (hA : ∀ q, q < H.size → A1 q → A0 q) (hf : ∀ q, free q → A0 q) (hAX : ∀ q, q < H.size → AX q → A0 q)
    (kx : ∀ (E : String) (ce : Cell) (q9 : Addr) (u : SX) (t : State) (H1 : Heap) (locs1 : List Loc), t.heap = H1 → s.vm.Alike t.vm → px u → BX E u t → H.size ≤ H1.size → (∀ q : Nat, q < H.size → ¬ AX q → H1[q]? = H[q]?) → va_S A0 H0 H1 locs1 → H1[q9]? = some ce → ce.vm = .none → s.vm.findClass E = some ce.cls → vx_W p l e R s m args below meth c H1 locs1 (cells + mc) (slots + ms) Q (F0 m pc ls rest) q9)
    (kk : ∀ (r : UInt64) (u : S) (t : State) (H1 : Heap) (locs1 : List Loc), t.heap = H1 → s.vm.Alike t.vm → post r u → B u t → H.size ≤ H1.size → (∀ q : Nat, q < H.size → ¬ A1 q → H1[q]? = H[q]?) → va_S A0 H0 H1 locs1 → W p l e R s m args below meth c H1 locs1 (cells + mc) (slots + ms) Q (F0 m (pc + 3) ls (.double r :: rest))) : W p l e R s m args below meth c H locs cells slots Q (F0 m pc ls st0) := by
  intro T hT X
  rcases hr T hT X with ⟨v, st₀, t, T', L, h0, X', hL, e1, e2, ⟨⟨r, u, hv, hp, hb⟩, hF⟩, st⟩ | ⟨q, st₀, t, T', L, E, ce, h0, X', hL, e1, e2, ⟨u, hp, hb, hF⟩, hce, hcv, hcl, st⟩
  · cases hv
    obtain ⟨k1, k2, k3⟩ := vx_keep h0 e1 hS hA hf hL hF
    obtain ⟨t2, a1, b1⟩ := kk r u t T'.heap (locs ++ L) e1.symm (by rw [← e2]; exact X'.warmed.alike) hp hb k1 k2 k3 T' rfl X'
    exact ⟨t2, st t2 a1, b1⟩
  · obtain ⟨k1, k2, k3⟩ := vx_keep h0 e1 hS hAX hf hL hF
    obtain ⟨t2, a1, b1⟩ := kx E ce q u t T'.heap (locs ++ L) e1.symm (by rw [← e2]; exact X'.warmed.alike) hp hb k1 k2 k3 (by rw [e1]; exact hce) hcv hcl T' rfl X'
    exact ⟨t2, st.trans a1, b1⟩
theorem vx_callv {S SX : Type} {post : S → Prop} {px : SX → Prop} {B : S → State → Prop} {BX : String → SX → State → Prop} {AX : Nat → Prop} (hr : vx_Run p l e R s m args below meth c H locs cells slots mc ms (F0 m pc ls st0) rest (va_Qv post B A1 a) (vx_X px BX AX) free) (hS : va_S A0 H0 H locs) (hA : ∀ q, q < H.size → A1 q → A0 q) (hf : ∀ q, free q → A0 q) (hAX : ∀ q, q < H.size → AX q → A0 q)
    (kx : ∀ (E : String) (ce : Cell) (q9 : Addr) (u : SX) (t : State) (H1 : Heap) (locs1 : List Loc), t.heap = H1 → s.vm.Alike t.vm → px u → BX E u t → H.size ≤ H1.size → (∀ q : Nat, q < H.size → ¬ AX q → H1[q]? = H[q]?) → va_S A0 H0 H1 locs1 → H1[q9]? = some ce → ce.vm = .none → s.vm.findClass E = some ce.cls → vx_W p l e R s m args below meth c H1 locs1 (cells + mc) (slots + ms) Q (F0 m pc ls rest) q9)
    (kk : ∀ (u : S) (t : State) (H1 : Heap) (locs1 : List Loc), t.heap = H1 → s.vm.Alike t.vm → post u → B u t → H.size ≤ H1.size → (∀ q : Nat, q < H.size → ¬ A1 q → H1[q]? = H[q]?) → va_S A0 H0 H1 locs1 → W p l e R s m args below meth c H1 locs1 (cells + mc) (slots + ms) Q (F0 m (pc + 3) ls (rest))) : W p l e R s m args below meth c H locs cells slots Q (F0 m pc ls st0) := by
  intro T hT X
  rcases hr T hT X with ⟨v, st₀, t, T', L, h0, X', hL, e1, e2, ⟨⟨u, hv, hp, hb⟩, hF⟩, st⟩ | ⟨q, st₀, t, T', L, E, ce, h0, X', hL, e1, e2, ⟨u, hp, hb, hF⟩, hce, hcv, hcl, st⟩
  · cases hv
    obtain ⟨k1, k2, k3⟩ := vx_keep h0 e1 hS hA hf hL hF
    obtain ⟨t2, a1, b1⟩ := kk u t T'.heap (locs ++ L) e1.symm (by rw [← e2]; exact X'.warmed.alike) hp hb k1 k2 k3 T' rfl X'
    exact ⟨t2, st t2 a1, b1⟩
  · obtain ⟨k1, k2, k3⟩ := vx_keep h0 e1 hS hAX hf hL hF
    obtain ⟨t2, a1, b1⟩ := kx E ce q u t T'.heap (locs ++ L) e1.symm (by rw [← e2]; exact X'.warmed.alike) hp hb k1 k2 k3 (by rw [e1]; exact hce) hcv hcl T' rfl X'
    exact ⟨t2, st.trans a1, b1⟩
/-- caught by the row x of this method's table; the rows ahead don't take it -/
theorem vx_catch {own name : String} {E : String} {ce : Cell} {q : Addr} (hown : s.vm.findClass own = some m.cls) (pre : List ExceptionTableEntry) (x : ExceptionTableEntry) (suf : List ExceptionTableEntry) (hsplit : c.exceptionTable.toList = pre ++ x :: suf)
    (hpass : ∀ z ∈ pre, covers z pc = false ∨ (z.catchType ≠ 0 ∧ ∃ nm : String, (Cond.classLink own z.catchType nm).before args s = true ∧ va_Nc E nm s)) (hx : covers x pc = true) (h0 : x.catchType ≠ 0)
    (hlink : (Cond.classLink own x.catchType name).before args s = true) (hcast : (Cond.castable E name).before args s = true) (hcell : H[q]? = some ce) (hv : ce.vm = .none) (hcl : s.vm.findClass E = some ce.cls)
    (kk : W p l e R s m args below meth c H locs cells slots Q (F0 m x.handlerPc ls [.ref q])) : vx_W p l e R s m args below meth c H locs cells slots Q (F0 m pc ls rest) q := by
  intro T hT X
  have hpl : e.platform.magicAccessors = ({} : Platform).magicAccessors := by rw [X.admits.platform]
  obtain ⟨c3, c4, hc3, hc4, hasg⟩ := Cond.castable_spec hcast
  cases Option.some.inj (hc3.symm.trans hcl)
  obtain ⟨c5, hc5, hcl5⟩ := Cond.classLink_spec hown hlink e.platform hpl
  cases Option.some.inj (hc4.symm.trans hc5)
  obtain ⟨vm', X', st⟩ := X.thenCaughtThrough q (g := F0 m pc ls rest) rfl (Steps.refl _) (by rw [hT]; exact hcell) (by rw [hv]; rfl) (by obtain ⟨k9, h9, -⟩ := Vm.findClass_spec hcl; exact ⟨k9, h9⟩) pre x suf hsplit
    (fun z hz => by
      rcases hpass z hz with h | ⟨hz0, nm, hl1, hn1⟩
      · exact Or.inl h
      · obtain ⟨c6, hc6, hcl6⟩ := Cond.classLink_spec hown hl1 e.platform hpl
        obtain ⟨a8, b8, h1, h2, h3⟩ := hn1
        cases Option.some.inj (h1.symm.trans hcl)
        cases Option.some.inj (h2.symm.trans hc6)
        exact Or.inr ⟨hz0, _, hcl6, h3⟩) hx (Or.inr ⟨h0, c4, hcl5, hasg⟩)
  obtain ⟨t, a1, b1⟩ := kk (T.setVm vm') hT X'
  exact ⟨t, st.trans a1, b1⟩
end Rows
section Ends
variable {p : Program} {l : Launch} {e : Env} {R : Room} {s : State} {m : MethodId} {args : Array Value} {below : List Frame} {meth : Method} {c : Code} {H : Heap} {locs : List Loc} {cells slots : Nat} {Q : State → Prop}
variable {mc ms : Nat} {free : Addr → Prop} {A0 A1 : Nat → Prop} {H0 : Heap} {a : Array Value} {ls : Array Slot} {st0 rest : List Value}
variable {Qc : Array Value → State → Outcome → State → Prop} {XC : String → State → State → Prop}
/-- what a body that may throw owes at its end -/
def vx_MQ (below : List Frame) (Qc : Array Value → State → Outcome → State → Prop) (XC : String → State → State → Prop) (a : Array Value) (s : State) (mc ms : Nat) (free : Addr → Prop) : State → Prop := fun t =>
  ∃ o, t.status = .running ∧ Ended t below o ∧ vx_Q Qc XC mc ms free a s o t
theorem vx_ret {g : JFrame} {mc ms : Nat} (k : W p l e R s m args below meth c H locs cells slots (MQ below Qc args s mc ms free) g) : W p l e R s m args below meth c H locs cells slots (vx_MQ below Qc XC args s mc ms free) g := by
  intro T hT X
  obtain ⟨t, a1, o, b1, b2, b3, b4⟩ := k T hT X
  exact ⟨t, a1, o, b1, b2, Or.inl ⟨b3, b4⟩⟩
/-- not caught here: it goes on to the caller -/
theorem vx_widen {g : JFrame} {q : Addr} {k n : Nat} (h1 : cells ≤ k) (h2 : slots ≤ n) (kk : vx_W p l e R s m args below meth c H locs k n Q g q) : vx_W p l e R s m args below meth c H locs cells slots Q g q := fun T hT X => kk T hT (stand_widen X h1 h2)
theorem vx_out {pc : Nat} {E : String} {ce : Cell} {q : Addr} {mc ms : Nat} (hout : ∀ x ∈ c.exceptionTable.toList, covers x pc = false) (hlocks : meth.locks = false) (hcell : H[q]? = some ce) (hv : ce.vm = .none) (hcl : s.vm.findClass E = some ce.cls)
    (hx : ∀ t : State, t.heap = H → s.vm.Alike t.vm → XC E s t) (hf : ∀ z ∈ locs, free z.base) (hc : cells ≤ mc) (hs : slots ≤ ms) :
    vx_W p l e R s m args below meth c H locs cells slots (vx_MQ below Qc XC args s mc ms free) (F0 m pc ls rest) q := by
  intro T hT X
  obtain ⟨st1, hrun, hend, hW, hsm⟩ := X.leaveThrown q (g := F0 m pc ls rest) rfl rfl rfl hout hlocks
  have hcell9 : (T.setFrames (.throwing q :: below)).heap[q]? = some ce := by
    show T.heap[q]? = some ce
    rw [hT]; exact hcell
  exact ⟨_, st1, .threw q, hrun, hend, Or.inr ⟨q, rfl, E, ce, locs, hx _ hT hW.alike, hcell9, hv, hcl, hW, hsm.mono hc hs, hf⟩⟩
theorem vx_frame {U : State} {k n : Nat} (h : s.sameButNew ({ U with vm := s.vm } : State) locs k n) : s.heap.size ≤ U.heap.size ∧ ∀ q : Nat, q < s.heap.size → (∀ z ∈ locs, z.base ≠ q) → U.heap[q]? = s.heap[q]? := by
  obtain ⟨-, h2, -, -, -, h6⟩ := h
  refine ⟨h2, fun q hq hz => ?_⟩
  obtain ⟨c9, e1, e2, e3, e4⟩ := h6 q _ (Array.getElem?_eq_getElem hq)
  have hs : c9.slots = (s.heap[q]).slots := Array.ext_getElem? fun i => e4 i fun hm => hz _ hm rfl
  have h9 : c9 = s.heap[q] := by
    rw [hs] at e2
    exact e2
  have e5 : U.heap[q]? = some c9 := e1
  rw [e5, h9, Array.getElem?_eq_getElem hq]
/-- the words of a throw but the four that speak of the heap -/
def vx_no (w : Cond) : Bool := decide (w ≠ .isRef (.static Bundle.tN "UNASSIGNED_STACK" Bundle.steD)) && decide (w ≠ .isRef (.static Bundle.tN "SUPPRESSED_SENTINEL" Bundle.listD)) && decide (w ≠ .laysStatic Bundle.tN "UNASSIGNED_STACK" Bundle.steD) && decide (w ≠ .laysStatic Bundle.tN "SUPPRESSED_SENTINEL" Bundle.listD)
def vx_at0 (own : String) (ic : Nat) (X : String) (names : List String) : List Cond := (Bundle.ownAtoms0 own ic X names).filter vx_no
def vx_atS (own : String) (ic : Nat) (X : String) (names : List String) : List Cond := (Bundle.ownAtoms own ic X names).filter vx_no
/-- a word that the tables alone decide, or a good one -/
def vx_ot (w : Cond) : Bool := w.onTables || goodWord w
theorem vx_ot_at {args a' : Array Value} {s U : State} {w : Cond} (hW : s.WarmedH U.vm) (hvm : s.vm = U.vm) (hg : vx_ot w = true) (h : w.before args s = true) : w.before a' U = true := by
  simp only [vx_ot, Bool.or_eq_true] at hg
  rcases hg with hg | hg
  · exact va_tabs hg hvm h
  · exact word_at hW (good_of_word hg) h
/-- a list's words: the good ones out of the method's own list, the others by premises of their own -/
theorem vx_hat {args : Array Value} {s : State} {L B : List Cond} (h1 : ∀ w ∈ L.filter goodWord, w.before args s = true) (h2 : ∀ w ∈ L.filter (fun w => !goodWord w), w ∈ B) (h3 : ∀ w ∈ B, w.before args s = true) : ∀ w ∈ L, w.before args s = true := by
  intro w hw
  by_cases g : goodWord w = true
  · exact h1 w (List.mem_filter.mpr ⟨hw, g⟩)
  · refine h3 w (h2 w (List.mem_filter.mpr ⟨hw, ?_⟩))
    show (!goodWord w) = true
    cases hgw : goodWord w
    · rfl
    · exact absurd hgw g
theorem vx_c {args : Array Value} {s : State} {w : Cond} {B : List Cond} (h : w.before args s = true) (t : ∀ w ∈ B, w.before args s = true) : ∀ w' ∈ w :: B, w'.before args s = true := fun w' h' => (List.mem_cons.mp h').elim (fun e => by rw [e]; exact h) (t w')
theorem vx_n {args : Array Value} {s : State} : ∀ w ∈ ([] : List Cond), w.before args s = true := fun _ h => nomatch h
theorem vx_own {args : Array Value} {s : State} {L : List Cond} (h1 : ∀ w ∈ L.filter vx_no, w.before args s = true)
    (hU : (Cond.isRef (.static Bundle.tN "UNASSIGNED_STACK" Bundle.steD)).before args s = true) (hN : (Cond.isRef (.static Bundle.tN "SUPPRESSED_SENTINEL" Bundle.listD)).before args s = true)
    (lU : (Cond.laysStatic Bundle.tN "UNASSIGNED_STACK" Bundle.steD).before args s = true) (lN : (Cond.laysStatic Bundle.tN "SUPPRESSED_SENTINEL" Bundle.listD).before args s = true) : ∀ w ∈ L, w.before args s = true := by
  intro w hw
  by_cases e1 : w = .isRef (.static Bundle.tN "UNASSIGNED_STACK" Bundle.steD)
  · rw [e1]; exact hU
  · by_cases e2 : w = .isRef (.static Bundle.tN "SUPPRESSED_SENTINEL" Bundle.listD)
    · rw [e2]; exact hN
    · by_cases e3 : w = .laysStatic Bundle.tN "UNASSIGNED_STACK" Bundle.steD
      · rw [e3]; exact lU
      · by_cases e4 : w = .laysStatic Bundle.tN "SUPPRESSED_SENTINEL" Bundle.listD
        · rw [e4]; exact lN
        · exact h1 w (List.mem_filter.mpr ⟨hw, by unfold vx_no; rw [decide_eq_true e1, decide_eq_true e2, decide_eq_true e3, decide_eq_true e4]; rfl⟩)
/-- where a static field lies, its class's statics cell in H -/
def vx_L (C n d : String) (A : Nat → Prop) (U : State) (H : Heap) : Prop := ∃ (c : ClassId) (k : Class) (i : Nat) (f : Field) (a : Nat) (cell : Cell), U.vm.findClass C = some c ∧ U.fieldFound? C n d = some (c, k, i, f) ∧ f.isStatic = true ∧ k.statics = some a ∧ H[a]? = some cell ∧ cell.vm.isStatics = true ∧ cell.cls = c ∧ f.slot < cell.slots.size ∧ k.staticTypes[f.slot]? = some f.type ∧ ¬ A a
theorem vx_L.moved {C n d : String} {A : Nat → Prop} {u U : State} {H : Heap} (hvm : u.vm.Alike U.vm) (h : vx_L C n d A u H) : vx_L C n d A U H := by
  obtain ⟨c, k, i, f, a, cell, h1, h2, h3, h4, h5, h6, h7, h8, h9, h10⟩ := h
  obtain ⟨k', hi', he⟩ := State.fieldFound?_setVm hvm h2
  exact ⟨c, k', i, f, a, cell, by rw [hvm.findClass]; exact h1, hi', h3, by rw [he]; exact h4, h5, h6, h7, h8, by rw [he]; exact h9, h10⟩
theorem vx_L.kept {C n d : String} {A : Nat → Prop} {U : State} {H H1 : Heap} (h : vx_L C n d A U H) (hq : ∀ a : Nat, a < H.size → ¬ A a → H1[a]? = H[a]?) : vx_L C n d A U H1 := by
  obtain ⟨c, k, i, f, a, cell, h1, h2, h3, h4, h5, h6, h7, h8, h9, h10⟩ := h
  exact ⟨c, k, i, f, a, cell, h1, h2, h3, h4, by rw [hq a (Array.getElem?_eq_some_iff.mp h5).1 h10]; exact h5, h6, h7, h8, h9, h10⟩
theorem vx_L.narrow {C n d : String} {A B : Nat → Prop} {U : State} {H : Heap} (h : vx_L C n d A U H) (hAB : ∀ q, B q → A q) : vx_L C n d B U H := by
  obtain ⟨c, k, i, f, a, cell, h1, h2, h3, h4, h5, h6, h7, h8, h9, h10⟩ := h
  exact ⟨c, k, i, f, a, cell, h1, h2, h3, h4, h5, h6, h7, h8, h9, fun z => h10 (hAB _ z)⟩
theorem vx_L.word {C n d : String} {A : Nat → Prop} {s : State} {args : Array Value} (h : vx_L C n d A s s.heap) : (Cond.laysStatic C n d).before args s = true := by
  obtain ⟨c, k, i, f, a, cell, h1, h2, h3, h4, h5, h6, h7, h8, h9, -⟩ := h
  show (Cond.laysStatic C n d).holds args s none s [] = true
  exact Cond.laysStatic_of h1 h2 h3 h4 h5 h6 h7 h8 h9
/-- .. and what it holds: null or some reference -/
def vx_Zq (C n d : String) (A : Nat → Prop) (U : State) (H : Heap) : Prop := va_Zq C n d A U H ∧ vx_L C n d A U H
theorem vx_Zq.moved {C n d : String} {A : Nat → Prop} {u U : State} {H : Heap} (hvm : u.vm.Alike U.vm) (h : vx_Zq C n d A u H) : vx_Zq C n d A U H := ⟨va_Zq.moved hvm h.1, vx_L.moved hvm h.2⟩
theorem vx_Zq.kept {C n d : String} {A : Nat → Prop} {U : State} {H H1 : Heap} (h : vx_Zq C n d A U H) (hq : ∀ a : Nat, a < H.size → ¬ A a → H1[a]? = H[a]?) : vx_Zq C n d A U H1 := ⟨va_Zq.kept h.1 hq, vx_L.kept h.2 hq⟩
theorem vx_Zq.narrow {C n d : String} {A B : Nat → Prop} {U : State} {H : Heap} (h : vx_Zq C n d A U H) (hAB : ∀ q, B q → A q) : vx_Zq C n d B U H := ⟨va_Zq.narrow h.1 hAB, vx_L.narrow h.2 hAB⟩
theorem vx_Zqof {args : Array Value} {s : State} {C n d : String} {A : Nat → Prop} (hl : (Cond.laysStatic C n d).before args s = true) (hini : (Cond.initialized C).before args s = true) (h : (Cond.isRef (.static C n d)).before args s = true) (hA : ∀ a : Nat, a < s.heap.size → ¬ A a) : vx_Zq C n d A s s.heap := by
  refine ⟨va_Zqof hl hini h hA, ?_⟩
  obtain ⟨c, k, i, f, a, cell, h1, h2, h3, h4, h5, h6, h7, h8, h9⟩ := Cond.laysStatic_spec hl
  exact ⟨c, k, i, f, a, cell, h1, h2, h3, h4, h5, h6, h7, h8, h9, hA a (Array.getElem?_eq_some_iff.mp h5).1⟩
theorem vx_isRef {C n d : String} {v : Value} {A : Nat → Prop} {s : State} {args : Array Value} (h : va_Z C n d v A s s.heap) (hv : v.isRef = true) : (Cond.isRef (.static C n d)).before args s = true := by
  obtain ⟨cf, kf, fi, f, a, cell, h1, h2, h3, h4, h5, h6, h7, -⟩ := h
  have he : (Term.static C n d).eval args s none [] s = some v := by
    simp [Term.eval, State.fieldNamed?, h1, h2, h4, h5, h6, h7]
  simp only [Cond.before, Cond.holds, Cond.value, he]
  cases v <;> simp_all [Value.isRef]
theorem vx_isRefq {C n d : String} {A : Nat → Prop} {s : State} {args : Array Value} (h : va_Zq C n d A s s.heap) : (Cond.isRef (.static C n d)).before args s = true := by
  rcases h with h | ⟨t, h⟩
  · exact vx_isRef h rfl
  · exact vx_isRef h rfl
/-- the same frame, seen from here: as if the method were called anew in this heap -/
theorem vx_rebase {T : State} (X : Stand p l e R s m args below meth c T locs cells slots) {R' : Room} (hf : R'.frames ≤ R.frames) (hl : R'.locals ≤ R.locals) (hc : cells + R'.cells ≤ R.cells) (hs : slots + R'.slots ≤ R.slots) :
    Stand p l e R' ((T.setVm s.vm).setFrames (.invoking m args :: below)) m args below meth c T [] 0 0 := by
  have htop : (T.setVm s.vm).topJava?.isSome := X.here.top
  have hF : ((T.setVm s.vm).setFrames (.invoking m args :: below)).frames = .invoking m args :: below := State.frames_setFrames _ (State.cur_lt_of_top htop)
  obtain ⟨g₀, hg0⟩ := Option.isSome_iff_exists.mp htop
  obtain ⟨r, hr⟩ := State.topJava?_eq_some.mp hg0
  have hl9 : e.platform.stackLimits (T.setVm s.vm).me = e.platform.stackLimits s.me := X.limits
  have hb9 : (T.setVm s.vm).me.stackBytes = s.me.stackBytes := X.bytes
  refine ⟨X.admits, X.cas, X.clock, hF, ?_, X.hears, X.method, X.code, X.here, X.tail, X.warmed, ?_, ?_, ?_⟩
  · have h := X.room
    have hU : ((T.setVm s.vm).setFrames (.invoking m args :: below)).localsInUse = s.localsInUse := by
      rw [State.localsInUse_invoking hF (meth := meth) (c := c) X.method X.code, State.localsInUse_invoking X.frames X.method X.code]
    simp only [State.hasRoom, Bool.and_eq_true, decide_eq_true_eq] at h ⊢
    obtain ⟨⟨⟨⟨h1, h2, h3, h4, h5, h6⟩, h7⟩, h8⟩, h9⟩ := h
    rw [X.frames, List.length_cons] at h2 h3
    have q1 := X.heapSize
    have q2 := X.used
    simp only [hF, hU, List.length_cons, State.stackLimits_setFrames, State.stackBytes_setFrames, hl9, hb9]
    refine ⟨⟨⟨⟨by omega, by omega, by omega, by omega, by omega, h6⟩, ?_⟩, ?_⟩, X.book⟩
    · show T.heap.size + R'.cells ≤ e.platform.maxCells
      omega
    · show T.slotsUsed + R'.slots ≤ e.platform.maxSlots
      omega
  · rw [State.stackLimits_setFrames]; rfl
  · rw [State.stackBytes_setFrames]; rfl
  · refine ⟨?_, Nat.le_refl _, Nat.le_refl _, ?_, ?_, fun a c9 h9 => ⟨c9, h9, rfl, rfl, fun _ _ => rfl⟩⟩
    · obtain ⟨t, ht, -⟩ := State.frames_cons hr
      show T.setVm s.vm = { ((T.setVm s.vm).setFrames (.invoking m args :: below)).setFrames (T.setVm s.vm).frames with heap := T.heap, slotsUsed := T.slotsUsed }
      rw [State.setFrames_setFrames, State.setFrames_self ht]
      rfl
    · show T.slotsUsed = T.slotsUsed + ((T.heap.toList.drop T.heap.size).map (·.slots.size)).sum
      rw [List.drop_eq_nil_of_le (Nat.le_of_eq Array.length_toList)]
      rfl
    · show ((T.heap.toList.drop T.heap.size).map (·.slots.size)).sum ≤ 0
      rw [List.drop_eq_nil_of_le (Nat.le_of_eq Array.length_toList)]
      exact Nat.le_refl _
/-- 'throw new E()': new; dup; invokespecial; athrow -/
theorem vx_throw0 {cc : ByteArray} {pc : Nat} (hexec : p.tables.exec = Jvm.exec) (hb : c.code = cc) (hl : l.stackTraces = false) {own cls : String} {names : List String} {ik ic mc ms : Nat} {A : Nat → Prop}
    (hown : s.vm.findClass own = some m.cls) (hcls : Bundle.fit cls = true) (hnames : ∀ n ∈ names, Bundle.fit n = true)
    (hk : (Cond.classLink own ik cls).before args s = true) (hini : (Cond.initialized cls).before args s = true) (hat : ∀ w ∈ vx_at0 own ic cls names, w.before args s = true)
    (hgood : ∀ w ∈ Cond.classLink own ik cls :: Cond.initialized cls :: vx_at0 own ic cls names, vx_ot w = true)
    (hU : vx_Zq Bundle.tN "UNASSIGNED_STACK" Bundle.steD A s s.heap) (hN : vx_Zq Bundle.tN "SUPPRESSED_SENTINEL" Bundle.listD A s s.heap) (hS : va_S A s.heap H locs) (hsize : ls.size = c.maxLocals)
    (d0 : decode cc pc = .ok (.new ik, 3)) (d3 : decode cc (pc + 3) = .ok (.dup, 1)) (d4 : decode cc (pc + 4) = .ok (.invokespecial ic, 3)) (d7 : decode cc (pc + 7) = .ok (.athrow, 1))
    (hout : ∀ x ∈ c.exceptionTable.toList, covers x (pc + 7) = false)
    (hRframes : names.length + 3 < R.frames) (hRlocals : (rest.map fun v => v.category).sum + (13 * (names.length + 1) + 42) ≤ R.locals) (hRcells : cells + 1 ≤ R.cells) (hRslots : slots + 6 ≤ R.slots) (hlocks : meth.locks = false)
    (hx : ∀ t : State, s.vm.Alike t.vm → H.size ≤ t.heap.size → (∀ q : Nat, q < H.size → t.heap[q]? = H[q]?) → XC cls s t)
    (hf : ∀ z ∈ locs, free z.base) (hc : cells + 1 ≤ mc) (hs : slots + 6 ≤ ms) :
    W p l e R s m args below meth c H locs cells slots (vx_MQ below Qc XC args s mc ms free) (F0 m pc ls rest) := by
  intro T hT X
  have htr : e.platform.stackTraces = false := (show e.platform.stackTraces = l.stackTraces by rw [X.admits.platform]).trans hl
  have Y := vx_rebase X (R' := { frames := R.frames, locals := R.locals, cells := 1, slots := 6 }) (Nat.le_refl _) (Nat.le_refl _) hRcells hRslots
  obtain ⟨s', hA⟩ : ∃ z, z = (T.setVm s.vm).setFrames (.invoking m args :: below) := ⟨_, rfl⟩
  rw [← hA] at Y
  have hvm : s'.vm = s.vm := by rw [hA]; rfl
  have hhp : s'.heap = H := by rw [hA]; exact hT
  have hW0 : s.WarmedH s'.vm := by rw [hvm]; exact State.WarmedH.refl s
  have hat' : ∀ w ∈ vx_at0 own ic cls names, w.before args s' = true := fun w hw => vx_ot_at hW0 hvm.symm (hgood w (List.mem_cons_of_mem _ (List.mem_cons_of_mem _ hw))) (hat w hw)
  have hk' : (Cond.classLink own ik cls).before args s' = true := vx_ot_at hW0 hvm.symm (hgood _ List.mem_cons_self) hk
  have hini' : (Cond.initialized cls).before args s' = true := vx_ot_at hW0 hvm.symm (hgood _ (List.mem_cons_of_mem _ List.mem_cons_self)) hini
  have hU' : vx_Zq Bundle.tN "UNASSIGNED_STACK" Bundle.steD A s' s'.heap := by rw [hhp]; exact vx_Zq.moved hW0.alike (hU.kept hS.2.1)
  have hN' : vx_Zq Bundle.tN "SUPPRESSED_SENTINEL" Bundle.listD A s' s'.heap := by rw [hhp]; exact vx_Zq.moved hW0.alike (hN.kept hS.2.1)
  have h : ∀ w ∈ Bundle.ownAtoms0 own ic cls names, w.before args s' = true := vx_own hat' (vx_isRefq hU'.1) (vx_isRefq hN'.1) hU'.2.word hN'.2.word
  have hown' : s'.vm.findClass own = some m.cls := by rw [hvm]; exact hown
  have hins : (Cond.instantiable cls 6).before args s' = true := h _ (by simp [Bundle.ownAtoms0])
  obtain ⟨vm₁, cX, kX, hfX, hkX, -, -, X₁, st1⟩ := Y.newCold hexec (own := own) (C := cls) (index := ik) (n := 6) hown' hk' hins hini'
    (g := F0 m pc ls rest) rfl (by rw [hb]; exact d0) (Nat.le_refl _) (Nat.le_refl _)
  generalize hT1 : (T.setVm vm₁).pushCell { cls := cX, slots := kX.instanceTypes.map defaultValue, vm := .none } = T1 at X₁ st1
  have hcat : (Value.ref T.heap.size).category = 1 := rfl
  have hcellA : T1.heap[T.heap.size]? = some (freshCell cX kX) := by rw [← hT1]; exact State.heap_pushCell_size _ _
  have d3' : decode c.code (pc + 3) = .ok (.dup, 1) := by rw [hb]; exact d3
  obtain ⟨U, hsteps, hrun, hend, hW, hsame, ce, hce, hO⟩ := X₁.ctorThrow0 hexec htr (own := own) (cls := cls) (names := names) (ic := ic) hown' hcls hnames h (fun x hx => nomatch hx) hfX hkX hcellA (by rw [hhp, hT]; exact Nat.le_refl _)
    (g := { method := m, pc := pc + 4, locals := ls, stack := .ref T.heap.size :: .ref T.heap.size :: rest, locked := none }) rfl hsize rfl rfl (rest := rest) rfl
    (by rw [hb]; exact d4) (by rw [hb]; exact d7) hout hRframes (by simp only [List.map_cons, List.sum_cons, hcat]; omega) hlocks
  obtain ⟨f1, f2⟩ := vx_frame hsame
  rw [hhp] at f1 f2
  have hWs : s.WarmedH U.vm := State.WarmedH.trans hW0 hW
  have hcl : s.vm.findClass cls = some ce.cls := by
    have h9 := hO.cls
    rw [hvm] at h9
    exact h9
  have hall : s.sameButNew ({ U with vm := s.vm } : State) locs mc ms := by
    subst hA
    obtain ⟨e1, e2⟩ := hsame
    rw [State.setFrames_setFrames] at e1
    have h2 : (T.setVm s.vm).sameButNew ({ U with vm := s.vm } : State) [] (0 + 1) (0 + 6) := ⟨e1, e2⟩
    have h3 := X.same.trans h2
    rw [List.append_nil] at h3
    exact h3.mono hc hs
  refine ⟨U, ?_, .threw T.heap.size, hrun, hend, Or.inr ⟨T.heap.size, rfl, cls, ce, locs, hx U hWs.alike f1 (fun q hq => f2 q hq (fun z hz => nomatch hz)), hce, hO.vm, hcl, hWs, hall, hf⟩⟩
  refine st1 _ ?_
  show Steps p.tables e below (T1.setTop { method := m, pc := pc + 3, locals := ls, stack := .ref T.heap.size :: rest, locked := none }) _
  jvm_step X₁.here [X₁.here.top, hexec, d3', Value.category]
  exact hsteps
/-- 'throw new E("text")': new; dup; ldc; invokespecial; athrow -/
theorem vx_throwS {cc : ByteArray} {pc : Nat} (hexec : p.tables.exec = Jvm.exec) (hb : c.code = cc) (hl : l.stackTraces = false) {own cls text : String} {names : List String} {ik is ic mc ms sa : Nat} {A : Nat → Prop}
    (hown : s.vm.findClass own = some m.cls) (hcls : Bundle.fit cls = true) (hnames : ∀ n ∈ names, Bundle.fit n = true)
    (hk : (Cond.classLink own ik cls).before args s = true) (hini : (Cond.initialized cls).before args s = true) (hstr : vk_R own is text sa s) (hat : ∀ w ∈ vx_atS own ic cls names, w.before args s = true)
    (hgood : ∀ w ∈ Cond.classLink own ik cls :: Cond.initialized cls :: vx_atS own ic cls names, vx_ot w = true)
    (hU : vx_Zq Bundle.tN "UNASSIGNED_STACK" Bundle.steD A s s.heap) (hN : vx_Zq Bundle.tN "SUPPRESSED_SENTINEL" Bundle.listD A s s.heap) (hS : va_S A s.heap H locs) (hsize : ls.size = c.maxLocals)
    (d0 : decode cc pc = .ok (.new ik, 3)) (d3 : decode cc (pc + 3) = .ok (.dup, 1)) (d4 : decode cc (pc + 4) = .ok (.ldc is, 2)) (d6 : decode cc (pc + 6) = .ok (.invokespecial ic, 3)) (d9 : decode cc (pc + 9) = .ok (.athrow, 1))
    (hout : ∀ x ∈ c.exceptionTable.toList, covers x (pc + 9) = false)
    (hRframes : names.length + 3 < R.frames) (hRlocals : (rest.map fun v => v.category).sum + (13 * (names.length + 1) + 43) ≤ R.locals) (hRcells : cells + 1 ≤ R.cells) (hRslots : slots + 6 ≤ R.slots) (hlocks : meth.locks = false)
    (hx : ∀ t : State, s.vm.Alike t.vm → H.size ≤ t.heap.size → (∀ q : Nat, q < H.size → t.heap[q]? = H[q]?) → XC cls s t)
    (hf : ∀ z ∈ locs, free z.base) (hc : cells + 1 ≤ mc) (hs : slots + 6 ≤ ms) :
    W p l e R s m args below meth c H locs cells slots (vx_MQ below Qc XC args s mc ms free) (F0 m pc ls rest) := by
  intro T hT X
  have htr : e.platform.stackTraces = false := (show e.platform.stackTraces = l.stackTraces by rw [X.admits.platform]).trans hl
  have Y := vx_rebase X (R' := { frames := R.frames, locals := R.locals, cells := 1, slots := 6 }) (Nat.le_refl _) (Nat.le_refl _) hRcells hRslots
  obtain ⟨s', hA⟩ : ∃ z, z = (T.setVm s.vm).setFrames (.invoking m args :: below) := ⟨_, rfl⟩
  rw [← hA] at Y
  have hvm : s'.vm = s.vm := by rw [hA]; rfl
  have hhp : s'.heap = H := by rw [hA]; exact hT
  have hW0 : s.WarmedH s'.vm := by rw [hvm]; exact State.WarmedH.refl s
  have hat' : ∀ w ∈ vx_atS own ic cls names, w.before args s' = true := fun w hw => vx_ot_at hW0 hvm.symm (hgood w (List.mem_cons_of_mem _ (List.mem_cons_of_mem _ hw))) (hat w hw)
  have hk' : (Cond.classLink own ik cls).before args s' = true := vx_ot_at hW0 hvm.symm (hgood _ List.mem_cons_self) hk
  have hini' : (Cond.initialized cls).before args s' = true := vx_ot_at hW0 hvm.symm (hgood _ (List.mem_cons_of_mem _ List.mem_cons_self)) hini
  have hU' : vx_Zq Bundle.tN "UNASSIGNED_STACK" Bundle.steD A s' s'.heap := by rw [hhp]; exact vx_Zq.moved hW0.alike (hU.kept hS.2.1)
  have hN' : vx_Zq Bundle.tN "SUPPRESSED_SENTINEL" Bundle.listD A s' s'.heap := by rw [hhp]; exact vx_Zq.moved hW0.alike (hN.kept hS.2.1)
  have h : ∀ w ∈ Bundle.ownAtoms own ic cls names, w.before args s' = true := vx_own hat' (vx_isRefq hU'.1) (vx_isRefq hN'.1) hU'.2.word hN'.2.word
  have hown' : s'.vm.findClass own = some m.cls := by rw [hvm]; exact hown
  have hins : (Cond.instantiable cls 6).before args s' = true := h _ (by simp [Bundle.ownAtoms])
  obtain ⟨vm₁, cX, kX, hfX, hkX, -, -, X₁, st1⟩ := Y.newCold hexec (own := own) (C := cls) (index := ik) (n := 6) hown' hk' hins hini'
    (g := F0 m pc ls rest) rfl (by rw [hb]; exact d0) (Nat.le_refl _) (Nat.le_refl _)
  generalize hT1 : (T.setVm vm₁).pushCell { cls := cX, slots := kX.instanceTypes.map defaultValue, vm := .none } = T1 at X₁ st1
  have hcat : (Value.ref T.heap.size).category = 1 := rfl
  have hcellA : T1.heap[T.heap.size]? = some (freshCell cX kX) := by rw [← hT1]; exact State.heap_pushCell_size _ _
  have d3' : decode c.code (pc + 3) = .ok (.dup, 1) := by rw [hb]; exact d3
  have d4' : decode c.code (pc + 4) = .ok (.ldc is, 2) := by rw [hb]; exact d4
  have hstr' : vk_R own is text sa s' := vk_R.warm hW0 hstr
  obtain ⟨U, hsteps, hrun, hend, hW, hsame, ce, hce, hO⟩ := X₁.ctorThrowS hexec htr (own := own) (cls := cls) (names := names) (ic := ic) hown' hcls hnames h (fun x hx => nomatch hx) hfX hkX hcellA (by rw [hhp, hT]; exact Nat.le_refl _) (msg := .ref sa) rfl
    (g := { method := m, pc := pc + 6, locals := ls, stack := .ref sa :: .ref T.heap.size :: .ref T.heap.size :: rest, locked := none }) rfl hsize rfl rfl (rest := rest) rfl
    (by rw [hb]; exact d6) (by rw [hb]; exact d9) hout hRframes (by simp only [List.map_cons, List.sum_cons, hcat]; omega) hlocks
  obtain ⟨f1, f2⟩ := vx_frame hsame
  rw [hhp] at f1 f2
  have hWs : s.WarmedH U.vm := State.WarmedH.trans hW0 hW
  have hcl : s.vm.findClass cls = some ce.cls := by
    have h9 := hO.cls
    rw [hvm] at h9
    exact h9
  have hall : s.sameButNew ({ U with vm := s.vm } : State) locs mc ms := by
    subst hA
    obtain ⟨e1, e2⟩ := hsame
    rw [State.setFrames_setFrames] at e1
    have h2 : (T.setVm s.vm).sameButNew ({ U with vm := s.vm } : State) [] (0 + 1) (0 + 6) := ⟨e1, e2⟩
    have h3 := X.same.trans h2
    rw [List.append_nil] at h3
    exact h3.mono hc hs
  refine ⟨U, ?_, .threw T.heap.size, hrun, hend, Or.inr ⟨T.heap.size, rfl, cls, ce, locs, hx U hWs.alike f1 (fun q hq => f2 q hq (fun z hz => nomatch hz)), hce, hO.vm, hcl, hWs, hall, hf⟩⟩
  refine st1 _ ?_
  show Steps p.tables e below (T1.setTop { method := m, pc := pc + 3, locals := ls, stack := .ref T.heap.size :: rest, locked := none }) _
  jvm_step X₁.here [X₁.here.top, hexec, d3', Value.category]
  exact X₁.ldcString hexec (own := own) (text := text) (index := is) (a := sa) hown' hstr'.1 hstr'.2
    (g := { method := m, pc := pc + 4, locals := ls, stack := .ref T.heap.size :: .ref T.heap.size :: rest, locked := none }) rfl d4' _ hsteps
/-- 'throw new E("text")', the text by a wide index -/
theorem vx_throwSW {cc : ByteArray} {pc : Nat} (hexec : p.tables.exec = Jvm.exec) (hb : c.code = cc) (hl : l.stackTraces = false) {own cls text : String} {names : List String} {ik is ic mc ms sa : Nat} {A : Nat → Prop}
    (hown : s.vm.findClass own = some m.cls) (hcls : Bundle.fit cls = true) (hnames : ∀ n ∈ names, Bundle.fit n = true)
    (hk : (Cond.classLink own ik cls).before args s = true) (hini : (Cond.initialized cls).before args s = true) (hstr : vk_R own is text sa s) (hat : ∀ w ∈ vx_atS own ic cls names, w.before args s = true)
    (hgood : ∀ w ∈ Cond.classLink own ik cls :: Cond.initialized cls :: vx_atS own ic cls names, vx_ot w = true)
    (hU : vx_Zq Bundle.tN "UNASSIGNED_STACK" Bundle.steD A s s.heap) (hN : vx_Zq Bundle.tN "SUPPRESSED_SENTINEL" Bundle.listD A s s.heap) (hS : va_S A s.heap H locs) (hsize : ls.size = c.maxLocals)
    (d0 : decode cc pc = .ok (.new ik, 3)) (d3 : decode cc (pc + 3) = .ok (.dup, 1)) (d4 : decode cc (pc + 4) = .ok (.ldc_w is, 3)) (d7 : decode cc (pc + 7) = .ok (.invokespecial ic, 3)) (d10 : decode cc (pc + 10) = .ok (.athrow, 1))
    (hout : ∀ x ∈ c.exceptionTable.toList, covers x (pc + 10) = false)
    (hRframes : names.length + 3 < R.frames) (hRlocals : (rest.map fun v => v.category).sum + (13 * (names.length + 1) + 43) ≤ R.locals) (hRcells : cells + 1 ≤ R.cells) (hRslots : slots + 6 ≤ R.slots) (hlocks : meth.locks = false)
    (hx : ∀ t : State, s.vm.Alike t.vm → H.size ≤ t.heap.size → (∀ q : Nat, q < H.size → t.heap[q]? = H[q]?) → XC cls s t)
    (hf : ∀ z ∈ locs, free z.base) (hc : cells + 1 ≤ mc) (hs : slots + 6 ≤ ms) :
    W p l e R s m args below meth c H locs cells slots (vx_MQ below Qc XC args s mc ms free) (F0 m pc ls rest) := by
  intro T hT X
  have htr : e.platform.stackTraces = false := (show e.platform.stackTraces = l.stackTraces by rw [X.admits.platform]).trans hl
  have Y := vx_rebase X (R' := { frames := R.frames, locals := R.locals, cells := 1, slots := 6 }) (Nat.le_refl _) (Nat.le_refl _) hRcells hRslots
  obtain ⟨s', hA⟩ : ∃ z, z = (T.setVm s.vm).setFrames (.invoking m args :: below) := ⟨_, rfl⟩
  rw [← hA] at Y
  have hvm : s'.vm = s.vm := by rw [hA]; rfl
  have hhp : s'.heap = H := by rw [hA]; exact hT
  have hW0 : s.WarmedH s'.vm := by rw [hvm]; exact State.WarmedH.refl s
  have hat' : ∀ w ∈ vx_atS own ic cls names, w.before args s' = true := fun w hw => vx_ot_at hW0 hvm.symm (hgood w (List.mem_cons_of_mem _ (List.mem_cons_of_mem _ hw))) (hat w hw)
  have hk' : (Cond.classLink own ik cls).before args s' = true := vx_ot_at hW0 hvm.symm (hgood _ List.mem_cons_self) hk
  have hini' : (Cond.initialized cls).before args s' = true := vx_ot_at hW0 hvm.symm (hgood _ (List.mem_cons_of_mem _ List.mem_cons_self)) hini
  have hU' : vx_Zq Bundle.tN "UNASSIGNED_STACK" Bundle.steD A s' s'.heap := by rw [hhp]; exact vx_Zq.moved hW0.alike (hU.kept hS.2.1)
  have hN' : vx_Zq Bundle.tN "SUPPRESSED_SENTINEL" Bundle.listD A s' s'.heap := by rw [hhp]; exact vx_Zq.moved hW0.alike (hN.kept hS.2.1)
  have h : ∀ w ∈ Bundle.ownAtoms own ic cls names, w.before args s' = true := vx_own hat' (vx_isRefq hU'.1) (vx_isRefq hN'.1) hU'.2.word hN'.2.word
  have hown' : s'.vm.findClass own = some m.cls := by rw [hvm]; exact hown
  have hins : (Cond.instantiable cls 6).before args s' = true := h _ (by simp [Bundle.ownAtoms])
  obtain ⟨vm₁, cX, kX, hfX, hkX, -, -, X₁, st1⟩ := Y.newCold hexec (own := own) (C := cls) (index := ik) (n := 6) hown' hk' hins hini'
    (g := F0 m pc ls rest) rfl (by rw [hb]; exact d0) (Nat.le_refl _) (Nat.le_refl _)
  generalize hT1 : (T.setVm vm₁).pushCell { cls := cX, slots := kX.instanceTypes.map defaultValue, vm := .none } = T1 at X₁ st1
  have hcat : (Value.ref T.heap.size).category = 1 := rfl
  have hcellA : T1.heap[T.heap.size]? = some (freshCell cX kX) := by rw [← hT1]; exact State.heap_pushCell_size _ _
  have d3' : decode c.code (pc + 3) = .ok (.dup, 1) := by rw [hb]; exact d3
  have d4' : decode c.code (pc + 4) = .ok (.ldc_w is, 3) := by rw [hb]; exact d4
  have hstr' : vk_R own is text sa s' := vk_R.warm hW0 hstr
  obtain ⟨U, hsteps, hrun, hend, hW, hsame, ce, hce, hO⟩ := X₁.ctorThrowS hexec htr (own := own) (cls := cls) (names := names) (ic := ic) hown' hcls hnames h (fun x hx => nomatch hx) hfX hkX hcellA (by rw [hhp, hT]; exact Nat.le_refl _) (msg := .ref sa) rfl
    (g := { method := m, pc := pc + 7, locals := ls, stack := .ref sa :: .ref T.heap.size :: .ref T.heap.size :: rest, locked := none }) rfl hsize rfl rfl (rest := rest) rfl
    (by rw [hb]; exact d7) (by rw [hb]; exact d10) hout hRframes (by simp only [List.map_cons, List.sum_cons, hcat]; omega) hlocks
  obtain ⟨f1, f2⟩ := vx_frame hsame
  rw [hhp] at f1 f2
  have hWs : s.WarmedH U.vm := State.WarmedH.trans hW0 hW
  have hcl : s.vm.findClass cls = some ce.cls := by
    have h9 := hO.cls
    rw [hvm] at h9
    exact h9
  have hall : s.sameButNew ({ U with vm := s.vm } : State) locs mc ms := by
    subst hA
    obtain ⟨e1, e2⟩ := hsame
    rw [State.setFrames_setFrames] at e1
    have h2 : (T.setVm s.vm).sameButNew ({ U with vm := s.vm } : State) [] (0 + 1) (0 + 6) := ⟨e1, e2⟩
    have h3 := X.same.trans h2
    rw [List.append_nil] at h3
    exact h3.mono hc hs
  refine ⟨U, ?_, .threw T.heap.size, hrun, hend, Or.inr ⟨T.heap.size, rfl, cls, ce, locs, hx U hWs.alike f1 (fun q hq => f2 q hq (fun z hz => nomatch hz)), hce, hO.vm, hcl, hWs, hall, hf⟩⟩
  refine st1 _ ?_
  show Steps p.tables e below (T1.setTop { method := m, pc := pc + 3, locals := ls, stack := .ref T.heap.size :: rest, locked := none }) _
  jvm_step X₁.here [X₁.here.top, hexec, d3', Value.category]
  exact X₁.ldcStringW hexec (own := own) (text := text) (index := is) (a := sa) hown' hstr'.1 hstr'.2
    (g := { method := m, pc := pc + 4, locals := ls, stack := .ref T.heap.size :: .ref T.heap.size :: rest, locked := none }) rfl d4' _ hsteps
end Ends
section Bodies
variable {l : Launch}
theorem vx_ofW {y : MethodName} {ws ws' : List Cond} {rm : Room} {Pc : Array Value → State → Prop} {Qc : Array Value → State → Outcome → State → Prop} {XC : String → State → State → Prop} {mc ms : Nat} {free : Addr → Prop} {cc : ByteArray} {maxL : Nat} {ret : Option FieldType}
    (hy : plainName y.cls = true) (hw : ws = Cond.code y cc maxL ret :: ws')
    (body : ∀ p e s m args below meth c s₁, BodyLoose p l y (headSpec ws rm) cc maxL ret e s m args below meth c s₁ → c.maxLocals = maxL → (∀ x ∈ c.exceptionTable.toList, False) → Pc args s →
      W p l e (headSpec ws rm).room s m args below meth c s.heap [] 0 0 (vx_MQ below Qc XC args s mc ms free) (entryFrame m args maxL)) : vx_Met l y ws rm Pc Qc XC mc ms free := by
  refine MetFree.of_bodyS (code := cc) (maxLocals := maxL) (ret := ret) hy ?_ ?_
  · intro args s m h hn
    obtain ⟨meth, c, h1, h2, h3, h4, h5, h6, -, -⟩ := Cond.code_spec hn (atoms_spec (ws := ws) h _ (by rw [hw]; exact List.mem_cons_self))
    exact ⟨meth, c, h1, h2, h3, h4, h5, h6⟩
  · intro p e s m args below meth c s₁ B hml hP _
    have hh0 : s₁.heap = s.heap := by rw [B.state]; rfl
    have ht : ∀ x ∈ c.exceptionTable.toList, False := by
      obtain ⟨meth9, c9, h1, h2, -, -, -, -, h7, -⟩ := Cond.code_spec B.named (atoms_spec (ws := ws) B.pre _ (by rw [hw]; exact List.mem_cons_self))
      cases Option.some.inj (h1.symm.trans B.method)
      cases Option.some.inj (h2.symm.trans (Stand.of_body B).code)
      intro x hx
      rw [Array.isEmpty_iff.mp h7] at hx
      cases hx
    obtain ⟨t, a1, o, b1, b2, b3⟩ := body p e s m args below meth c s₁ B hml ht hP s₁ hh0 (Stand.of_body B)
    exact ⟨t, o, a1, b1, b2, b3⟩
/-- the table of a body with handlers -/
theorem vx_table {p : Program} {x y : MethodName} {S : Spec} {cc bytes : ByteArray} {maxL maxL' : Nat} {ret ret' : Option FieldType} {e : Env} {s s₁ : State} {m : MethodId} {args : Array Value} {below : List Frame} {meth : Method} {c : Code} {hh : List (Nat × Nat × Nat × Nat)}
    (B : BodyLoose p l y S cc maxL ret e s m args below meth c s₁) (h : (Cond.codeWith y bytes maxL' ret' hh).before args s = true) : c.exceptionTable.toList = tableOf hh := by
  obtain ⟨m9, meth9, c9, hn9, h1, h2, -, -, h6, -⟩ := Cond.codeWith_spec h
  cases Option.some.inj (hn9.symm.trans B.named)
  cases Option.some.inj (h1.symm.trans B.method)
  cases Option.some.inj (h2.symm.trans (Stand.of_body B).code)
  rw [← h6, table_eq]
end Bodies
end VXA
/-! ===== END ===== -/
/-! ===== BEGIN a static call of a method with an exception table ===== -/
section VXS
variable {p : Program} {l : Launch} {e : Env} {R : Room} {s : State} {m : MethodId} {args : Array Value} {below : List Frame} {meth : Method} {c : Code} {T : State} {H : Heap} {locs : List Loc} {cells slots : Nat}
abbrev vx_CSW (R : Room) (s : State) (args : Array Value) (own : String) (index : Nat) (y : MethodName) (bytes : ByteArray) (maxL : Nat) (ret : Option FieldType) (hh : List (Nat × Nat × Nat × Nat)) (ws : List Cond) (rm : Room) (mc ms n : Nat) : Prop :=
  (rm.cells = mc ∧ rm.slots = ms ∧ rm.frames + 1 ≤ R.frames ∧ 8 + (maxL + 11) + rm.locals ≤ R.locals ∧ (∀ w ∈ ws, ∀ (a' : Array Value) (U : State), s.WarmedH U.vm → w.before a' U = true) ∧ Cond.codeWith y bytes maxL ret hh ∈ ws) ∧
  (Cond.codeWith y bytes maxL ret hh).before args s = true ∧ (Cond.initialized y.cls).before args s = true ∧ (y.cls ≠ "java/lang/invoke/MethodHandle" ∧ y.cls ≠ "java/lang/invoke/VarHandle") ∧
  (∀ sig, parseMethodDescriptor y.desc = some sig → n = sig.parameters.length) ∧ (Cond.methodLink own index y).before args s = true ∧ (Cond.static y).before args s = true
theorem vx_cwSW {own : String} {index maxL mc ms : Nat} {y : MethodName} {bytes : ByteArray} {ret : Option FieldType} {hh : List (Nat × Nat × Nat × Nat)} {Ts ws ws' : List Cond} {rm : Room} (n : Nat) (ht : ∀ w ∈ Ts, w.before args s = true) (hT : GoodIn Ts (va_wsS own index y ws)) (hw : ws = Cond.codeWith y bytes maxL ret hh :: ws') (hrc : rm.cells = mc) (hrs : rm.slots = ms)
    (hd : y.cls ≠ "java/lang/invoke/MethodHandle" ∧ y.cls ≠ "java/lang/invoke/VarHandle" ∧ (parseMethodDescriptor y.desc).map (fun d => d.parameters.length) = some n) (hR : rm.frames + 1 ≤ R.frames ∧ 8 + (maxL + 11) + rm.locals ≤ R.locals) :
    vx_CSW R s args own index y bytes maxL ret hh ws rm mc ms n := by
  have ok : ∀ w ∈ va_wsS own index y ws, w.before args s = true := fun w h => ht w (hT w h).1
  have hG : GoodIn Ts ws := fun w h => hT w (by unfold va_wsS; exact List.mem_append_right _ h)
  have hc : Cond.codeWith y bytes maxL ret hh ∈ ws := by rw [hw]; exact List.mem_cons_self
  refine ⟨⟨hrc, hrs, hR.1, hR.2, pay_in ht hG, hc⟩, ht _ (hG _ hc).1, ok _ (by simp [va_wsS]), ⟨hd.1, hd.2.1⟩, fun sig h => ?_, ok _ (by simp [va_wsS]), ok _ (by simp [va_wsS])⟩
  have h2 := hd.2.2
  rw [h] at h2
  exact (Option.some.inj h2).symm
theorem vx_callSW (X : Stand p l e R s m args below meth c T locs cells slots) (hexec : p.tables.exec = Jvm.exec) {own : String} {index : Nat} {y : MethodName} {bytes : ByteArray} {maxL : Nat} {ret : Option FieldType} {hh : List (Nat × Nat × Nat × Nat)}
    (hown : s.vm.findClass own = some m.cls) (hlink : (Cond.methodLink own index y).before args s = true) (hstat : (Cond.static y).before args s = true) (hinit : (Cond.initialized y.cls).before args s = true)
    (hcode : (Cond.codeWith y bytes maxL ret hh).before args s = true) (hy : y.cls ≠ "java/lang/invoke/MethodHandle" ∧ y.cls ≠ "java/lang/invoke/VarHandle")
    {W9 : Nat} {Pre : Pt → Array Value → Prop} {Post : Pt → Array Value → Option Value → Pt → Prop} (hK : Back l R p e below s args y 3 W9 Pre Post)
    {g : JFrame} (hg : g.method = m) (hsize : g.locals.size = c.maxLocals) {argsL rest : List Value} (hlen : ∀ sig, parseMethodDescriptor y.desc = some sig → argsL.length = sig.parameters.length)
    (hstack : g.stack = argsL.reverse ++ rest) (hW : 2 * g.monitorRoom + (rest.map fun v => v.category).sum ≤ W9) (hdg : decode c.code g.pc = .ok (.invokestatic index, 3))
    (hpre : ∀ vm₁, s.WarmedH vm₁ → Pre ⟨T.setVm vm₁, locs, cells, slots⟩ argsL.toArray) :
    ∃ (v : Option Value) (vm₁ : Vm) (B : Pt), s.WarmedH vm₁ ∧ Stand p l e R s m args below meth c B.U B.locs B.cells B.slots ∧ Post ⟨T.setVm vm₁, locs, cells, slots⟩ argsL.toArray v B ∧
      ∀ target, Steps p.tables e below (B.U.setTop { g with pc := g.pc + 3, stack := v.toList ++ rest }) target → Steps p.tables e below (T.setTop g) target := by
  obtain ⟨mk, methM, cM, hnamed, hmethM, -, -, -, -, -, -, hsigM⟩ := Cond.codeWith_spec hcode
  have hstatic : methM.isStatic = true := Cond.static_spec hnamed hmethM hstat
  obtain ⟨kP, hkP, -⟩ := className_of_methodNamed hnamed
  have hinitP : kP.init = .initialized := Cond.initialized_spec (findClass_of_methodNamed hnamed) hkP hinit
  obtain ⟨vm₁, X₁, hstep₁⟩ := X.invokestatic hexec hown hlink hnamed hmethM hstatic hkP hinitP hy (g := g) hg (argsL := argsL) (rest := rest) (hlen _ hsigM) hstack hdg
  obtain ⟨v, B, X', hpost, hsteps⟩ := hK m meth c ⟨T.setVm vm₁, locs, cells, slots⟩ { g with stack := rest } (.invokestatic index) mk argsL.toArray X₁ hg hsize hdg hW (X₁.named hnamed) (hpre vm₁ X₁.warmed)
  exact ⟨v, vm₁, B, X₁.warmed, X', hpost, fun target h => hstep₁ _ fun acts => by rw [doInvoke_state]; exact hsteps.trans h⟩
theorem vx_runSW {y : MethodName} {bytes cc : ByteArray} {maxL nL mc ms n index : Nat} {ret : Option FieldType} {hh : List (Nat × Nat × Nat × Nat)} {ws : List Cond} {rm : Room} {Pc : Array Value → State → Prop} {Qc : Array Value → State → Outcome → State → Prop} {free : Addr → Prop} {Ts : List Cond} {own : String} {As rest : List Value} {g : JFrame}
    (S : CallFix p m c cc nL s args Ts own) (hM : Met l y ws rm Pc Qc mc ms free) (cw : vx_CSW R s args own index y bytes maxL ret hh ws rm mc ms n) (hp : PreS s H Pc As)
    (hg : g.method = m) (hn : As.length = n) (hsize : g.locals.size = nL) (hstack : g.stack = As.reverse ++ rest) (hW : 2 * g.monitorRoom + (rest.map fun v => v.category).sum ≤ 8) (hdg : decode cc g.pc = .ok (.invokestatic index, 3)) (hf : cells + mc ≤ R.cells ∧ slots + ms ≤ R.slots) :
    va_Run p l e R s m args below meth c H locs cells slots mc ms g rest (Qc As.toArray) (free) := by
  obtain ⟨⟨hrc, hrs, hfr, hlo, hws, hcw⟩, hcode, hini, hy, hlen, hl, hstt⟩ := cw
  have hK : Back l R p e below s args y 3 8 (PreOf R mc ms Pc) (PostOf Qc mc ms free) := va_backW (hh := hh) (bytes := bytes) (maxL := maxL) (ret := ret) hM hp.1 hrc hrs hfr hlo hws hcw (fun a' U hW => word_at hW (Or.inl (by first | rfl | simp [Cond.onTables, Cond.keeps, Cond.steady])) hini)
  obtain ⟨hx, hb, hml, ho, -⟩ := S
  intro T hT X
  obtain ⟨v, vm₁, ⟨U', l2, c2, s2⟩, hW₁, X', ⟨g', mk, t, L, e1, e2, hq, h1, hL, h2, h3⟩, st⟩ := vx_callSW X hx (hh := hh) (bytes := bytes) (maxL := maxL) (ret := ret) ho hl hstt hini hcode hy hK hg (hsize.trans hml.symm) (argsL := As) (rest := rest) (fun sig h => hn.trans (hlen sig h)) hstack hW (by rw [hb]; exact hdg)
    (fun vm₁ hW₁ => ⟨hf.1, hf.2, hp.2 (T.setVm vm₁) hT hW₁⟩)
  dsimp only [Pt.U, Pt.locs, Pt.cells, Pt.slots] at X' e1 e2 h1 h2 h3 st
  subst h1; subst h2; subst h3
  exact ⟨v, (T.setVm vm₁).calling g' mk As.toArray, t, U', L, hT, X', hL, e1, e2, hq, st⟩
/-- not caught here, past rows that name other classes: it goes on to the caller -/
theorem vx_outP {p : Program} {l : Launch} {e : Env} {R : Room} {s : State} {m : MethodId} {args : Array Value} {below : List Frame} {meth : Method} {c : Code} {H : Heap} {locs : List Loc} {cells slots : Nat} {free : Addr → Prop} {ls : Array Slot} {rest : List Value} {Qc : Array Value → State → Outcome → State → Prop} {XC : String → State → State → Prop}
    {pc : Nat} {own E : String} {ce : Cell} {q : Addr} {mc ms : Nat} (hown : s.vm.findClass own = some m.cls) (hlocks : meth.locks = false)
    (hpass : ∀ z ∈ c.exceptionTable.toList, covers z pc = false ∨ (z.catchType ≠ 0 ∧ ∃ nm : String, (Cond.classLink own z.catchType nm).before args s = true ∧ va_Nc E nm s)) (hcell : H[q]? = some ce) (hv : ce.vm = .none) (hcl : s.vm.findClass E = some ce.cls)
    (hx : ∀ t : State, t.heap = H → s.vm.Alike t.vm → XC E s t) (hf : ∀ z ∈ locs, free z.base) (hc : cells ≤ mc) (hs : slots ≤ ms) :
    vx_W p l e R s m args below meth c H locs cells slots (vx_MQ below Qc XC args s mc ms free) (F0 m pc ls rest) q := by
  intro T hT X
  have hpl : e.platform.magicAccessors = ({} : Platform).magicAccessors := by rw [X.admits.platform]
  obtain ⟨vm', hW', X', st⟩ := X.outThrough hlocks q (g := F0 m pc ls rest) rfl rfl rfl (cell := ce) (by rw [hT]; exact hcell) (by rw [hv]; rfl)
    (by obtain ⟨k9, h9, -⟩ := Vm.findClass_spec hcl; exact ⟨k9, h9⟩) (fun z hz => by
      rcases hpass z hz with h | ⟨hz0, nm, hl1, hn1⟩
      · exact Or.inl h
      · obtain ⟨c6, hc6, hcl6⟩ := Cond.classLink_spec hown hl1 e.platform hpl
        obtain ⟨a8, b8, h1, h2, h3⟩ := hn1
        cases Option.some.inj (h1.symm.trans hcl)
        cases Option.some.inj (h2.symm.trans hc6)
        exact Or.inr ⟨hz0, _, hcl6, h3⟩)
  obtain ⟨g₀, hfr⟩ := X'.frames_eq
  have hcell9 : ((T.setVm vm').setFrames (.throwing q :: below)).heap[q]? = some ce := by
    show T.heap[q]? = some ce
    rw [hT]; exact hcell
  have hend : Ended ((T.setVm vm').setFrames (.throwing q :: below)) below (.threw q) := State.frames_setFrames _ (State.cur_lt_of_frames hfr)
  refine ⟨(T.setVm vm').setFrames (.throwing q :: below), ?_, .threw q, X'.here.running, hend, Or.inr ⟨q, rfl, E, ce, locs, hx _ hT (X'.ends _).1.alike, hcell9, hv, hcl, (X'.ends _).1, (X'.ends _).2.mono hc hs, hf⟩⟩
  rw [X.pushThrowing_eq]
  exact st
/-- a thing of a world lies in the heap -/
theorem vx_lt {D : va_G} {cl : List vw_C} {ws : va_W} {H1 : Heap} (h : va_P D cl ws H1) {k : Nat} {q : Nat × va_E} (hk : ws[k]? = some q) : q.1 < H1.size := (h k q hk).lt
end VXS
/-! ===== END ===== -/
/-! ===== BEGIN methods with a table of their own: called by a name, returning or throwing ===== -/
section VXH
/-! vx_backW, vx_callVX, vx_callSX, vx_callVW, vx_runVW, vx_runVX, vx_runSX, vx_ofWH follow the same proofs as their sisters above (Free/Laws.lean, Shelf42/LK1.lean); vx_outP calls Shelf42/NT130.lean (outThrough). -/
section
variable {l : Launch} {R : Room} {p : Program} {e : Env} {below : List Frame} {s : State} {sargs : Array Value} {y : MethodName} {len W9 : Nat}
theorem vx_backW {ws : List Cond} {rm : Room} {Pc : Array Value → State → Prop} {Qc : Array Value → State → Outcome → State → Prop} {XC : String → State → State → Prop} {mc ms : Nat} {free : Addr → Prop} {bytes : ByteArray} {maxL : Nat} {ret : Option FieldType} {hh : List (Nat × Nat × Nat × Nat)}
    (hM : vx_Met l y ws rm Pc Qc XC mc ms free) (hblind : FrameBlind Pc) (hrc : rm.cells = mc) (hrs : rm.slots = ms)
    (hframes : rm.frames + 1 ≤ R.frames) (hlocals : W9 + (maxL + 11) + rm.locals ≤ R.locals)
    (hws : ∀ w ∈ ws, ∀ a' U, s.WarmedH U.vm → w.before a' U = true) (hcode : Cond.codeWith y bytes maxL ret hh ∈ ws) (hinit : ∀ a' U, s.WarmedH U.vm → (Cond.initialized y.cls).before a' U = true) :
    vx_Back l R p e below s sargs y len W9 (PreOf R mc ms Pc) (PostOf Qc mc ms free) (vx_Post XC mc ms free) := by
  intro m meth c A g ig mk a X hg hsize hdg hW hn hp
  have h1 : (headSpec ws rm).pre.before a A.U = true := atoms_intro fun w hw => hws w hw _ _ X.warmed
  have h2 : (Cond.codeWith y bytes maxL ret hh).before a A.U = true := hws _ hcode _ _ X.warmed
  have h3 : (Cond.initialized y.cls).before a A.U = true := hinit _ _ X.warmed
  have h4 : A.cells + (headSpec ws rm).room.cells ≤ R.cells := by rw [show (headSpec ws rm).room.cells = mc from hrc]; exact hp.1
  have h5 : A.slots + (headSpec ws rm).room.slots ≤ R.slots := by rw [show (headSpec ws rm).room.slots = ms from hrs]; exact hp.2.1
  have hPc : Pc a (A.U.calling g mk a) := hblind _ _ _ _ hp.2.2
  obtain ⟨U, Ls, c0, s0⟩ := A
  dsimp only [Pt.U, Pt.locs, Pt.cells, Pt.slots] at h1 h2 h3 h4 h5 X hn hPc ⊢
  obtain ⟨m9, methY, cY, hn9, hmY, hcY, -, hlY, -⟩ := Cond.codeWith_spec h2
  cases Option.some.inj (hn9.symm.trans hn)
  obtain ⟨kY, hkY, -⟩ := className_of_methodNamed hn
  have hinitY : kY.init = .initialized := Cond.initialized_spec (findClass_of_methodNamed hn) hkY h3
  have h : At U g.method c below := by rw [hg]; exact X.here
  have hlocals9 : W9 + (maxL + 11) + (headSpec ws rm).room.locals ≤ R.locals := hlocals
  have happ : (headSpec ws rm).appliesLoose y e.platform (U.calling g mk a) = true :=
    Spec.appliesLoose_calling (g := g) h hdg hn hkY hinitY
      (X.room_calling (g := g) (R' := (headSpec ws rm).room) hsize hmY hcY hframes (by rw [hlY]; omega) h4 h5) h1
  obtain ⟨mid, hmid⟩ := h.above
  have hfr : (U.setTop g).frames = (.java g :: mid) ++ below := by rw [State.frames_setTop' g h.top, hmid]; rfl
  obtain ⟨o, s₂, hsteps, -, hend, hq⟩ := Steps.callFree hM p X.admits X.cas X.clock (acts := []) hfr happ hPc trivial
  have hq' : vx_Q Qc XC mc ms free a (U.calling g mk a) o s₂ := hq
  rw [State.frames_setTop' g h.top] at hend
  obtain ⟨g₀, hg0⟩ := Option.isSome_iff_exists.mp h.top
  obtain ⟨r, hr⟩ := State.topJava?_eq_some.mp hg0
  have hr' : (({ U with heap := s₂.heap, slotsUsed := s₂.slotsUsed } : State).setVm s₂.vm).frames = .java g₀ :: r := hr
  rcases hq' with ⟨hqc, L, hfe, hL⟩ | ⟨q, rfl, E, ce, L, hx, hce, hcv, hcl, hW₂, hsm, hL⟩
  · obtain ⟨⟨v, rfl⟩, hW₂, e2, q2, q3, q4, q5, q6⟩ := id hfe
    have e3 : s₂ = ({ (U.calling g mk a).setFrames s₂.frames with heap := s₂.heap, slotsUsed := s₂.slotsUsed } : State).setVm s₂.vm := by
      have : s₂ = ({ s₂ with vm := (U.calling g mk a).vm } : State).setVm s₂.vm := rfl
      rw [e2] at this
      exact this
    obtain ⟨c₂, i₂, len₂, hc₂, hd₂, hf₂⟩ := hend
    have hW' : U.WarmedH s₂.vm := hW₂
    have hcc : c₂ = c := by
      have h1 : s₂.code? g.method = U.code? g.method := by
        rw [State.code?_eq, State.code?_eq, hW'.alike.method?]
      exact Option.some.inj (hc₂.symm.trans (h1.trans h.code))
    subst hcc
    have hlen : len₂ = len := by rw [hdg] at hd₂; cases hd₂; rfl
    subst hlen
    have hs₂ : s₂ = (({ U with heap := s₂.heap, slotsUsed := s₂.slotsUsed } : State).setVm s₂.vm).setTop { g with pc := g.pc + len₂, stack := v.toList ++ g.stack } := by
      refine e3.trans ?_
      rw [hf₂, State.calling_eq h.top, State.setFrames_setFrames, State.setTop_of_frames _ hr', hr]
      rfl
    have hsame : U.sameButNew ({ U with heap := s₂.heap, slotsUsed := s₂.slotsUsed } : State) L mc ms := by
      refine ⟨?_, q2, q3, q4, q5, q6⟩
      obtain ⟨t, ht, -⟩ := State.frames_cons hr
      show ({ U with heap := s₂.heap, slotsUsed := s₂.slotsUsed } : State) = { U.setFrames U.frames with heap := s₂.heap, slotsUsed := s₂.slotsUsed }
      rw [State.setFrames_self ht]
    subst hg
    refine Or.inl ⟨v, ⟨(({ U with heap := s₂.heap, slotsUsed := s₂.slotsUsed } : State).setVm s₂.vm), Ls ++ L, c0 + mc, s0 + ms⟩,
      ⟨X.admits, X.cas, X.clock, X.frames, X.room, X.hears, X.method, X.code, (X.here.setHeapUsed s₂.heap s₂.slotsUsed).setVm hW'.alike, X.tail, State.WarmedH.trans X.warmed hW', X.limits, X.bytes, X.same.trans (hsame.setVm s.vm)⟩,
      ⟨g, mk, s₂, L, rfl, rfl, hqc, rfl, hL, rfl, rfl⟩, ?_⟩
    show Steps p.tables e below _ ((({ U with heap := s₂.heap, slotsUsed := s₂.slotsUsed } : State).setVm s₂.vm).setTop { g with pc := g.pc + len₂, stack := v.toList ++ g.stack })
    rw [← hs₂]
    exact hsteps
  · obtain ⟨e2, q2, q3, q4, q5, q6⟩ := id hsm
    have e3 : s₂ = ({ (U.calling g mk a).setFrames s₂.frames with heap := s₂.heap, slotsUsed := s₂.slotsUsed } : State).setVm s₂.vm := by
      have : s₂ = ({ s₂ with vm := (U.calling g mk a).vm } : State).setVm s₂.vm := rfl
      rw [e2] at this
      exact this
    have hf₂ : s₂.frames = .throwing q :: .java g :: U.frames.tail := hend
    have hW' : U.WarmedH s₂.vm := hW₂
    have hs₂ : s₂ = ((({ U with heap := s₂.heap, slotsUsed := s₂.slotsUsed } : State).setVm s₂.vm).setTop g).pushFrame (.throwing q) := by
      refine e3.trans ?_
      rw [hf₂, State.calling_eq h.top, State.setFrames_setFrames, State.pushFrame, State.frames_setTop _ hr', State.setTop_of_frames _ hr', State.setFrames_setFrames, hr]
      rfl
    have hsame : U.sameButNew ({ U with heap := s₂.heap, slotsUsed := s₂.slotsUsed } : State) L mc ms := by
      refine ⟨?_, q2, q3, q4, q5, q6⟩
      obtain ⟨t, ht, -⟩ := State.frames_cons hr
      show ({ U with heap := s₂.heap, slotsUsed := s₂.slotsUsed } : State) = { U.setFrames U.frames with heap := s₂.heap, slotsUsed := s₂.slotsUsed }
      rw [State.setFrames_self ht]
    subst hg
    refine Or.inr ⟨q, ⟨(({ U with heap := s₂.heap, slotsUsed := s₂.slotsUsed } : State).setVm s₂.vm), Ls ++ L, c0 + mc, s0 + ms⟩,
      ⟨X.admits, X.cas, X.clock, X.frames, X.room, X.hears, X.method, X.code, (X.here.setHeapUsed s₂.heap s₂.slotsUsed).setVm hW'.alike, X.tail, State.WarmedH.trans X.warmed hW', X.limits, X.bytes, X.same.trans (hsame.setVm s.vm)⟩,
      ⟨g, mk, s₂, L, E, ce, rfl, rfl, hx, hce, hcv, hcl, rfl, hL, rfl, rfl⟩, ?_⟩
    show Steps p.tables e below _ (((({ U with heap := s₂.heap, slotsUsed := s₂.slotsUsed } : State).setVm s₂.vm).setTop g).pushFrame (.throwing q))
    rw [← hs₂]
    exact hsteps
end
variable {p : Program} {l : Launch} {e : Env} {R : Room} {s : State} {m : MethodId} {args : Array Value} {below : List Frame} {meth : Method} {c : Code} {T : State} {H : Heap} {locs : List Loc} {cells slots : Nat}
theorem vx_callVX (X : Stand p l e R s m args below meth c T locs cells slots) (hexec : p.tables.exec = Jvm.exec) {own C : String} {index : Nat} {y : MethodName} {bytes : ByteArray} {maxL : Nat} {ret : Option FieldType} {hh : List (Nat × Nat × Nat × Nat)}
    (hown : s.vm.findClass own = some m.cls) (hlink : (Cond.methodLink own index y).before args s = true) (hinst : (Cond.instanceMethod y).before args s = true) (hsel : (Cond.selects C y y).before args s = true)
    (hcode : (Cond.codeWith y bytes maxL ret hh).before args s = true) (hy : y.cls ≠ "java/lang/invoke/MethodHandle" ∧ y.cls ≠ "java/lang/invoke/VarHandle")
    {W9 : Nat} {Pre : Pt → Array Value → Prop} {Post : Pt → Array Value → Option Value → Pt → Prop} {PostX : Pt → Array Value → Addr → Pt → Prop} (hK : vx_Back l R p e below s args y 3 W9 Pre Post PostX)
    {b : Addr} {cellB : Cell} (hcell : T.heap[b]? = some cellB) (hobj : cellB.vm.isStatics = false) (hcls : s.vm.findClass C = some cellB.cls)
    {g : JFrame} (hg : g.method = m) (hsize : g.locals.size = c.maxLocals) {argsL rest : List Value} (hlen : ∀ sig, parseMethodDescriptor y.desc = some sig → argsL.length = sig.parameters.length)
    (hstack : g.stack = argsL.reverse ++ .ref b :: rest) (hW : 2 * g.monitorRoom + (rest.map fun v => v.category).sum ≤ W9) (hdg : decode c.code g.pc = .ok (.invokevirtual index, 3))
    (hpre : ∀ vm₁, s.WarmedH vm₁ → Pre ⟨T.setVm vm₁, locs, cells, slots⟩ (Value.ref b :: argsL).toArray) :
    (∃ (v : Option Value) (vm₁ : Vm) (B : Pt), s.WarmedH vm₁ ∧ Stand p l e R s m args below meth c B.U B.locs B.cells B.slots ∧ Post ⟨T.setVm vm₁, locs, cells, slots⟩ (Value.ref b :: argsL).toArray v B ∧
      ∀ target, Steps p.tables e below (B.U.setTop { g with pc := g.pc + 3, stack := v.toList ++ rest }) target → Steps p.tables e below (T.setTop g) target) ∨
    (∃ (q : Addr) (vm₁ : Vm) (B : Pt), s.WarmedH vm₁ ∧ Stand p l e R s m args below meth c B.U B.locs B.cells B.slots ∧ PostX ⟨T.setVm vm₁, locs, cells, slots⟩ (Value.ref b :: argsL).toArray q B ∧
      Steps p.tables e below (T.setTop g) ((B.U.setTop { g with stack := rest }).pushFrame (.throwing q))) := by
  obtain ⟨mk, methM, hnamed, hmethM, hstM, habM⟩ := Cond.instanceMethod_spec hinst
  obtain ⟨m8, methM', cM, hn8, hmethM', -, -, -, -, -, -, hsigM⟩ := Cond.codeWith_spec hcode
  cases Option.some.inj (hn8.symm.trans hnamed)
  cases hmethM.symm.trans hmethM'
  obtain ⟨c2, r2, m2, q1, q2, q3, q4, kP, hkP, hkPi⟩ := Cond.selects_spec hsel
  cases hcls.symm.trans q1
  cases (State.methodFound?_of_named hnamed hy).symm.trans q2
  cases hnamed.symm.trans q3
  have hselP : selectMethod e.platform s.vm cellB.cls mk = .method mk := by rw [Launch.admits_selectMethod X.admits]; exact q4
  obtain ⟨vm₁, X₁, hstep₁⟩ := X.invokevirtual hexec hown hlink hnamed hmethM hstM hkP hkPi hy (a := b) (cell := cellB) hcell
    (fun z h => by rw [h] at hobj; cases hobj) hselP hmethM habM hkP hkPi (g := g) hg (argsL := argsL) (rest := rest) (hlen _ hsigM) hstack hdg
  rcases hK m meth c ⟨T.setVm vm₁, locs, cells, slots⟩ { g with stack := rest } (.invokevirtual index) mk (Value.ref b :: argsL).toArray X₁ hg hsize hdg hW (X₁.named hnamed) (hpre vm₁ X₁.warmed) with ⟨v, B, X', hpost, hsteps⟩ | ⟨q, B, X', hpost, hsteps⟩
  · exact Or.inl ⟨v, vm₁, B, X₁.warmed, X', hpost, fun target h => hstep₁ _ fun acts => by rw [doInvoke_state]; exact hsteps.trans h⟩
  · exact Or.inr ⟨q, vm₁, B, X₁.warmed, X', hpost, hstep₁ _ fun acts => by rw [doInvoke_state]; exact hsteps⟩
theorem vx_callSX (X : Stand p l e R s m args below meth c T locs cells slots) (hexec : p.tables.exec = Jvm.exec) {own : String} {index : Nat} {y : MethodName} {bytes : ByteArray} {maxL : Nat} {ret : Option FieldType} {hh : List (Nat × Nat × Nat × Nat)}
    (hown : s.vm.findClass own = some m.cls) (hlink : (Cond.methodLink own index y).before args s = true) (hstat : (Cond.static y).before args s = true) (hinit : (Cond.initialized y.cls).before args s = true)
    (hcode : (Cond.codeWith y bytes maxL ret hh).before args s = true) (hy : y.cls ≠ "java/lang/invoke/MethodHandle" ∧ y.cls ≠ "java/lang/invoke/VarHandle")
    {W9 : Nat} {Pre : Pt → Array Value → Prop} {Post : Pt → Array Value → Option Value → Pt → Prop} {PostX : Pt → Array Value → Addr → Pt → Prop} (hK : vx_Back l R p e below s args y 3 W9 Pre Post PostX)
    {g : JFrame} (hg : g.method = m) (hsize : g.locals.size = c.maxLocals) {argsL rest : List Value} (hlen : ∀ sig, parseMethodDescriptor y.desc = some sig → argsL.length = sig.parameters.length)
    (hstack : g.stack = argsL.reverse ++ rest) (hW : 2 * g.monitorRoom + (rest.map fun v => v.category).sum ≤ W9) (hdg : decode c.code g.pc = .ok (.invokestatic index, 3))
    (hpre : ∀ vm₁, s.WarmedH vm₁ → Pre ⟨T.setVm vm₁, locs, cells, slots⟩ argsL.toArray) :
    (∃ (v : Option Value) (vm₁ : Vm) (B : Pt), s.WarmedH vm₁ ∧ Stand p l e R s m args below meth c B.U B.locs B.cells B.slots ∧ Post ⟨T.setVm vm₁, locs, cells, slots⟩ argsL.toArray v B ∧
      ∀ target, Steps p.tables e below (B.U.setTop { g with pc := g.pc + 3, stack := v.toList ++ rest }) target → Steps p.tables e below (T.setTop g) target) ∨
    (∃ (q : Addr) (vm₁ : Vm) (B : Pt), s.WarmedH vm₁ ∧ Stand p l e R s m args below meth c B.U B.locs B.cells B.slots ∧ PostX ⟨T.setVm vm₁, locs, cells, slots⟩ argsL.toArray q B ∧
      Steps p.tables e below (T.setTop g) ((B.U.setTop { g with stack := rest }).pushFrame (.throwing q))) := by
  obtain ⟨mk, methM, cM, hnamed, hmethM, -, -, -, -, -, -, hsigM⟩ := Cond.codeWith_spec hcode
  have hstatic : methM.isStatic = true := Cond.static_spec hnamed hmethM hstat
  obtain ⟨kP, hkP, -⟩ := className_of_methodNamed hnamed
  have hinitP : kP.init = .initialized := Cond.initialized_spec (findClass_of_methodNamed hnamed) hkP hinit
  obtain ⟨vm₁, X₁, hstep₁⟩ := X.invokestatic hexec hown hlink hnamed hmethM hstatic hkP hinitP hy (g := g) hg (argsL := argsL) (rest := rest) (hlen _ hsigM) hstack hdg
  rcases hK m meth c ⟨T.setVm vm₁, locs, cells, slots⟩ { g with stack := rest } (.invokestatic index) mk argsL.toArray X₁ hg hsize hdg hW (X₁.named hnamed) (hpre vm₁ X₁.warmed) with ⟨v, B, X', hpost, hsteps⟩ | ⟨q, B, X', hpost, hsteps⟩
  · exact Or.inl ⟨v, vm₁, B, X₁.warmed, X', hpost, fun target h => hstep₁ _ fun acts => by rw [doInvoke_state]; exact hsteps.trans h⟩
  · exact Or.inr ⟨q, vm₁, B, X₁.warmed, X', hpost, hstep₁ _ fun acts => by rw [doInvoke_state]; exact hsteps⟩
theorem vx_callVW (X : Stand p l e R s m args below meth c T locs cells slots) (hexec : p.tables.exec = Jvm.exec) {own C : String} {index : Nat} {y : MethodName} {bytes : ByteArray} {maxL : Nat} {ret : Option FieldType} {hh : List (Nat × Nat × Nat × Nat)}
    (hown : s.vm.findClass own = some m.cls) (hlink : (Cond.methodLink own index y).before args s = true) (hinst : (Cond.instanceMethod y).before args s = true) (hsel : (Cond.selects C y y).before args s = true)
    (hcode : (Cond.codeWith y bytes maxL ret hh).before args s = true) (hy : y.cls ≠ "java/lang/invoke/MethodHandle" ∧ y.cls ≠ "java/lang/invoke/VarHandle")
    {W9 : Nat} {Pre : Pt → Array Value → Prop} {Post : Pt → Array Value → Option Value → Pt → Prop} (hK : Back l R p e below s args y 3 W9 Pre Post)
    {b : Addr} {cellB : Cell} (hcell : T.heap[b]? = some cellB) (hobj : cellB.vm.isStatics = false) (hcls : s.vm.findClass C = some cellB.cls)
    {g : JFrame} (hg : g.method = m) (hsize : g.locals.size = c.maxLocals) {argsL rest : List Value} (hlen : ∀ sig, parseMethodDescriptor y.desc = some sig → argsL.length = sig.parameters.length)
    (hstack : g.stack = argsL.reverse ++ .ref b :: rest) (hW : 2 * g.monitorRoom + (rest.map fun v => v.category).sum ≤ W9) (hdg : decode c.code g.pc = .ok (.invokevirtual index, 3))
    (hpre : ∀ vm₁, s.WarmedH vm₁ → Pre ⟨T.setVm vm₁, locs, cells, slots⟩ (Value.ref b :: argsL).toArray) :
    ∃ (v : Option Value) (vm₁ : Vm) (B : Pt), s.WarmedH vm₁ ∧ Stand p l e R s m args below meth c B.U B.locs B.cells B.slots ∧ Post ⟨T.setVm vm₁, locs, cells, slots⟩ (Value.ref b :: argsL).toArray v B ∧
      ∀ target, Steps p.tables e below (B.U.setTop { g with pc := g.pc + 3, stack := v.toList ++ rest }) target → Steps p.tables e below (T.setTop g) target := by
  obtain ⟨mk, methM, hnamed, hmethM, hstM, habM⟩ := Cond.instanceMethod_spec hinst
  obtain ⟨m8, methM', cM, hn8, hmethM', -, -, -, -, -, -, hsigM⟩ := Cond.codeWith_spec hcode
  cases Option.some.inj (hn8.symm.trans hnamed)
  cases hmethM.symm.trans hmethM'
  obtain ⟨c2, r2, m2, q1, q2, q3, q4, kP, hkP, hkPi⟩ := Cond.selects_spec hsel
  cases hcls.symm.trans q1
  cases (State.methodFound?_of_named hnamed hy).symm.trans q2
  cases hnamed.symm.trans q3
  have hselP : selectMethod e.platform s.vm cellB.cls mk = .method mk := by rw [Launch.admits_selectMethod X.admits]; exact q4
  obtain ⟨vm₁, X₁, hstep₁⟩ := X.invokevirtual hexec hown hlink hnamed hmethM hstM hkP hkPi hy (a := b) (cell := cellB) hcell
    (fun z h => by rw [h] at hobj; cases hobj) hselP hmethM habM hkP hkPi (g := g) hg (argsL := argsL) (rest := rest) (hlen _ hsigM) hstack hdg
  obtain ⟨v, B, X', hpost, hsteps⟩ := hK m meth c ⟨T.setVm vm₁, locs, cells, slots⟩ { g with stack := rest } (.invokevirtual index) mk (Value.ref b :: argsL).toArray X₁ hg hsize hdg hW (X₁.named hnamed) (hpre vm₁ X₁.warmed)
  exact ⟨v, vm₁, B, X₁.warmed, X', hpost, fun target h => hstep₁ _ fun acts => by rw [doInvoke_state]; exact hsteps.trans h⟩
abbrev vx_CVW (R : Room) (s : State) (args : Array Value) (own C : String) (index : Nat) (y : MethodName) (bytes : ByteArray) (maxL : Nat) (ret : Option FieldType) (hh : List (Nat × Nat × Nat × Nat)) (ws : List Cond) (rm : Room) (mc ms n : Nat) : Prop :=
  (rm.cells = mc ∧ rm.slots = ms ∧ rm.frames + 1 ≤ R.frames ∧ 8 + (maxL + 11) + rm.locals ≤ R.locals ∧ (∀ w ∈ ws, ∀ (a' : Array Value) (U : State), s.WarmedH U.vm → w.before a' U = true) ∧ Cond.codeWith y bytes maxL ret hh ∈ ws) ∧
  (Cond.codeWith y bytes maxL ret hh).before args s = true ∧ (Cond.initialized y.cls).before args s = true ∧ (y.cls ≠ "java/lang/invoke/MethodHandle" ∧ y.cls ≠ "java/lang/invoke/VarHandle") ∧
  (∀ sig, parseMethodDescriptor y.desc = some sig → n = sig.parameters.length) ∧ (Cond.methodLink own index y).before args s = true ∧ (Cond.instanceMethod y).before args s = true ∧ (Cond.selects C y y).before args s = true
theorem vx_cwVW {own C : String} {index maxL mc ms : Nat} {y : MethodName} {bytes : ByteArray} {ret : Option FieldType} {hh : List (Nat × Nat × Nat × Nat)} {Ts ws ws' : List Cond} {rm : Room} (n : Nat) (ht : ∀ w ∈ Ts, w.before args s = true) (hT : GoodIn Ts (wsV own index C y ws)) (hw : ws = Cond.codeWith y bytes maxL ret hh :: ws') (hrc : rm.cells = mc) (hrs : rm.slots = ms)
    (hd : y.cls = C ∧ y.cls ≠ "java/lang/invoke/MethodHandle" ∧ y.cls ≠ "java/lang/invoke/VarHandle" ∧ (parseMethodDescriptor y.desc).map (fun d => d.parameters.length) = some n) (hR : rm.frames + 1 ≤ R.frames ∧ 8 + (maxL + 11) + rm.locals ≤ R.locals) :
    vx_CVW R s args own C index y bytes maxL ret hh ws rm mc ms n := by
  obtain ⟨hC, hd⟩ := hd
  subst hC
  have ok : ∀ w ∈ wsV own index y.cls y ws, w.before args s = true := fun w h => ht w (hT w h).1
  have hG : GoodIn Ts ws := fun w h => hT w (by unfold wsV; exact List.mem_append_right _ h)
  have hc : Cond.codeWith y bytes maxL ret hh ∈ ws := by rw [hw]; exact List.mem_cons_self
  refine ⟨⟨hrc, hrs, hR.1, hR.2, pay_in ht hG, hc⟩, ht _ (hG _ hc).1, ok _ (by simp [wsV]), ⟨hd.1, hd.2.1⟩, fun sig h => ?_, ok _ (by simp [wsV]), ok _ (by simp [wsV]), ok _ (by simp [wsV])⟩
  have h2 := hd.2.2
  rw [h] at h2
  exact (Option.some.inj h2).symm
theorem vx_runVW {y : MethodName} {bytes cc : ByteArray} {maxL nL mc ms n index : Nat} {ret : Option FieldType} {hh : List (Nat × Nat × Nat × Nat)} {ws : List Cond} {rm : Room} {Pc : Array Value → State → Prop} {Qc : Array Value → State → Outcome → State → Prop} {free : Addr → Prop} {Ts : List Cond} {own C : String} {b : Addr} {As rest : List Value} {g : JFrame}
    (S : CallFix p m c cc nL s args Ts own) (hM : Met l y ws rm Pc Qc mc ms free) (cw : vx_CVW R s args own C index y bytes maxL ret hh ws rm mc ms n) (hp : PreV s H C b Pc As)
    (hg : g.method = m) (hn : As.length = n) (hsize : g.locals.size = nL) (hstack : g.stack = As.reverse ++ .ref b :: rest) (hW : 2 * g.monitorRoom + (rest.map fun v => v.category).sum ≤ 8) (hdg : decode cc g.pc = .ok (.invokevirtual index, 3)) (hf : cells + mc ≤ R.cells ∧ slots + ms ≤ R.slots) :
    va_Run p l e R s m args below meth c H locs cells slots mc ms g rest (Qc (Value.ref b :: As).toArray) free := by
  obtain ⟨⟨hrc, hrs, hfr, hlo, hws, hcw⟩, hcode, hini, hy, hlen, hl, hin, hse⟩ := cw
  have hK : Back l R p e below s args y 3 8 (PreOf R mc ms Pc) (PostOf Qc mc ms free) := va_backW (hh := hh) (bytes := bytes) (maxL := maxL) (ret := ret) hM hp.1 hrc hrs hfr hlo hws hcw (fun a' U hW => word_at hW (Or.inl (by first | rfl | simp [Cond.onTables, Cond.keeps, Cond.steady])) hini)
  obtain ⟨hx, hb, hml, ho, -⟩ := S
  obtain ⟨-, ⟨cellB, hcB, hoB, hclB⟩, hPc⟩ := hp
  intro T hT X
  obtain ⟨v, vm₁, ⟨U', l2, c2, s2⟩, hW₁, X', ⟨g', mk, t, L, e1, e2, hq, h1, hL, h2, h3⟩, st⟩ := vx_callVW X hx (C := C) (hh := hh) (bytes := bytes) (maxL := maxL) (ret := ret) ho hl hin hse hcode hy hK (by rw [hT]; exact hcB) hoB hclB hg (hsize.trans hml.symm) (argsL := As) (rest := rest) (fun sig h => hn.trans (hlen sig h)) hstack hW (by rw [hb]; exact hdg)
    (fun vm₁ hW₁ => ⟨hf.1, hf.2, hPc (T.setVm vm₁) hT hW₁⟩)
  dsimp only [Pt.U, Pt.locs, Pt.cells, Pt.slots] at X' e1 e2 h1 h2 h3 st
  subst h1; subst h2; subst h3
  exact ⟨v, (T.setVm vm₁).calling g' mk (Value.ref b :: As).toArray, t, U', L, hT, X', hL, e1, e2, hq, st⟩
section
variable {y : MethodName} {bytes cc : ByteArray} {maxL nL mc ms n index : Nat} {ret : Option FieldType} {ws : List Cond} {rm : Room} {Pc : Array Value → State → Prop} {Qc : Array Value → State → Outcome → State → Prop} {XC : String → State → State → Prop} {free : Addr → Prop} {Ts : List Cond} {own C : String} {b : Addr} {As rest : List Value} {g : JFrame}
theorem vx_runVX {hh : List (Nat × Nat × Nat × Nat)} (S : CallFix p m c cc nL s args Ts own) (hM : vx_Met l y ws rm Pc Qc XC mc ms free) (cw : vx_CVW R s args own C index y bytes maxL ret hh ws rm mc ms n) (hp : PreV s H C b Pc As)
    (hg : g.method = m) (hn : As.length = n) (hsize : g.locals.size = nL) (hstack : g.stack = As.reverse ++ .ref b :: rest) (hW : 2 * g.monitorRoom + (rest.map fun v => v.category).sum ≤ 8) (hdg : decode cc g.pc = .ok (.invokevirtual index, 3)) (hf : cells + mc ≤ R.cells ∧ slots + ms ≤ R.slots) :
    vx_Run p l e R s m args below meth c H locs cells slots mc ms g rest (Qc (Value.ref b :: As).toArray) XC free := by
  obtain ⟨⟨hrc, hrs, hfr, hlo, hws, hcw⟩, hcode, hini, hy, hlen, hl, hin, hse⟩ := cw
  have hK : vx_Back l R p e below s args y 3 8 (PreOf R mc ms Pc) (PostOf Qc mc ms free) (vx_Post XC mc ms free) := vx_backW (hh := hh) (bytes := bytes) (maxL := maxL) (ret := ret) hM hp.1 hrc hrs hfr hlo hws hcw (fun a' U hW => word_at hW (Or.inl (by first | rfl | simp [Cond.onTables, Cond.keeps, Cond.steady])) hini)
  obtain ⟨hx, hb, hml, ho, -⟩ := S
  obtain ⟨-, ⟨cellB, hcB, hoB, hclB⟩, hPc⟩ := hp
  intro T hT X
  rcases vx_callVX X hx (C := C) (hh := hh) (bytes := bytes) (maxL := maxL) (ret := ret) ho hl hin hse hcode hy hK (by rw [hT]; exact hcB) hoB hclB hg (hsize.trans hml.symm) (argsL := As) (rest := rest) (fun sig h => hn.trans (hlen sig h)) hstack hW (by rw [hb]; exact hdg)
    (fun vm₁ hW₁ => ⟨hf.1, hf.2, hPc (T.setVm vm₁) hT hW₁⟩) with ⟨v, vm₁, ⟨U', l2, c2, s2⟩, hW₁, X', ⟨g', mk, t, L, e1, e2, hq, h1, hL, h2, h3⟩, st⟩ | ⟨q, vm₁, ⟨U', l2, c2, s2⟩, hW₁, X', ⟨g', mk, t, L, E, ce, e1, e2, hq, hce, hcv, hcl, h1, hL, h2, h3⟩, st⟩
  · dsimp only [Pt.U, Pt.locs, Pt.cells, Pt.slots] at X' e1 e2 h1 h2 h3 st
    subst h1; subst h2; subst h3
    exact Or.inl ⟨v, (T.setVm vm₁).calling g' mk (Value.ref b :: As).toArray, t, U', L, hT, X', hL, e1, e2, hq, st⟩
  · dsimp only [Pt.U, Pt.locs, Pt.cells, Pt.slots] at X' e1 e2 h1 h2 h3 st hcl
    subst h1; subst h2; subst h3
    exact Or.inr ⟨q, (T.setVm vm₁).calling g' mk (Value.ref b :: As).toArray, t, U', L, E, ce, hT, X', hL, e1, e2, hq, hce, hcv, vx_cls hW₁ hcl, st⟩
theorem vx_runSX {hh : List (Nat × Nat × Nat × Nat)} (S : CallFix p m c cc nL s args Ts own) (hM : vx_Met l y ws rm Pc Qc XC mc ms free) (cw : vx_CSW R s args own index y bytes maxL ret hh ws rm mc ms n) (hp : PreS s H Pc As)
    (hg : g.method = m) (hn : As.length = n) (hsize : g.locals.size = nL) (hstack : g.stack = As.reverse ++ rest) (hW : 2 * g.monitorRoom + (rest.map fun v => v.category).sum ≤ 8) (hdg : decode cc g.pc = .ok (.invokestatic index, 3)) (hf : cells + mc ≤ R.cells ∧ slots + ms ≤ R.slots) :
    vx_Run p l e R s m args below meth c H locs cells slots mc ms g rest (Qc As.toArray) XC free := by
  obtain ⟨⟨hrc, hrs, hfr, hlo, hws, hcw⟩, hcode, hini, hy, hlen, hl, hstt⟩ := cw
  have hK : vx_Back l R p e below s args y 3 8 (PreOf R mc ms Pc) (PostOf Qc mc ms free) (vx_Post XC mc ms free) := vx_backW (hh := hh) (bytes := bytes) (maxL := maxL) (ret := ret) hM hp.1 hrc hrs hfr hlo hws hcw (fun a' U hW => word_at hW (Or.inl (by first | rfl | simp [Cond.onTables, Cond.keeps, Cond.steady])) hini)
  obtain ⟨hx, hb, hml, ho, -⟩ := S
  intro T hT X
  rcases vx_callSX X hx (hh := hh) (bytes := bytes) (maxL := maxL) (ret := ret) ho hl hstt hini hcode hy hK hg (hsize.trans hml.symm) (argsL := As) (rest := rest) (fun sig h => hn.trans (hlen sig h)) hstack hW (by rw [hb]; exact hdg)
    (fun vm₁ hW₁ => ⟨hf.1, hf.2, hp.2 (T.setVm vm₁) hT hW₁⟩) with ⟨v, vm₁, ⟨U', l2, c2, s2⟩, hW₁, X', ⟨g', mk, t, L, e1, e2, hq, h1, hL, h2, h3⟩, st⟩ | ⟨q, vm₁, ⟨U', l2, c2, s2⟩, hW₁, X', ⟨g', mk, t, L, E, ce, e1, e2, hq, hce, hcv, hcl, h1, hL, h2, h3⟩, st⟩
  · dsimp only [Pt.U, Pt.locs, Pt.cells, Pt.slots] at X' e1 e2 h1 h2 h3 st
    subst h1; subst h2; subst h3
    exact Or.inl ⟨v, (T.setVm vm₁).calling g' mk As.toArray, t, U', L, hT, X', hL, e1, e2, hq, st⟩
  · dsimp only [Pt.U, Pt.locs, Pt.cells, Pt.slots] at X' e1 e2 h1 h2 h3 st hcl
    subst h1; subst h2; subst h3
    exact Or.inr ⟨q, (T.setVm vm₁).calling g' mk As.toArray, t, U', L, E, ce, hT, X', hL, e1, e2, hq, hce, hcv, vx_cls hW₁ hcl, st⟩
end
end VXH
theorem vx_ofWH {l : Launch} {y : MethodName} {ws ws' : List Cond} {rm : Room} {Pc : Array Value → State → Prop} {Qc : Array Value → State → Outcome → State → Prop} {XC : String → State → State → Prop} {mc ms : Nat} {free : Addr → Prop} {cc : ByteArray} {maxL : Nat} {ret : Option FieldType} {hh : List (Nat × Nat × Nat × Nat)}
    (hy : plainName y.cls = true) (hw : ws = Cond.codeWith y cc maxL ret hh :: ws')
    (body : ∀ p e s m args below meth c s₁, BodyLoose p l y (headSpec ws rm) cc maxL ret e s m args below meth c s₁ → c.maxLocals = maxL → Pc args s →
      W p l e (headSpec ws rm).room s m args below meth c s.heap [] 0 0 (vx_MQ below Qc XC args s mc ms free) (entryFrame m args maxL)) : vx_Met l y ws rm Pc Qc XC mc ms free := by
  refine MetFree.of_bodyS (code := cc) (maxLocals := maxL) (ret := ret) hy ?_ ?_
  · intro args s m h hn
    obtain ⟨m9, meth, c, hn9, h1, h2, h3, h4, -, h5, h6, -⟩ := Cond.codeWith_spec (atoms_spec (ws := ws) h _ (by rw [hw]; exact List.mem_cons_self))
    cases hn.symm.trans hn9
    exact ⟨meth, c, h1, h2, h3, h4, h5, h6⟩
  · intro p e s m args below meth c s₁ B hml hP _
    have hh0 : s₁.heap = s.heap := by rw [B.state]; rfl
    obtain ⟨t, a1, o, b1, b2, b3⟩ := body p e s m args below meth c s₁ B hml hP s₁ hh0 (Stand.of_body B)
    exact ⟨t, o, a1, b1, b2, b3⟩
/-! ===== END ===== -/
end
section
/-! ===== BEGIN printed: names, fields, word lists, decode rows ===== -/
def RX0 : String := "PloughPlanner$Town"
def TX0 : u_T := fun k => match k with
  | 0 => ("PloughPlanner$Town", "turning", "[Z", true)
  | 1 => ("PloughPlanner$Town", "stores", "[Z", true)
  | 2 => ("PloughPlanner$Town", "starts", "[I", true)
  | 3 => ("PloughPlanner$Town", "minutes", "[I", true)
  | 4 => ("PloughPlanner$Town", "priorities", "[I", true)
  | 5 => ("PloughPlanner$Town", "depths", "[I", true)
  | 6 => ("PloughPlanner$Town", "salted", "[Z", true)
  | 7 => ("PloughPlanner$Town", "nodes", "I", false)
  | _ => ("PloughPlanner$Town", "roads", "I", false)
def tyX0 : Nat → FieldType := fun k => match k with
  | 0 => .array .boolean
  | 1 => .array .boolean
  | 2 => .array .int
  | 3 => .array .int
  | 4 => .array .int
  | 5 => .array .int
  | 6 => .array .boolean
  | 7 => .int
  | _ => .int
abbrev wsX00 : List Cond := u_ws RX0 TX0 9
theorem nmX0 : ∀ a, a < 9 → ∀ b, b < 9 → a ≠ b → (TX0 a).2.1 ≠ (TX0 b).2.1 := by decide +kernel
theorem tyX0_ok : ∀ k, k < 9 → parseFieldDescriptor (TX0 k).2.2.1 = some (tyX0 k) := by decide +kernel
abbrev cX0_init : ByteArray := prog_2_method_1_code
def yX0_init : MethodName := ⟨RX0, "<init>", "()V"⟩
abbrev cX0_nodeCount : ByteArray := prog_2_method_2_code
def yX0_nodeCount : MethodName := ⟨RX0, "nodeCount", "()I"⟩
abbrev cX0_roadCount : ByteArray := prog_2_method_3_code
def yX0_roadCount : MethodName := ⟨RX0, "roadCount", "()I"⟩
abbrev cX0_sideCount : ByteArray := prog_2_method_4_code
def yX0_sideCount : MethodName := ⟨RX0, "sideCount", "()I"⟩
abbrev cX0_hasNode : ByteArray := prog_2_method_5_code
def yX0_hasNode : MethodName := ⟨RX0, "hasNode", "(I)Z"⟩
abbrev cX0_hasRoad : ByteArray := prog_2_method_6_code
def yX0_hasRoad : MethodName := ⟨RX0, "hasRoad", "(I)Z"⟩
abbrev cX0_hasSide : ByteArray := prog_2_method_7_code
def yX0_hasSide : MethodName := ⟨RX0, "hasSide", "(I)Z"⟩
abbrev cX0_appendNode : ByteArray := prog_2_method_8_code
def yX0_appendNode : MethodName := ⟨RX0, "appendNode", "(ZZ)I"⟩
abbrev cX0_appendRoad : ByteArray := prog_2_method_9_code
def yX0_appendRoad : MethodName := ⟨RX0, "appendRoad", "(IIII)I"⟩
abbrev cX0_switchStore : ByteArray := prog_2_method_10_code
def yX0_switchStore : MethodName := ⟨RX0, "switchStore", "(IZ)Z"⟩
abbrev cX0_switchTurning : ByteArray := prog_2_method_11_code
def yX0_switchTurning : MethodName := ⟨RX0, "switchTurning", "(IZ)Z"⟩
abbrev cX0_isStoreAt : ByteArray := prog_2_method_12_code
def yX0_isStoreAt : MethodName := ⟨RX0, "isStoreAt", "(I)Z"⟩
abbrev cX0_isTurningAt : ByteArray := prog_2_method_13_code
def yX0_isTurningAt : MethodName := ⟨RX0, "isTurningAt", "(I)Z"⟩
abbrev cX0_minutesOf : ByteArray := prog_2_method_14_code
def yX0_minutesOf : MethodName := ⟨RX0, "minutesOf", "(I)I"⟩
abbrev cX0_priorityOf : ByteArray := prog_2_method_15_code
def yX0_priorityOf : MethodName := ⟨RX0, "priorityOf", "(I)I"⟩
abbrev cX0_startOf : ByteArray := prog_2_method_16_code
def yX0_startOf : MethodName := ⟨RX0, "startOf", "(I)I"⟩
abbrev cX0_endOf : ByteArray := prog_2_method_17_code
def yX0_endOf : MethodName := ⟨RX0, "endOf", "(I)I"⟩
abbrev cX0_snowOn : ByteArray := prog_2_method_18_code
def yX0_snowOn : MethodName := ⟨RX0, "snowOn", "(I)I"⟩
abbrev cX0_hasSaltOn : ByteArray := prog_2_method_19_code
def yX0_hasSaltOn : MethodName := ⟨RX0, "hasSaltOn", "(I)Z"⟩
abbrev cX0_sideFrom : ByteArray := prog_2_method_20_code
def yX0_sideFrom : MethodName := ⟨RX0, "sideFrom", "(II)I"⟩
abbrev cX0_canGoOn : ByteArray := prog_2_method_21_code
def yX0_canGoOn : MethodName := ⟨RX0, "canGoOn", "(III)Z"⟩
abbrev cX0_letItSnow : ByteArray := prog_2_method_22_code
def yX0_letItSnow : MethodName := ⟨RX0, "letItSnow", "(I)V"⟩
abbrev cX0_putSaltOn : ByteArray := prog_2_method_23_code
def yX0_putSaltOn : MethodName := ⟨RX0, "putSaltOn", "(I)V"⟩
abbrev cX0_pushSnowFrom : ByteArray := prog_2_method_24_code
def yX0_pushSnowFrom : MethodName := ⟨RX0, "pushSnowFrom", "(I)V"⟩
abbrev cX0_heap : ByteArray := prog_2_method_25_code
def yX0_heap : MethodName := ⟨RX0, "heap", "(II)V"⟩
abbrev cX0_deepestSnow : ByteArray := prog_2_method_26_code
def yX0_deepestSnow : MethodName := ⟨RX0, "deepestSnow", "()I"⟩
abbrev cX0_deepestSnowOf : ByteArray := prog_2_method_27_code
def yX0_deepestSnowOf : MethodName := ⟨RX0, "deepestSnowOf", "(I)I"⟩
abbrev cX0_sidesWithoutSnow : ByteArray := prog_2_method_28_code
def yX0_sidesWithoutSnow : MethodName := ⟨RX0, "sidesWithoutSnow", "()I"⟩
abbrev cX0_nodesOpenFrom : ByteArray := prog_2_method_29_code
def yX0_nodesOpenFrom : MethodName := ⟨RX0, "nodesOpenFrom", "(I)I"⟩
abbrev cX0_withNeighbours : ByteArray := prog_2_method_30_code
def yX0_withNeighbours : MethodName := ⟨RX0, "withNeighbours", "(I)I"⟩
abbrev cX0_addTo : ByteArray := prog_2_method_31_code
def yX0_addTo : MethodName := ⟨RX0, "addTo", "(J)J"⟩
def RX1 : String := "PloughPlanner$Vehicle"
def TX1 : u_T := fun k => match k with
  | 0 => ("PloughPlanner$Vehicle", "town", "LPloughPlanner$Town;", true)
  | 1 => ("PloughPlanner$Vehicle", "node", "I", false)
  | 2 => ("PloughPlanner$Vehicle", "cameBy", "I", false)
  | 3 => ("PloughPlanner$Vehicle", "salt", "I", false)
  | 4 => ("PloughPlanner$Vehicle", "strewing", "Z", false)
  | 5 => ("PloughPlanner$Vehicle", "minutesSpent", "J", false)
  | 6 => ("PloughPlanner$Vehicle", "saltStrewn", "J", false)
  | 7 => ("PloughPlanner$Vehicle", "turns", "J", false)
  | _ => ("PloughPlanner$Vehicle", "roadsGone", "J", false)
def tyX1 : Nat → FieldType := fun k => match k with
  | 0 => .object "PloughPlanner$Town"
  | 1 => .int
  | 2 => .int
  | 3 => .int
  | 4 => .boolean
  | 5 => .long
  | 6 => .long
  | 7 => .long
  | _ => .long
abbrev wsX10 : List Cond := u_ws RX1 TX1 9
theorem nmX1 : ∀ a, a < 9 → ∀ b, b < 9 → a ≠ b → (TX1 a).2.1 ≠ (TX1 b).2.1 := by decide +kernel
theorem tyX1_ok : ∀ k, k < 9 → parseFieldDescriptor (TX1 k).2.2.1 = some (tyX1 k) := by decide +kernel
abbrev cX1_init : ByteArray := prog_3_method_1_code
def yX1_init : MethodName := ⟨RX1, "<init>", "(LPloughPlanner$Town;)V"⟩
abbrev cX1_node : ByteArray := prog_3_method_2_code
def yX1_node : MethodName := ⟨RX1, "node", "()I"⟩
abbrev cX1_cameBy : ByteArray := prog_3_method_3_code
def yX1_cameBy : MethodName := ⟨RX1, "cameBy", "()I"⟩
abbrev cX1_switchStrewing : ByteArray := prog_3_method_4_code
def yX1_switchStrewing : MethodName := ⟨RX1, "switchStrewing", "(Z)Z"⟩
abbrev cX1_lacksSaltFor : ByteArray := prog_3_method_5_code
def yX1_lacksSaltFor : MethodName := ⟨RX1, "lacksSaltFor", "(I)Z"⟩
abbrev cX1_canGoBy : ByteArray := prog_3_method_6_code
def yX1_canGoBy : MethodName := ⟨RX1, "canGoBy", "(I)Z"⟩
abbrev cX1_driveBy : ByteArray := prog_3_method_7_code
def yX1_driveBy : MethodName := ⟨RX1, "driveBy", "(I)I"⟩
abbrev cX1_strewOn : ByteArray := prog_3_method_8_code
def yX1_strewOn : MethodName := ⟨RX1, "strewOn", "(II)V"⟩
abbrev cX1_takeSalt : ByteArray := prog_3_method_9_code
def yX1_takeSalt : MethodName := ⟨RX1, "takeSalt", "()I"⟩
abbrev cX1_stateFact : ByteArray := prog_3_method_10_code
def yX1_stateFact : MethodName := ⟨RX1, "stateFact", "(I)I"⟩
abbrev cX1_totalFact : ByteArray := prog_3_method_11_code
def yX1_totalFact : MethodName := ⟨RX1, "totalFact", "(I)J"⟩
def RX2 : String := "PloughPlanner$Ways"
def TX2 : u_T := fun k => match k with
  | 0 => ("PloughPlanner$Ways", "town", "LPloughPlanner$Town;", true)
  | 1 => ("PloughPlanner$Ways", "vehicle", "LPloughPlanner$Vehicle;", true)
  | 2 => ("PloughPlanner$Ways", "minutes", "[I", true)
  | 3 => ("PloughPlanner$Ways", "lengths", "[I", true)
  | 4 => ("PloughPlanner$Ways", "rows", "[[I", true)
  | 5 => ("PloughPlanner$Ways", "settled", "[Z", true)
  | _ => ("PloughPlanner$Ways", "start", "I", false)
def tyX2 : Nat → FieldType := fun k => match k with
  | 0 => .object "PloughPlanner$Town"
  | 1 => .object "PloughPlanner$Vehicle"
  | 2 => .array .int
  | 3 => .array .int
  | 4 => .array (.array .int)
  | 5 => .array .boolean
  | _ => .int
abbrev wsX20 : List Cond := u_ws RX2 TX2 7
theorem nmX2 : ∀ a, a < 7 → ∀ b, b < 7 → a ≠ b → (TX2 a).2.1 ≠ (TX2 b).2.1 := by decide +kernel
theorem tyX2_ok : ∀ k, k < 7 → parseFieldDescriptor (TX2 k).2.2.1 = some (tyX2 k) := by decide +kernel
abbrev cX2_init : ByteArray := prog_4_method_1_code
def yX2_init : MethodName := ⟨RX2, "<init>", "(LPloughPlanner$Town;LPloughPlanner$Vehicle;)V"⟩
abbrev cX2_lookAround : ByteArray := prog_4_method_2_code
def yX2_lookAround : MethodName := ⟨RX2, "lookAround", "()V"⟩
abbrev cX2_forgetAll : ByteArray := prog_4_method_3_code
def yX2_forgetAll : MethodName := ⟨RX2, "forgetAll", "()V"⟩
abbrev cX2_nearestOpenSide : ByteArray := prog_4_method_4_code
def yX2_nearestOpenSide : MethodName := ⟨RX2, "nearestOpenSide", "()I"⟩
abbrev cX2_goOnFrom : ByteArray := prog_4_method_5_code
def yX2_goOnFrom : MethodName := ⟨RX2, "goOnFrom", "(III)V"⟩
abbrev cX2_layTrial : ByteArray := prog_4_method_6_code
def yX2_layTrial : MethodName := ⟨RX2, "layTrial", "(III)V"⟩
abbrev cX2_copyRow : ByteArray := prog_4_method_7_code
def yX2_copyRow : MethodName := ⟨RX2, "copyRow", "(III)V"⟩
abbrev cX2_isShorter : ByteArray := prog_4_method_8_code
def yX2_isShorter : MethodName := ⟨RX2, "isShorter", "(II)Z"⟩
abbrev cX2_minutesTo : ByteArray := prog_4_method_9_code
def yX2_minutesTo : MethodName := ⟨RX2, "minutesTo", "(I)I"⟩
abbrev cX2_lengthTo : ByteArray := prog_4_method_10_code
def yX2_lengthTo : MethodName := ⟨RX2, "lengthTo", "(I)I"⟩
abbrev cX2_roadTo : ByteArray := prog_4_method_11_code
def yX2_roadTo : MethodName := ⟨RX2, "roadTo", "(II)I"⟩
abbrev cX2_firstRoadTo : ByteArray := prog_4_method_12_code
def yX2_firstRoadTo : MethodName := ⟨RX2, "firstRoadTo", "(I)I"⟩
abbrev cX2_minutesToNode : ByteArray := prog_4_method_13_code
def yX2_minutesToNode : MethodName := ⟨RX2, "minutesToNode", "(I)I"⟩
abbrev cX2_lastSideTo : ByteArray := prog_4_method_14_code
def yX2_lastSideTo : MethodName := ⟨RX2, "lastSideTo", "(I)I"⟩
def RX3 : String := "PloughPlanner"
def TX3 : u_T := fun k => match k with
  | 0 => ("PloughPlanner", "town", "LPloughPlanner$Town;", true)
  | 1 => ("PloughPlanner", "vehicle", "LPloughPlanner$Vehicle;", true)
  | _ => ("PloughPlanner", "ways", "LPloughPlanner$Ways;", true)
def tyX3 : Nat → FieldType := fun k => match k with
  | 0 => .object "PloughPlanner$Town"
  | 1 => .object "PloughPlanner$Vehicle"
  | _ => .object "PloughPlanner$Ways"
abbrev wsX30 : List Cond := u_ws RX3 TX3 3
theorem nmX3 : ∀ a, a < 3 → ∀ b, b < 3 → a ≠ b → (TX3 a).2.1 ≠ (TX3 b).2.1 := by decide +kernel
theorem tyX3_ok : ∀ k, k < 3 → parseFieldDescriptor (TX3 k).2.2.1 = some (tyX3 k) := by decide +kernel
abbrev cX3_init : ByteArray := prog_1_method_1_code
def yX3_init : MethodName := ⟨RX3, "<init>", "()V"⟩
abbrev cX3_addNode : ByteArray := prog_1_method_2_code
def yX3_addNode : MethodName := ⟨RX3, "addNode", "(ZZ)I"⟩
abbrev cX3_setNode : ByteArray := prog_1_method_3_code
def yX3_setNode : MethodName := ⟨RX3, "setNode", "(IZZ)Z"⟩
abbrev cX3_addRoad : ByteArray := prog_1_method_4_code
def yX3_addRoad : MethodName := ⟨RX3, "addRoad", "(IIII)I"⟩
abbrev cX3_snow : ByteArray := prog_1_method_5_code
def yX3_snow : MethodName := ⟨RX3, "snow", "(I)I"⟩
abbrev cX3_depth : ByteArray := prog_1_method_6_code
def yX3_depth : MethodName := ⟨RX3, "depth", "(II)I"⟩
abbrev cX3_isSalted : ByteArray := prog_1_method_7_code
def yX3_isSalted : MethodName := ⟨RX3, "isSalted", "(II)Z"⟩
abbrev cX3_worst : ByteArray := prog_1_method_8_code
def yX3_worst : MethodName := ⟨RX3, "worst", "(I)I"⟩
abbrev cX3_reach : ByteArray := prog_1_method_9_code
def yX3_reach : MethodName := ⟨RX3, "reach", "(I)I"⟩
abbrev cX3_bare : ByteArray := prog_1_method_10_code
def yX3_bare : MethodName := ⟨RX3, "bare", "()D"⟩
abbrev cX3_strew : ByteArray := prog_1_method_11_code
def yX3_strew : MethodName := ⟨RX3, "strew", "(Z)Z"⟩
abbrev cX3_go : ByteArray := prog_1_method_12_code
def yX3_go : MethodName := ⟨RX3, "go", "(I)I"⟩
abbrev cX3_fill : ByteArray := prog_1_method_13_code
def yX3_fill : MethodName := ⟨RX3, "fill", "()I"⟩
abbrev cX3_plough : ByteArray := prog_1_method_14_code
def yX3_plough : MethodName := ⟨RX3, "plough", "(I)I"⟩
abbrev cX3_way : ByteArray := prog_1_method_15_code
def yX3_way : MethodName := ⟨RX3, "way", "(I)I"⟩
abbrev cX3_first : ByteArray := prog_1_method_16_code
def yX3_first : MethodName := ⟨RX3, "first", "(I)I"⟩
abbrev cX3_wayToSide : ByteArray := prog_1_method_17_code
def yX3_wayToSide : MethodName := ⟨RX3, "wayToSide", "(II)I"⟩
abbrev cX3_firstToSide : ByteArray := prog_1_method_18_code
def yX3_firstToSide : MethodName := ⟨RX3, "firstToSide", "(II)I"⟩
abbrev cX3_next : ByteArray := prog_1_method_19_code
def yX3_next : MethodName := ⟨RX3, "next", "()I"⟩
abbrev cX3_clear : ByteArray := prog_1_method_20_code
def yX3_clear : MethodName := ⟨RX3, "clear", "(I)I"⟩
abbrev cX3_total : ByteArray := prog_1_method_21_code
def yX3_total : MethodName := ⟨RX3, "total", "(I)J"⟩
abbrev cX3_digest : ByteArray := prog_1_method_22_code
def yX3_digest : MethodName := ⟨RX3, "digest", "()J"⟩
abbrev cX3_checkNode : ByteArray := prog_1_method_23_code
def yX3_checkNode : MethodName := ⟨RX3, "checkNode", "(I)V"⟩
abbrev cX3_checkedSide : ByteArray := prog_1_method_24_code
def yX3_checkedSide : MethodName := ⟨RX3, "checkedSide", "(II)I"⟩
abbrev cX3_checkFact : ByteArray := prog_1_method_25_code
def yX3_checkFact : MethodName := ⟨RX3, "checkFact", "(I)V"⟩
abbrev cX3_isPriority : ByteArray := prog_1_method_26_code
def yX3_isPriority : MethodName := ⟨RX3, "isPriority", "(I)Z"⟩
abbrev cX3_findNextSide : ByteArray := prog_1_method_27_code
def yX3_findNextSide : MethodName := ⟨RX3, "findNextSide", "()I"⟩
abbrev cX3_isMoreUrgent : ByteArray := prog_1_method_28_code
def yX3_isMoreUrgent : MethodName := ⟨RX3, "isMoreUrgent", "(II)Z"⟩
abbrev cX3_nearestStore : ByteArray := prog_1_method_29_code
def yX3_nearestStore : MethodName := ⟨RX3, "nearestStore", "()I"⟩
abbrev cX3_fillUpAt : ByteArray := prog_1_method_30_code
def yX3_fillUpAt : MethodName := ⟨RX3, "fillUpAt", "(I)I"⟩
abbrev cX3_followWayTo : ByteArray := prog_1_method_31_code
def yX3_followWayTo : MethodName := ⟨RX3, "followWayTo", "(I)I"⟩
def RX4 : String := "PloughPlannerModel"
def TX4 : u_T := fun k => match k with
  | 0 => ("PloughPlannerModel", "thrown", "I", false)
  | 1 => ("PloughPlannerModel", "nodes", "I", false)
  | 2 => ("PloughPlannerModel", "areTurning", "[Z", true)
  | 3 => ("PloughPlannerModel", "areStores", "[Z", true)
  | 4 => ("PloughPlannerModel", "roads", "I", false)
  | 5 => ("PloughPlannerModel", "ends", "[I", true)
  | 6 => ("PloughPlannerModel", "lengths", "[I", true)
  | 7 => ("PloughPlannerModel", "priorities", "[I", true)
  | 8 => ("PloughPlannerModel", "depths", "[I", true)
  | 9 => ("PloughPlannerModel", "areSalted", "[Z", true)
  | 10 => ("PloughPlannerModel", "at", "I", false)
  | 11 => ("PloughPlannerModel", "came", "I", false)
  | 12 => ("PloughPlannerModel", "salt", "I", false)
  | 13 => ("PloughPlannerModel", "strews", "Z", false)
  | 14 => ("PloughPlannerModel", "totals", "[J", true)
  | 15 => ("PloughPlannerModel", "weights", "[I", true)
  | 16 => ("PloughPlannerModel", "goalNode", "I", false)
  | _ => ("PloughPlannerModel", "goalSide", "I", false)
def tyX4 : Nat → FieldType := fun k => match k with
  | 0 => .int
  | 1 => .int
  | 2 => .array .boolean
  | 3 => .array .boolean
  | 4 => .int
  | 5 => .array .int
  | 6 => .array .int
  | 7 => .array .int
  | 8 => .array .int
  | 9 => .array .boolean
  | 10 => .int
  | 11 => .int
  | 12 => .int
  | 13 => .boolean
  | 14 => .array .long
  | 15 => .array .int
  | 16 => .int
  | _ => .int
abbrev wsX40 : List Cond := u_ws RX4 TX4 18
theorem nmX4 : ∀ a, a < 18 → ∀ b, b < 18 → a ≠ b → (TX4 a).2.1 ≠ (TX4 b).2.1 := by decide +kernel
theorem tyX4_ok : ∀ k, k < 18 → parseFieldDescriptor (TX4 k).2.2.1 = some (tyX4 k) := by decide +kernel
abbrev cX4_init : ByteArray := prog_6_method_1_code
def yX4_init : MethodName := ⟨RX4, "<init>", "()V"⟩
abbrev cX4_thrown : ByteArray := prog_6_method_2_code
def yX4_thrown : MethodName := ⟨RX4, "thrown", "()I"⟩
abbrev cX4_fail : ByteArray := prog_6_method_3_code
def yX4_fail : MethodName := ⟨RX4, "fail", "(I)I"⟩
abbrev cX4_isIn : ByteArray := prog_6_method_4_code
def yX4_isIn : MethodName := ⟨RX4, "isIn", "(III)Z"⟩
abbrev cX4_isNode : ByteArray := prog_6_method_5_code
def yX4_isNode : MethodName := ⟨RX4, "isNode", "(I)Z"⟩
abbrev cX4_isSide : ByteArray := prog_6_method_6_code
def yX4_isSide : MethodName := ⟨RX4, "isSide", "(II)Z"⟩
abbrev cX4_addNode : ByteArray := prog_6_method_7_code
def yX4_addNode : MethodName := ⟨RX4, "addNode", "(ZZ)I"⟩
abbrev cX4_setNode : ByteArray := prog_6_method_8_code
def yX4_setNode : MethodName := ⟨RX4, "setNode", "(IZZ)Z"⟩
abbrev cX4_addRoad : ByteArray := prog_6_method_9_code
def yX4_addRoad : MethodName := ⟨RX4, "addRoad", "(IIII)I"⟩
abbrev cX4_deepest : ByteArray := prog_6_method_10_code
def yX4_deepest : MethodName := ⟨RX4, "deepest", "(I)I"⟩
abbrev cX4_snow : ByteArray := prog_6_method_11_code
def yX4_snow : MethodName := ⟨RX4, "snow", "(I)I"⟩
abbrev cX4_depth : ByteArray := prog_6_method_12_code
def yX4_depth : MethodName := ⟨RX4, "depth", "(II)I"⟩
abbrev cX4_isSalted : ByteArray := prog_6_method_13_code
def yX4_isSalted : MethodName := ⟨RX4, "isSalted", "(II)Z"⟩
abbrev cX4_worst : ByteArray := prog_6_method_14_code
def yX4_worst : MethodName := ⟨RX4, "worst", "(I)I"⟩
abbrev cX4_reach : ByteArray := prog_6_method_15_code
def yX4_reach : MethodName := ⟨RX4, "reach", "(I)I"⟩
abbrev cX4_bare : ByteArray := prog_6_method_16_code
def yX4_bare : MethodName := ⟨RX4, "bare", "()D"⟩
abbrev cX4_tail : ByteArray := prog_6_method_17_code
def yX4_tail : MethodName := ⟨RX4, "tail", "(I)I"⟩
abbrev cX4_head : ByteArray := prog_6_method_18_code
def yX4_head : MethodName := ⟨RX4, "head", "(I)I"⟩
abbrev cX4_sideOf : ByteArray := prog_6_method_19_code
def yX4_sideOf : MethodName := ⟨RX4, "sideOf", "(III)I"⟩
abbrev cX4_turnTime : ByteArray := prog_6_method_20_code
def yX4_turnTime : MethodName := ⟨RX4, "turnTime", "(II)I"⟩
abbrev cX4_strew : ByteArray := prog_6_method_21_code
def yX4_strew : MethodName := ⟨RX4, "strew", "(Z)Z"⟩
abbrev cX4_drive : ByteArray := prog_6_method_22_code
def yX4_drive : MethodName := ⟨RX4, "drive", "(I)I"⟩
abbrev cX4_go : ByteArray := prog_6_method_23_code
def yX4_go : MethodName := ⟨RX4, "go", "(I)I"⟩
abbrev cX4_fillUp : ByteArray := prog_6_method_24_code
def yX4_fillUp : MethodName := ⟨RX4, "fillUp", "()I"⟩
abbrev cX4_fill : ByteArray := prog_6_method_25_code
def yX4_fill : MethodName := ⟨RX4, "fill", "()I"⟩
abbrev cX4_told : ByteArray := prog_6_method_26_code
def yX4_told : MethodName := ⟨RX4, "told", "(I)I"⟩
abbrev cX4_plough : ByteArray := prog_6_method_27_code
def yX4_plough : MethodName := ⟨RX4, "plough", "(I)I"⟩
abbrev cX4_weightAt : ByteArray := prog_6_method_28_code
def yX4_weightAt : MethodName := ⟨RX4, "weightAt", "(II)I"⟩
abbrev cX4_weightBy : ByteArray := prog_6_method_29_code
def yX4_weightBy : MethodName := ⟨RX4, "weightBy", "(III)I"⟩
abbrev cX4_weigh : ByteArray := prog_6_method_30_code
def yX4_weigh : MethodName := ⟨RX4, "weigh", "(II)V"⟩
abbrev cX4_minutesLeft : ByteArray := prog_6_method_31_code
def yX4_minutesLeft : MethodName := ⟨RX4, "minutesLeft", "()I"⟩
abbrev cX4_nextRoad : ByteArray := prog_6_method_32_code
def yX4_nextRoad : MethodName := ⟨RX4, "nextRoad", "()I"⟩
abbrev cX4_way : ByteArray := prog_6_method_33_code
def yX4_way : MethodName := ⟨RX4, "way", "(I)I"⟩
abbrev cX4_first : ByteArray := prog_6_method_34_code
def yX4_first : MethodName := ⟨RX4, "first", "(I)I"⟩
abbrev cX4_wayToSide : ByteArray := prog_6_method_35_code
def yX4_wayToSide : MethodName := ⟨RX4, "wayToSide", "(II)I"⟩
abbrev cX4_firstToSide : ByteArray := prog_6_method_36_code
def yX4_firstToSide : MethodName := ⟨RX4, "firstToSide", "(II)I"⟩
abbrev cX4_nextSide : ByteArray := prog_6_method_37_code
def yX4_nextSide : MethodName := ⟨RX4, "nextSide", "()I"⟩
abbrev cX4_next : ByteArray := prog_6_method_38_code
def yX4_next : MethodName := ⟨RX4, "next", "()I"⟩
abbrev cX4_nearestStore : ByteArray := prog_6_method_39_code
def yX4_nearestStore : MethodName := ⟨RX4, "nearestStore", "()I"⟩
abbrev cX4_follow : ByteArray := prog_6_method_40_code
def yX4_follow : MethodName := ⟨RX4, "follow", "(II)I"⟩
abbrev cX4_clear : ByteArray := prog_6_method_41_code
def yX4_clear : MethodName := ⟨RX4, "clear", "(I)I"⟩
abbrev cX4_total : ByteArray := prog_6_method_42_code
def yX4_total : MethodName := ⟨RX4, "total", "(I)J"⟩
abbrev cX4_digest : ByteArray := prog_6_method_43_code
def yX4_digest : MethodName := ⟨RX4, "digest", "()J"⟩
def RJ9 : String := "java/lang/Math"
def TJ9 : u_T := fun k => match k with
  | _ => ("", "", "", false)
def tyJ9 : Nat → FieldType := fun k => match k with
  | _ => .int
abbrev wsJ90 : List Cond := u_ws RJ9 TJ9 0
theorem nmJ9 : ∀ a, a < 0 → ∀ b, b < 0 → a ≠ b → (TJ9 a).2.1 ≠ (TJ9 b).2.1 := by decide +kernel
theorem tyJ9_ok : ∀ k, k < 0 → parseFieldDescriptor (TJ9 k).2.2.1 = some (tyJ9 k) := by decide +kernel
abbrev cJ9_max_7cf53 : ByteArray := prog_11_method_65_code
def yJ9_max_7cf53 : MethodName := ⟨RJ9, "max", "(II)I"⟩
abbrev cJ9_min_7cf53 : ByteArray := prog_11_method_69_code
def yJ9_min_7cf53 : MethodName := ⟨RJ9, "min", "(II)I"⟩
def RJ0 : String := "java/lang/String"
def TJ0 : u_T := fun k => match k with
  | _ => ("", "", "", false)
def tyJ0 : Nat → FieldType := fun k => match k with
  | _ => .int
abbrev wsJ00 : List Cond := u_ws RJ0 TJ0 0
theorem nmJ0 : ∀ a, a < 0 → ∀ b, b < 0 → a ≠ b → (TJ0 a).2.1 ≠ (TJ0 b).2.1 := by decide +kernel
theorem tyJ0_ok : ∀ k, k < 0 → parseFieldDescriptor (TJ0 k).2.2.1 = some (tyJ0 k) := by decide +kernel
def RL : String := "PloughPlannerLaw"
abbrev cL_addNode : ByteArray := method_3_code
def yL_addNode : MethodName := ⟨RL, "addNode", "(LPloughPlanner;ZZ[J)I"⟩
abbrev cL_setNode : ByteArray := method_4_code
def yL_setNode : MethodName := ⟨RL, "setNode", "(LPloughPlanner;IZZ[J)I"⟩
abbrev cL_addRoad : ByteArray := method_5_code
def yL_addRoad : MethodName := ⟨RL, "addRoad", "(LPloughPlanner;IIII[J)I"⟩
abbrev cL_snow : ByteArray := method_6_code
def yL_snow : MethodName := ⟨RL, "snow", "(LPloughPlanner;I[J)I"⟩
abbrev cL_depth : ByteArray := method_7_code
def yL_depth : MethodName := ⟨RL, "depth", "(LPloughPlanner;II[J)I"⟩
abbrev cL_isSalted : ByteArray := method_8_code
def yL_isSalted : MethodName := ⟨RL, "isSalted", "(LPloughPlanner;II[J)I"⟩
abbrev cL_worst : ByteArray := method_9_code
def yL_worst : MethodName := ⟨RL, "worst", "(LPloughPlanner;I[J)I"⟩
abbrev cL_reach : ByteArray := method_10_code
def yL_reach : MethodName := ⟨RL, "reach", "(LPloughPlanner;I[J)I"⟩
abbrev cL_go : ByteArray := method_11_code
def yL_go : MethodName := ⟨RL, "go", "(LPloughPlanner;I[J)I"⟩
abbrev cL_fill : ByteArray := method_12_code
def yL_fill : MethodName := ⟨RL, "fill", "(LPloughPlanner;[J)I"⟩
abbrev cL_plough : ByteArray := method_13_code
def yL_plough : MethodName := ⟨RL, "plough", "(LPloughPlanner;I[J)I"⟩
abbrev cL_way : ByteArray := method_14_code
def yL_way : MethodName := ⟨RL, "way", "(LPloughPlanner;I[J)I"⟩
abbrev cL_first : ByteArray := method_15_code
def yL_first : MethodName := ⟨RL, "first", "(LPloughPlanner;I[J)I"⟩
abbrev cL_wayToSide : ByteArray := method_16_code
def yL_wayToSide : MethodName := ⟨RL, "wayToSide", "(LPloughPlanner;II[J)I"⟩
abbrev cL_firstToSide : ByteArray := method_17_code
def yL_firstToSide : MethodName := ⟨RL, "firstToSide", "(LPloughPlanner;II[J)I"⟩
abbrev cL_clear : ByteArray := method_18_code
def yL_clear : MethodName := ⟨RL, "clear", "(LPloughPlanner;I[J)I"⟩
abbrev cL_total : ByteArray := method_19_code
def yL_total : MethodName := ⟨RL, "total", "(LPloughPlanner;I[J)I"⟩
abbrev cL_law : ByteArray := code
def yL_law : MethodName := ⟨RL, "law", "([I)Z"⟩
abbrev vwCl : List vw_C := [(RX0, TX0, 9), (RX1, TX1, 9), (RX2, TX2, 7), (RX3, TX3, 3), (RX4, TX4, 18)]
end
section
/-! 04: every int of the walk is iI z, z an Int -/
def iI (z : Int) : Int32 := Int32.ofInt z
theorem iI_t {z : Int} (h : -2147483648 ≤ z ∧ z < 2147483648) : (iI z).toInt = z := Int32.toInt_ofInt_of_le (by omega) (by omega)
theorem iI_of (x : Int32) : ∃ z : Int, (-2147483648 ≤ z ∧ z < 2147483648) ∧ x = iI z := ⟨x.toInt, ⟨by have := x.le_toInt; omega, by have := x.toInt_lt; omega⟩, (Int32.ofInt_toInt x).symm⟩
theorem iI_add (a b : Int) : iI a + iI b = iI (a + b) := (Int32.ofInt_add a b).symm
theorem iI_sub (a b : Int) : iI a - iI b = iI (a - b) := (Int32.ofInt_sub a b).symm
theorem iI_mul (a b : Int) : iI a * iI b = iI (a * b) := (Int32.ofInt_mul a b).symm
theorem iI_nat (n : Nat) : iI (n : Int) = nI n := Int32.ofInt_eq_ofNat
theorem iI_0 : (0 : Int32) = iI 0 := by decide
theorem iI_lt {a b : Int} (h : (-2147483648 ≤ a ∧ a < 2147483648) ∧ (-2147483648 ≤ b ∧ b < 2147483648)) : iI a < iI b ↔ a < b := by rw [Int32.lt_iff_toInt_lt, iI_t h.1, iI_t h.2]
theorem iI_le {a b : Int} (h : (-2147483648 ≤ a ∧ a < 2147483648) ∧ (-2147483648 ≤ b ∧ b < 2147483648)) : iI a ≤ iI b ↔ a ≤ b := by rw [Int32.le_iff_toInt_le, iI_t h.1, iI_t h.2]
theorem iI_eq {a b : Int} (h : (-2147483648 ≤ a ∧ a < 2147483648) ∧ (-2147483648 ≤ b ∧ b < 2147483648)) : iI a = iI b ↔ a = b := by rw [← Int32.toInt_inj, iI_t h.1, iI_t h.2]
theorem iI_cl {z : Int} {k : Nat} (hk : z = (k : Int)) (h : k < 2147483648) : (iI z).toNatClampNeg = k := by
  subst hk; rw [iI_nat]; exact nI_clamp (by omega)
theorem iI_in {z : Int} {k n : Nat} (hk : z = (k : Int)) (h : k < n) (hn : n < 2147483648) : vp_in (iI z) n := by
  subst hk; rw [iI_nat]; exact vp_in_nI h (by omega)
theorem iI_divN {a b : Nat} (ha : a < 2147483648) (h0 : 0 < b) (hb : b < 2147483648) : iI (a : Int) / iI (b : Int) = iI ((a : Int) / (b : Int)) := by
  rw [iI_nat, iI_nat, pk_div (by omega) h0 (by omega), ← iI_nat, Int.natCast_ediv]
theorem iI_div {x y : Int} (h : 0 ≤ x ∧ x < 2147483648 ∧ 0 < y ∧ y < 2147483648) : iI x / iI y = iI (x / y) := by
  obtain ⟨h1, h2, h3, h4⟩ := h
  obtain ⟨a, rfl⟩ := Int.eq_ofNat_of_zero_le h1
  obtain ⟨b, rfl⟩ := Int.eq_ofNat_of_zero_le (Int.le_of_lt h3)
  exact iI_divN (by omega) (by omega) (by omega)
theorem iI_shl {k : Nat} (hk : k < 31) : iI 1 <<< (iI (k : Int) &&& 31) = iI ((2 ^ k : Nat) : Int) := by
  have : ∀ j : Fin 31, iI 1 <<< (iI ((j.val : Nat) : Int) &&& 31) = iI ((2 ^ j.val : Nat) : Int) := by decide
  exact this ⟨k, hk⟩
theorem iI_or (a b : Nat) : iI (a : Int) ||| iI (b : Int) = iI ((a ||| b : Nat) : Int) := by
  rw [iI_nat, iI_nat, iI_nat]; unfold nI; apply Int32.toBitVec.inj; simp
theorem iI_and (a b : Nat) : iI (a : Int) &&& iI (b : Int) = iI ((a &&& b : Nat) : Int) := by
  rw [iI_nat, iI_nat, iI_nat]; unfold nI; apply Int32.toBitVec.inj; simp
theorem iI_xor (a b : Nat) : iI (a : Int) ^^^ iI (b : Int) = iI ((a ^^^ b : Nat) : Int) := by
  rw [iI_nat, iI_nat, iI_nat]; unfold nI; apply Int32.toBitVec.inj; simp
theorem iI_shr {a k : Nat} (ha : a < 2147483648) (hk : k < 31) : iI (a : Int) >>> (iI (k : Int) &&& 31) = iI ((a / 2 ^ k : Nat) : Int) := by
  have hs : ∀ j : Fin 31, ((iI ((j.val : Nat) : Int) &&& 31).toBitVec.smod 32).toNat = j.val := by decide
  rw [iI_nat a, iI_nat (a / 2 ^ k)]
  exact pk_shrN (by omega) _ k (hs ⟨k, hk⟩)
/-- the other side of the same road -/
def op (k : Nat) : Nat := if k % 2 = 0 then k + 1 else k - 1
theorem iI_op {k : Nat} (h : k < 32) : iI (k : Int) ^^^ iI 1 = iI ((op k : Nat) : Int) := by
  have : ∀ j : Fin 32, iI ((j.val : Nat) : Int) ^^^ iI 1 = iI ((op j.val : Nat) : Int) := by decide
  exact this ⟨k, h⟩
/-- a truth value as an int -/
def bP (P : Prop) [Decidable P] : Int := if P then 1 else 0
theorem bP_t {P : Prop} [Decidable P] (h : P) : bP P = 1 := if_pos h
theorem bP_f {P : Prop} [Decidable P] (h : ¬ P) : bP P = 0 := if_neg h
theorem bP_01 (P : Prop) [Decidable P] : 0 ≤ bP P ∧ bP P ≤ 1 := by unfold bP; split <;> omega
theorem bP_eq {P Q : Prop} [Decidable P] [Decidable Q] (h : P ↔ Q) : bP P = bP Q := by unfold bP; simp only [h]
theorem bP_0 {P : Prop} [Decidable P] : iI (bP P) = 0 ↔ ¬ P := by
  unfold bP; split
  · rename_i h; exact ⟨fun q => absurd q (by decide), fun q => absurd h q⟩
  · rename_i h; exact ⟨fun _ => h, fun _ => by decide⟩
/-- one place of a row -/
def up {α : Type} (f : Nat → α) (k : Nat) (x : α) : Nat → α := fun j => if j = k then x else f j
theorem up_s {α : Type} (f : Nat → α) (k : Nat) (x : α) : up f k x k = x := if_pos rfl
theorem up_n {α : Type} (f : Nat → α) {k j : Nat} (x : α) (h : j ≠ k) : up f k x j = f j := if_neg h
/-- a row of naturals, and of ints, as a row of the machine -/
def cF (f : Nat → Nat) : Nat → Int32 := fun k => iI (f k)
def cZ (f : Nat → Int) : Nat → Int32 := fun k => iI (f k)
theorem cF_up (f : Nat → Nat) {z : Int} {k : Nat} {y : Int} {x : Nat} (hk : z = (k : Int)) (h : k < 2147483648) (hx : y = (x : Int)) : upd (cF f) (iI z).toNatClampNeg (iI y) = cF (up f k x) := by
  rw [iI_cl hk h]; subst hx; funext j; unfold upd cF up; split <;> rfl
theorem cZ_up (f : Nat → Int) {z : Int} {k : Nat} {x : Int} (hk : z = (k : Int)) (h : k < 2147483648) : upd (cZ f) (iI z).toNatClampNeg (iI x) = cZ (up f k x) := by
  rw [iI_cl hk h]; funext j; unfold upd cZ up; split <;> rfl
theorem nar_b {y : Int} (h : 0 ≤ y ∧ y ≤ 1) : vp_nar .boolean (iI y) = iI y := by
  rcases (show y = 0 ∨ y = 1 by omega) with rfl | rfl <;> decide
theorem nar_b2 {y : Int} (h : 0 ≤ y ∧ y ≤ 1) : narrow .boolean (.int (iI y)) = .int (iI y) := by
  rcases (show y = 0 ∨ y = 1 by omega) with rfl | rfl <;> decide
theorem fit_b2 {y : Int} (h : 0 ≤ y ∧ y ≤ 1) : fits .boolean (.int (iI y)) = true := by
  rcases (show y = 0 ∨ y = 1 by omega) with rfl | rfl <;> decide
section LI
variable {p : Program} {l : Launch} {e : Env} {R : Room} {s : State} {m : MethodId} {args : Array Value} {below : List Frame} {meth : Method} {c : Code} {H : Heap} {locs : List Loc} {cells slots : Nat} {Q : State → Prop}
variable {cc : ByteArray} {pc : Nat} {ls : Array Slot} {rest : List Value}
theorem li_c (hx : p.tables.exec = Jvm.exec) (hb : c.code = cc) {n : Int} (hdg : decode cc pc = .ok (.iconst n, 1)) (k : W p l e R s m args below meth c H locs cells slots Q (F0 m (pc + 1) ls (.int (iI n) :: rest))) : W p l e R s m args below meth c H locs cells slots Q (F0 m pc ls (rest)) := lv_iconst hx hb hdg rfl k
theorem li_bi (hx : p.tables.exec = Jvm.exec) (hb : c.code = cc) {n : Int} (hdg : decode cc pc = .ok (.bipush n, 2)) (hv : (Int8.ofInt n).toInt32 = iI n) (k : W p l e R s m args below meth c H locs cells slots Q (F0 m (pc + 2) ls (.int (iI n) :: rest))) : W p l e R s m args below meth c H locs cells slots Q (F0 m pc ls (rest)) := lv_bipush hx hb hdg hv k
theorem li_si (hx : p.tables.exec = Jvm.exec) (hb : c.code = cc) {n : Int} (hdg : decode cc pc = .ok (.sipush n, 3)) (hv : (Int16.ofInt n).toInt32 = iI n) (k : W p l e R s m args below meth c H locs cells slots Q (F0 m (pc + 3) ls (.int (iI n) :: rest))) : W p l e R s m args below meth c H locs cells slots Q (F0 m pc ls (rest)) := lv_sipush hx hb hdg hv k
theorem li_ldc (hx : p.tables.exec = Jvm.exec) (hb : c.code = cc) {own : String} {index : Nat} {v : Int32} {n : Int} (hown : s.vm.findClass own = some m.cls) (hconst : (Jvm.Cond.constant own index v).before args s = true) (hv : v = iI n) (hdg : decode cc pc = .ok (.ldc index, 2)) (k : W p l e R s m args below meth c H locs cells slots Q (F0 m (pc + 2) ls (.int (iI n) :: rest))) : W p l e R s m args below meth c H locs cells slots Q (F0 m pc ls (rest)) := by subst hv; exact lv_ldc hx hb hown hconst hdg k
theorem li_add (hx : p.tables.exec = Jvm.exec) (hb : c.code = cc) {a b : Int} (hdg : decode cc pc = .ok (.iadd, 1)) (k : W p l e R s m args below meth c H locs cells slots Q (F0 m (pc + 1) ls (.int (iI (a + b)) :: rest))) : W p l e R s m args below meth c H locs cells slots Q (F0 m pc ls (.int (iI b) :: .int (iI a) :: rest)) := lv_iadd hx hb hdg (by rw [iI_add]; exact k)
theorem li_sub (hx : p.tables.exec = Jvm.exec) (hb : c.code = cc) {a b : Int} (hdg : decode cc pc = .ok (.isub, 1)) (k : W p l e R s m args below meth c H locs cells slots Q (F0 m (pc + 1) ls (.int (iI (a - b)) :: rest))) : W p l e R s m args below meth c H locs cells slots Q (F0 m pc ls (.int (iI b) :: .int (iI a) :: rest)) := lv_isub hx hb hdg (by rw [iI_sub]; exact k)
theorem li_mul (hx : p.tables.exec = Jvm.exec) (hb : c.code = cc) {a b : Int} (hdg : decode cc pc = .ok (.imul, 1)) (k : W p l e R s m args below meth c H locs cells slots Q (F0 m (pc + 1) ls (.int (iI (a * b)) :: rest))) : W p l e R s m args below meth c H locs cells slots Q (F0 m pc ls (.int (iI b) :: .int (iI a) :: rest)) := lv_imul hx hb hdg (by rw [iI_mul]; exact k)
theorem li_div (hx : p.tables.exec = Jvm.exec) (hb : c.code = cc) {a b : Int} (hdg : decode cc pc = .ok (.idiv, 1)) (h : 0 ≤ a ∧ a < 2147483648 ∧ 0 < b ∧ b < 2147483648) (k : W p l e R s m args below meth c H locs cells slots Q (F0 m (pc + 1) ls (.int (iI (a / b)) :: rest))) : W p l e R s m args below meth c H locs cells slots Q (F0 m pc ls (.int (iI b) :: .int (iI a) :: rest)) := lv_idiv hx hb hdg (fun q => by rw [iI_0, iI_eq ⟨⟨by omega, by omega⟩, ⟨by omega, by omega⟩⟩] at q; omega) (by rw [iI_div h]; exact k)
theorem li_shl1 (hx : p.tables.exec = Jvm.exec) (hb : c.code = cc) {b : Int} {k0 : Nat} (hdg : decode cc pc = .ok (.ishl, 1)) (h1 : b = (k0 : Int)) (h2 : k0 < 31) (k : W p l e R s m args below meth c H locs cells slots Q (F0 m (pc + 1) ls (.int (iI ((2 ^ k0 : Nat) : Int)) :: rest))) : W p l e R s m args below meth c H locs cells slots Q (F0 m pc ls (.int (iI b) :: .int (iI 1) :: rest)) := by subst h1; exact lv_ishl hx hb hdg (by rw [iI_shl h2]; exact k)
theorem li_shr (hx : p.tables.exec = Jvm.exec) (hb : c.code = cc) {a b : Int} {a0 k0 : Nat} (hdg : decode cc pc = .ok (.ishr, 1)) (h0 : a = (a0 : Int)) (h1 : b = (k0 : Int)) (h2 : a0 < 2147483648 ∧ k0 < 31) (k : W p l e R s m args below meth c H locs cells slots Q (F0 m (pc + 1) ls (.int (iI ((a0 / 2 ^ k0 : Nat) : Int)) :: rest))) : W p l e R s m args below meth c H locs cells slots Q (F0 m pc ls (.int (iI b) :: .int (iI a) :: rest)) := by subst h0; subst h1; exact lv_ishr hx hb hdg (by rw [iI_shr h2.1 h2.2]; exact k)
theorem li_or (hx : p.tables.exec = Jvm.exec) (hb : c.code = cc) {a b : Int} {a0 b0 : Nat} (hdg : decode cc pc = .ok (.ior, 1)) (h0 : a = (a0 : Int)) (h1 : b = (b0 : Int)) (k : W p l e R s m args below meth c H locs cells slots Q (F0 m (pc + 1) ls (.int (iI ((a0 ||| b0 : Nat) : Int)) :: rest))) : W p l e R s m args below meth c H locs cells slots Q (F0 m pc ls (.int (iI b) :: .int (iI a) :: rest)) := by subst h0; subst h1; exact lv_ior hx hb hdg (by rw [iI_or]; exact k)
theorem li_and (hx : p.tables.exec = Jvm.exec) (hb : c.code = cc) {a b : Int} {a0 b0 : Nat} (hdg : decode cc pc = .ok (.iand, 1)) (h0 : a = (a0 : Int)) (h1 : b = (b0 : Int)) (k : W p l e R s m args below meth c H locs cells slots Q (F0 m (pc + 1) ls (.int (iI ((a0 &&& b0 : Nat) : Int)) :: rest))) : W p l e R s m args below meth c H locs cells slots Q (F0 m pc ls (.int (iI b) :: .int (iI a) :: rest)) := by subst h0; subst h1; exact lv_iand hx hb hdg (by rw [iI_and]; exact k)
theorem li_op (hx : p.tables.exec = Jvm.exec) (hb : c.code = cc) {a : Int} {k0 : Nat} (hdg : decode cc pc = .ok (.ixor, 1)) (h0 : a = (k0 : Int)) (h1 : k0 < 32) (k : W p l e R s m args below meth c H locs cells slots Q (F0 m (pc + 1) ls (.int (iI ((op k0 : Nat) : Int)) :: rest))) : W p l e R s m args below meth c H locs cells slots Q (F0 m pc ls (.int (iI 1) :: .int (iI a) :: rest)) := by subst h0; exact lv_ixor hx hb hdg (by rw [iI_op h1]; exact k)
theorem li_icmp_eq (hx : p.tables.exec = Jvm.exec) (hb : c.code = cc) {a b : Int} {off : Int} {tgt : Nat} (hdg : decode cc pc = .ok (.if_icmp .eq off, 3)) (ht : (pc : Int) + off = (tgt : Int)) (hr : ((-2147483648 ≤ a ∧ a < 2147483648) ∧ (-2147483648 ≤ b ∧ b < 2147483648))) (kt : a = b → W p l e R s m args below meth c H locs cells slots Q (F0 m tgt ls (rest))) (kf : ¬ a = b → W p l e R s m args below meth c H locs cells slots Q (F0 m (pc + 3) ls (rest))) : W p l e R s m args below meth c H locs cells slots Q (F0 m pc ls (.int (iI b) :: .int (iI a) :: rest)) := lv_icmp_eq hx hb hdg ht (fun q => kt (by simp only [GE.ge, GT.gt, Int32.not_lt, Int32.not_le, iI_eq hr, iI_lt hr, iI_le hr, iI_lt hr.symm, iI_le hr.symm] at q; omega)) (fun q => kf (by simp only [GE.ge, GT.gt, Int32.not_lt, Int32.not_le, iI_eq hr, iI_lt hr, iI_le hr, iI_lt hr.symm, iI_le hr.symm] at q; omega))
theorem li_if_eq (hx : p.tables.exec = Jvm.exec) (hb : c.code = cc) {a : Int} {off : Int} {tgt : Nat} (hdg : decode cc pc = .ok (.ifCond .eq off, 3)) (ht : (pc : Int) + off = (tgt : Int)) (hr : (-2147483648 ≤ a ∧ a < 2147483648)) (kt : a = 0 → W p l e R s m args below meth c H locs cells slots Q (F0 m tgt ls (rest))) (kf : ¬ a = 0 → W p l e R s m args below meth c H locs cells slots Q (F0 m (pc + 3) ls (rest))) : W p l e R s m args below meth c H locs cells slots Q (F0 m pc ls (.int (iI a) :: rest)) := by
  have hr2 : ((-2147483648 ≤ a ∧ a < 2147483648) ∧ (-2147483648 ≤ (0 : Int) ∧ (0 : Int) < 2147483648)) := ⟨hr, by omega⟩
  exact lv_if_eq hx hb hdg ht (fun q => kt (by simp only [iI_0, GE.ge, GT.gt, Int32.not_lt, Int32.not_le, iI_eq hr2, iI_lt hr2, iI_le hr2, iI_lt hr2.symm, iI_le hr2.symm] at q; omega)) (fun q => kf (by simp only [iI_0, GE.ge, GT.gt, Int32.not_lt, Int32.not_le, iI_eq hr2, iI_lt hr2, iI_le hr2, iI_lt hr2.symm, iI_le hr2.symm] at q; omega))
theorem li_icmp_ne (hx : p.tables.exec = Jvm.exec) (hb : c.code = cc) {a b : Int} {off : Int} {tgt : Nat} (hdg : decode cc pc = .ok (.if_icmp .ne off, 3)) (ht : (pc : Int) + off = (tgt : Int)) (hr : ((-2147483648 ≤ a ∧ a < 2147483648) ∧ (-2147483648 ≤ b ∧ b < 2147483648))) (kt : ¬ a = b → W p l e R s m args below meth c H locs cells slots Q (F0 m tgt ls (rest))) (kf : a = b → W p l e R s m args below meth c H locs cells slots Q (F0 m (pc + 3) ls (rest))) : W p l e R s m args below meth c H locs cells slots Q (F0 m pc ls (.int (iI b) :: .int (iI a) :: rest)) := lv_icmp_ne hx hb hdg ht (fun q => kt (by simp only [GE.ge, GT.gt, Int32.not_lt, Int32.not_le, iI_eq hr, iI_lt hr, iI_le hr, iI_lt hr.symm, iI_le hr.symm] at q; omega)) (fun q => kf (by simp only [GE.ge, GT.gt, Int32.not_lt, Int32.not_le, iI_eq hr, iI_lt hr, iI_le hr, iI_lt hr.symm, iI_le hr.symm] at q; omega))
theorem li_if_ne (hx : p.tables.exec = Jvm.exec) (hb : c.code = cc) {a : Int} {off : Int} {tgt : Nat} (hdg : decode cc pc = .ok (.ifCond .ne off, 3)) (ht : (pc : Int) + off = (tgt : Int)) (hr : (-2147483648 ≤ a ∧ a < 2147483648)) (kt : ¬ a = 0 → W p l e R s m args below meth c H locs cells slots Q (F0 m tgt ls (rest))) (kf : a = 0 → W p l e R s m args below meth c H locs cells slots Q (F0 m (pc + 3) ls (rest))) : W p l e R s m args below meth c H locs cells slots Q (F0 m pc ls (.int (iI a) :: rest)) := by
  have hr2 : ((-2147483648 ≤ a ∧ a < 2147483648) ∧ (-2147483648 ≤ (0 : Int) ∧ (0 : Int) < 2147483648)) := ⟨hr, by omega⟩
  exact lv_if_ne hx hb hdg ht (fun q => kt (by simp only [iI_0, GE.ge, GT.gt, Int32.not_lt, Int32.not_le, iI_eq hr2, iI_lt hr2, iI_le hr2, iI_lt hr2.symm, iI_le hr2.symm] at q; omega)) (fun q => kf (by simp only [iI_0, GE.ge, GT.gt, Int32.not_lt, Int32.not_le, iI_eq hr2, iI_lt hr2, iI_le hr2, iI_lt hr2.symm, iI_le hr2.symm] at q; omega))
theorem li_icmp_lt (hx : p.tables.exec = Jvm.exec) (hb : c.code = cc) {a b : Int} {off : Int} {tgt : Nat} (hdg : decode cc pc = .ok (.if_icmp .lt off, 3)) (ht : (pc : Int) + off = (tgt : Int)) (hr : ((-2147483648 ≤ a ∧ a < 2147483648) ∧ (-2147483648 ≤ b ∧ b < 2147483648))) (kt : a < b → W p l e R s m args below meth c H locs cells slots Q (F0 m tgt ls (rest))) (kf : b ≤ a → W p l e R s m args below meth c H locs cells slots Q (F0 m (pc + 3) ls (rest))) : W p l e R s m args below meth c H locs cells slots Q (F0 m pc ls (.int (iI b) :: .int (iI a) :: rest)) := lv_icmp_lt hx hb hdg ht (fun q => kt (by simp only [GE.ge, GT.gt, Int32.not_lt, Int32.not_le, iI_eq hr, iI_lt hr, iI_le hr, iI_lt hr.symm, iI_le hr.symm] at q; omega)) (fun q => kf (by simp only [GE.ge, GT.gt, Int32.not_lt, Int32.not_le, iI_eq hr, iI_lt hr, iI_le hr, iI_lt hr.symm, iI_le hr.symm] at q; omega))
theorem li_if_lt (hx : p.tables.exec = Jvm.exec) (hb : c.code = cc) {a : Int} {off : Int} {tgt : Nat} (hdg : decode cc pc = .ok (.ifCond .lt off, 3)) (ht : (pc : Int) + off = (tgt : Int)) (hr : (-2147483648 ≤ a ∧ a < 2147483648)) (kt : a < 0 → W p l e R s m args below meth c H locs cells slots Q (F0 m tgt ls (rest))) (kf : 0 ≤ a → W p l e R s m args below meth c H locs cells slots Q (F0 m (pc + 3) ls (rest))) : W p l e R s m args below meth c H locs cells slots Q (F0 m pc ls (.int (iI a) :: rest)) := by
  have hr2 : ((-2147483648 ≤ a ∧ a < 2147483648) ∧ (-2147483648 ≤ (0 : Int) ∧ (0 : Int) < 2147483648)) := ⟨hr, by omega⟩
  exact lv_if_lt hx hb hdg ht (fun q => kt (by simp only [iI_0, GE.ge, GT.gt, Int32.not_lt, Int32.not_le, iI_eq hr2, iI_lt hr2, iI_le hr2, iI_lt hr2.symm, iI_le hr2.symm] at q; omega)) (fun q => kf (by simp only [iI_0, GE.ge, GT.gt, Int32.not_lt, Int32.not_le, iI_eq hr2, iI_lt hr2, iI_le hr2, iI_lt hr2.symm, iI_le hr2.symm] at q; omega))
theorem li_icmp_ge (hx : p.tables.exec = Jvm.exec) (hb : c.code = cc) {a b : Int} {off : Int} {tgt : Nat} (hdg : decode cc pc = .ok (.if_icmp .ge off, 3)) (ht : (pc : Int) + off = (tgt : Int)) (hr : ((-2147483648 ≤ a ∧ a < 2147483648) ∧ (-2147483648 ≤ b ∧ b < 2147483648))) (kt : b ≤ a → W p l e R s m args below meth c H locs cells slots Q (F0 m tgt ls (rest))) (kf : a < b → W p l e R s m args below meth c H locs cells slots Q (F0 m (pc + 3) ls (rest))) : W p l e R s m args below meth c H locs cells slots Q (F0 m pc ls (.int (iI b) :: .int (iI a) :: rest)) := lv_icmp_ge hx hb hdg ht (fun q => kt (by simp only [GE.ge, GT.gt, Int32.not_lt, Int32.not_le, iI_eq hr, iI_lt hr, iI_le hr, iI_lt hr.symm, iI_le hr.symm] at q; omega)) (fun q => kf (by simp only [GE.ge, GT.gt, Int32.not_lt, Int32.not_le, iI_eq hr, iI_lt hr, iI_le hr, iI_lt hr.symm, iI_le hr.symm] at q; omega))
theorem li_if_ge (hx : p.tables.exec = Jvm.exec) (hb : c.code = cc) {a : Int} {off : Int} {tgt : Nat} (hdg : decode cc pc = .ok (.ifCond .ge off, 3)) (ht : (pc : Int) + off = (tgt : Int)) (hr : (-2147483648 ≤ a ∧ a < 2147483648)) (kt : 0 ≤ a → W p l e R s m args below meth c H locs cells slots Q (F0 m tgt ls (rest))) (kf : a < 0 → W p l e R s m args below meth c H locs cells slots Q (F0 m (pc + 3) ls (rest))) : W p l e R s m args below meth c H locs cells slots Q (F0 m pc ls (.int (iI a) :: rest)) := by
  have hr2 : ((-2147483648 ≤ a ∧ a < 2147483648) ∧ (-2147483648 ≤ (0 : Int) ∧ (0 : Int) < 2147483648)) := ⟨hr, by omega⟩
  exact lv_if_ge hx hb hdg ht (fun q => kt (by simp only [iI_0, GE.ge, GT.gt, Int32.not_lt, Int32.not_le, iI_eq hr2, iI_lt hr2, iI_le hr2, iI_lt hr2.symm, iI_le hr2.symm] at q; omega)) (fun q => kf (by simp only [iI_0, GE.ge, GT.gt, Int32.not_lt, Int32.not_le, iI_eq hr2, iI_lt hr2, iI_le hr2, iI_lt hr2.symm, iI_le hr2.symm] at q; omega))
theorem li_icmp_gt (hx : p.tables.exec = Jvm.exec) (hb : c.code = cc) {a b : Int} {off : Int} {tgt : Nat} (hdg : decode cc pc = .ok (.if_icmp .gt off, 3)) (ht : (pc : Int) + off = (tgt : Int)) (hr : ((-2147483648 ≤ a ∧ a < 2147483648) ∧ (-2147483648 ≤ b ∧ b < 2147483648))) (kt : b < a → W p l e R s m args below meth c H locs cells slots Q (F0 m tgt ls (rest))) (kf : a ≤ b → W p l e R s m args below meth c H locs cells slots Q (F0 m (pc + 3) ls (rest))) : W p l e R s m args below meth c H locs cells slots Q (F0 m pc ls (.int (iI b) :: .int (iI a) :: rest)) := lv_icmp_gt hx hb hdg ht (fun q => kt (by simp only [GE.ge, GT.gt, Int32.not_lt, Int32.not_le, iI_eq hr, iI_lt hr, iI_le hr, iI_lt hr.symm, iI_le hr.symm] at q; omega)) (fun q => kf (by simp only [GE.ge, GT.gt, Int32.not_lt, Int32.not_le, iI_eq hr, iI_lt hr, iI_le hr, iI_lt hr.symm, iI_le hr.symm] at q; omega))
theorem li_if_gt (hx : p.tables.exec = Jvm.exec) (hb : c.code = cc) {a : Int} {off : Int} {tgt : Nat} (hdg : decode cc pc = .ok (.ifCond .gt off, 3)) (ht : (pc : Int) + off = (tgt : Int)) (hr : (-2147483648 ≤ a ∧ a < 2147483648)) (kt : 0 < a → W p l e R s m args below meth c H locs cells slots Q (F0 m tgt ls (rest))) (kf : a ≤ 0 → W p l e R s m args below meth c H locs cells slots Q (F0 m (pc + 3) ls (rest))) : W p l e R s m args below meth c H locs cells slots Q (F0 m pc ls (.int (iI a) :: rest)) := by
  have hr2 : ((-2147483648 ≤ a ∧ a < 2147483648) ∧ (-2147483648 ≤ (0 : Int) ∧ (0 : Int) < 2147483648)) := ⟨hr, by omega⟩
  exact lv_if_gt hx hb hdg ht (fun q => kt (by simp only [iI_0, GE.ge, GT.gt, Int32.not_lt, Int32.not_le, iI_eq hr2, iI_lt hr2, iI_le hr2, iI_lt hr2.symm, iI_le hr2.symm] at q; omega)) (fun q => kf (by simp only [iI_0, GE.ge, GT.gt, Int32.not_lt, Int32.not_le, iI_eq hr2, iI_lt hr2, iI_le hr2, iI_lt hr2.symm, iI_le hr2.symm] at q; omega))
theorem li_icmp_le (hx : p.tables.exec = Jvm.exec) (hb : c.code = cc) {a b : Int} {off : Int} {tgt : Nat} (hdg : decode cc pc = .ok (.if_icmp .le off, 3)) (ht : (pc : Int) + off = (tgt : Int)) (hr : ((-2147483648 ≤ a ∧ a < 2147483648) ∧ (-2147483648 ≤ b ∧ b < 2147483648))) (kt : a ≤ b → W p l e R s m args below meth c H locs cells slots Q (F0 m tgt ls (rest))) (kf : b < a → W p l e R s m args below meth c H locs cells slots Q (F0 m (pc + 3) ls (rest))) : W p l e R s m args below meth c H locs cells slots Q (F0 m pc ls (.int (iI b) :: .int (iI a) :: rest)) := lv_icmp_le hx hb hdg ht (fun q => kt (by simp only [GE.ge, GT.gt, Int32.not_lt, Int32.not_le, iI_eq hr, iI_lt hr, iI_le hr, iI_lt hr.symm, iI_le hr.symm] at q; omega)) (fun q => kf (by simp only [GE.ge, GT.gt, Int32.not_lt, Int32.not_le, iI_eq hr, iI_lt hr, iI_le hr, iI_lt hr.symm, iI_le hr.symm] at q; omega))
theorem li_if_le (hx : p.tables.exec = Jvm.exec) (hb : c.code = cc) {a : Int} {off : Int} {tgt : Nat} (hdg : decode cc pc = .ok (.ifCond .le off, 3)) (ht : (pc : Int) + off = (tgt : Int)) (hr : (-2147483648 ≤ a ∧ a < 2147483648)) (kt : a ≤ 0 → W p l e R s m args below meth c H locs cells slots Q (F0 m tgt ls (rest))) (kf : 0 < a → W p l e R s m args below meth c H locs cells slots Q (F0 m (pc + 3) ls (rest))) : W p l e R s m args below meth c H locs cells slots Q (F0 m pc ls (.int (iI a) :: rest)) := by
  have hr2 : ((-2147483648 ≤ a ∧ a < 2147483648) ∧ (-2147483648 ≤ (0 : Int) ∧ (0 : Int) < 2147483648)) := ⟨hr, by omega⟩
  exact lv_if_le hx hb hdg ht (fun q => kt (by simp only [iI_0, GE.ge, GT.gt, Int32.not_lt, Int32.not_le, iI_eq hr2, iI_lt hr2, iI_le hr2, iI_lt hr2.symm, iI_le hr2.symm] at q; omega)) (fun q => kf (by simp only [iI_0, GE.ge, GT.gt, Int32.not_lt, Int32.not_le, iI_eq hr2, iI_lt hr2, iI_le hr2, iI_lt hr2.symm, iI_le hr2.symm] at q; omega))
theorem li_ifb_eq (hx : p.tables.exec = Jvm.exec) (hb : c.code = cc) {P : Prop} [Decidable P] {off : Int} {tgt : Nat} (hdg : decode cc pc = .ok (.ifCond .eq off, 3)) (ht : (pc : Int) + off = (tgt : Int)) (kt : ¬ P → W p l e R s m args below meth c H locs cells slots Q (F0 m tgt ls (rest))) (kf : P → W p l e R s m args below meth c H locs cells slots Q (F0 m (pc + 3) ls (rest))) : W p l e R s m args below meth c H locs cells slots Q (F0 m pc ls (.int (iI (bP P)) :: rest)) := lv_if_eq hx hb hdg ht (fun q => kt (bP_0.mp q)) (fun q => kf (Decidable.not_not.mp (fun h => q (bP_0.mpr h))))
theorem li_ifb_ne (hx : p.tables.exec = Jvm.exec) (hb : c.code = cc) {P : Prop} [Decidable P] {off : Int} {tgt : Nat} (hdg : decode cc pc = .ok (.ifCond .ne off, 3)) (ht : (pc : Int) + off = (tgt : Int)) (kt : P → W p l e R s m args below meth c H locs cells slots Q (F0 m tgt ls (rest))) (kf : ¬ P → W p l e R s m args below meth c H locs cells slots Q (F0 m (pc + 3) ls (rest))) : W p l e R s m args below meth c H locs cells slots Q (F0 m pc ls (.int (iI (bP P)) :: rest)) := lv_if_ne hx hb hdg ht (fun q => kt (Decidable.not_not.mp (fun h => q (bP_0.mpr h)))) (fun q => kf (bP_0.mp q))
theorem li_inc (hx : p.tables.exec = Jvm.exec) (hb : c.code = cc) {i nL k : Nat} {n x v : Int} {lv lv' : List (Nat × Value)} (hdg : decode cc pc = .ok (.iinc i n, 3)) (h : lv_has ls nL lv) (hk : lv[k]? = some (i, .int (iI x))) (hv : x + n = v) (hn : i < nL) (hl : (i, Value.int (iI v)) :: lv.filter (fun q => !(q.1 == i) && !(q.1 + 1 == i && q.2.category == 2)) = lv') (kk : ∀ ls' : Array Slot, lv_has ls' nL lv' → W p l e R s m args below meth c H locs cells slots Q (F0 m (pc + 3) ls' rest)) : W p l e R s m args below meth c H locs cells slots Q (F0 m pc ls rest) := lv_iinc (v := iI v) hx hb hdg h hk (by rw [← hv, ← iI_add]; rfl) hn hl kk
theorem li_max (hx : p.tables.exec = Jvm.exec) (hb : c.code = cc) (hml : c.maxLocals = ls.size) {own : String} {index : Nat} {a b : Int} (hown : s.vm.findClass own = some m.cls) (hlink : (Cond.methodLink own index Lib.Math.max.name).before args s = true) (hstat : (Cond.static Lib.Math.max.name).before args s = true) (hini : (Cond.initialized "java/lang/Math").before args s = true) (hcode : (Cond.code Lib.Math.max.name Lib.Math.max.code 2 (some .int)).before args s = true) (hframes : 1 ≤ R.frames) (hlocals : (rest.map fun v => v.category).sum + 13 ≤ R.locals) (hc : cells ≤ R.cells) (hs : slots ≤ R.slots) (hr : ((-2147483648 ≤ a ∧ a < 2147483648) ∧ (-2147483648 ≤ b ∧ b < 2147483648))) (hdg : decode cc pc = .ok (.invokestatic index, 3)) (k : W p l e R s m args below meth c H locs cells slots Q (F0 m (pc + 3) ls (.int (iI (if a < b then b else a)) :: rest))) : W p l e R s m args below meth c H locs cells slots Q (F0 m pc ls (.int (iI b) :: .int (iI a) :: rest)) := by
  have e : (if iI a < iI b then iI b else iI a) = iI (if a < b then b else a) := by
    by_cases q : a < b <;> simp [iI_lt hr, iI_lt hr.symm, q]
  exact va_mmax hx hb hml hown hlink hstat hini hcode hframes hlocals hc hs hdg (by rw [e]; exact k)
theorem li_min (hx : p.tables.exec = Jvm.exec) (hb : c.code = cc) (hml : c.maxLocals = ls.size) {own : String} {index : Nat} {a b : Int} (hown : s.vm.findClass own = some m.cls) (hlink : (Cond.methodLink own index Lib.Math.min.name).before args s = true) (hstat : (Cond.static Lib.Math.min.name).before args s = true) (hini : (Cond.initialized "java/lang/Math").before args s = true) (hcode : (Cond.code Lib.Math.min.name Lib.Math.min.code 2 (some .int)).before args s = true) (hframes : 1 ≤ R.frames) (hlocals : (rest.map fun v => v.category).sum + 13 ≤ R.locals) (hc : cells ≤ R.cells) (hs : slots ≤ R.slots) (hr : ((-2147483648 ≤ a ∧ a < 2147483648) ∧ (-2147483648 ≤ b ∧ b < 2147483648))) (hdg : decode cc pc = .ok (.invokestatic index, 3)) (k : W p l e R s m args below meth c H locs cells slots Q (F0 m (pc + 3) ls (.int (iI (if b < a then b else a)) :: rest))) : W p l e R s m args below meth c H locs cells slots Q (F0 m pc ls (.int (iI b) :: .int (iI a) :: rest)) := by
  have e : (if iI b < iI a then iI b else iI a) = iI (if b < a then b else a) := by
    by_cases q : b < a <;> simp [iI_lt hr, iI_lt hr.symm, q]
  exact va_mmin hx hb hml hown hlink hstat hini hcode hframes hlocals hc hs hdg (by rw [e]; exact k)
end LI
end
section
/-! 05: what a state of the class, and of the reference, is, and their cells -/
abbrev AD : Type := (Nat → Nat) × (Nat → Nat) × (va_G) × (ClassId) × (ClassId) × (ClassId) × (ClassId)
def AD.a (g : AD) : Nat → Nat := g.1
def AD.w (g : AD) : Nat → Nat := g.2.1
def AD.D (g : AD) : va_G := g.2.2.1
def AD.cI (g : AD) : ClassId := g.2.2.2.1
def AD.cZ (g : AD) : ClassId := g.2.2.2.2.1
def AD.cO (g : AD) : ClassId := g.2.2.2.2.2.1
def AD.cJ (g : AD) : ClassId := g.2.2.2.2.2.2
def AD.a' (g : AD) (x : Nat → Nat) : AD := (x, g.w, g.D, g.cI, g.cZ, g.cO, g.cJ)
def AD.w' (g : AD) (x : Nat → Nat) : AD := (g.a, x, g.D, g.cI, g.cZ, g.cO, g.cJ)
def AD.D' (g : AD) (x : va_G) : AD := (g.a, g.w, x, g.cI, g.cZ, g.cO, g.cJ)
def AD.cI' (g : AD) (x : ClassId) : AD := (g.a, g.w, g.D, x, g.cZ, g.cO, g.cJ)
def AD.cZ' (g : AD) (x : ClassId) : AD := (g.a, g.w, g.D, g.cI, x, g.cO, g.cJ)
def AD.cO' (g : AD) (x : ClassId) : AD := (g.a, g.w, g.D, g.cI, g.cZ, x, g.cJ)
def AD.cJ' (g : AD) (x : ClassId) : AD := (g.a, g.w, g.D, g.cI, g.cZ, g.cO, x)
abbrev GS : Type := (Nat → Nat) × (Nat → Nat) × (Nat → Nat) × (Nat → Nat) × (Nat → Nat) × (Nat → Nat) × (Nat → Nat) × (Nat) × (Nat) × (Nat) × (Int) × (Nat) × (Nat) × (Nat → Int64)
def GS.tu (g : GS) : Nat → Nat := g.1
def GS.st (g : GS) : Nat → Nat := g.2.1
def GS.sm (g : GS) : Nat → Nat := g.2.2.1
def GS.mi (g : GS) : Nat → Nat := g.2.2.2.1
def GS.pr (g : GS) : Nat → Nat := g.2.2.2.2.1
def GS.de (g : GS) : Nat → Nat := g.2.2.2.2.2.1
def GS.sa (g : GS) : Nat → Nat := g.2.2.2.2.2.2.1
def GS.nn (g : GS) : Nat := g.2.2.2.2.2.2.2.1
def GS.rr (g : GS) : Nat := g.2.2.2.2.2.2.2.2.1
def GS.vn (g : GS) : Nat := g.2.2.2.2.2.2.2.2.2.1
def GS.vc (g : GS) : Int := g.2.2.2.2.2.2.2.2.2.2.1
def GS.vs (g : GS) : Nat := g.2.2.2.2.2.2.2.2.2.2.2.1
def GS.vw (g : GS) : Nat := g.2.2.2.2.2.2.2.2.2.2.2.2.1
def GS.tt (g : GS) : Nat → Int64 := g.2.2.2.2.2.2.2.2.2.2.2.2.2
def GS.tu' (g : GS) (x : Nat → Nat) : GS := (x, g.st, g.sm, g.mi, g.pr, g.de, g.sa, g.nn, g.rr, g.vn, g.vc, g.vs, g.vw, g.tt)
def GS.st' (g : GS) (x : Nat → Nat) : GS := (g.tu, x, g.sm, g.mi, g.pr, g.de, g.sa, g.nn, g.rr, g.vn, g.vc, g.vs, g.vw, g.tt)
def GS.sm' (g : GS) (x : Nat → Nat) : GS := (g.tu, g.st, x, g.mi, g.pr, g.de, g.sa, g.nn, g.rr, g.vn, g.vc, g.vs, g.vw, g.tt)
def GS.mi' (g : GS) (x : Nat → Nat) : GS := (g.tu, g.st, g.sm, x, g.pr, g.de, g.sa, g.nn, g.rr, g.vn, g.vc, g.vs, g.vw, g.tt)
def GS.pr' (g : GS) (x : Nat → Nat) : GS := (g.tu, g.st, g.sm, g.mi, x, g.de, g.sa, g.nn, g.rr, g.vn, g.vc, g.vs, g.vw, g.tt)
def GS.de' (g : GS) (x : Nat → Nat) : GS := (g.tu, g.st, g.sm, g.mi, g.pr, x, g.sa, g.nn, g.rr, g.vn, g.vc, g.vs, g.vw, g.tt)
def GS.sa' (g : GS) (x : Nat → Nat) : GS := (g.tu, g.st, g.sm, g.mi, g.pr, g.de, x, g.nn, g.rr, g.vn, g.vc, g.vs, g.vw, g.tt)
def GS.nn' (g : GS) (x : Nat) : GS := (g.tu, g.st, g.sm, g.mi, g.pr, g.de, g.sa, x, g.rr, g.vn, g.vc, g.vs, g.vw, g.tt)
def GS.rr' (g : GS) (x : Nat) : GS := (g.tu, g.st, g.sm, g.mi, g.pr, g.de, g.sa, g.nn, x, g.vn, g.vc, g.vs, g.vw, g.tt)
def GS.vn' (g : GS) (x : Nat) : GS := (g.tu, g.st, g.sm, g.mi, g.pr, g.de, g.sa, g.nn, g.rr, x, g.vc, g.vs, g.vw, g.tt)
def GS.vc' (g : GS) (x : Int) : GS := (g.tu, g.st, g.sm, g.mi, g.pr, g.de, g.sa, g.nn, g.rr, g.vn, x, g.vs, g.vw, g.tt)
def GS.vs' (g : GS) (x : Nat) : GS := (g.tu, g.st, g.sm, g.mi, g.pr, g.de, g.sa, g.nn, g.rr, g.vn, g.vc, x, g.vw, g.tt)
def GS.vw' (g : GS) (x : Nat) : GS := (g.tu, g.st, g.sm, g.mi, g.pr, g.de, g.sa, g.nn, g.rr, g.vn, g.vc, g.vs, x, g.tt)
def GS.tt' (g : GS) (x : Nat → Int64) : GS := (g.tu, g.st, g.sm, g.mi, g.pr, g.de, g.sa, g.nn, g.rr, g.vn, g.vc, g.vs, g.vw, x)
abbrev YS : Type := (Nat → Int) × (Nat → Nat) × (Nat → Nat → Nat) × (Nat → Nat) × (Nat)
def YS.wm (g : YS) : Nat → Int := g.1
def YS.wl (g : YS) : Nat → Nat := g.2.1
def YS.wr (g : YS) : Nat → Nat → Nat := g.2.2.1
def YS.we (g : YS) : Nat → Nat := g.2.2.2.1
def YS.ws (g : YS) : Nat := g.2.2.2.2
def YS.wm' (g : YS) (x : Nat → Int) : YS := (x, g.wl, g.wr, g.we, g.ws)
def YS.wl' (g : YS) (x : Nat → Nat) : YS := (g.wm, x, g.wr, g.we, g.ws)
def YS.wr' (g : YS) (x : Nat → Nat → Nat) : YS := (g.wm, g.wl, x, g.we, g.ws)
def YS.we' (g : YS) (x : Nat → Nat) : YS := (g.wm, g.wl, g.wr, x, g.ws)
def YS.ws' (g : YS) (x : Nat) : YS := (g.wm, g.wl, g.wr, g.we, x)
abbrev ZS : Type := (Nat) × (Nat → Nat) × (Int) × (Int)
def ZS.th (g : ZS) : Nat := g.1
def ZS.wt (g : ZS) : Nat → Nat := g.2.1
def ZS.gn (g : ZS) : Int := g.2.2.1
def ZS.gs (g : ZS) : Int := g.2.2.2
def ZS.th' (g : ZS) (x : Nat) : ZS := (x, g.wt, g.gn, g.gs)
def ZS.wt' (g : ZS) (x : Nat → Nat) : ZS := (g.th, x, g.gn, g.gs)
def ZS.gn' (g : ZS) (x : Int) : ZS := (g.th, g.wt, x, g.gs)
def ZS.gs' (g : ZS) (x : Int) : ZS := (g.th, g.wt, g.gn, x)
def AD.tys (A : AD) : List (ClassId × FieldType) := [(A.cI, .int), (A.cZ, .boolean), (A.cO, .array .int), (A.cJ, .long)]
/-- the class: 0 planner, 1 town, 2 vehicle, 3 ways, 4.. town's rows, 11.. ways' rows, then the rows of the ways -/
def CF (A : AD) (G : GS) (Y : YS) : va_W := [
  (A.a 0, .inr (3, [.ref (A.a 1), .ref (A.a 2), .ref (A.a 3)])),
  (A.a 1, .inr (0, [.ref (A.a 4), .ref (A.a 5), .ref (A.a 6), .ref (A.a 7), .ref (A.a 8), .ref (A.a 9), .ref (A.a 10), .int (iI G.nn), .int (iI G.rr)])),
  (A.a 2, .inr (1, [.ref (A.a 1), .int (iI G.vn), .int (iI G.vc), .int (iI G.vs), .int (iI G.vw), .long (G.tt 0), .long (G.tt 1), .long (G.tt 2), .long (G.tt 3)])),
  (A.a 3, .inr (2, [.ref (A.a 1), .ref (A.a 2), .ref (A.a 11), .ref (A.a 12), .ref (A.a 13), .ref (A.a 14), .int (iI Y.ws)])),
  (A.a 4, .inl (A.cZ, 8, .inl (cF G.tu))),
  (A.a 5, .inl (A.cZ, 8, .inl (cF G.st))),
  (A.a 6, .inl (A.cI, 24, .inl (cF G.sm))),
  (A.a 7, .inl (A.cI, 12, .inl (cF G.mi))),
  (A.a 8, .inl (A.cI, 12, .inl (cF G.pr))),
  (A.a 9, .inl (A.cI, 24, .inl (cF G.de))),
  (A.a 10, .inl (A.cZ, 24, .inl (cF G.sa))),
  (A.a 11, .inl (A.cI, 25, .inl (cZ Y.wm))),
  (A.a 12, .inl (A.cI, 25, .inl (cF Y.wl))),
  (A.a 13, .inl (A.cO, 25, .inr (.inr (.inr (.inr (fun i => if i < 25 then some (A.w i) else none)))))),
  (A.a 14, .inl (A.cZ, 24, .inl (cF Y.we)))]
def CR (A : AD) (Y : YS) : va_W := (List.range 25).map (fun i => (A.w i, .inl (A.cI, 24, .inl (cF (Y.wr i)))))
def CW (A : AD) (G : GS) (Y : YS) : va_W := CF A G Y ++ CR A Y
def cAdr (A : AD) : List Nat := [A.a 0, A.a 1, A.a 2, A.a 3, A.a 4, A.a 5, A.a 6, A.a 7, A.a 8, A.a 9, A.a 10, A.a 11, A.a 12, A.a 13, A.a 14] ++ (List.range 25).map A.w
theorem CW_adr (A : AD) (G : GS) (Y : YS) : (CW A G Y).map Prod.fst = cAdr A := by
  unfold CW CR cAdr
  rw [List.map_append, List.map_map]
  rfl
/-- the reference: 0 itself, 1.. its rows -/
def DW (A : AD) (G : GS) (Z : ZS) : va_W := [
  (A.a 0, .inr (4, [.int (iI Z.th), .int (iI G.nn), .ref (A.a 1), .ref (A.a 2), .int (iI G.rr), .ref (A.a 3), .ref (A.a 4), .ref (A.a 5), .ref (A.a 6), .ref (A.a 7), .int (iI G.vn), .int (iI G.vc), .int (iI G.vs), .int (iI G.vw), .ref (A.a 8), .ref (A.a 9), .int (iI Z.gn), .int (iI Z.gs)])),
  (A.a 1, .inl (A.cZ, 8, .inl (cF G.tu))),
  (A.a 2, .inl (A.cZ, 8, .inl (cF G.st))),
  (A.a 3, .inl (A.cI, 24, .inl (cF G.sm))),
  (A.a 4, .inl (A.cI, 12, .inl (cF G.mi))),
  (A.a 5, .inl (A.cI, 12, .inl (cF G.pr))),
  (A.a 6, .inl (A.cI, 24, .inl (cF G.de))),
  (A.a 7, .inl (A.cZ, 24, .inl (cF G.sa))),
  (A.a 8, .inl (A.cJ, 4, .inr (.inl G.tt))),
  (A.a 9, .inl (A.cI, 104, .inl (cF Z.wt)))]
def dAdr (A : AD) : List Nat := [A.a 0, A.a 1, A.a 2, A.a 3, A.a 4, A.a 5, A.a 6, A.a 7, A.a 8, A.a 9]
theorem DW_adr (A : AD) (G : GS) (Z : ZS) : (DW A G Z).map Prod.fst = dAdr A := rfl
/-- a list's places are apart -/
def aND (l : List Nat) : Prop := ∀ (i j q : Nat), l[i]? = some q → l[j]? = some q → i = j
theorem aND_D {A0 : Nat → Prop} {l : List Nat} {ws : va_W} (e : ws.map Prod.fst = l) (h : aND l) (hA : ∀ q ∈ l, A0 q) : va_D A0 ws := by
  have key : ∀ (k : Nat) (q : Nat × va_E), ws[k]? = some q → l[k]? = some q.1 := fun k q hk => by
    rw [← e, List.getElem?_map, hk]; rfl
  exact ⟨fun i j p q hi hj hpq => h i j p.1 (key i p hi) (by rw [hpq]; exact key j q hj), fun k q hk => hA q.1 (List.mem_of_getElem? (key k q hk))⟩
theorem aND_of {A0 : Nat → Prop} {l : List Nat} {ws : va_W} (e : ws.map Prod.fst = l) (h : va_D A0 ws) : aND l := by
  intro i j q hi hj
  rw [← e, List.getElem?_map] at hi hj
  cases h1 : ws[i]? with
  | none => rw [h1] at hi; cases hi
  | some x =>
    cases h2 : ws[j]? with
    | none => rw [h2] at hj; cases hj
    | some y =>
      rw [h1] at hi; rw [h2] at hj
      exact h.1 i j x y h1 h2 ((Option.some.inj hi).trans (Option.some.inj hj).symm)
/-- what a method of either side may change: the cells at l, and what is new -/
def aFr (l : List Nat) (sz : Nat) : Nat → Prop := fun q => q ∈ l ∨ sz ≤ q
/-- the fixed premises of a walk -/
def aX (p : Program) (s : State) (m : MethodId) (c : Code) (cc : ByteArray) (nL : Nat) (args : Array Value) (Ts : List Cond) (own : String) (A : AD) (l : List Nat) : Prop :=
  CallFix p m c cc nL s args Ts own ∧ va_K A.D vwCl A.tys s ∧ aND l
/-- the world at a point of a walk -/
def aH (A : AD) (l : List Nat) (ws : va_W) (s : State) (H : Heap) (locs : List Loc) : Prop := va_P A.D vwCl ws H ∧ va_S (aFr l s.heap.size) s.heap H locs
theorem aX.D {p : Program} {s : State} {m : MethodId} {c : Code} {cc : ByteArray} {nL : Nat} {args : Array Value} {Ts : List Cond} {own : String} {A : AD} {l : List Nat} (X : aX p s m c cc nL args Ts own A l) {ws : va_W} (e : ws.map Prod.fst = l) : va_D (aFr l s.heap.size) ws := aND_D e X.2.2 (fun _ h => Or.inl h)
theorem CR_get {A : AD} {Y : YS} {i : Nat} (h : i < 25) (G : GS) : (CW A G Y)[15 + i]? = some (A.w i, .inl (A.cI, 24, .inl (cF (Y.wr i)))) := by
  unfold CW
  rw [List.getElem?_append_right (by show 15 ≤ 15 + i; omega), show 15 + i - (CF A G Y).length = i by show 15 + i - 15 = i; omega]
  unfold CR
  rw [List.getElem?_map, List.getElem?_range h]
  rfl
theorem CR_set {A : AD} {Y : YS} {i : Nat} (h : i < 25) (G : GS) (f : Nat → Nat) : (CW A G Y).set (15 + i) (A.w i, .inl (A.cI, 24, .inl (cF f))) = CW A G (Y.wr' (up Y.wr i f)) := by
  apply List.ext_getElem?
  intro j
  by_cases hj : j = 15 + i
  · subst hj
    have hl : 15 + i < (CW A G Y).length := (List.getElem?_eq_some_iff.mp (CR_get h G)).1
    rw [List.getElem?_set_self hl, CR_get h]
    show _ = some (A.w i, (Sum.inl (A.cI, 24, .inl (cF (up Y.wr i f i))) : va_E))
    rw [up_s]
  · rw [List.getElem?_set_ne (Ne.symm hj)]
    by_cases hl : j < 15
    · unfold CW
      rw [List.getElem?_append_left (show j < (CF A G Y).length from hl), List.getElem?_append_left (show j < (CF A G (Y.wr' (up Y.wr i f))).length from hl)]
      rfl
    · by_cases h2 : j < 40
      · obtain ⟨k, rfl⟩ : ∃ k, j = 15 + k := ⟨j - 15, by omega⟩
        rw [CR_get (show k < 25 by omega), CR_get (show k < 25 by omega)]
        show _ = some (A.w k, (Sum.inl (A.cI, 24, .inl (cF (up Y.wr i f k))) : va_E))
        rw [up_n _ _ (by omega)]
      · have e1 : ∀ Y2 : YS, (CW A G Y2).length = 40 := fun Y2 => by unfold CW CR CF; simp
        rw [List.getElem?_eq_none (by rw [e1]; omega), List.getElem?_eq_none (by rw [e1]; omega)]
section AW
variable {p : Program} {l : Launch} {e : Env} {R : Room} {s : State} {m : MethodId} {args : Array Value} {below : List Frame} {meth : Method} {c : Code} {H : Heap} {locs : List Loc} {cells slots : Nat} {Q : State → Prop}
variable {cc : ByteArray} {pc nL idx : Nat} {ls : Array Slot} {rest : List Value} {Ts : List Cond} {own : String} {A : AD} {G : GS} {Y : YS} {Z : ZS}
theorem agX3_town (X : aX p s m c cc nL args Ts own A (cAdr A)) (hC : aH A (cAdr A) (CW A G Y) s H locs) (hin : ∀ w ∈ u_ws RX3 TX3 3, w ∈ Ts) (hl : Cond.fieldLink own idx "PloughPlanner" "town" "LPloughPlanner$Town;" ∈ Ts) (hdg : decode cc pc = .ok (.getfield idx, 3)) (k : W p l e R s m args below meth c H locs cells slots Q (F0 m (pc + 3) ls (.ref (A.a 1) :: rest))) : W p l e R s m args below meth c H locs cells slots Q (F0 m pc ls (.ref (A.a 0) :: rest)) := va_get (D := A.D) (ci := 3) (v := .ref (A.a 1)) (C := RX3) (T := TX3) (N := 3) X.1.1 X.1.2.1 X.1.2.2.2.2 hin X.1.2.2.2.1 X.2.1 hC.1 0 rfl rfl 0 (by decide) (X.1.2.2.2.2 _ hl) (fun _ h => h) rfl hdg k
theorem agX3_vehicle (X : aX p s m c cc nL args Ts own A (cAdr A)) (hC : aH A (cAdr A) (CW A G Y) s H locs) (hin : ∀ w ∈ u_ws RX3 TX3 3, w ∈ Ts) (hl : Cond.fieldLink own idx "PloughPlanner" "vehicle" "LPloughPlanner$Vehicle;" ∈ Ts) (hdg : decode cc pc = .ok (.getfield idx, 3)) (k : W p l e R s m args below meth c H locs cells slots Q (F0 m (pc + 3) ls (.ref (A.a 2) :: rest))) : W p l e R s m args below meth c H locs cells slots Q (F0 m pc ls (.ref (A.a 0) :: rest)) := va_get (D := A.D) (ci := 3) (v := .ref (A.a 2)) (C := RX3) (T := TX3) (N := 3) X.1.1 X.1.2.1 X.1.2.2.2.2 hin X.1.2.2.2.1 X.2.1 hC.1 0 rfl rfl 1 (by decide) (X.1.2.2.2.2 _ hl) (fun _ h => h) rfl hdg k
theorem agX3_ways (X : aX p s m c cc nL args Ts own A (cAdr A)) (hC : aH A (cAdr A) (CW A G Y) s H locs) (hin : ∀ w ∈ u_ws RX3 TX3 3, w ∈ Ts) (hl : Cond.fieldLink own idx "PloughPlanner" "ways" "LPloughPlanner$Ways;" ∈ Ts) (hdg : decode cc pc = .ok (.getfield idx, 3)) (k : W p l e R s m args below meth c H locs cells slots Q (F0 m (pc + 3) ls (.ref (A.a 3) :: rest))) : W p l e R s m args below meth c H locs cells slots Q (F0 m pc ls (.ref (A.a 0) :: rest)) := va_get (D := A.D) (ci := 3) (v := .ref (A.a 3)) (C := RX3) (T := TX3) (N := 3) X.1.1 X.1.2.1 X.1.2.2.2.2 hin X.1.2.2.2.1 X.2.1 hC.1 0 rfl rfl 2 (by decide) (X.1.2.2.2.2 _ hl) (fun _ h => h) rfl hdg k
theorem agX0_turning (X : aX p s m c cc nL args Ts own A (cAdr A)) (hC : aH A (cAdr A) (CW A G Y) s H locs) (hin : ∀ w ∈ u_ws RX0 TX0 9, w ∈ Ts) (hl : Cond.fieldLink own idx "PloughPlanner$Town" "turning" "[Z" ∈ Ts) (hdg : decode cc pc = .ok (.getfield idx, 3)) (k : W p l e R s m args below meth c H locs cells slots Q (F0 m (pc + 3) ls (.ref (A.a 4) :: rest))) : W p l e R s m args below meth c H locs cells slots Q (F0 m pc ls (.ref (A.a 1) :: rest)) := va_get (D := A.D) (ci := 0) (v := .ref (A.a 4)) (C := RX0) (T := TX0) (N := 9) X.1.1 X.1.2.1 X.1.2.2.2.2 hin X.1.2.2.2.1 X.2.1 hC.1 1 rfl rfl 0 (by decide) (X.1.2.2.2.2 _ hl) (fun _ h => h) rfl hdg k
theorem agX0_stores (X : aX p s m c cc nL args Ts own A (cAdr A)) (hC : aH A (cAdr A) (CW A G Y) s H locs) (hin : ∀ w ∈ u_ws RX0 TX0 9, w ∈ Ts) (hl : Cond.fieldLink own idx "PloughPlanner$Town" "stores" "[Z" ∈ Ts) (hdg : decode cc pc = .ok (.getfield idx, 3)) (k : W p l e R s m args below meth c H locs cells slots Q (F0 m (pc + 3) ls (.ref (A.a 5) :: rest))) : W p l e R s m args below meth c H locs cells slots Q (F0 m pc ls (.ref (A.a 1) :: rest)) := va_get (D := A.D) (ci := 0) (v := .ref (A.a 5)) (C := RX0) (T := TX0) (N := 9) X.1.1 X.1.2.1 X.1.2.2.2.2 hin X.1.2.2.2.1 X.2.1 hC.1 1 rfl rfl 1 (by decide) (X.1.2.2.2.2 _ hl) (fun _ h => h) rfl hdg k
theorem agX0_starts (X : aX p s m c cc nL args Ts own A (cAdr A)) (hC : aH A (cAdr A) (CW A G Y) s H locs) (hin : ∀ w ∈ u_ws RX0 TX0 9, w ∈ Ts) (hl : Cond.fieldLink own idx "PloughPlanner$Town" "starts" "[I" ∈ Ts) (hdg : decode cc pc = .ok (.getfield idx, 3)) (k : W p l e R s m args below meth c H locs cells slots Q (F0 m (pc + 3) ls (.ref (A.a 6) :: rest))) : W p l e R s m args below meth c H locs cells slots Q (F0 m pc ls (.ref (A.a 1) :: rest)) := va_get (D := A.D) (ci := 0) (v := .ref (A.a 6)) (C := RX0) (T := TX0) (N := 9) X.1.1 X.1.2.1 X.1.2.2.2.2 hin X.1.2.2.2.1 X.2.1 hC.1 1 rfl rfl 2 (by decide) (X.1.2.2.2.2 _ hl) (fun _ h => h) rfl hdg k
theorem agX0_minutes (X : aX p s m c cc nL args Ts own A (cAdr A)) (hC : aH A (cAdr A) (CW A G Y) s H locs) (hin : ∀ w ∈ u_ws RX0 TX0 9, w ∈ Ts) (hl : Cond.fieldLink own idx "PloughPlanner$Town" "minutes" "[I" ∈ Ts) (hdg : decode cc pc = .ok (.getfield idx, 3)) (k : W p l e R s m args below meth c H locs cells slots Q (F0 m (pc + 3) ls (.ref (A.a 7) :: rest))) : W p l e R s m args below meth c H locs cells slots Q (F0 m pc ls (.ref (A.a 1) :: rest)) := va_get (D := A.D) (ci := 0) (v := .ref (A.a 7)) (C := RX0) (T := TX0) (N := 9) X.1.1 X.1.2.1 X.1.2.2.2.2 hin X.1.2.2.2.1 X.2.1 hC.1 1 rfl rfl 3 (by decide) (X.1.2.2.2.2 _ hl) (fun _ h => h) rfl hdg k
theorem agX0_priorities (X : aX p s m c cc nL args Ts own A (cAdr A)) (hC : aH A (cAdr A) (CW A G Y) s H locs) (hin : ∀ w ∈ u_ws RX0 TX0 9, w ∈ Ts) (hl : Cond.fieldLink own idx "PloughPlanner$Town" "priorities" "[I" ∈ Ts) (hdg : decode cc pc = .ok (.getfield idx, 3)) (k : W p l e R s m args below meth c H locs cells slots Q (F0 m (pc + 3) ls (.ref (A.a 8) :: rest))) : W p l e R s m args below meth c H locs cells slots Q (F0 m pc ls (.ref (A.a 1) :: rest)) := va_get (D := A.D) (ci := 0) (v := .ref (A.a 8)) (C := RX0) (T := TX0) (N := 9) X.1.1 X.1.2.1 X.1.2.2.2.2 hin X.1.2.2.2.1 X.2.1 hC.1 1 rfl rfl 4 (by decide) (X.1.2.2.2.2 _ hl) (fun _ h => h) rfl hdg k
theorem agX0_depths (X : aX p s m c cc nL args Ts own A (cAdr A)) (hC : aH A (cAdr A) (CW A G Y) s H locs) (hin : ∀ w ∈ u_ws RX0 TX0 9, w ∈ Ts) (hl : Cond.fieldLink own idx "PloughPlanner$Town" "depths" "[I" ∈ Ts) (hdg : decode cc pc = .ok (.getfield idx, 3)) (k : W p l e R s m args below meth c H locs cells slots Q (F0 m (pc + 3) ls (.ref (A.a 9) :: rest))) : W p l e R s m args below meth c H locs cells slots Q (F0 m pc ls (.ref (A.a 1) :: rest)) := va_get (D := A.D) (ci := 0) (v := .ref (A.a 9)) (C := RX0) (T := TX0) (N := 9) X.1.1 X.1.2.1 X.1.2.2.2.2 hin X.1.2.2.2.1 X.2.1 hC.1 1 rfl rfl 5 (by decide) (X.1.2.2.2.2 _ hl) (fun _ h => h) rfl hdg k
theorem agX0_salted (X : aX p s m c cc nL args Ts own A (cAdr A)) (hC : aH A (cAdr A) (CW A G Y) s H locs) (hin : ∀ w ∈ u_ws RX0 TX0 9, w ∈ Ts) (hl : Cond.fieldLink own idx "PloughPlanner$Town" "salted" "[Z" ∈ Ts) (hdg : decode cc pc = .ok (.getfield idx, 3)) (k : W p l e R s m args below meth c H locs cells slots Q (F0 m (pc + 3) ls (.ref (A.a 10) :: rest))) : W p l e R s m args below meth c H locs cells slots Q (F0 m pc ls (.ref (A.a 1) :: rest)) := va_get (D := A.D) (ci := 0) (v := .ref (A.a 10)) (C := RX0) (T := TX0) (N := 9) X.1.1 X.1.2.1 X.1.2.2.2.2 hin X.1.2.2.2.1 X.2.1 hC.1 1 rfl rfl 6 (by decide) (X.1.2.2.2.2 _ hl) (fun _ h => h) rfl hdg k
theorem agX0_nodes (X : aX p s m c cc nL args Ts own A (cAdr A)) (hC : aH A (cAdr A) (CW A G Y) s H locs) (hin : ∀ w ∈ u_ws RX0 TX0 9, w ∈ Ts) (hl : Cond.fieldLink own idx "PloughPlanner$Town" "nodes" "I" ∈ Ts) (hdg : decode cc pc = .ok (.getfield idx, 3)) {v : Int} (hv : (G.nn : Int) = v) (k : W p l e R s m args below meth c H locs cells slots Q (F0 m (pc + 3) ls (.int (iI v) :: rest))) : W p l e R s m args below meth c H locs cells slots Q (F0 m pc ls (.ref (A.a 1) :: rest)) := by
  subst hv
  exact va_get (D := A.D) (ci := 0) (v := .int (iI (G.nn : Int))) (C := RX0) (T := TX0) (N := 9) X.1.1 X.1.2.1 X.1.2.2.2.2 hin X.1.2.2.2.1 X.2.1 hC.1 1 rfl rfl 7 (by decide) (X.1.2.2.2.2 _ hl) (fun _ h => h) rfl hdg k
theorem apX0_nodes (X : aX p s m c cc nL args Ts own A (cAdr A)) (hC : aH A (cAdr A) (CW A G Y) s H locs) (hin : ∀ w ∈ u_ws RX0 TX0 9, w ∈ Ts) (hl : Cond.fieldLink own idx "PloughPlanner$Town" "nodes" "I" ∈ Ts) (hdg : decode cc pc = .ok (.putfield idx, 3)) {v : Int} {x : Nat} (hv : v = (x : Int)) (k : ∀ H1 locs1, aH A (cAdr A) (CW A (G.nn' x) Y) s H1 locs1 → W p l e R s m args below meth c H1 locs1 cells slots Q (F0 m (pc + 3) ls rest)) : W p l e R s m args below meth c H locs cells slots Q (F0 m pc ls (.int (iI v) :: .ref (A.a 1) :: rest)) := by
  subst hv
  exact va_put (D := A.D) (ci := 0) (v := .int (iI (x : Int))) (ty := .int) (C := RX0) (T := TX0) (N := 9) X.1.1 X.1.2.1 X.1.2.2.2.2 hin tyX0 tyX0_ok nmX0 X.1.2.2.2.1 X.2.1 hC.1 (X.D (CW_adr A G Y)) hC.2 1 rfl rfl 7 (by decide) (X.1.2.2.2.2 _ hl) (fun _ h => h) rfl (by decide +kernel) rfl rfl (Nat.le_of_ble_eq_true rfl) hdg (fun H1 locs1 hP _ hS => k H1 locs1 ⟨hP, hS⟩)
theorem agX0_roads (X : aX p s m c cc nL args Ts own A (cAdr A)) (hC : aH A (cAdr A) (CW A G Y) s H locs) (hin : ∀ w ∈ u_ws RX0 TX0 9, w ∈ Ts) (hl : Cond.fieldLink own idx "PloughPlanner$Town" "roads" "I" ∈ Ts) (hdg : decode cc pc = .ok (.getfield idx, 3)) {v : Int} (hv : (G.rr : Int) = v) (k : W p l e R s m args below meth c H locs cells slots Q (F0 m (pc + 3) ls (.int (iI v) :: rest))) : W p l e R s m args below meth c H locs cells slots Q (F0 m pc ls (.ref (A.a 1) :: rest)) := by
  subst hv
  exact va_get (D := A.D) (ci := 0) (v := .int (iI (G.rr : Int))) (C := RX0) (T := TX0) (N := 9) X.1.1 X.1.2.1 X.1.2.2.2.2 hin X.1.2.2.2.1 X.2.1 hC.1 1 rfl rfl 8 (by decide) (X.1.2.2.2.2 _ hl) (fun _ h => h) rfl hdg k
theorem apX0_roads (X : aX p s m c cc nL args Ts own A (cAdr A)) (hC : aH A (cAdr A) (CW A G Y) s H locs) (hin : ∀ w ∈ u_ws RX0 TX0 9, w ∈ Ts) (hl : Cond.fieldLink own idx "PloughPlanner$Town" "roads" "I" ∈ Ts) (hdg : decode cc pc = .ok (.putfield idx, 3)) {v : Int} {x : Nat} (hv : v = (x : Int)) (k : ∀ H1 locs1, aH A (cAdr A) (CW A (G.rr' x) Y) s H1 locs1 → W p l e R s m args below meth c H1 locs1 cells slots Q (F0 m (pc + 3) ls rest)) : W p l e R s m args below meth c H locs cells slots Q (F0 m pc ls (.int (iI v) :: .ref (A.a 1) :: rest)) := by
  subst hv
  exact va_put (D := A.D) (ci := 0) (v := .int (iI (x : Int))) (ty := .int) (C := RX0) (T := TX0) (N := 9) X.1.1 X.1.2.1 X.1.2.2.2.2 hin tyX0 tyX0_ok nmX0 X.1.2.2.2.1 X.2.1 hC.1 (X.D (CW_adr A G Y)) hC.2 1 rfl rfl 8 (by decide) (X.1.2.2.2.2 _ hl) (fun _ h => h) rfl (by decide +kernel) rfl rfl (Nat.le_of_ble_eq_true rfl) hdg (fun H1 locs1 hP _ hS => k H1 locs1 ⟨hP, hS⟩)
theorem agX1_town (X : aX p s m c cc nL args Ts own A (cAdr A)) (hC : aH A (cAdr A) (CW A G Y) s H locs) (hin : ∀ w ∈ u_ws RX1 TX1 9, w ∈ Ts) (hl : Cond.fieldLink own idx "PloughPlanner$Vehicle" "town" "LPloughPlanner$Town;" ∈ Ts) (hdg : decode cc pc = .ok (.getfield idx, 3)) (k : W p l e R s m args below meth c H locs cells slots Q (F0 m (pc + 3) ls (.ref (A.a 1) :: rest))) : W p l e R s m args below meth c H locs cells slots Q (F0 m pc ls (.ref (A.a 2) :: rest)) := va_get (D := A.D) (ci := 1) (v := .ref (A.a 1)) (C := RX1) (T := TX1) (N := 9) X.1.1 X.1.2.1 X.1.2.2.2.2 hin X.1.2.2.2.1 X.2.1 hC.1 2 rfl rfl 0 (by decide) (X.1.2.2.2.2 _ hl) (fun _ h => h) rfl hdg k
theorem agX1_node (X : aX p s m c cc nL args Ts own A (cAdr A)) (hC : aH A (cAdr A) (CW A G Y) s H locs) (hin : ∀ w ∈ u_ws RX1 TX1 9, w ∈ Ts) (hl : Cond.fieldLink own idx "PloughPlanner$Vehicle" "node" "I" ∈ Ts) (hdg : decode cc pc = .ok (.getfield idx, 3)) {v : Int} (hv : (G.vn : Int) = v) (k : W p l e R s m args below meth c H locs cells slots Q (F0 m (pc + 3) ls (.int (iI v) :: rest))) : W p l e R s m args below meth c H locs cells slots Q (F0 m pc ls (.ref (A.a 2) :: rest)) := by
  subst hv
  exact va_get (D := A.D) (ci := 1) (v := .int (iI (G.vn : Int))) (C := RX1) (T := TX1) (N := 9) X.1.1 X.1.2.1 X.1.2.2.2.2 hin X.1.2.2.2.1 X.2.1 hC.1 2 rfl rfl 1 (by decide) (X.1.2.2.2.2 _ hl) (fun _ h => h) rfl hdg k
theorem apX1_node (X : aX p s m c cc nL args Ts own A (cAdr A)) (hC : aH A (cAdr A) (CW A G Y) s H locs) (hin : ∀ w ∈ u_ws RX1 TX1 9, w ∈ Ts) (hl : Cond.fieldLink own idx "PloughPlanner$Vehicle" "node" "I" ∈ Ts) (hdg : decode cc pc = .ok (.putfield idx, 3)) {v : Int} {x : Nat} (hv : v = (x : Int)) (k : ∀ H1 locs1, aH A (cAdr A) (CW A (G.vn' x) Y) s H1 locs1 → W p l e R s m args below meth c H1 locs1 cells slots Q (F0 m (pc + 3) ls rest)) : W p l e R s m args below meth c H locs cells slots Q (F0 m pc ls (.int (iI v) :: .ref (A.a 2) :: rest)) := by
  subst hv
  exact va_put (D := A.D) (ci := 1) (v := .int (iI (x : Int))) (ty := .int) (C := RX1) (T := TX1) (N := 9) X.1.1 X.1.2.1 X.1.2.2.2.2 hin tyX1 tyX1_ok nmX1 X.1.2.2.2.1 X.2.1 hC.1 (X.D (CW_adr A G Y)) hC.2 2 rfl rfl 1 (by decide) (X.1.2.2.2.2 _ hl) (fun _ h => h) rfl (by decide +kernel) rfl rfl (Nat.le_of_ble_eq_true rfl) hdg (fun H1 locs1 hP _ hS => k H1 locs1 ⟨hP, hS⟩)
theorem agX1_cameBy (X : aX p s m c cc nL args Ts own A (cAdr A)) (hC : aH A (cAdr A) (CW A G Y) s H locs) (hin : ∀ w ∈ u_ws RX1 TX1 9, w ∈ Ts) (hl : Cond.fieldLink own idx "PloughPlanner$Vehicle" "cameBy" "I" ∈ Ts) (hdg : decode cc pc = .ok (.getfield idx, 3)) {v : Int} (hv : G.vc = v) (k : W p l e R s m args below meth c H locs cells slots Q (F0 m (pc + 3) ls (.int (iI v) :: rest))) : W p l e R s m args below meth c H locs cells slots Q (F0 m pc ls (.ref (A.a 2) :: rest)) := by
  subst hv
  exact va_get (D := A.D) (ci := 1) (v := .int (iI G.vc)) (C := RX1) (T := TX1) (N := 9) X.1.1 X.1.2.1 X.1.2.2.2.2 hin X.1.2.2.2.1 X.2.1 hC.1 2 rfl rfl 2 (by decide) (X.1.2.2.2.2 _ hl) (fun _ h => h) rfl hdg k
theorem apX1_cameBy (X : aX p s m c cc nL args Ts own A (cAdr A)) (hC : aH A (cAdr A) (CW A G Y) s H locs) (hin : ∀ w ∈ u_ws RX1 TX1 9, w ∈ Ts) (hl : Cond.fieldLink own idx "PloughPlanner$Vehicle" "cameBy" "I" ∈ Ts) (hdg : decode cc pc = .ok (.putfield idx, 3)) {v : Int} {x : Int} (hv : v = x) (k : ∀ H1 locs1, aH A (cAdr A) (CW A (G.vc' x) Y) s H1 locs1 → W p l e R s m args below meth c H1 locs1 cells slots Q (F0 m (pc + 3) ls rest)) : W p l e R s m args below meth c H locs cells slots Q (F0 m pc ls (.int (iI v) :: .ref (A.a 2) :: rest)) := by
  subst hv
  exact va_put (D := A.D) (ci := 1) (v := .int (iI v)) (ty := .int) (C := RX1) (T := TX1) (N := 9) X.1.1 X.1.2.1 X.1.2.2.2.2 hin tyX1 tyX1_ok nmX1 X.1.2.2.2.1 X.2.1 hC.1 (X.D (CW_adr A G Y)) hC.2 2 rfl rfl 2 (by decide) (X.1.2.2.2.2 _ hl) (fun _ h => h) rfl (by decide +kernel) rfl rfl (Nat.le_of_ble_eq_true rfl) hdg (fun H1 locs1 hP _ hS => k H1 locs1 ⟨hP, hS⟩)
theorem agX1_salt (X : aX p s m c cc nL args Ts own A (cAdr A)) (hC : aH A (cAdr A) (CW A G Y) s H locs) (hin : ∀ w ∈ u_ws RX1 TX1 9, w ∈ Ts) (hl : Cond.fieldLink own idx "PloughPlanner$Vehicle" "salt" "I" ∈ Ts) (hdg : decode cc pc = .ok (.getfield idx, 3)) {v : Int} (hv : (G.vs : Int) = v) (k : W p l e R s m args below meth c H locs cells slots Q (F0 m (pc + 3) ls (.int (iI v) :: rest))) : W p l e R s m args below meth c H locs cells slots Q (F0 m pc ls (.ref (A.a 2) :: rest)) := by
  subst hv
  exact va_get (D := A.D) (ci := 1) (v := .int (iI (G.vs : Int))) (C := RX1) (T := TX1) (N := 9) X.1.1 X.1.2.1 X.1.2.2.2.2 hin X.1.2.2.2.1 X.2.1 hC.1 2 rfl rfl 3 (by decide) (X.1.2.2.2.2 _ hl) (fun _ h => h) rfl hdg k
theorem apX1_salt (X : aX p s m c cc nL args Ts own A (cAdr A)) (hC : aH A (cAdr A) (CW A G Y) s H locs) (hin : ∀ w ∈ u_ws RX1 TX1 9, w ∈ Ts) (hl : Cond.fieldLink own idx "PloughPlanner$Vehicle" "salt" "I" ∈ Ts) (hdg : decode cc pc = .ok (.putfield idx, 3)) {v : Int} {x : Nat} (hv : v = (x : Int)) (k : ∀ H1 locs1, aH A (cAdr A) (CW A (G.vs' x) Y) s H1 locs1 → W p l e R s m args below meth c H1 locs1 cells slots Q (F0 m (pc + 3) ls rest)) : W p l e R s m args below meth c H locs cells slots Q (F0 m pc ls (.int (iI v) :: .ref (A.a 2) :: rest)) := by
  subst hv
  exact va_put (D := A.D) (ci := 1) (v := .int (iI (x : Int))) (ty := .int) (C := RX1) (T := TX1) (N := 9) X.1.1 X.1.2.1 X.1.2.2.2.2 hin tyX1 tyX1_ok nmX1 X.1.2.2.2.1 X.2.1 hC.1 (X.D (CW_adr A G Y)) hC.2 2 rfl rfl 3 (by decide) (X.1.2.2.2.2 _ hl) (fun _ h => h) rfl (by decide +kernel) rfl rfl (Nat.le_of_ble_eq_true rfl) hdg (fun H1 locs1 hP _ hS => k H1 locs1 ⟨hP, hS⟩)
theorem agX1_strewing (X : aX p s m c cc nL args Ts own A (cAdr A)) (hC : aH A (cAdr A) (CW A G Y) s H locs) (hin : ∀ w ∈ u_ws RX1 TX1 9, w ∈ Ts) (hl : Cond.fieldLink own idx "PloughPlanner$Vehicle" "strewing" "Z" ∈ Ts) (hdg : decode cc pc = .ok (.getfield idx, 3)) {v : Int} (hv : (G.vw : Int) = v) (k : W p l e R s m args below meth c H locs cells slots Q (F0 m (pc + 3) ls (.int (iI v) :: rest))) : W p l e R s m args below meth c H locs cells slots Q (F0 m pc ls (.ref (A.a 2) :: rest)) := by
  subst hv
  exact va_get (D := A.D) (ci := 1) (v := .int (iI (G.vw : Int))) (C := RX1) (T := TX1) (N := 9) X.1.1 X.1.2.1 X.1.2.2.2.2 hin X.1.2.2.2.1 X.2.1 hC.1 2 rfl rfl 4 (by decide) (X.1.2.2.2.2 _ hl) (fun _ h => h) rfl hdg k
theorem apX1_strewing (X : aX p s m c cc nL args Ts own A (cAdr A)) (hC : aH A (cAdr A) (CW A G Y) s H locs) (hin : ∀ w ∈ u_ws RX1 TX1 9, w ∈ Ts) (hl : Cond.fieldLink own idx "PloughPlanner$Vehicle" "strewing" "Z" ∈ Ts) (hdg : decode cc pc = .ok (.putfield idx, 3)) {v : Int} {x : Nat} (hv : v = (x : Int)) (h01 : 0 ≤ v ∧ v ≤ 1) (k : ∀ H1 locs1, aH A (cAdr A) (CW A (G.vw' x) Y) s H1 locs1 → W p l e R s m args below meth c H1 locs1 cells slots Q (F0 m (pc + 3) ls rest)) : W p l e R s m args below meth c H locs cells slots Q (F0 m pc ls (.int (iI v) :: .ref (A.a 2) :: rest)) := by
  subst hv
  exact va_put (D := A.D) (ci := 1) (v := .int (iI (x : Int))) (ty := .boolean) (C := RX1) (T := TX1) (N := 9) X.1.1 X.1.2.1 X.1.2.2.2.2 hin tyX1 tyX1_ok nmX1 X.1.2.2.2.1 X.2.1 hC.1 (X.D (CW_adr A G Y)) hC.2 2 rfl rfl 4 (by decide) (X.1.2.2.2.2 _ hl) (fun _ h => h) rfl (by decide +kernel) (nar_b2 h01) (fit_b2 h01) (Nat.le_of_ble_eq_true rfl) hdg (fun H1 locs1 hP _ hS => k H1 locs1 ⟨hP, hS⟩)
theorem agX1_minutesSpent (X : aX p s m c cc nL args Ts own A (cAdr A)) (hC : aH A (cAdr A) (CW A G Y) s H locs) (hin : ∀ w ∈ u_ws RX1 TX1 9, w ∈ Ts) (hl : Cond.fieldLink own idx "PloughPlanner$Vehicle" "minutesSpent" "J" ∈ Ts) (hdg : decode cc pc = .ok (.getfield idx, 3)) {v : Int64} (hv : G.tt 0 = v) (k : W p l e R s m args below meth c H locs cells slots Q (F0 m (pc + 3) ls (.long v :: rest))) : W p l e R s m args below meth c H locs cells slots Q (F0 m pc ls (.ref (A.a 2) :: rest)) := by
  subst hv
  exact va_get (D := A.D) (ci := 1) (v := .long (G.tt 0)) (C := RX1) (T := TX1) (N := 9) X.1.1 X.1.2.1 X.1.2.2.2.2 hin X.1.2.2.2.1 X.2.1 hC.1 2 rfl rfl 5 (by decide) (X.1.2.2.2.2 _ hl) (fun _ h => h) rfl hdg k
theorem apX1_minutesSpent (X : aX p s m c cc nL args Ts own A (cAdr A)) (hC : aH A (cAdr A) (CW A G Y) s H locs) (hin : ∀ w ∈ u_ws RX1 TX1 9, w ∈ Ts) (hl : Cond.fieldLink own idx "PloughPlanner$Vehicle" "minutesSpent" "J" ∈ Ts) (hdg : decode cc pc = .ok (.putfield idx, 3)) {v : Int64} (k : ∀ H1 locs1, aH A (cAdr A) (CW A (G.tt' (up G.tt 0 v)) Y) s H1 locs1 → W p l e R s m args below meth c H1 locs1 cells slots Q (F0 m (pc + 3) ls rest)) : W p l e R s m args below meth c H locs cells slots Q (F0 m pc ls (.long v :: .ref (A.a 2) :: rest)) := va_put (D := A.D) (ci := 1) (v := .long v) (ty := .long) (C := RX1) (T := TX1) (N := 9) X.1.1 X.1.2.1 X.1.2.2.2.2 hin tyX1 tyX1_ok nmX1 X.1.2.2.2.1 X.2.1 hC.1 (X.D (CW_adr A G Y)) hC.2 2 rfl rfl 5 (by decide) (X.1.2.2.2.2 _ hl) (fun _ h => h) rfl (by decide +kernel) rfl rfl (Nat.le_of_ble_eq_true rfl) hdg (fun H1 locs1 hP _ hS => k H1 locs1 ⟨hP, hS⟩)
theorem agX1_saltStrewn (X : aX p s m c cc nL args Ts own A (cAdr A)) (hC : aH A (cAdr A) (CW A G Y) s H locs) (hin : ∀ w ∈ u_ws RX1 TX1 9, w ∈ Ts) (hl : Cond.fieldLink own idx "PloughPlanner$Vehicle" "saltStrewn" "J" ∈ Ts) (hdg : decode cc pc = .ok (.getfield idx, 3)) {v : Int64} (hv : G.tt 1 = v) (k : W p l e R s m args below meth c H locs cells slots Q (F0 m (pc + 3) ls (.long v :: rest))) : W p l e R s m args below meth c H locs cells slots Q (F0 m pc ls (.ref (A.a 2) :: rest)) := by
  subst hv
  exact va_get (D := A.D) (ci := 1) (v := .long (G.tt 1)) (C := RX1) (T := TX1) (N := 9) X.1.1 X.1.2.1 X.1.2.2.2.2 hin X.1.2.2.2.1 X.2.1 hC.1 2 rfl rfl 6 (by decide) (X.1.2.2.2.2 _ hl) (fun _ h => h) rfl hdg k
theorem apX1_saltStrewn (X : aX p s m c cc nL args Ts own A (cAdr A)) (hC : aH A (cAdr A) (CW A G Y) s H locs) (hin : ∀ w ∈ u_ws RX1 TX1 9, w ∈ Ts) (hl : Cond.fieldLink own idx "PloughPlanner$Vehicle" "saltStrewn" "J" ∈ Ts) (hdg : decode cc pc = .ok (.putfield idx, 3)) {v : Int64} (k : ∀ H1 locs1, aH A (cAdr A) (CW A (G.tt' (up G.tt 1 v)) Y) s H1 locs1 → W p l e R s m args below meth c H1 locs1 cells slots Q (F0 m (pc + 3) ls rest)) : W p l e R s m args below meth c H locs cells slots Q (F0 m pc ls (.long v :: .ref (A.a 2) :: rest)) := va_put (D := A.D) (ci := 1) (v := .long v) (ty := .long) (C := RX1) (T := TX1) (N := 9) X.1.1 X.1.2.1 X.1.2.2.2.2 hin tyX1 tyX1_ok nmX1 X.1.2.2.2.1 X.2.1 hC.1 (X.D (CW_adr A G Y)) hC.2 2 rfl rfl 6 (by decide) (X.1.2.2.2.2 _ hl) (fun _ h => h) rfl (by decide +kernel) rfl rfl (Nat.le_of_ble_eq_true rfl) hdg (fun H1 locs1 hP _ hS => k H1 locs1 ⟨hP, hS⟩)
theorem agX1_turns (X : aX p s m c cc nL args Ts own A (cAdr A)) (hC : aH A (cAdr A) (CW A G Y) s H locs) (hin : ∀ w ∈ u_ws RX1 TX1 9, w ∈ Ts) (hl : Cond.fieldLink own idx "PloughPlanner$Vehicle" "turns" "J" ∈ Ts) (hdg : decode cc pc = .ok (.getfield idx, 3)) {v : Int64} (hv : G.tt 2 = v) (k : W p l e R s m args below meth c H locs cells slots Q (F0 m (pc + 3) ls (.long v :: rest))) : W p l e R s m args below meth c H locs cells slots Q (F0 m pc ls (.ref (A.a 2) :: rest)) := by
  subst hv
  exact va_get (D := A.D) (ci := 1) (v := .long (G.tt 2)) (C := RX1) (T := TX1) (N := 9) X.1.1 X.1.2.1 X.1.2.2.2.2 hin X.1.2.2.2.1 X.2.1 hC.1 2 rfl rfl 7 (by decide) (X.1.2.2.2.2 _ hl) (fun _ h => h) rfl hdg k
theorem apX1_turns (X : aX p s m c cc nL args Ts own A (cAdr A)) (hC : aH A (cAdr A) (CW A G Y) s H locs) (hin : ∀ w ∈ u_ws RX1 TX1 9, w ∈ Ts) (hl : Cond.fieldLink own idx "PloughPlanner$Vehicle" "turns" "J" ∈ Ts) (hdg : decode cc pc = .ok (.putfield idx, 3)) {v : Int64} (k : ∀ H1 locs1, aH A (cAdr A) (CW A (G.tt' (up G.tt 2 v)) Y) s H1 locs1 → W p l e R s m args below meth c H1 locs1 cells slots Q (F0 m (pc + 3) ls rest)) : W p l e R s m args below meth c H locs cells slots Q (F0 m pc ls (.long v :: .ref (A.a 2) :: rest)) := va_put (D := A.D) (ci := 1) (v := .long v) (ty := .long) (C := RX1) (T := TX1) (N := 9) X.1.1 X.1.2.1 X.1.2.2.2.2 hin tyX1 tyX1_ok nmX1 X.1.2.2.2.1 X.2.1 hC.1 (X.D (CW_adr A G Y)) hC.2 2 rfl rfl 7 (by decide) (X.1.2.2.2.2 _ hl) (fun _ h => h) rfl (by decide +kernel) rfl rfl (Nat.le_of_ble_eq_true rfl) hdg (fun H1 locs1 hP _ hS => k H1 locs1 ⟨hP, hS⟩)
theorem agX1_roadsGone (X : aX p s m c cc nL args Ts own A (cAdr A)) (hC : aH A (cAdr A) (CW A G Y) s H locs) (hin : ∀ w ∈ u_ws RX1 TX1 9, w ∈ Ts) (hl : Cond.fieldLink own idx "PloughPlanner$Vehicle" "roadsGone" "J" ∈ Ts) (hdg : decode cc pc = .ok (.getfield idx, 3)) {v : Int64} (hv : G.tt 3 = v) (k : W p l e R s m args below meth c H locs cells slots Q (F0 m (pc + 3) ls (.long v :: rest))) : W p l e R s m args below meth c H locs cells slots Q (F0 m pc ls (.ref (A.a 2) :: rest)) := by
  subst hv
  exact va_get (D := A.D) (ci := 1) (v := .long (G.tt 3)) (C := RX1) (T := TX1) (N := 9) X.1.1 X.1.2.1 X.1.2.2.2.2 hin X.1.2.2.2.1 X.2.1 hC.1 2 rfl rfl 8 (by decide) (X.1.2.2.2.2 _ hl) (fun _ h => h) rfl hdg k
theorem apX1_roadsGone (X : aX p s m c cc nL args Ts own A (cAdr A)) (hC : aH A (cAdr A) (CW A G Y) s H locs) (hin : ∀ w ∈ u_ws RX1 TX1 9, w ∈ Ts) (hl : Cond.fieldLink own idx "PloughPlanner$Vehicle" "roadsGone" "J" ∈ Ts) (hdg : decode cc pc = .ok (.putfield idx, 3)) {v : Int64} (k : ∀ H1 locs1, aH A (cAdr A) (CW A (G.tt' (up G.tt 3 v)) Y) s H1 locs1 → W p l e R s m args below meth c H1 locs1 cells slots Q (F0 m (pc + 3) ls rest)) : W p l e R s m args below meth c H locs cells slots Q (F0 m pc ls (.long v :: .ref (A.a 2) :: rest)) := va_put (D := A.D) (ci := 1) (v := .long v) (ty := .long) (C := RX1) (T := TX1) (N := 9) X.1.1 X.1.2.1 X.1.2.2.2.2 hin tyX1 tyX1_ok nmX1 X.1.2.2.2.1 X.2.1 hC.1 (X.D (CW_adr A G Y)) hC.2 2 rfl rfl 8 (by decide) (X.1.2.2.2.2 _ hl) (fun _ h => h) rfl (by decide +kernel) rfl rfl (Nat.le_of_ble_eq_true rfl) hdg (fun H1 locs1 hP _ hS => k H1 locs1 ⟨hP, hS⟩)
theorem agX2_town (X : aX p s m c cc nL args Ts own A (cAdr A)) (hC : aH A (cAdr A) (CW A G Y) s H locs) (hin : ∀ w ∈ u_ws RX2 TX2 7, w ∈ Ts) (hl : Cond.fieldLink own idx "PloughPlanner$Ways" "town" "LPloughPlanner$Town;" ∈ Ts) (hdg : decode cc pc = .ok (.getfield idx, 3)) (k : W p l e R s m args below meth c H locs cells slots Q (F0 m (pc + 3) ls (.ref (A.a 1) :: rest))) : W p l e R s m args below meth c H locs cells slots Q (F0 m pc ls (.ref (A.a 3) :: rest)) := va_get (D := A.D) (ci := 2) (v := .ref (A.a 1)) (C := RX2) (T := TX2) (N := 7) X.1.1 X.1.2.1 X.1.2.2.2.2 hin X.1.2.2.2.1 X.2.1 hC.1 3 rfl rfl 0 (by decide) (X.1.2.2.2.2 _ hl) (fun _ h => h) rfl hdg k
theorem agX2_vehicle (X : aX p s m c cc nL args Ts own A (cAdr A)) (hC : aH A (cAdr A) (CW A G Y) s H locs) (hin : ∀ w ∈ u_ws RX2 TX2 7, w ∈ Ts) (hl : Cond.fieldLink own idx "PloughPlanner$Ways" "vehicle" "LPloughPlanner$Vehicle;" ∈ Ts) (hdg : decode cc pc = .ok (.getfield idx, 3)) (k : W p l e R s m args below meth c H locs cells slots Q (F0 m (pc + 3) ls (.ref (A.a 2) :: rest))) : W p l e R s m args below meth c H locs cells slots Q (F0 m pc ls (.ref (A.a 3) :: rest)) := va_get (D := A.D) (ci := 2) (v := .ref (A.a 2)) (C := RX2) (T := TX2) (N := 7) X.1.1 X.1.2.1 X.1.2.2.2.2 hin X.1.2.2.2.1 X.2.1 hC.1 3 rfl rfl 1 (by decide) (X.1.2.2.2.2 _ hl) (fun _ h => h) rfl hdg k
theorem agX2_minutes (X : aX p s m c cc nL args Ts own A (cAdr A)) (hC : aH A (cAdr A) (CW A G Y) s H locs) (hin : ∀ w ∈ u_ws RX2 TX2 7, w ∈ Ts) (hl : Cond.fieldLink own idx "PloughPlanner$Ways" "minutes" "[I" ∈ Ts) (hdg : decode cc pc = .ok (.getfield idx, 3)) (k : W p l e R s m args below meth c H locs cells slots Q (F0 m (pc + 3) ls (.ref (A.a 11) :: rest))) : W p l e R s m args below meth c H locs cells slots Q (F0 m pc ls (.ref (A.a 3) :: rest)) := va_get (D := A.D) (ci := 2) (v := .ref (A.a 11)) (C := RX2) (T := TX2) (N := 7) X.1.1 X.1.2.1 X.1.2.2.2.2 hin X.1.2.2.2.1 X.2.1 hC.1 3 rfl rfl 2 (by decide) (X.1.2.2.2.2 _ hl) (fun _ h => h) rfl hdg k
theorem agX2_lengths (X : aX p s m c cc nL args Ts own A (cAdr A)) (hC : aH A (cAdr A) (CW A G Y) s H locs) (hin : ∀ w ∈ u_ws RX2 TX2 7, w ∈ Ts) (hl : Cond.fieldLink own idx "PloughPlanner$Ways" "lengths" "[I" ∈ Ts) (hdg : decode cc pc = .ok (.getfield idx, 3)) (k : W p l e R s m args below meth c H locs cells slots Q (F0 m (pc + 3) ls (.ref (A.a 12) :: rest))) : W p l e R s m args below meth c H locs cells slots Q (F0 m pc ls (.ref (A.a 3) :: rest)) := va_get (D := A.D) (ci := 2) (v := .ref (A.a 12)) (C := RX2) (T := TX2) (N := 7) X.1.1 X.1.2.1 X.1.2.2.2.2 hin X.1.2.2.2.1 X.2.1 hC.1 3 rfl rfl 3 (by decide) (X.1.2.2.2.2 _ hl) (fun _ h => h) rfl hdg k
theorem agX2_rows (X : aX p s m c cc nL args Ts own A (cAdr A)) (hC : aH A (cAdr A) (CW A G Y) s H locs) (hin : ∀ w ∈ u_ws RX2 TX2 7, w ∈ Ts) (hl : Cond.fieldLink own idx "PloughPlanner$Ways" "rows" "[[I" ∈ Ts) (hdg : decode cc pc = .ok (.getfield idx, 3)) (k : W p l e R s m args below meth c H locs cells slots Q (F0 m (pc + 3) ls (.ref (A.a 13) :: rest))) : W p l e R s m args below meth c H locs cells slots Q (F0 m pc ls (.ref (A.a 3) :: rest)) := va_get (D := A.D) (ci := 2) (v := .ref (A.a 13)) (C := RX2) (T := TX2) (N := 7) X.1.1 X.1.2.1 X.1.2.2.2.2 hin X.1.2.2.2.1 X.2.1 hC.1 3 rfl rfl 4 (by decide) (X.1.2.2.2.2 _ hl) (fun _ h => h) rfl hdg k
theorem agX2_settled (X : aX p s m c cc nL args Ts own A (cAdr A)) (hC : aH A (cAdr A) (CW A G Y) s H locs) (hin : ∀ w ∈ u_ws RX2 TX2 7, w ∈ Ts) (hl : Cond.fieldLink own idx "PloughPlanner$Ways" "settled" "[Z" ∈ Ts) (hdg : decode cc pc = .ok (.getfield idx, 3)) (k : W p l e R s m args below meth c H locs cells slots Q (F0 m (pc + 3) ls (.ref (A.a 14) :: rest))) : W p l e R s m args below meth c H locs cells slots Q (F0 m pc ls (.ref (A.a 3) :: rest)) := va_get (D := A.D) (ci := 2) (v := .ref (A.a 14)) (C := RX2) (T := TX2) (N := 7) X.1.1 X.1.2.1 X.1.2.2.2.2 hin X.1.2.2.2.1 X.2.1 hC.1 3 rfl rfl 5 (by decide) (X.1.2.2.2.2 _ hl) (fun _ h => h) rfl hdg k
theorem agX2_start (X : aX p s m c cc nL args Ts own A (cAdr A)) (hC : aH A (cAdr A) (CW A G Y) s H locs) (hin : ∀ w ∈ u_ws RX2 TX2 7, w ∈ Ts) (hl : Cond.fieldLink own idx "PloughPlanner$Ways" "start" "I" ∈ Ts) (hdg : decode cc pc = .ok (.getfield idx, 3)) {v : Int} (hv : (Y.ws : Int) = v) (k : W p l e R s m args below meth c H locs cells slots Q (F0 m (pc + 3) ls (.int (iI v) :: rest))) : W p l e R s m args below meth c H locs cells slots Q (F0 m pc ls (.ref (A.a 3) :: rest)) := by
  subst hv
  exact va_get (D := A.D) (ci := 2) (v := .int (iI (Y.ws : Int))) (C := RX2) (T := TX2) (N := 7) X.1.1 X.1.2.1 X.1.2.2.2.2 hin X.1.2.2.2.1 X.2.1 hC.1 3 rfl rfl 6 (by decide) (X.1.2.2.2.2 _ hl) (fun _ h => h) rfl hdg k
theorem apX2_start (X : aX p s m c cc nL args Ts own A (cAdr A)) (hC : aH A (cAdr A) (CW A G Y) s H locs) (hin : ∀ w ∈ u_ws RX2 TX2 7, w ∈ Ts) (hl : Cond.fieldLink own idx "PloughPlanner$Ways" "start" "I" ∈ Ts) (hdg : decode cc pc = .ok (.putfield idx, 3)) {v : Int} {x : Nat} (hv : v = (x : Int)) (k : ∀ H1 locs1, aH A (cAdr A) (CW A G (Y.ws' x)) s H1 locs1 → W p l e R s m args below meth c H1 locs1 cells slots Q (F0 m (pc + 3) ls rest)) : W p l e R s m args below meth c H locs cells slots Q (F0 m pc ls (.int (iI v) :: .ref (A.a 3) :: rest)) := by
  subst hv
  exact va_put (D := A.D) (ci := 2) (v := .int (iI (x : Int))) (ty := .int) (C := RX2) (T := TX2) (N := 7) X.1.1 X.1.2.1 X.1.2.2.2.2 hin tyX2 tyX2_ok nmX2 X.1.2.2.2.1 X.2.1 hC.1 (X.D (CW_adr A G Y)) hC.2 3 rfl rfl 6 (by decide) (X.1.2.2.2.2 _ hl) (fun _ h => h) rfl (by decide +kernel) rfl rfl (Nat.le_of_ble_eq_true rfl) hdg (fun H1 locs1 hP _ hS => k H1 locs1 ⟨hP, hS⟩)
theorem agX4_thrown (X : aX p s m c cc nL args Ts own A (dAdr A)) (hC : aH A (dAdr A) (DW A G Z) s H locs) (hin : ∀ w ∈ u_ws RX4 TX4 18, w ∈ Ts) (hl : Cond.fieldLink own idx "PloughPlannerModel" "thrown" "I" ∈ Ts) (hdg : decode cc pc = .ok (.getfield idx, 3)) {v : Int} (hv : (Z.th : Int) = v) (k : W p l e R s m args below meth c H locs cells slots Q (F0 m (pc + 3) ls (.int (iI v) :: rest))) : W p l e R s m args below meth c H locs cells slots Q (F0 m pc ls (.ref (A.a 0) :: rest)) := by
  subst hv
  exact va_get (D := A.D) (ci := 4) (v := .int (iI (Z.th : Int))) (C := RX4) (T := TX4) (N := 18) X.1.1 X.1.2.1 X.1.2.2.2.2 hin X.1.2.2.2.1 X.2.1 hC.1 0 rfl rfl 0 (by decide) (X.1.2.2.2.2 _ hl) (fun _ h => h) rfl hdg k
theorem apX4_thrown (X : aX p s m c cc nL args Ts own A (dAdr A)) (hC : aH A (dAdr A) (DW A G Z) s H locs) (hin : ∀ w ∈ u_ws RX4 TX4 18, w ∈ Ts) (hl : Cond.fieldLink own idx "PloughPlannerModel" "thrown" "I" ∈ Ts) (hdg : decode cc pc = .ok (.putfield idx, 3)) {v : Int} {x : Nat} (hv : v = (x : Int)) (k : ∀ H1 locs1, aH A (dAdr A) (DW A G (Z.th' x)) s H1 locs1 → W p l e R s m args below meth c H1 locs1 cells slots Q (F0 m (pc + 3) ls rest)) : W p l e R s m args below meth c H locs cells slots Q (F0 m pc ls (.int (iI v) :: .ref (A.a 0) :: rest)) := by
  subst hv
  exact va_put (D := A.D) (ci := 4) (v := .int (iI (x : Int))) (ty := .int) (C := RX4) (T := TX4) (N := 18) X.1.1 X.1.2.1 X.1.2.2.2.2 hin tyX4 tyX4_ok nmX4 X.1.2.2.2.1 X.2.1 hC.1 (X.D (DW_adr A G Z)) hC.2 0 rfl rfl 0 (by decide) (X.1.2.2.2.2 _ hl) (fun _ h => h) rfl (by decide +kernel) rfl rfl (Nat.le_of_ble_eq_true rfl) hdg (fun H1 locs1 hP _ hS => k H1 locs1 ⟨hP, hS⟩)
theorem agX4_nodes (X : aX p s m c cc nL args Ts own A (dAdr A)) (hC : aH A (dAdr A) (DW A G Z) s H locs) (hin : ∀ w ∈ u_ws RX4 TX4 18, w ∈ Ts) (hl : Cond.fieldLink own idx "PloughPlannerModel" "nodes" "I" ∈ Ts) (hdg : decode cc pc = .ok (.getfield idx, 3)) {v : Int} (hv : (G.nn : Int) = v) (k : W p l e R s m args below meth c H locs cells slots Q (F0 m (pc + 3) ls (.int (iI v) :: rest))) : W p l e R s m args below meth c H locs cells slots Q (F0 m pc ls (.ref (A.a 0) :: rest)) := by
  subst hv
  exact va_get (D := A.D) (ci := 4) (v := .int (iI (G.nn : Int))) (C := RX4) (T := TX4) (N := 18) X.1.1 X.1.2.1 X.1.2.2.2.2 hin X.1.2.2.2.1 X.2.1 hC.1 0 rfl rfl 1 (by decide) (X.1.2.2.2.2 _ hl) (fun _ h => h) rfl hdg k
theorem apX4_nodes (X : aX p s m c cc nL args Ts own A (dAdr A)) (hC : aH A (dAdr A) (DW A G Z) s H locs) (hin : ∀ w ∈ u_ws RX4 TX4 18, w ∈ Ts) (hl : Cond.fieldLink own idx "PloughPlannerModel" "nodes" "I" ∈ Ts) (hdg : decode cc pc = .ok (.putfield idx, 3)) {v : Int} {x : Nat} (hv : v = (x : Int)) (k : ∀ H1 locs1, aH A (dAdr A) (DW A (G.nn' x) Z) s H1 locs1 → W p l e R s m args below meth c H1 locs1 cells slots Q (F0 m (pc + 3) ls rest)) : W p l e R s m args below meth c H locs cells slots Q (F0 m pc ls (.int (iI v) :: .ref (A.a 0) :: rest)) := by
  subst hv
  exact va_put (D := A.D) (ci := 4) (v := .int (iI (x : Int))) (ty := .int) (C := RX4) (T := TX4) (N := 18) X.1.1 X.1.2.1 X.1.2.2.2.2 hin tyX4 tyX4_ok nmX4 X.1.2.2.2.1 X.2.1 hC.1 (X.D (DW_adr A G Z)) hC.2 0 rfl rfl 1 (by decide) (X.1.2.2.2.2 _ hl) (fun _ h => h) rfl (by decide +kernel) rfl rfl (Nat.le_of_ble_eq_true rfl) hdg (fun H1 locs1 hP _ hS => k H1 locs1 ⟨hP, hS⟩)
theorem agX4_areTurning (X : aX p s m c cc nL args Ts own A (dAdr A)) (hC : aH A (dAdr A) (DW A G Z) s H locs) (hin : ∀ w ∈ u_ws RX4 TX4 18, w ∈ Ts) (hl : Cond.fieldLink own idx "PloughPlannerModel" "areTurning" "[Z" ∈ Ts) (hdg : decode cc pc = .ok (.getfield idx, 3)) (k : W p l e R s m args below meth c H locs cells slots Q (F0 m (pc + 3) ls (.ref (A.a 1) :: rest))) : W p l e R s m args below meth c H locs cells slots Q (F0 m pc ls (.ref (A.a 0) :: rest)) := va_get (D := A.D) (ci := 4) (v := .ref (A.a 1)) (C := RX4) (T := TX4) (N := 18) X.1.1 X.1.2.1 X.1.2.2.2.2 hin X.1.2.2.2.1 X.2.1 hC.1 0 rfl rfl 2 (by decide) (X.1.2.2.2.2 _ hl) (fun _ h => h) rfl hdg k
theorem agX4_areStores (X : aX p s m c cc nL args Ts own A (dAdr A)) (hC : aH A (dAdr A) (DW A G Z) s H locs) (hin : ∀ w ∈ u_ws RX4 TX4 18, w ∈ Ts) (hl : Cond.fieldLink own idx "PloughPlannerModel" "areStores" "[Z" ∈ Ts) (hdg : decode cc pc = .ok (.getfield idx, 3)) (k : W p l e R s m args below meth c H locs cells slots Q (F0 m (pc + 3) ls (.ref (A.a 2) :: rest))) : W p l e R s m args below meth c H locs cells slots Q (F0 m pc ls (.ref (A.a 0) :: rest)) := va_get (D := A.D) (ci := 4) (v := .ref (A.a 2)) (C := RX4) (T := TX4) (N := 18) X.1.1 X.1.2.1 X.1.2.2.2.2 hin X.1.2.2.2.1 X.2.1 hC.1 0 rfl rfl 3 (by decide) (X.1.2.2.2.2 _ hl) (fun _ h => h) rfl hdg k
theorem agX4_roads (X : aX p s m c cc nL args Ts own A (dAdr A)) (hC : aH A (dAdr A) (DW A G Z) s H locs) (hin : ∀ w ∈ u_ws RX4 TX4 18, w ∈ Ts) (hl : Cond.fieldLink own idx "PloughPlannerModel" "roads" "I" ∈ Ts) (hdg : decode cc pc = .ok (.getfield idx, 3)) {v : Int} (hv : (G.rr : Int) = v) (k : W p l e R s m args below meth c H locs cells slots Q (F0 m (pc + 3) ls (.int (iI v) :: rest))) : W p l e R s m args below meth c H locs cells slots Q (F0 m pc ls (.ref (A.a 0) :: rest)) := by
  subst hv
  exact va_get (D := A.D) (ci := 4) (v := .int (iI (G.rr : Int))) (C := RX4) (T := TX4) (N := 18) X.1.1 X.1.2.1 X.1.2.2.2.2 hin X.1.2.2.2.1 X.2.1 hC.1 0 rfl rfl 4 (by decide) (X.1.2.2.2.2 _ hl) (fun _ h => h) rfl hdg k
theorem apX4_roads (X : aX p s m c cc nL args Ts own A (dAdr A)) (hC : aH A (dAdr A) (DW A G Z) s H locs) (hin : ∀ w ∈ u_ws RX4 TX4 18, w ∈ Ts) (hl : Cond.fieldLink own idx "PloughPlannerModel" "roads" "I" ∈ Ts) (hdg : decode cc pc = .ok (.putfield idx, 3)) {v : Int} {x : Nat} (hv : v = (x : Int)) (k : ∀ H1 locs1, aH A (dAdr A) (DW A (G.rr' x) Z) s H1 locs1 → W p l e R s m args below meth c H1 locs1 cells slots Q (F0 m (pc + 3) ls rest)) : W p l e R s m args below meth c H locs cells slots Q (F0 m pc ls (.int (iI v) :: .ref (A.a 0) :: rest)) := by
  subst hv
  exact va_put (D := A.D) (ci := 4) (v := .int (iI (x : Int))) (ty := .int) (C := RX4) (T := TX4) (N := 18) X.1.1 X.1.2.1 X.1.2.2.2.2 hin tyX4 tyX4_ok nmX4 X.1.2.2.2.1 X.2.1 hC.1 (X.D (DW_adr A G Z)) hC.2 0 rfl rfl 4 (by decide) (X.1.2.2.2.2 _ hl) (fun _ h => h) rfl (by decide +kernel) rfl rfl (Nat.le_of_ble_eq_true rfl) hdg (fun H1 locs1 hP _ hS => k H1 locs1 ⟨hP, hS⟩)
theorem agX4_ends (X : aX p s m c cc nL args Ts own A (dAdr A)) (hC : aH A (dAdr A) (DW A G Z) s H locs) (hin : ∀ w ∈ u_ws RX4 TX4 18, w ∈ Ts) (hl : Cond.fieldLink own idx "PloughPlannerModel" "ends" "[I" ∈ Ts) (hdg : decode cc pc = .ok (.getfield idx, 3)) (k : W p l e R s m args below meth c H locs cells slots Q (F0 m (pc + 3) ls (.ref (A.a 3) :: rest))) : W p l e R s m args below meth c H locs cells slots Q (F0 m pc ls (.ref (A.a 0) :: rest)) := va_get (D := A.D) (ci := 4) (v := .ref (A.a 3)) (C := RX4) (T := TX4) (N := 18) X.1.1 X.1.2.1 X.1.2.2.2.2 hin X.1.2.2.2.1 X.2.1 hC.1 0 rfl rfl 5 (by decide) (X.1.2.2.2.2 _ hl) (fun _ h => h) rfl hdg k
theorem agX4_lengths (X : aX p s m c cc nL args Ts own A (dAdr A)) (hC : aH A (dAdr A) (DW A G Z) s H locs) (hin : ∀ w ∈ u_ws RX4 TX4 18, w ∈ Ts) (hl : Cond.fieldLink own idx "PloughPlannerModel" "lengths" "[I" ∈ Ts) (hdg : decode cc pc = .ok (.getfield idx, 3)) (k : W p l e R s m args below meth c H locs cells slots Q (F0 m (pc + 3) ls (.ref (A.a 4) :: rest))) : W p l e R s m args below meth c H locs cells slots Q (F0 m pc ls (.ref (A.a 0) :: rest)) := va_get (D := A.D) (ci := 4) (v := .ref (A.a 4)) (C := RX4) (T := TX4) (N := 18) X.1.1 X.1.2.1 X.1.2.2.2.2 hin X.1.2.2.2.1 X.2.1 hC.1 0 rfl rfl 6 (by decide) (X.1.2.2.2.2 _ hl) (fun _ h => h) rfl hdg k
theorem agX4_priorities (X : aX p s m c cc nL args Ts own A (dAdr A)) (hC : aH A (dAdr A) (DW A G Z) s H locs) (hin : ∀ w ∈ u_ws RX4 TX4 18, w ∈ Ts) (hl : Cond.fieldLink own idx "PloughPlannerModel" "priorities" "[I" ∈ Ts) (hdg : decode cc pc = .ok (.getfield idx, 3)) (k : W p l e R s m args below meth c H locs cells slots Q (F0 m (pc + 3) ls (.ref (A.a 5) :: rest))) : W p l e R s m args below meth c H locs cells slots Q (F0 m pc ls (.ref (A.a 0) :: rest)) := va_get (D := A.D) (ci := 4) (v := .ref (A.a 5)) (C := RX4) (T := TX4) (N := 18) X.1.1 X.1.2.1 X.1.2.2.2.2 hin X.1.2.2.2.1 X.2.1 hC.1 0 rfl rfl 7 (by decide) (X.1.2.2.2.2 _ hl) (fun _ h => h) rfl hdg k
theorem agX4_depths (X : aX p s m c cc nL args Ts own A (dAdr A)) (hC : aH A (dAdr A) (DW A G Z) s H locs) (hin : ∀ w ∈ u_ws RX4 TX4 18, w ∈ Ts) (hl : Cond.fieldLink own idx "PloughPlannerModel" "depths" "[I" ∈ Ts) (hdg : decode cc pc = .ok (.getfield idx, 3)) (k : W p l e R s m args below meth c H locs cells slots Q (F0 m (pc + 3) ls (.ref (A.a 6) :: rest))) : W p l e R s m args below meth c H locs cells slots Q (F0 m pc ls (.ref (A.a 0) :: rest)) := va_get (D := A.D) (ci := 4) (v := .ref (A.a 6)) (C := RX4) (T := TX4) (N := 18) X.1.1 X.1.2.1 X.1.2.2.2.2 hin X.1.2.2.2.1 X.2.1 hC.1 0 rfl rfl 8 (by decide) (X.1.2.2.2.2 _ hl) (fun _ h => h) rfl hdg k
theorem agX4_areSalted (X : aX p s m c cc nL args Ts own A (dAdr A)) (hC : aH A (dAdr A) (DW A G Z) s H locs) (hin : ∀ w ∈ u_ws RX4 TX4 18, w ∈ Ts) (hl : Cond.fieldLink own idx "PloughPlannerModel" "areSalted" "[Z" ∈ Ts) (hdg : decode cc pc = .ok (.getfield idx, 3)) (k : W p l e R s m args below meth c H locs cells slots Q (F0 m (pc + 3) ls (.ref (A.a 7) :: rest))) : W p l e R s m args below meth c H locs cells slots Q (F0 m pc ls (.ref (A.a 0) :: rest)) := va_get (D := A.D) (ci := 4) (v := .ref (A.a 7)) (C := RX4) (T := TX4) (N := 18) X.1.1 X.1.2.1 X.1.2.2.2.2 hin X.1.2.2.2.1 X.2.1 hC.1 0 rfl rfl 9 (by decide) (X.1.2.2.2.2 _ hl) (fun _ h => h) rfl hdg k
theorem agX4_at (X : aX p s m c cc nL args Ts own A (dAdr A)) (hC : aH A (dAdr A) (DW A G Z) s H locs) (hin : ∀ w ∈ u_ws RX4 TX4 18, w ∈ Ts) (hl : Cond.fieldLink own idx "PloughPlannerModel" "at" "I" ∈ Ts) (hdg : decode cc pc = .ok (.getfield idx, 3)) {v : Int} (hv : (G.vn : Int) = v) (k : W p l e R s m args below meth c H locs cells slots Q (F0 m (pc + 3) ls (.int (iI v) :: rest))) : W p l e R s m args below meth c H locs cells slots Q (F0 m pc ls (.ref (A.a 0) :: rest)) := by
  subst hv
  exact va_get (D := A.D) (ci := 4) (v := .int (iI (G.vn : Int))) (C := RX4) (T := TX4) (N := 18) X.1.1 X.1.2.1 X.1.2.2.2.2 hin X.1.2.2.2.1 X.2.1 hC.1 0 rfl rfl 10 (by decide) (X.1.2.2.2.2 _ hl) (fun _ h => h) rfl hdg k
theorem apX4_at (X : aX p s m c cc nL args Ts own A (dAdr A)) (hC : aH A (dAdr A) (DW A G Z) s H locs) (hin : ∀ w ∈ u_ws RX4 TX4 18, w ∈ Ts) (hl : Cond.fieldLink own idx "PloughPlannerModel" "at" "I" ∈ Ts) (hdg : decode cc pc = .ok (.putfield idx, 3)) {v : Int} {x : Nat} (hv : v = (x : Int)) (k : ∀ H1 locs1, aH A (dAdr A) (DW A (G.vn' x) Z) s H1 locs1 → W p l e R s m args below meth c H1 locs1 cells slots Q (F0 m (pc + 3) ls rest)) : W p l e R s m args below meth c H locs cells slots Q (F0 m pc ls (.int (iI v) :: .ref (A.a 0) :: rest)) := by
  subst hv
  exact va_put (D := A.D) (ci := 4) (v := .int (iI (x : Int))) (ty := .int) (C := RX4) (T := TX4) (N := 18) X.1.1 X.1.2.1 X.1.2.2.2.2 hin tyX4 tyX4_ok nmX4 X.1.2.2.2.1 X.2.1 hC.1 (X.D (DW_adr A G Z)) hC.2 0 rfl rfl 10 (by decide) (X.1.2.2.2.2 _ hl) (fun _ h => h) rfl (by decide +kernel) rfl rfl (Nat.le_of_ble_eq_true rfl) hdg (fun H1 locs1 hP _ hS => k H1 locs1 ⟨hP, hS⟩)
theorem agX4_came (X : aX p s m c cc nL args Ts own A (dAdr A)) (hC : aH A (dAdr A) (DW A G Z) s H locs) (hin : ∀ w ∈ u_ws RX4 TX4 18, w ∈ Ts) (hl : Cond.fieldLink own idx "PloughPlannerModel" "came" "I" ∈ Ts) (hdg : decode cc pc = .ok (.getfield idx, 3)) {v : Int} (hv : G.vc = v) (k : W p l e R s m args below meth c H locs cells slots Q (F0 m (pc + 3) ls (.int (iI v) :: rest))) : W p l e R s m args below meth c H locs cells slots Q (F0 m pc ls (.ref (A.a 0) :: rest)) := by
  subst hv
  exact va_get (D := A.D) (ci := 4) (v := .int (iI G.vc)) (C := RX4) (T := TX4) (N := 18) X.1.1 X.1.2.1 X.1.2.2.2.2 hin X.1.2.2.2.1 X.2.1 hC.1 0 rfl rfl 11 (by decide) (X.1.2.2.2.2 _ hl) (fun _ h => h) rfl hdg k
theorem apX4_came (X : aX p s m c cc nL args Ts own A (dAdr A)) (hC : aH A (dAdr A) (DW A G Z) s H locs) (hin : ∀ w ∈ u_ws RX4 TX4 18, w ∈ Ts) (hl : Cond.fieldLink own idx "PloughPlannerModel" "came" "I" ∈ Ts) (hdg : decode cc pc = .ok (.putfield idx, 3)) {v : Int} {x : Int} (hv : v = x) (k : ∀ H1 locs1, aH A (dAdr A) (DW A (G.vc' x) Z) s H1 locs1 → W p l e R s m args below meth c H1 locs1 cells slots Q (F0 m (pc + 3) ls rest)) : W p l e R s m args below meth c H locs cells slots Q (F0 m pc ls (.int (iI v) :: .ref (A.a 0) :: rest)) := by
  subst hv
  exact va_put (D := A.D) (ci := 4) (v := .int (iI v)) (ty := .int) (C := RX4) (T := TX4) (N := 18) X.1.1 X.1.2.1 X.1.2.2.2.2 hin tyX4 tyX4_ok nmX4 X.1.2.2.2.1 X.2.1 hC.1 (X.D (DW_adr A G Z)) hC.2 0 rfl rfl 11 (by decide) (X.1.2.2.2.2 _ hl) (fun _ h => h) rfl (by decide +kernel) rfl rfl (Nat.le_of_ble_eq_true rfl) hdg (fun H1 locs1 hP _ hS => k H1 locs1 ⟨hP, hS⟩)
theorem agX4_salt (X : aX p s m c cc nL args Ts own A (dAdr A)) (hC : aH A (dAdr A) (DW A G Z) s H locs) (hin : ∀ w ∈ u_ws RX4 TX4 18, w ∈ Ts) (hl : Cond.fieldLink own idx "PloughPlannerModel" "salt" "I" ∈ Ts) (hdg : decode cc pc = .ok (.getfield idx, 3)) {v : Int} (hv : (G.vs : Int) = v) (k : W p l e R s m args below meth c H locs cells slots Q (F0 m (pc + 3) ls (.int (iI v) :: rest))) : W p l e R s m args below meth c H locs cells slots Q (F0 m pc ls (.ref (A.a 0) :: rest)) := by
  subst hv
  exact va_get (D := A.D) (ci := 4) (v := .int (iI (G.vs : Int))) (C := RX4) (T := TX4) (N := 18) X.1.1 X.1.2.1 X.1.2.2.2.2 hin X.1.2.2.2.1 X.2.1 hC.1 0 rfl rfl 12 (by decide) (X.1.2.2.2.2 _ hl) (fun _ h => h) rfl hdg k
theorem apX4_salt (X : aX p s m c cc nL args Ts own A (dAdr A)) (hC : aH A (dAdr A) (DW A G Z) s H locs) (hin : ∀ w ∈ u_ws RX4 TX4 18, w ∈ Ts) (hl : Cond.fieldLink own idx "PloughPlannerModel" "salt" "I" ∈ Ts) (hdg : decode cc pc = .ok (.putfield idx, 3)) {v : Int} {x : Nat} (hv : v = (x : Int)) (k : ∀ H1 locs1, aH A (dAdr A) (DW A (G.vs' x) Z) s H1 locs1 → W p l e R s m args below meth c H1 locs1 cells slots Q (F0 m (pc + 3) ls rest)) : W p l e R s m args below meth c H locs cells slots Q (F0 m pc ls (.int (iI v) :: .ref (A.a 0) :: rest)) := by
  subst hv
  exact va_put (D := A.D) (ci := 4) (v := .int (iI (x : Int))) (ty := .int) (C := RX4) (T := TX4) (N := 18) X.1.1 X.1.2.1 X.1.2.2.2.2 hin tyX4 tyX4_ok nmX4 X.1.2.2.2.1 X.2.1 hC.1 (X.D (DW_adr A G Z)) hC.2 0 rfl rfl 12 (by decide) (X.1.2.2.2.2 _ hl) (fun _ h => h) rfl (by decide +kernel) rfl rfl (Nat.le_of_ble_eq_true rfl) hdg (fun H1 locs1 hP _ hS => k H1 locs1 ⟨hP, hS⟩)
theorem agX4_strews (X : aX p s m c cc nL args Ts own A (dAdr A)) (hC : aH A (dAdr A) (DW A G Z) s H locs) (hin : ∀ w ∈ u_ws RX4 TX4 18, w ∈ Ts) (hl : Cond.fieldLink own idx "PloughPlannerModel" "strews" "Z" ∈ Ts) (hdg : decode cc pc = .ok (.getfield idx, 3)) {v : Int} (hv : (G.vw : Int) = v) (k : W p l e R s m args below meth c H locs cells slots Q (F0 m (pc + 3) ls (.int (iI v) :: rest))) : W p l e R s m args below meth c H locs cells slots Q (F0 m pc ls (.ref (A.a 0) :: rest)) := by
  subst hv
  exact va_get (D := A.D) (ci := 4) (v := .int (iI (G.vw : Int))) (C := RX4) (T := TX4) (N := 18) X.1.1 X.1.2.1 X.1.2.2.2.2 hin X.1.2.2.2.1 X.2.1 hC.1 0 rfl rfl 13 (by decide) (X.1.2.2.2.2 _ hl) (fun _ h => h) rfl hdg k
theorem apX4_strews (X : aX p s m c cc nL args Ts own A (dAdr A)) (hC : aH A (dAdr A) (DW A G Z) s H locs) (hin : ∀ w ∈ u_ws RX4 TX4 18, w ∈ Ts) (hl : Cond.fieldLink own idx "PloughPlannerModel" "strews" "Z" ∈ Ts) (hdg : decode cc pc = .ok (.putfield idx, 3)) {v : Int} {x : Nat} (hv : v = (x : Int)) (h01 : 0 ≤ v ∧ v ≤ 1) (k : ∀ H1 locs1, aH A (dAdr A) (DW A (G.vw' x) Z) s H1 locs1 → W p l e R s m args below meth c H1 locs1 cells slots Q (F0 m (pc + 3) ls rest)) : W p l e R s m args below meth c H locs cells slots Q (F0 m pc ls (.int (iI v) :: .ref (A.a 0) :: rest)) := by
  subst hv
  exact va_put (D := A.D) (ci := 4) (v := .int (iI (x : Int))) (ty := .boolean) (C := RX4) (T := TX4) (N := 18) X.1.1 X.1.2.1 X.1.2.2.2.2 hin tyX4 tyX4_ok nmX4 X.1.2.2.2.1 X.2.1 hC.1 (X.D (DW_adr A G Z)) hC.2 0 rfl rfl 13 (by decide) (X.1.2.2.2.2 _ hl) (fun _ h => h) rfl (by decide +kernel) (nar_b2 h01) (fit_b2 h01) (Nat.le_of_ble_eq_true rfl) hdg (fun H1 locs1 hP _ hS => k H1 locs1 ⟨hP, hS⟩)
theorem agX4_totals (X : aX p s m c cc nL args Ts own A (dAdr A)) (hC : aH A (dAdr A) (DW A G Z) s H locs) (hin : ∀ w ∈ u_ws RX4 TX4 18, w ∈ Ts) (hl : Cond.fieldLink own idx "PloughPlannerModel" "totals" "[J" ∈ Ts) (hdg : decode cc pc = .ok (.getfield idx, 3)) (k : W p l e R s m args below meth c H locs cells slots Q (F0 m (pc + 3) ls (.ref (A.a 8) :: rest))) : W p l e R s m args below meth c H locs cells slots Q (F0 m pc ls (.ref (A.a 0) :: rest)) := va_get (D := A.D) (ci := 4) (v := .ref (A.a 8)) (C := RX4) (T := TX4) (N := 18) X.1.1 X.1.2.1 X.1.2.2.2.2 hin X.1.2.2.2.1 X.2.1 hC.1 0 rfl rfl 14 (by decide) (X.1.2.2.2.2 _ hl) (fun _ h => h) rfl hdg k
theorem agX4_weights (X : aX p s m c cc nL args Ts own A (dAdr A)) (hC : aH A (dAdr A) (DW A G Z) s H locs) (hin : ∀ w ∈ u_ws RX4 TX4 18, w ∈ Ts) (hl : Cond.fieldLink own idx "PloughPlannerModel" "weights" "[I" ∈ Ts) (hdg : decode cc pc = .ok (.getfield idx, 3)) (k : W p l e R s m args below meth c H locs cells slots Q (F0 m (pc + 3) ls (.ref (A.a 9) :: rest))) : W p l e R s m args below meth c H locs cells slots Q (F0 m pc ls (.ref (A.a 0) :: rest)) := va_get (D := A.D) (ci := 4) (v := .ref (A.a 9)) (C := RX4) (T := TX4) (N := 18) X.1.1 X.1.2.1 X.1.2.2.2.2 hin X.1.2.2.2.1 X.2.1 hC.1 0 rfl rfl 15 (by decide) (X.1.2.2.2.2 _ hl) (fun _ h => h) rfl hdg k
theorem agX4_goalNode (X : aX p s m c cc nL args Ts own A (dAdr A)) (hC : aH A (dAdr A) (DW A G Z) s H locs) (hin : ∀ w ∈ u_ws RX4 TX4 18, w ∈ Ts) (hl : Cond.fieldLink own idx "PloughPlannerModel" "goalNode" "I" ∈ Ts) (hdg : decode cc pc = .ok (.getfield idx, 3)) {v : Int} (hv : Z.gn = v) (k : W p l e R s m args below meth c H locs cells slots Q (F0 m (pc + 3) ls (.int (iI v) :: rest))) : W p l e R s m args below meth c H locs cells slots Q (F0 m pc ls (.ref (A.a 0) :: rest)) := by
  subst hv
  exact va_get (D := A.D) (ci := 4) (v := .int (iI Z.gn)) (C := RX4) (T := TX4) (N := 18) X.1.1 X.1.2.1 X.1.2.2.2.2 hin X.1.2.2.2.1 X.2.1 hC.1 0 rfl rfl 16 (by decide) (X.1.2.2.2.2 _ hl) (fun _ h => h) rfl hdg k
theorem apX4_goalNode (X : aX p s m c cc nL args Ts own A (dAdr A)) (hC : aH A (dAdr A) (DW A G Z) s H locs) (hin : ∀ w ∈ u_ws RX4 TX4 18, w ∈ Ts) (hl : Cond.fieldLink own idx "PloughPlannerModel" "goalNode" "I" ∈ Ts) (hdg : decode cc pc = .ok (.putfield idx, 3)) {v : Int} {x : Int} (hv : v = x) (k : ∀ H1 locs1, aH A (dAdr A) (DW A G (Z.gn' x)) s H1 locs1 → W p l e R s m args below meth c H1 locs1 cells slots Q (F0 m (pc + 3) ls rest)) : W p l e R s m args below meth c H locs cells slots Q (F0 m pc ls (.int (iI v) :: .ref (A.a 0) :: rest)) := by
  subst hv
  exact va_put (D := A.D) (ci := 4) (v := .int (iI v)) (ty := .int) (C := RX4) (T := TX4) (N := 18) X.1.1 X.1.2.1 X.1.2.2.2.2 hin tyX4 tyX4_ok nmX4 X.1.2.2.2.1 X.2.1 hC.1 (X.D (DW_adr A G Z)) hC.2 0 rfl rfl 16 (by decide) (X.1.2.2.2.2 _ hl) (fun _ h => h) rfl (by decide +kernel) rfl rfl (Nat.le_of_ble_eq_true rfl) hdg (fun H1 locs1 hP _ hS => k H1 locs1 ⟨hP, hS⟩)
theorem agX4_goalSide (X : aX p s m c cc nL args Ts own A (dAdr A)) (hC : aH A (dAdr A) (DW A G Z) s H locs) (hin : ∀ w ∈ u_ws RX4 TX4 18, w ∈ Ts) (hl : Cond.fieldLink own idx "PloughPlannerModel" "goalSide" "I" ∈ Ts) (hdg : decode cc pc = .ok (.getfield idx, 3)) {v : Int} (hv : Z.gs = v) (k : W p l e R s m args below meth c H locs cells slots Q (F0 m (pc + 3) ls (.int (iI v) :: rest))) : W p l e R s m args below meth c H locs cells slots Q (F0 m pc ls (.ref (A.a 0) :: rest)) := by
  subst hv
  exact va_get (D := A.D) (ci := 4) (v := .int (iI Z.gs)) (C := RX4) (T := TX4) (N := 18) X.1.1 X.1.2.1 X.1.2.2.2.2 hin X.1.2.2.2.1 X.2.1 hC.1 0 rfl rfl 17 (by decide) (X.1.2.2.2.2 _ hl) (fun _ h => h) rfl hdg k
theorem apX4_goalSide (X : aX p s m c cc nL args Ts own A (dAdr A)) (hC : aH A (dAdr A) (DW A G Z) s H locs) (hin : ∀ w ∈ u_ws RX4 TX4 18, w ∈ Ts) (hl : Cond.fieldLink own idx "PloughPlannerModel" "goalSide" "I" ∈ Ts) (hdg : decode cc pc = .ok (.putfield idx, 3)) {v : Int} {x : Int} (hv : v = x) (k : ∀ H1 locs1, aH A (dAdr A) (DW A G (Z.gs' x)) s H1 locs1 → W p l e R s m args below meth c H1 locs1 cells slots Q (F0 m (pc + 3) ls rest)) : W p l e R s m args below meth c H locs cells slots Q (F0 m pc ls (.int (iI v) :: .ref (A.a 0) :: rest)) := by
  subst hv
  exact va_put (D := A.D) (ci := 4) (v := .int (iI v)) (ty := .int) (C := RX4) (T := TX4) (N := 18) X.1.1 X.1.2.1 X.1.2.2.2.2 hin tyX4 tyX4_ok nmX4 X.1.2.2.2.1 X.2.1 hC.1 (X.D (DW_adr A G Z)) hC.2 0 rfl rfl 17 (by decide) (X.1.2.2.2.2 _ hl) (fun _ h => h) rfl (by decide +kernel) rfl rfl (Nat.le_of_ble_eq_true rfl) hdg (fun H1 locs1 hP _ hS => k H1 locs1 ⟨hP, hS⟩)
theorem alC_tu (X : aX p s m c cc nL args Ts own A (cAdr A)) (hC : aH A (cAdr A) (CW A G Y) s H locs) {a v : Int} {k0 : Nat} (hk : a = (k0 : Int)) (hlt : k0 < 8) (hv : (G.tu k0 : Int) = v) (hdg : decode cc pc = .ok (.baload, 1)) (k : W p l e R s m args below meth c H locs cells slots Q (F0 m (pc + 1) ls (.int (iI v) :: rest))) : W p l e R s m args below meth c H locs cells slots Q (F0 m pc ls (.int (iI a) :: .ref (A.a 4) :: rest)) := by
  have e : (cF G.tu) (iI a).toNatClampNeg = iI v := by
    rw [iI_cl hk (by omega), ← hv]
    rfl
  exact va_zald (D := A.D) X.1.1 X.1.2.1 X.2.1 hC.1 4 1 rfl rfl (iI_in hk hlt (by decide)) hdg (by rw [e]; exact k)
theorem asC_tu (X : aX p s m c cc nL args Ts own A (cAdr A)) (hC : aH A (cAdr A) (CW A G Y) s H locs) {a v : Int} {k0 : Nat} {x : Nat} (hk : a = (k0 : Int)) (hlt : k0 < 8) (hv : v = (x : Int)) (h01 : 0 ≤ v ∧ v ≤ 1) (hdg : decode cc pc = .ok (.bastore, 1)) (k : ∀ H1 locs1, aH A (cAdr A) (CW A (G.tu' (up G.tu k0 x)) Y) s H1 locs1 → W p l e R s m args below meth c H1 locs1 cells slots Q (F0 m (pc + 1) ls rest)) : W p l e R s m args below meth c H locs cells slots Q (F0 m pc ls (.int (iI v) :: .int (iI a) :: .ref (A.a 4) :: rest)) := by
  have e : upd (cF G.tu) (iI a).toNatClampNeg (vp_nar .boolean (iI v)) = cF (up G.tu k0 x) := by
    rw [nar_b h01]
    exact cF_up _ hk (by omega) hv
  exact va_zast (D := A.D) X.1.1 X.1.2.1 X.2.1 hC.1 (X.D (CW_adr A G Y)) hC.2 4 1 rfl rfl (iI_in hk hlt (by decide)) hdg (fun H1 locs1 hP _ hS => k H1 locs1 ⟨by rw [e] at hP; exact hP, hS⟩)
theorem alC_st (X : aX p s m c cc nL args Ts own A (cAdr A)) (hC : aH A (cAdr A) (CW A G Y) s H locs) {a v : Int} {k0 : Nat} (hk : a = (k0 : Int)) (hlt : k0 < 8) (hv : (G.st k0 : Int) = v) (hdg : decode cc pc = .ok (.baload, 1)) (k : W p l e R s m args below meth c H locs cells slots Q (F0 m (pc + 1) ls (.int (iI v) :: rest))) : W p l e R s m args below meth c H locs cells slots Q (F0 m pc ls (.int (iI a) :: .ref (A.a 5) :: rest)) := by
  have e : (cF G.st) (iI a).toNatClampNeg = iI v := by
    rw [iI_cl hk (by omega), ← hv]
    rfl
  exact va_zald (D := A.D) X.1.1 X.1.2.1 X.2.1 hC.1 5 1 rfl rfl (iI_in hk hlt (by decide)) hdg (by rw [e]; exact k)
theorem asC_st (X : aX p s m c cc nL args Ts own A (cAdr A)) (hC : aH A (cAdr A) (CW A G Y) s H locs) {a v : Int} {k0 : Nat} {x : Nat} (hk : a = (k0 : Int)) (hlt : k0 < 8) (hv : v = (x : Int)) (h01 : 0 ≤ v ∧ v ≤ 1) (hdg : decode cc pc = .ok (.bastore, 1)) (k : ∀ H1 locs1, aH A (cAdr A) (CW A (G.st' (up G.st k0 x)) Y) s H1 locs1 → W p l e R s m args below meth c H1 locs1 cells slots Q (F0 m (pc + 1) ls rest)) : W p l e R s m args below meth c H locs cells slots Q (F0 m pc ls (.int (iI v) :: .int (iI a) :: .ref (A.a 5) :: rest)) := by
  have e : upd (cF G.st) (iI a).toNatClampNeg (vp_nar .boolean (iI v)) = cF (up G.st k0 x) := by
    rw [nar_b h01]
    exact cF_up _ hk (by omega) hv
  exact va_zast (D := A.D) X.1.1 X.1.2.1 X.2.1 hC.1 (X.D (CW_adr A G Y)) hC.2 5 1 rfl rfl (iI_in hk hlt (by decide)) hdg (fun H1 locs1 hP _ hS => k H1 locs1 ⟨by rw [e] at hP; exact hP, hS⟩)
theorem alC_sm (X : aX p s m c cc nL args Ts own A (cAdr A)) (hC : aH A (cAdr A) (CW A G Y) s H locs) {a v : Int} {k0 : Nat} (hk : a = (k0 : Int)) (hlt : k0 < 24) (hv : (G.sm k0 : Int) = v) (hdg : decode cc pc = .ok (.iaload, 1)) (k : W p l e R s m args below meth c H locs cells slots Q (F0 m (pc + 1) ls (.int (iI v) :: rest))) : W p l e R s m args below meth c H locs cells slots Q (F0 m pc ls (.int (iI a) :: .ref (A.a 6) :: rest)) := by
  have e : (cF G.sm) (iI a).toNatClampNeg = iI v := by
    rw [iI_cl hk (by omega), ← hv]
    rfl
  exact va_iald (D := A.D) X.1.1 X.1.2.1 X.2.1 hC.1 6 0 rfl rfl (iI_in hk hlt (by decide)) hdg (by rw [e]; exact k)
theorem asC_sm (X : aX p s m c cc nL args Ts own A (cAdr A)) (hC : aH A (cAdr A) (CW A G Y) s H locs) {a v : Int} {k0 : Nat} {x : Nat} (hk : a = (k0 : Int)) (hlt : k0 < 24) (hv : v = (x : Int)) (hdg : decode cc pc = .ok (.iastore, 1)) (k : ∀ H1 locs1, aH A (cAdr A) (CW A (G.sm' (up G.sm k0 x)) Y) s H1 locs1 → W p l e R s m args below meth c H1 locs1 cells slots Q (F0 m (pc + 1) ls rest)) : W p l e R s m args below meth c H locs cells slots Q (F0 m pc ls (.int (iI v) :: .int (iI a) :: .ref (A.a 6) :: rest)) := by
  have e : upd (cF G.sm) (iI a).toNatClampNeg (iI v) = cF (up G.sm k0 x) := cF_up _ hk (by omega) hv
  exact va_iast (D := A.D) X.1.1 X.1.2.1 X.2.1 hC.1 (X.D (CW_adr A G Y)) hC.2 6 0 rfl rfl (iI_in hk hlt (by decide)) hdg (fun H1 locs1 hP _ hS => k H1 locs1 ⟨by rw [e] at hP; exact hP, hS⟩)
theorem alC_mi (X : aX p s m c cc nL args Ts own A (cAdr A)) (hC : aH A (cAdr A) (CW A G Y) s H locs) {a v : Int} {k0 : Nat} (hk : a = (k0 : Int)) (hlt : k0 < 12) (hv : (G.mi k0 : Int) = v) (hdg : decode cc pc = .ok (.iaload, 1)) (k : W p l e R s m args below meth c H locs cells slots Q (F0 m (pc + 1) ls (.int (iI v) :: rest))) : W p l e R s m args below meth c H locs cells slots Q (F0 m pc ls (.int (iI a) :: .ref (A.a 7) :: rest)) := by
  have e : (cF G.mi) (iI a).toNatClampNeg = iI v := by
    rw [iI_cl hk (by omega), ← hv]
    rfl
  exact va_iald (D := A.D) X.1.1 X.1.2.1 X.2.1 hC.1 7 0 rfl rfl (iI_in hk hlt (by decide)) hdg (by rw [e]; exact k)
theorem asC_mi (X : aX p s m c cc nL args Ts own A (cAdr A)) (hC : aH A (cAdr A) (CW A G Y) s H locs) {a v : Int} {k0 : Nat} {x : Nat} (hk : a = (k0 : Int)) (hlt : k0 < 12) (hv : v = (x : Int)) (hdg : decode cc pc = .ok (.iastore, 1)) (k : ∀ H1 locs1, aH A (cAdr A) (CW A (G.mi' (up G.mi k0 x)) Y) s H1 locs1 → W p l e R s m args below meth c H1 locs1 cells slots Q (F0 m (pc + 1) ls rest)) : W p l e R s m args below meth c H locs cells slots Q (F0 m pc ls (.int (iI v) :: .int (iI a) :: .ref (A.a 7) :: rest)) := by
  have e : upd (cF G.mi) (iI a).toNatClampNeg (iI v) = cF (up G.mi k0 x) := cF_up _ hk (by omega) hv
  exact va_iast (D := A.D) X.1.1 X.1.2.1 X.2.1 hC.1 (X.D (CW_adr A G Y)) hC.2 7 0 rfl rfl (iI_in hk hlt (by decide)) hdg (fun H1 locs1 hP _ hS => k H1 locs1 ⟨by rw [e] at hP; exact hP, hS⟩)
theorem alC_pr (X : aX p s m c cc nL args Ts own A (cAdr A)) (hC : aH A (cAdr A) (CW A G Y) s H locs) {a v : Int} {k0 : Nat} (hk : a = (k0 : Int)) (hlt : k0 < 12) (hv : (G.pr k0 : Int) = v) (hdg : decode cc pc = .ok (.iaload, 1)) (k : W p l e R s m args below meth c H locs cells slots Q (F0 m (pc + 1) ls (.int (iI v) :: rest))) : W p l e R s m args below meth c H locs cells slots Q (F0 m pc ls (.int (iI a) :: .ref (A.a 8) :: rest)) := by
  have e : (cF G.pr) (iI a).toNatClampNeg = iI v := by
    rw [iI_cl hk (by omega), ← hv]
    rfl
  exact va_iald (D := A.D) X.1.1 X.1.2.1 X.2.1 hC.1 8 0 rfl rfl (iI_in hk hlt (by decide)) hdg (by rw [e]; exact k)
theorem asC_pr (X : aX p s m c cc nL args Ts own A (cAdr A)) (hC : aH A (cAdr A) (CW A G Y) s H locs) {a v : Int} {k0 : Nat} {x : Nat} (hk : a = (k0 : Int)) (hlt : k0 < 12) (hv : v = (x : Int)) (hdg : decode cc pc = .ok (.iastore, 1)) (k : ∀ H1 locs1, aH A (cAdr A) (CW A (G.pr' (up G.pr k0 x)) Y) s H1 locs1 → W p l e R s m args below meth c H1 locs1 cells slots Q (F0 m (pc + 1) ls rest)) : W p l e R s m args below meth c H locs cells slots Q (F0 m pc ls (.int (iI v) :: .int (iI a) :: .ref (A.a 8) :: rest)) := by
  have e : upd (cF G.pr) (iI a).toNatClampNeg (iI v) = cF (up G.pr k0 x) := cF_up _ hk (by omega) hv
  exact va_iast (D := A.D) X.1.1 X.1.2.1 X.2.1 hC.1 (X.D (CW_adr A G Y)) hC.2 8 0 rfl rfl (iI_in hk hlt (by decide)) hdg (fun H1 locs1 hP _ hS => k H1 locs1 ⟨by rw [e] at hP; exact hP, hS⟩)
theorem alC_de (X : aX p s m c cc nL args Ts own A (cAdr A)) (hC : aH A (cAdr A) (CW A G Y) s H locs) {a v : Int} {k0 : Nat} (hk : a = (k0 : Int)) (hlt : k0 < 24) (hv : (G.de k0 : Int) = v) (hdg : decode cc pc = .ok (.iaload, 1)) (k : W p l e R s m args below meth c H locs cells slots Q (F0 m (pc + 1) ls (.int (iI v) :: rest))) : W p l e R s m args below meth c H locs cells slots Q (F0 m pc ls (.int (iI a) :: .ref (A.a 9) :: rest)) := by
  have e : (cF G.de) (iI a).toNatClampNeg = iI v := by
    rw [iI_cl hk (by omega), ← hv]
    rfl
  exact va_iald (D := A.D) X.1.1 X.1.2.1 X.2.1 hC.1 9 0 rfl rfl (iI_in hk hlt (by decide)) hdg (by rw [e]; exact k)
theorem asC_de (X : aX p s m c cc nL args Ts own A (cAdr A)) (hC : aH A (cAdr A) (CW A G Y) s H locs) {a v : Int} {k0 : Nat} {x : Nat} (hk : a = (k0 : Int)) (hlt : k0 < 24) (hv : v = (x : Int)) (hdg : decode cc pc = .ok (.iastore, 1)) (k : ∀ H1 locs1, aH A (cAdr A) (CW A (G.de' (up G.de k0 x)) Y) s H1 locs1 → W p l e R s m args below meth c H1 locs1 cells slots Q (F0 m (pc + 1) ls rest)) : W p l e R s m args below meth c H locs cells slots Q (F0 m pc ls (.int (iI v) :: .int (iI a) :: .ref (A.a 9) :: rest)) := by
  have e : upd (cF G.de) (iI a).toNatClampNeg (iI v) = cF (up G.de k0 x) := cF_up _ hk (by omega) hv
  exact va_iast (D := A.D) X.1.1 X.1.2.1 X.2.1 hC.1 (X.D (CW_adr A G Y)) hC.2 9 0 rfl rfl (iI_in hk hlt (by decide)) hdg (fun H1 locs1 hP _ hS => k H1 locs1 ⟨by rw [e] at hP; exact hP, hS⟩)
theorem alC_sa (X : aX p s m c cc nL args Ts own A (cAdr A)) (hC : aH A (cAdr A) (CW A G Y) s H locs) {a v : Int} {k0 : Nat} (hk : a = (k0 : Int)) (hlt : k0 < 24) (hv : (G.sa k0 : Int) = v) (hdg : decode cc pc = .ok (.baload, 1)) (k : W p l e R s m args below meth c H locs cells slots Q (F0 m (pc + 1) ls (.int (iI v) :: rest))) : W p l e R s m args below meth c H locs cells slots Q (F0 m pc ls (.int (iI a) :: .ref (A.a 10) :: rest)) := by
  have e : (cF G.sa) (iI a).toNatClampNeg = iI v := by
    rw [iI_cl hk (by omega), ← hv]
    rfl
  exact va_zald (D := A.D) X.1.1 X.1.2.1 X.2.1 hC.1 10 1 rfl rfl (iI_in hk hlt (by decide)) hdg (by rw [e]; exact k)
theorem asC_sa (X : aX p s m c cc nL args Ts own A (cAdr A)) (hC : aH A (cAdr A) (CW A G Y) s H locs) {a v : Int} {k0 : Nat} {x : Nat} (hk : a = (k0 : Int)) (hlt : k0 < 24) (hv : v = (x : Int)) (h01 : 0 ≤ v ∧ v ≤ 1) (hdg : decode cc pc = .ok (.bastore, 1)) (k : ∀ H1 locs1, aH A (cAdr A) (CW A (G.sa' (up G.sa k0 x)) Y) s H1 locs1 → W p l e R s m args below meth c H1 locs1 cells slots Q (F0 m (pc + 1) ls rest)) : W p l e R s m args below meth c H locs cells slots Q (F0 m pc ls (.int (iI v) :: .int (iI a) :: .ref (A.a 10) :: rest)) := by
  have e : upd (cF G.sa) (iI a).toNatClampNeg (vp_nar .boolean (iI v)) = cF (up G.sa k0 x) := by
    rw [nar_b h01]
    exact cF_up _ hk (by omega) hv
  exact va_zast (D := A.D) X.1.1 X.1.2.1 X.2.1 hC.1 (X.D (CW_adr A G Y)) hC.2 10 1 rfl rfl (iI_in hk hlt (by decide)) hdg (fun H1 locs1 hP _ hS => k H1 locs1 ⟨by rw [e] at hP; exact hP, hS⟩)
theorem alC_wm (X : aX p s m c cc nL args Ts own A (cAdr A)) (hC : aH A (cAdr A) (CW A G Y) s H locs) {a v : Int} {k0 : Nat} (hk : a = (k0 : Int)) (hlt : k0 < 25) (hv : (Y.wm k0) = v) (hdg : decode cc pc = .ok (.iaload, 1)) (k : W p l e R s m args below meth c H locs cells slots Q (F0 m (pc + 1) ls (.int (iI v) :: rest))) : W p l e R s m args below meth c H locs cells slots Q (F0 m pc ls (.int (iI a) :: .ref (A.a 11) :: rest)) := by
  have e : (cZ Y.wm) (iI a).toNatClampNeg = iI v := by
    rw [iI_cl hk (by omega), ← hv]
    rfl
  exact va_iald (D := A.D) X.1.1 X.1.2.1 X.2.1 hC.1 11 0 rfl rfl (iI_in hk hlt (by decide)) hdg (by rw [e]; exact k)
theorem asC_wm (X : aX p s m c cc nL args Ts own A (cAdr A)) (hC : aH A (cAdr A) (CW A G Y) s H locs) {a v : Int} {k0 : Nat} {x : Int} (hk : a = (k0 : Int)) (hlt : k0 < 25) (hv : v = x) (hdg : decode cc pc = .ok (.iastore, 1)) (k : ∀ H1 locs1, aH A (cAdr A) (CW A G (Y.wm' (up Y.wm k0 x))) s H1 locs1 → W p l e R s m args below meth c H1 locs1 cells slots Q (F0 m (pc + 1) ls rest)) : W p l e R s m args below meth c H locs cells slots Q (F0 m pc ls (.int (iI v) :: .int (iI a) :: .ref (A.a 11) :: rest)) := by
  have e : upd (cZ Y.wm) (iI a).toNatClampNeg (iI v) = cZ (up Y.wm k0 x) := by
    subst hv
    exact cZ_up _ hk (by omega)
  exact va_iast (D := A.D) X.1.1 X.1.2.1 X.2.1 hC.1 (X.D (CW_adr A G Y)) hC.2 11 0 rfl rfl (iI_in hk hlt (by decide)) hdg (fun H1 locs1 hP _ hS => k H1 locs1 ⟨by rw [e] at hP; exact hP, hS⟩)
theorem alC_wl (X : aX p s m c cc nL args Ts own A (cAdr A)) (hC : aH A (cAdr A) (CW A G Y) s H locs) {a v : Int} {k0 : Nat} (hk : a = (k0 : Int)) (hlt : k0 < 25) (hv : (Y.wl k0 : Int) = v) (hdg : decode cc pc = .ok (.iaload, 1)) (k : W p l e R s m args below meth c H locs cells slots Q (F0 m (pc + 1) ls (.int (iI v) :: rest))) : W p l e R s m args below meth c H locs cells slots Q (F0 m pc ls (.int (iI a) :: .ref (A.a 12) :: rest)) := by
  have e : (cF Y.wl) (iI a).toNatClampNeg = iI v := by
    rw [iI_cl hk (by omega), ← hv]
    rfl
  exact va_iald (D := A.D) X.1.1 X.1.2.1 X.2.1 hC.1 12 0 rfl rfl (iI_in hk hlt (by decide)) hdg (by rw [e]; exact k)
theorem asC_wl (X : aX p s m c cc nL args Ts own A (cAdr A)) (hC : aH A (cAdr A) (CW A G Y) s H locs) {a v : Int} {k0 : Nat} {x : Nat} (hk : a = (k0 : Int)) (hlt : k0 < 25) (hv : v = (x : Int)) (hdg : decode cc pc = .ok (.iastore, 1)) (k : ∀ H1 locs1, aH A (cAdr A) (CW A G (Y.wl' (up Y.wl k0 x))) s H1 locs1 → W p l e R s m args below meth c H1 locs1 cells slots Q (F0 m (pc + 1) ls rest)) : W p l e R s m args below meth c H locs cells slots Q (F0 m pc ls (.int (iI v) :: .int (iI a) :: .ref (A.a 12) :: rest)) := by
  have e : upd (cF Y.wl) (iI a).toNatClampNeg (iI v) = cF (up Y.wl k0 x) := cF_up _ hk (by omega) hv
  exact va_iast (D := A.D) X.1.1 X.1.2.1 X.2.1 hC.1 (X.D (CW_adr A G Y)) hC.2 12 0 rfl rfl (iI_in hk hlt (by decide)) hdg (fun H1 locs1 hP _ hS => k H1 locs1 ⟨by rw [e] at hP; exact hP, hS⟩)
theorem alC_we (X : aX p s m c cc nL args Ts own A (cAdr A)) (hC : aH A (cAdr A) (CW A G Y) s H locs) {a v : Int} {k0 : Nat} (hk : a = (k0 : Int)) (hlt : k0 < 24) (hv : (Y.we k0 : Int) = v) (hdg : decode cc pc = .ok (.baload, 1)) (k : W p l e R s m args below meth c H locs cells slots Q (F0 m (pc + 1) ls (.int (iI v) :: rest))) : W p l e R s m args below meth c H locs cells slots Q (F0 m pc ls (.int (iI a) :: .ref (A.a 14) :: rest)) := by
  have e : (cF Y.we) (iI a).toNatClampNeg = iI v := by
    rw [iI_cl hk (by omega), ← hv]
    rfl
  exact va_zald (D := A.D) X.1.1 X.1.2.1 X.2.1 hC.1 14 1 rfl rfl (iI_in hk hlt (by decide)) hdg (by rw [e]; exact k)
theorem asC_we (X : aX p s m c cc nL args Ts own A (cAdr A)) (hC : aH A (cAdr A) (CW A G Y) s H locs) {a v : Int} {k0 : Nat} {x : Nat} (hk : a = (k0 : Int)) (hlt : k0 < 24) (hv : v = (x : Int)) (h01 : 0 ≤ v ∧ v ≤ 1) (hdg : decode cc pc = .ok (.bastore, 1)) (k : ∀ H1 locs1, aH A (cAdr A) (CW A G (Y.we' (up Y.we k0 x))) s H1 locs1 → W p l e R s m args below meth c H1 locs1 cells slots Q (F0 m (pc + 1) ls rest)) : W p l e R s m args below meth c H locs cells slots Q (F0 m pc ls (.int (iI v) :: .int (iI a) :: .ref (A.a 14) :: rest)) := by
  have e : upd (cF Y.we) (iI a).toNatClampNeg (vp_nar .boolean (iI v)) = cF (up Y.we k0 x) := by
    rw [nar_b h01]
    exact cF_up _ hk (by omega) hv
  exact va_zast (D := A.D) X.1.1 X.1.2.1 X.2.1 hC.1 (X.D (CW_adr A G Y)) hC.2 14 1 rfl rfl (iI_in hk hlt (by decide)) hdg (fun H1 locs1 hP _ hS => k H1 locs1 ⟨by rw [e] at hP; exact hP, hS⟩)
theorem alD_tu (X : aX p s m c cc nL args Ts own A (dAdr A)) (hC : aH A (dAdr A) (DW A G Z) s H locs) {a v : Int} {k0 : Nat} (hk : a = (k0 : Int)) (hlt : k0 < 8) (hv : (G.tu k0 : Int) = v) (hdg : decode cc pc = .ok (.baload, 1)) (k : W p l e R s m args below meth c H locs cells slots Q (F0 m (pc + 1) ls (.int (iI v) :: rest))) : W p l e R s m args below meth c H locs cells slots Q (F0 m pc ls (.int (iI a) :: .ref (A.a 1) :: rest)) := by
  have e : (cF G.tu) (iI a).toNatClampNeg = iI v := by
    rw [iI_cl hk (by omega), ← hv]
    rfl
  exact va_zald (D := A.D) X.1.1 X.1.2.1 X.2.1 hC.1 1 1 rfl rfl (iI_in hk hlt (by decide)) hdg (by rw [e]; exact k)
theorem asD_tu (X : aX p s m c cc nL args Ts own A (dAdr A)) (hC : aH A (dAdr A) (DW A G Z) s H locs) {a v : Int} {k0 : Nat} {x : Nat} (hk : a = (k0 : Int)) (hlt : k0 < 8) (hv : v = (x : Int)) (h01 : 0 ≤ v ∧ v ≤ 1) (hdg : decode cc pc = .ok (.bastore, 1)) (k : ∀ H1 locs1, aH A (dAdr A) (DW A (G.tu' (up G.tu k0 x)) Z) s H1 locs1 → W p l e R s m args below meth c H1 locs1 cells slots Q (F0 m (pc + 1) ls rest)) : W p l e R s m args below meth c H locs cells slots Q (F0 m pc ls (.int (iI v) :: .int (iI a) :: .ref (A.a 1) :: rest)) := by
  have e : upd (cF G.tu) (iI a).toNatClampNeg (vp_nar .boolean (iI v)) = cF (up G.tu k0 x) := by
    rw [nar_b h01]
    exact cF_up _ hk (by omega) hv
  exact va_zast (D := A.D) X.1.1 X.1.2.1 X.2.1 hC.1 (X.D (DW_adr A G Z)) hC.2 1 1 rfl rfl (iI_in hk hlt (by decide)) hdg (fun H1 locs1 hP _ hS => k H1 locs1 ⟨by rw [e] at hP; exact hP, hS⟩)
theorem alD_st (X : aX p s m c cc nL args Ts own A (dAdr A)) (hC : aH A (dAdr A) (DW A G Z) s H locs) {a v : Int} {k0 : Nat} (hk : a = (k0 : Int)) (hlt : k0 < 8) (hv : (G.st k0 : Int) = v) (hdg : decode cc pc = .ok (.baload, 1)) (k : W p l e R s m args below meth c H locs cells slots Q (F0 m (pc + 1) ls (.int (iI v) :: rest))) : W p l e R s m args below meth c H locs cells slots Q (F0 m pc ls (.int (iI a) :: .ref (A.a 2) :: rest)) := by
  have e : (cF G.st) (iI a).toNatClampNeg = iI v := by
    rw [iI_cl hk (by omega), ← hv]
    rfl
  exact va_zald (D := A.D) X.1.1 X.1.2.1 X.2.1 hC.1 2 1 rfl rfl (iI_in hk hlt (by decide)) hdg (by rw [e]; exact k)
theorem asD_st (X : aX p s m c cc nL args Ts own A (dAdr A)) (hC : aH A (dAdr A) (DW A G Z) s H locs) {a v : Int} {k0 : Nat} {x : Nat} (hk : a = (k0 : Int)) (hlt : k0 < 8) (hv : v = (x : Int)) (h01 : 0 ≤ v ∧ v ≤ 1) (hdg : decode cc pc = .ok (.bastore, 1)) (k : ∀ H1 locs1, aH A (dAdr A) (DW A (G.st' (up G.st k0 x)) Z) s H1 locs1 → W p l e R s m args below meth c H1 locs1 cells slots Q (F0 m (pc + 1) ls rest)) : W p l e R s m args below meth c H locs cells slots Q (F0 m pc ls (.int (iI v) :: .int (iI a) :: .ref (A.a 2) :: rest)) := by
  have e : upd (cF G.st) (iI a).toNatClampNeg (vp_nar .boolean (iI v)) = cF (up G.st k0 x) := by
    rw [nar_b h01]
    exact cF_up _ hk (by omega) hv
  exact va_zast (D := A.D) X.1.1 X.1.2.1 X.2.1 hC.1 (X.D (DW_adr A G Z)) hC.2 2 1 rfl rfl (iI_in hk hlt (by decide)) hdg (fun H1 locs1 hP _ hS => k H1 locs1 ⟨by rw [e] at hP; exact hP, hS⟩)
theorem alD_sm (X : aX p s m c cc nL args Ts own A (dAdr A)) (hC : aH A (dAdr A) (DW A G Z) s H locs) {a v : Int} {k0 : Nat} (hk : a = (k0 : Int)) (hlt : k0 < 24) (hv : (G.sm k0 : Int) = v) (hdg : decode cc pc = .ok (.iaload, 1)) (k : W p l e R s m args below meth c H locs cells slots Q (F0 m (pc + 1) ls (.int (iI v) :: rest))) : W p l e R s m args below meth c H locs cells slots Q (F0 m pc ls (.int (iI a) :: .ref (A.a 3) :: rest)) := by
  have e : (cF G.sm) (iI a).toNatClampNeg = iI v := by
    rw [iI_cl hk (by omega), ← hv]
    rfl
  exact va_iald (D := A.D) X.1.1 X.1.2.1 X.2.1 hC.1 3 0 rfl rfl (iI_in hk hlt (by decide)) hdg (by rw [e]; exact k)
theorem asD_sm (X : aX p s m c cc nL args Ts own A (dAdr A)) (hC : aH A (dAdr A) (DW A G Z) s H locs) {a v : Int} {k0 : Nat} {x : Nat} (hk : a = (k0 : Int)) (hlt : k0 < 24) (hv : v = (x : Int)) (hdg : decode cc pc = .ok (.iastore, 1)) (k : ∀ H1 locs1, aH A (dAdr A) (DW A (G.sm' (up G.sm k0 x)) Z) s H1 locs1 → W p l e R s m args below meth c H1 locs1 cells slots Q (F0 m (pc + 1) ls rest)) : W p l e R s m args below meth c H locs cells slots Q (F0 m pc ls (.int (iI v) :: .int (iI a) :: .ref (A.a 3) :: rest)) := by
  have e : upd (cF G.sm) (iI a).toNatClampNeg (iI v) = cF (up G.sm k0 x) := cF_up _ hk (by omega) hv
  exact va_iast (D := A.D) X.1.1 X.1.2.1 X.2.1 hC.1 (X.D (DW_adr A G Z)) hC.2 3 0 rfl rfl (iI_in hk hlt (by decide)) hdg (fun H1 locs1 hP _ hS => k H1 locs1 ⟨by rw [e] at hP; exact hP, hS⟩)
theorem alD_mi (X : aX p s m c cc nL args Ts own A (dAdr A)) (hC : aH A (dAdr A) (DW A G Z) s H locs) {a v : Int} {k0 : Nat} (hk : a = (k0 : Int)) (hlt : k0 < 12) (hv : (G.mi k0 : Int) = v) (hdg : decode cc pc = .ok (.iaload, 1)) (k : W p l e R s m args below meth c H locs cells slots Q (F0 m (pc + 1) ls (.int (iI v) :: rest))) : W p l e R s m args below meth c H locs cells slots Q (F0 m pc ls (.int (iI a) :: .ref (A.a 4) :: rest)) := by
  have e : (cF G.mi) (iI a).toNatClampNeg = iI v := by
    rw [iI_cl hk (by omega), ← hv]
    rfl
  exact va_iald (D := A.D) X.1.1 X.1.2.1 X.2.1 hC.1 4 0 rfl rfl (iI_in hk hlt (by decide)) hdg (by rw [e]; exact k)
theorem asD_mi (X : aX p s m c cc nL args Ts own A (dAdr A)) (hC : aH A (dAdr A) (DW A G Z) s H locs) {a v : Int} {k0 : Nat} {x : Nat} (hk : a = (k0 : Int)) (hlt : k0 < 12) (hv : v = (x : Int)) (hdg : decode cc pc = .ok (.iastore, 1)) (k : ∀ H1 locs1, aH A (dAdr A) (DW A (G.mi' (up G.mi k0 x)) Z) s H1 locs1 → W p l e R s m args below meth c H1 locs1 cells slots Q (F0 m (pc + 1) ls rest)) : W p l e R s m args below meth c H locs cells slots Q (F0 m pc ls (.int (iI v) :: .int (iI a) :: .ref (A.a 4) :: rest)) := by
  have e : upd (cF G.mi) (iI a).toNatClampNeg (iI v) = cF (up G.mi k0 x) := cF_up _ hk (by omega) hv
  exact va_iast (D := A.D) X.1.1 X.1.2.1 X.2.1 hC.1 (X.D (DW_adr A G Z)) hC.2 4 0 rfl rfl (iI_in hk hlt (by decide)) hdg (fun H1 locs1 hP _ hS => k H1 locs1 ⟨by rw [e] at hP; exact hP, hS⟩)
theorem alD_pr (X : aX p s m c cc nL args Ts own A (dAdr A)) (hC : aH A (dAdr A) (DW A G Z) s H locs) {a v : Int} {k0 : Nat} (hk : a = (k0 : Int)) (hlt : k0 < 12) (hv : (G.pr k0 : Int) = v) (hdg : decode cc pc = .ok (.iaload, 1)) (k : W p l e R s m args below meth c H locs cells slots Q (F0 m (pc + 1) ls (.int (iI v) :: rest))) : W p l e R s m args below meth c H locs cells slots Q (F0 m pc ls (.int (iI a) :: .ref (A.a 5) :: rest)) := by
  have e : (cF G.pr) (iI a).toNatClampNeg = iI v := by
    rw [iI_cl hk (by omega), ← hv]
    rfl
  exact va_iald (D := A.D) X.1.1 X.1.2.1 X.2.1 hC.1 5 0 rfl rfl (iI_in hk hlt (by decide)) hdg (by rw [e]; exact k)
theorem asD_pr (X : aX p s m c cc nL args Ts own A (dAdr A)) (hC : aH A (dAdr A) (DW A G Z) s H locs) {a v : Int} {k0 : Nat} {x : Nat} (hk : a = (k0 : Int)) (hlt : k0 < 12) (hv : v = (x : Int)) (hdg : decode cc pc = .ok (.iastore, 1)) (k : ∀ H1 locs1, aH A (dAdr A) (DW A (G.pr' (up G.pr k0 x)) Z) s H1 locs1 → W p l e R s m args below meth c H1 locs1 cells slots Q (F0 m (pc + 1) ls rest)) : W p l e R s m args below meth c H locs cells slots Q (F0 m pc ls (.int (iI v) :: .int (iI a) :: .ref (A.a 5) :: rest)) := by
  have e : upd (cF G.pr) (iI a).toNatClampNeg (iI v) = cF (up G.pr k0 x) := cF_up _ hk (by omega) hv
  exact va_iast (D := A.D) X.1.1 X.1.2.1 X.2.1 hC.1 (X.D (DW_adr A G Z)) hC.2 5 0 rfl rfl (iI_in hk hlt (by decide)) hdg (fun H1 locs1 hP _ hS => k H1 locs1 ⟨by rw [e] at hP; exact hP, hS⟩)
theorem alD_de (X : aX p s m c cc nL args Ts own A (dAdr A)) (hC : aH A (dAdr A) (DW A G Z) s H locs) {a v : Int} {k0 : Nat} (hk : a = (k0 : Int)) (hlt : k0 < 24) (hv : (G.de k0 : Int) = v) (hdg : decode cc pc = .ok (.iaload, 1)) (k : W p l e R s m args below meth c H locs cells slots Q (F0 m (pc + 1) ls (.int (iI v) :: rest))) : W p l e R s m args below meth c H locs cells slots Q (F0 m pc ls (.int (iI a) :: .ref (A.a 6) :: rest)) := by
  have e : (cF G.de) (iI a).toNatClampNeg = iI v := by
    rw [iI_cl hk (by omega), ← hv]
    rfl
  exact va_iald (D := A.D) X.1.1 X.1.2.1 X.2.1 hC.1 6 0 rfl rfl (iI_in hk hlt (by decide)) hdg (by rw [e]; exact k)
theorem asD_de (X : aX p s m c cc nL args Ts own A (dAdr A)) (hC : aH A (dAdr A) (DW A G Z) s H locs) {a v : Int} {k0 : Nat} {x : Nat} (hk : a = (k0 : Int)) (hlt : k0 < 24) (hv : v = (x : Int)) (hdg : decode cc pc = .ok (.iastore, 1)) (k : ∀ H1 locs1, aH A (dAdr A) (DW A (G.de' (up G.de k0 x)) Z) s H1 locs1 → W p l e R s m args below meth c H1 locs1 cells slots Q (F0 m (pc + 1) ls rest)) : W p l e R s m args below meth c H locs cells slots Q (F0 m pc ls (.int (iI v) :: .int (iI a) :: .ref (A.a 6) :: rest)) := by
  have e : upd (cF G.de) (iI a).toNatClampNeg (iI v) = cF (up G.de k0 x) := cF_up _ hk (by omega) hv
  exact va_iast (D := A.D) X.1.1 X.1.2.1 X.2.1 hC.1 (X.D (DW_adr A G Z)) hC.2 6 0 rfl rfl (iI_in hk hlt (by decide)) hdg (fun H1 locs1 hP _ hS => k H1 locs1 ⟨by rw [e] at hP; exact hP, hS⟩)
theorem alD_sa (X : aX p s m c cc nL args Ts own A (dAdr A)) (hC : aH A (dAdr A) (DW A G Z) s H locs) {a v : Int} {k0 : Nat} (hk : a = (k0 : Int)) (hlt : k0 < 24) (hv : (G.sa k0 : Int) = v) (hdg : decode cc pc = .ok (.baload, 1)) (k : W p l e R s m args below meth c H locs cells slots Q (F0 m (pc + 1) ls (.int (iI v) :: rest))) : W p l e R s m args below meth c H locs cells slots Q (F0 m pc ls (.int (iI a) :: .ref (A.a 7) :: rest)) := by
  have e : (cF G.sa) (iI a).toNatClampNeg = iI v := by
    rw [iI_cl hk (by omega), ← hv]
    rfl
  exact va_zald (D := A.D) X.1.1 X.1.2.1 X.2.1 hC.1 7 1 rfl rfl (iI_in hk hlt (by decide)) hdg (by rw [e]; exact k)
theorem asD_sa (X : aX p s m c cc nL args Ts own A (dAdr A)) (hC : aH A (dAdr A) (DW A G Z) s H locs) {a v : Int} {k0 : Nat} {x : Nat} (hk : a = (k0 : Int)) (hlt : k0 < 24) (hv : v = (x : Int)) (h01 : 0 ≤ v ∧ v ≤ 1) (hdg : decode cc pc = .ok (.bastore, 1)) (k : ∀ H1 locs1, aH A (dAdr A) (DW A (G.sa' (up G.sa k0 x)) Z) s H1 locs1 → W p l e R s m args below meth c H1 locs1 cells slots Q (F0 m (pc + 1) ls rest)) : W p l e R s m args below meth c H locs cells slots Q (F0 m pc ls (.int (iI v) :: .int (iI a) :: .ref (A.a 7) :: rest)) := by
  have e : upd (cF G.sa) (iI a).toNatClampNeg (vp_nar .boolean (iI v)) = cF (up G.sa k0 x) := by
    rw [nar_b h01]
    exact cF_up _ hk (by omega) hv
  exact va_zast (D := A.D) X.1.1 X.1.2.1 X.2.1 hC.1 (X.D (DW_adr A G Z)) hC.2 7 1 rfl rfl (iI_in hk hlt (by decide)) hdg (fun H1 locs1 hP _ hS => k H1 locs1 ⟨by rw [e] at hP; exact hP, hS⟩)
theorem alD_wt (X : aX p s m c cc nL args Ts own A (dAdr A)) (hC : aH A (dAdr A) (DW A G Z) s H locs) {a v : Int} {k0 : Nat} (hk : a = (k0 : Int)) (hlt : k0 < 104) (hv : (Z.wt k0 : Int) = v) (hdg : decode cc pc = .ok (.iaload, 1)) (k : W p l e R s m args below meth c H locs cells slots Q (F0 m (pc + 1) ls (.int (iI v) :: rest))) : W p l e R s m args below meth c H locs cells slots Q (F0 m pc ls (.int (iI a) :: .ref (A.a 9) :: rest)) := by
  have e : (cF Z.wt) (iI a).toNatClampNeg = iI v := by
    rw [iI_cl hk (by omega), ← hv]
    rfl
  exact va_iald (D := A.D) X.1.1 X.1.2.1 X.2.1 hC.1 9 0 rfl rfl (iI_in hk hlt (by decide)) hdg (by rw [e]; exact k)
theorem asD_wt (X : aX p s m c cc nL args Ts own A (dAdr A)) (hC : aH A (dAdr A) (DW A G Z) s H locs) {a v : Int} {k0 : Nat} {x : Nat} (hk : a = (k0 : Int)) (hlt : k0 < 104) (hv : v = (x : Int)) (hdg : decode cc pc = .ok (.iastore, 1)) (k : ∀ H1 locs1, aH A (dAdr A) (DW A G (Z.wt' (up Z.wt k0 x))) s H1 locs1 → W p l e R s m args below meth c H1 locs1 cells slots Q (F0 m (pc + 1) ls rest)) : W p l e R s m args below meth c H locs cells slots Q (F0 m pc ls (.int (iI v) :: .int (iI a) :: .ref (A.a 9) :: rest)) := by
  have e : upd (cF Z.wt) (iI a).toNatClampNeg (iI v) = cF (up Z.wt k0 x) := cF_up _ hk (by omega) hv
  exact va_iast (D := A.D) X.1.1 X.1.2.1 X.2.1 hC.1 (X.D (DW_adr A G Z)) hC.2 9 0 rfl rfl (iI_in hk hlt (by decide)) hdg (fun H1 locs1 hP _ hS => k H1 locs1 ⟨by rw [e] at hP; exact hP, hS⟩)
theorem alD_tt (X : aX p s m c cc nL args Ts own A (dAdr A)) (hC : aH A (dAdr A) (DW A G Z) s H locs) {a : Int} {v : Int64} {k0 : Nat} (hk : a = (k0 : Int)) (hlt : k0 < 4) (hv : G.tt k0 = v) (hdg : decode cc pc = .ok (.laload, 1)) (k : W p l e R s m args below meth c H locs cells slots Q (F0 m (pc + 1) ls (.long v :: rest))) : W p l e R s m args below meth c H locs cells slots Q (F0 m pc ls (.int (iI a) :: .ref (A.a 8) :: rest)) := by
  have e : G.tt (iI a).toNatClampNeg = v := by rw [iI_cl hk (by omega), ← hv]
  exact va_lald (D := A.D) X.1.1 X.1.2.1 X.2.1 hC.1 8 3 rfl rfl (iI_in hk hlt (by decide)) hdg (by rw [e]; exact k)
theorem asD_tt (X : aX p s m c cc nL args Ts own A (dAdr A)) (hC : aH A (dAdr A) (DW A G Z) s H locs) {a : Int} {v : Int64} {k0 : Nat} (hk : a = (k0 : Int)) (hlt : k0 < 4) (hdg : decode cc pc = .ok (.lastore, 1)) (k : ∀ H1 locs1, aH A (dAdr A) (DW A (G.tt' (up G.tt k0 v)) Z) s H1 locs1 → W p l e R s m args below meth c H1 locs1 cells slots Q (F0 m (pc + 1) ls rest)) : W p l e R s m args below meth c H locs cells slots Q (F0 m pc ls (.long v :: .int (iI a) :: .ref (A.a 8) :: rest)) := by
  have e : vp_updL G.tt (iI a).toNatClampNeg v = up G.tt k0 v := by
    rw [iI_cl hk (by omega)]
    rfl
  exact va_last (D := A.D) X.1.1 X.1.2.1 X.2.1 hC.1 (X.D (DW_adr A G Z)) hC.2 8 3 rfl rfl (iI_in hk hlt (by decide)) hdg (fun H1 locs1 hP _ hS => k H1 locs1 ⟨by rw [e] at hP; exact hP, hS⟩)
theorem anD_wt (X : aX p s m c cc nL args Ts own A (dAdr A)) (hC : aH A (dAdr A) (DW A G Z) s H locs) (hdg : decode cc pc = .ok (.arraylength, 1)) (k : W p l e R s m args below meth c H locs cells slots Q (F0 m (pc + 1) ls (.int (iI 104) :: rest))) : W p l e R s m args below meth c H locs cells slots Q (F0 m pc ls (.ref (A.a 9) :: rest)) := va_alen (D := A.D) (ty := .int) (v := iI 104) X.1.1 X.1.2.1 X.2.1 hC.1 9 0 rfl rfl (show Int32.ofNat 104 = iI 104 by decide) hdg k
theorem anD_tt (X : aX p s m c cc nL args Ts own A (dAdr A)) (hC : aH A (dAdr A) (DW A G Z) s H locs) (hdg : decode cc pc = .ok (.arraylength, 1)) (k : W p l e R s m args below meth c H locs cells slots Q (F0 m (pc + 1) ls (.int (iI 4) :: rest))) : W p l e R s m args below meth c H locs cells slots Q (F0 m pc ls (.ref (A.a 8) :: rest)) := va_alen (D := A.D) (ty := .long) (v := iI 4) X.1.1 X.1.2.1 X.2.1 hC.1 8 3 rfl rfl (show Int32.ofNat 4 = iI 4 by decide) hdg k
theorem aldA {D : va_G} {cl : List vw_C} {ws : va_W} {tys : List (ClassId × FieldType)} {ra : Nat} (hexec : p.tables.exec = Jvm.exec) (hb : c.code = cc) (hK : va_K D cl tys s) (hP : va_P D cl ws H) (q0 t0 : Nat) {cA : ClassId} {t : FieldType} {n : Nat} {f : Nat → Option Nat} (ha : ws[q0]? = some (ra, .inl (cA, n, .inr (.inr (.inr (.inr f)))))) (ht : tys[t0]? = some (cA, .array t)) {i : Int32} (hin : vp_in i n) (hdg : decode cc pc = .ok (.aaload, 1)) (kk : W p l e R s m args below meth c H locs cells slots Q (F0 m (pc + 1) ls (va_rf (f i.toNatClampNeg) :: rest))) : W p l e R s m args below meth c H locs cells slots Q (F0 m pc ls (.int i :: .ref ra :: rest)) := by
  have hlt : i.toNatClampNeg < n := Nat.not_le.mp fun q => hin (Or.inr q)
  exact W.aald (v := va_rf (f i.toNatClampNeg)) (ty := .array t) hexec hb (hP q0 _ ha) ((hK.2 t0 _ ht).1 n (fun j => va_rf (f j))) rfl (fun q => by cases q) (by show ¬ (i < 0 ∨ (arrV _ _ _).slots.size ≤ _); rw [arrV_size]; exact hin) (by show (arrV _ _ _).slots[_]? = _; rw [arrV_read _ _ hlt]) rfl rfl hdg kk
theorem alC_ro (X : aX p s m c cc nL args Ts own A (cAdr A)) (hC : aH A (cAdr A) (CW A G Y) s H locs) {a : Int} {k0 : Nat} (hk : a = (k0 : Int)) (hlt : k0 < 25) (hdg : decode cc pc = .ok (.aaload, 1)) (k : W p l e R s m args below meth c H locs cells slots Q (F0 m (pc + 1) ls (.ref (A.w k0) :: rest))) : W p l e R s m args below meth c H locs cells slots Q (F0 m pc ls (.int (iI a) :: .ref (A.a 13) :: rest)) := by
  have e : va_rf ((fun i => if i < 25 then some (A.w i) else none) (iI a).toNatClampNeg) = .ref (A.w k0) := by
    rw [iI_cl hk (by omega)]
    show va_rf (if k0 < 25 then some (A.w k0) else none) = _
    rw [if_pos hlt]
    rfl
  exact aldA (D := A.D) X.1.1 X.1.2.1 X.2.1 hC.1 13 2 rfl rfl (iI_in hk hlt (by decide)) hdg (by rw [e]; exact k)
theorem alC_wr (X : aX p s m c cc nL args Ts own A (cAdr A)) (hC : aH A (cAdr A) (CW A G Y) s H locs) {a v : Int} {i0 k0 : Nat} (hi : i0 < 25) (hk : a = (k0 : Int)) (hlt : k0 < 24) (hv : (Y.wr i0 k0 : Int) = v) (hdg : decode cc pc = .ok (.iaload, 1)) (k : W p l e R s m args below meth c H locs cells slots Q (F0 m (pc + 1) ls (.int (iI v) :: rest))) : W p l e R s m args below meth c H locs cells slots Q (F0 m pc ls (.int (iI a) :: .ref (A.w i0) :: rest)) := by
  have e : (cF (Y.wr i0)) (iI a).toNatClampNeg = iI v := by
    rw [iI_cl hk (by omega), ← hv]
    rfl
  exact va_iald (D := A.D) X.1.1 X.1.2.1 X.2.1 hC.1 (15 + i0) 0 (CR_get hi G) rfl (iI_in hk hlt (by decide)) hdg (by rw [e]; exact k)
theorem asC_wr (X : aX p s m c cc nL args Ts own A (cAdr A)) (hC : aH A (cAdr A) (CW A G Y) s H locs) {a v : Int} {i0 k0 x : Nat} (hi : i0 < 25) (hk : a = (k0 : Int)) (hlt : k0 < 24) (hv : v = (x : Int)) (hdg : decode cc pc = .ok (.iastore, 1)) (k : ∀ H1 locs1, aH A (cAdr A) (CW A G (Y.wr' (up Y.wr i0 (up (Y.wr i0) k0 x)))) s H1 locs1 → W p l e R s m args below meth c H1 locs1 cells slots Q (F0 m (pc + 1) ls rest)) : W p l e R s m args below meth c H locs cells slots Q (F0 m pc ls (.int (iI v) :: .int (iI a) :: .ref (A.w i0) :: rest)) := by
  have e : upd (cF (Y.wr i0)) (iI a).toNatClampNeg (iI v) = cF (up (Y.wr i0) k0 x) := cF_up _ hk (by omega) hv
  exact va_iast (D := A.D) X.1.1 X.1.2.1 X.2.1 hC.1 (X.D (CW_adr A G Y)) hC.2 (15 + i0) 0 (CR_get hi G) rfl (iI_in hk hlt (by decide)) hdg (fun H1 locs1 hP _ hS => k H1 locs1 ⟨by rw [e, CR_set hi] at hP; exact hP, hS⟩)
end AW
end
section
/-! 06: contracts over the worlds, and calling them -/
/-- the start of a method of either side -/
def aPre (A : AD) (l : List Nat) (ws : va_W) (sz : Nat) : State → Prop := fun U => U.heap.size = sz ∧ va_P A.D vwCl ws U.heap ∧ va_K A.D vwCl A.tys U ∧ aND l
/-- its end: a world of the class, of the reference -/
def cEnd (A : AD) (u : GS × YS) (t : State) : Prop := va_P A.D vwCl (CW A u.1 u.2) t.heap
def dEnd (A : AD) (u : GS × ZS) (t : State) : Prop := va_P A.D vwCl (DW A u.1 u.2) t.heap
/-- contracts: an int, a long, nothing -/
def cMi (l : Launch) (y : MethodName) (ws : List Cond) (rm : Room) (A : AD) (av : List Value) (G : GS) (Y : YS) (Q : Int → GS → YS → Prop) : Prop := ∀ sz : Nat, Met l y ws rm (va_Pc av (aPre A (cAdr A) (CW A G Y) sz)) (va_Qi (fun r (u : GS × YS) => ∃ z : Int, r = iI z ∧ Q z u.1 u.2) (cEnd A) (aFr (cAdr A) sz)) 0 0 (aFr (cAdr A) sz)
def cMl (l : Launch) (y : MethodName) (ws : List Cond) (rm : Room) (A : AD) (av : List Value) (G : GS) (Y : YS) (Q : Int64 → GS → YS → Prop) : Prop := ∀ sz : Nat, Met l y ws rm (va_Pc av (aPre A (cAdr A) (CW A G Y) sz)) (va_Ql (fun r (u : GS × YS) => Q r u.1 u.2) (cEnd A) (aFr (cAdr A) sz)) 0 0 (aFr (cAdr A) sz)
def cMv (l : Launch) (y : MethodName) (ws : List Cond) (rm : Room) (A : AD) (av : List Value) (G : GS) (Y : YS) (Q : GS → YS → Prop) : Prop := ∀ sz : Nat, Met l y ws rm (va_Pc av (aPre A (cAdr A) (CW A G Y) sz)) (va_Qv (fun (u : GS × YS) => Q u.1 u.2) (cEnd A) (aFr (cAdr A) sz)) 0 0 (aFr (cAdr A) sz)
def dMi (l : Launch) (y : MethodName) (ws : List Cond) (rm : Room) (A : AD) (av : List Value) (G : GS) (Z : ZS) (Q : Int → GS → ZS → Prop) : Prop := ∀ sz : Nat, Met l y ws rm (va_Pc av (aPre A (dAdr A) (DW A G Z) sz)) (va_Qi (fun r (u : GS × ZS) => ∃ z : Int, r = iI z ∧ Q z u.1 u.2) (dEnd A) (aFr (dAdr A) sz)) 0 0 (aFr (dAdr A) sz)
def dMl (l : Launch) (y : MethodName) (ws : List Cond) (rm : Room) (A : AD) (av : List Value) (G : GS) (Z : ZS) (Q : Int64 → GS → ZS → Prop) : Prop := ∀ sz : Nat, Met l y ws rm (va_Pc av (aPre A (dAdr A) (DW A G Z) sz)) (va_Ql (fun r (u : GS × ZS) => Q r u.1 u.2) (dEnd A) (aFr (dAdr A) sz)) 0 0 (aFr (dAdr A) sz)
def dMv (l : Launch) (y : MethodName) (ws : List Cond) (rm : Room) (A : AD) (av : List Value) (G : GS) (Z : ZS) (Q : GS → ZS → Prop) : Prop := ∀ sz : Nat, Met l y ws rm (va_Pc av (aPre A (dAdr A) (DW A G Z) sz)) (va_Qv (fun (u : GS × ZS) => Q u.1 u.2) (dEnd A) (aFr (dAdr A) sz)) 0 0 (aFr (dAdr A) sz)
/-- exactly this answer, and this state -/
def xI {T : Type} (v : Int) (G' : GS) (Y' : T) : Int → GS → T → Prop := fun z g y => z = v ∧ g = G' ∧ y = Y'
def xL {T : Type} (v : Int64) (G' : GS) (Y' : T) : Int64 → GS → T → Prop := fun z g y => z = v ∧ g = G' ∧ y = Y'
def xV {T : Type} (G' : GS) (Y' : T) : GS → T → Prop := fun g y => g = G' ∧ y = Y'
theorem aPre_blind {A : AD} {l : List Nat} {ws : va_W} {sz : Nat} {av : List Value} : FrameBlind (va_Pc av (aPre A l ws sz)) := fun a U g mk q => by
  obtain ⟨q0, q1, qP, qK, qD⟩ := q
  exact ⟨q0, q1, qP, va_K.moved (u := U) (U := U.calling g mk a) (Vm.Alike.refl U.vm) qK, qD⟩
section AE
variable {p : Program} {l : Launch} {e : Env} {R : Room} {s : State} {m : MethodId} {args : Array Value} {below : List Frame} {meth : Method} {c : Code} {H : Heap} {locs : List Loc} {cells slots : Nat} {Q : State → Prop}
variable {cc : ByteArray} {pc nL : Nat} {ls : Array Slot} {rest st0 : List Value} {Ts : List Cond} {own : String} {A : AD} {G : GS} {Y : YS} {Z : ZS} {ad : List Nat}
/-- what a method of either side owes at its end -/
abbrev aQi {T : Type} (below : List Frame) (E : GS × T → State → Prop) (ad : List Nat) (args : Array Value) (s : State) (P : Int → GS → T → Prop) : State → Prop := MQ below (va_Qi (fun r (u : GS × T) => ∃ z : Int, r = iI z ∧ P z u.1 u.2) E (aFr ad s.heap.size)) args s 0 0 (aFr ad s.heap.size)
abbrev aQl {T : Type} (below : List Frame) (E : GS × T → State → Prop) (ad : List Nat) (args : Array Value) (s : State) (P : Int64 → GS → T → Prop) : State → Prop := MQ below (va_Ql (fun r (u : GS × T) => P r u.1 u.2) E (aFr ad s.heap.size)) args s 0 0 (aFr ad s.heap.size)
abbrev aQv {T : Type} (below : List Frame) (E : GS × T → State → Prop) (ad : List Nat) (args : Array Value) (s : State) (P : GS → T → Prop) : State → Prop := MQ below (va_Qv (fun (u : GS × T) => P u.1 u.2) E (aFr ad s.heap.size)) args s 0 0 (aFr ad s.heap.size)
theorem c_start {y : MethodName} {ws ws' : List Cond} {rm : Room} {mc ms : Nat} {free : Addr → Prop} {maxL : Nat} {ret : Option FieldType} {wd : va_W} {sz : Nat} {av : List Value} {Qc : Array Value → State → Outcome → State → Prop}
    (hy : plainName y.cls = true) (hw : ws = Cond.code y cc maxL ret :: ws') (hle : Nat.ble (lg_sl av).length maxL = true)
    (body : ∀ p e s m args below meth c, aX p s m c cc maxL args ws y.cls A ad → meth.sig.returnType = ret → meth.locks = false → meth.name = y.name → s.heap.size = sz → ∀ ls, lv_has ls maxL (lv_args 0 av) → aH A ad wd s s.heap [] →
      W p l e rm s m args below meth c s.heap [] 0 0 (MQ below Qc args s mc ms free) (F0 m 0 ls [])) : Met l y ws rm (va_Pc av (aPre A ad wd sz)) Qc mc ms free := by
  refine Met.ofW (cc := cc) (maxL := maxL) (ret := ret) hy hw ?_
  intro p e s m args below meth c s₁ B hml hv
  obtain ⟨rfl, hsz, hP, hK, hN⟩ := hv
  have hts := atoms_spec (ws := ws) B.pre
  have hl := lv_entry av (n := maxL) (Nat.le_of_ble_eq_true hle)
  rw [lg_entry_eq]
  exact body p e s m _ below meth c ⟨⟨B.exec, B.bytes, hml, findClass_of_methodNamed B.named, hts⟩, hK, hN⟩ B.returns B.notSynchronized (name_of_methodNamed B.named B.method).1 hsz _ hl ⟨hP, va_S.rf⟩
theorem aFr_mono {ad : List Nat} {H0 H : Heap} {A0 : Nat → Prop} {locs : List Loc} (hS : va_S A0 H0 H locs) : ∀ q, aFr ad H.size q → aFr ad H0.size q := fun q h => h.elim Or.inl (fun h => Or.inr (Nat.le_trans hS.1 h))
theorem c_ireti {T : Type} {E : GS × T → State → Prop} {P : Int → GS → T → Prop} {g : GS} {t0 : T} {v : Int} {ty : FieldType} (X : aX p s m c cc nL args Ts own A ad) (hS : va_S (aFr ad s.heap.size) s.heap H locs) (hE : ∀ t : State, t.heap = H → E (g, t0) t) (hr : meth.sig.returnType = some ty) (hn : narrow ty (.int (iI v)) = .int (iI v)) (hk : meth.locks = false) (hq : P v g t0) (hdg : decode cc pc = .ok (.ireturn, 1)) : W p l e R s m args below meth c H locs 0 0 (aQi below E ad args s P) (F0 m pc ls [.int (iI v)]) :=
  W.zret X.1.1 X.1.2.1 hr hn (fun t ht hW => ⟨⟨iI v, (g, t0), rfl, ⟨v, rfl, hq⟩, hE t ht⟩, hS.F ht⟩) hS.2.2 hdg hk
theorem c_iret {P : Int → GS → YS → Prop} {v : Int} (X : aX p s m c cc nL args Ts own A (cAdr A)) (hC : aH A (cAdr A) (CW A G Y) s H locs) (hr : meth.sig.returnType = some .int) (hk : meth.locks = false) (hq : P v G Y) (hdg : decode cc pc = .ok (.ireturn, 1)) : W p l e R s m args below meth c H locs 0 0 (aQi below (cEnd A) (cAdr A) args s P) (F0 m pc ls [.int (iI v)]) := c_ireti X hC.2 (fun t ht => by unfold cEnd; rw [ht]; exact hC.1) hr rfl hk hq hdg
theorem c_zret {P : Int → GS → YS → Prop} {v : Int} (X : aX p s m c cc nL args Ts own A (cAdr A)) (hC : aH A (cAdr A) (CW A G Y) s H locs) (hr : meth.sig.returnType = some .boolean) (hk : meth.locks = false) (h01 : 0 ≤ v ∧ v ≤ 1) (hq : P v G Y) (hdg : decode cc pc = .ok (.ireturn, 1)) : W p l e R s m args below meth c H locs 0 0 (aQi below (cEnd A) (cAdr A) args s P) (F0 m pc ls [.int (iI v)]) := c_ireti X hC.2 (fun t ht => by unfold cEnd; rw [ht]; exact hC.1) hr (nar_b2 h01) hk hq hdg
theorem c_vret {P : GS → YS → Prop} (X : aX p s m c cc nL args Ts own A (cAdr A)) (hC : aH A (cAdr A) (CW A G Y) s H locs) (hr : meth.sig.returnType = none) (hk : meth.locks = false) (hq : P G Y) (hdg : decode cc pc = .ok (.return_, 1)) : W p l e R s m args below meth c H locs 0 0 (aQv below (cEnd A) (cAdr A) args s P) (F0 m pc ls []) := W.vret X.1.1 X.1.2.1 hr (fun t ht hW => ⟨⟨(G, Y), rfl, hq, by unfold cEnd; rw [ht]; exact hC.1⟩, hC.2.F ht⟩) hC.2.2.2 hdg hk
theorem c_lret {P : Int64 → GS → YS → Prop} {v : Int64} (X : aX p s m c cc nL args Ts own A (cAdr A)) (hC : aH A (cAdr A) (CW A G Y) s H locs) (hr : meth.sig.returnType = some .long) (hk : meth.locks = false) (hq : P v G Y) (hdg : decode cc pc = .ok (.lreturn, 1)) : W p l e R s m args below meth c H locs 0 0 (aQl below (cEnd A) (cAdr A) args s P) (F0 m pc ls [.long v]) := W.lret X.1.1 X.1.2.1 hr (fun t ht hW => ⟨⟨v, (G, Y), rfl, hq, by unfold cEnd; rw [ht]; exact hC.1⟩, hC.2.F ht⟩) hC.2.2.2 hdg hk
theorem d_iret {P : Int → GS → ZS → Prop} {v : Int} (X : aX p s m c cc nL args Ts own A (dAdr A)) (hC : aH A (dAdr A) (DW A G Z) s H locs) (hr : meth.sig.returnType = some .int) (hk : meth.locks = false) (hq : P v G Z) (hdg : decode cc pc = .ok (.ireturn, 1)) : W p l e R s m args below meth c H locs 0 0 (aQi below (dEnd A) (dAdr A) args s P) (F0 m pc ls [.int (iI v)]) := c_ireti X hC.2 (fun t ht => by unfold dEnd; rw [ht]; exact hC.1) hr rfl hk hq hdg
theorem d_zret {P : Int → GS → ZS → Prop} {v : Int} (X : aX p s m c cc nL args Ts own A (dAdr A)) (hC : aH A (dAdr A) (DW A G Z) s H locs) (hr : meth.sig.returnType = some .boolean) (hk : meth.locks = false) (h01 : 0 ≤ v ∧ v ≤ 1) (hq : P v G Z) (hdg : decode cc pc = .ok (.ireturn, 1)) : W p l e R s m args below meth c H locs 0 0 (aQi below (dEnd A) (dAdr A) args s P) (F0 m pc ls [.int (iI v)]) := c_ireti X hC.2 (fun t ht => by unfold dEnd; rw [ht]; exact hC.1) hr (nar_b2 h01) hk hq hdg
theorem d_vret {P : GS → ZS → Prop} (X : aX p s m c cc nL args Ts own A (dAdr A)) (hC : aH A (dAdr A) (DW A G Z) s H locs) (hr : meth.sig.returnType = none) (hk : meth.locks = false) (hq : P G Z) (hdg : decode cc pc = .ok (.return_, 1)) : W p l e R s m args below meth c H locs 0 0 (aQv below (dEnd A) (dAdr A) args s P) (F0 m pc ls []) := W.vret X.1.1 X.1.2.1 hr (fun t ht hW => ⟨⟨(G, Z), rfl, hq, by unfold dEnd; rw [ht]; exact hC.1⟩, hC.2.F ht⟩) hC.2.2.2 hdg hk
theorem d_lret {P : Int64 → GS → ZS → Prop} {v : Int64} (X : aX p s m c cc nL args Ts own A (dAdr A)) (hC : aH A (dAdr A) (DW A G Z) s H locs) (hr : meth.sig.returnType = some .long) (hk : meth.locks = false) (hq : P v G Z) (hdg : decode cc pc = .ok (.lreturn, 1)) : W p l e R s m args below meth c H locs 0 0 (aQl below (dEnd A) (dAdr A) args s P) (F0 m pc ls [.long v]) := W.lret X.1.1 X.1.2.1 hr (fun t ht hW => ⟨⟨v, (G, Z), rfl, hq, by unfold dEnd; rw [ht]; exact hC.1⟩, hC.2.F ht⟩) hC.2.2.2 hdg hk
variable {y : MethodName} {bytes : ByteArray} {maxL n index ci q0 : Nat} {ret : Option FieldType} {ws ws' : List Cond} {rm : Room} {C : String} {As : List Value} {a : Nat} {q : vw_C} {fs : List Value}
/-- what a call by name needs of the words and of the room -/
def aCall (R : Room) (Ts : List Cond) (own : String) (index : Nat) (y : MethodName) (bytes : ByteArray) (maxL : Nat) (ret : Option FieldType) (ws : List Cond) (rm : Room) (n : Nat) : Prop :=
  GoodIn Ts (wsV own index y.cls y ws) ∧ (∃ ws', ws = Cond.code y bytes maxL ret :: ws') ∧ rm.cells = 0 ∧ rm.slots = 0 ∧ (y.cls ≠ "java/lang/invoke/MethodHandle" ∧ y.cls ≠ "java/lang/invoke/VarHandle" ∧ (parseMethodDescriptor y.desc).map (fun d => d.parameters.length) = some n) ∧ rm.frames + 1 ≤ R.frames ∧ 8 + (maxL + 11) + rm.locals ≤ R.locals
theorem aCall.W {R : Room} {bytes : ByteArray} (h : aCall R Ts own index y bytes maxL ret ws rm n) (ht : ∀ w ∈ Ts, w.before args s = true) : CallW R s args own y.cls index y bytes maxL ret ws rm 0 0 n := by
  obtain ⟨h1, ⟨ws', h2⟩, h3, h4, h5, h6⟩ := h
  exact cwV n ht h1 h2 h3 h4 ⟨rfl, h5⟩ h6
/-- the receiver is an object of the callee's class -/
theorem a_recv {wd : va_W} (X : aX p s m c cc nL args Ts own A ad) (hP : va_P A.D vwCl wd H) (hc : vwCl[ci]? = some q) (he : wd[q0]? = some (a, .inr (ci, fs))) (hq : q.1 = y.cls) : ∃ cell : Cell, H[a]? = some cell ∧ cell.vm.isStatics = false ∧ s.vm.findClass y.cls = some cell.cls := by
  rw [← hq]; exact va_recv X.2.1 hP hc he
def aCallS (R : Room) (Ts : List Cond) (own : String) (index : Nat) (y : MethodName) (bytes : ByteArray) (maxL : Nat) (ret : Option FieldType) (ws : List Cond) (rm : Room) (n : Nat) : Prop :=
  GoodIn Ts (va_wsS own index y ws) ∧ (∃ ws', ws = Cond.code y bytes maxL ret :: ws') ∧ rm.cells = 0 ∧ rm.slots = 0 ∧ (y.cls ≠ "java/lang/invoke/MethodHandle" ∧ y.cls ≠ "java/lang/invoke/VarHandle" ∧ (parseMethodDescriptor y.desc).map (fun d => d.parameters.length) = some n) ∧ rm.frames + 1 ≤ R.frames ∧ 8 + (maxL + 11) + rm.locals ≤ R.locals
theorem aCallS.W {R : Room} {bytes : ByteArray} (h : aCallS R Ts own index y bytes maxL ret ws rm n) (ht : ∀ w ∈ Ts, w.before args s = true) : CallB R s args own index y bytes maxL ret ws rm 0 0 n ∧ (Cond.static y).before args s = true := by
  obtain ⟨h1, ⟨ws', h2⟩, h3, h4, h5, h6⟩ := h
  exact va_cwS n ht h1 h2 h3 h4 h5 h6
theorem c_calli {P : Int → GS → YS → Prop} (X : aX p s m c cc nL args Ts own A (cAdr A)) (hC : aH A (cAdr A) (CW A G Y) s H locs) (hM : cMi l y ws rm A (.ref a :: As) G Y P) (hcw : aCall R Ts own index y bytes maxL ret ws rm n) (hre : ∃ cell : Cell, H[a]? = some cell ∧ cell.vm.isStatics = false ∧ s.vm.findClass y.cls = some cell.cls) (hn : As.length = n) (hsz : ls.size = nL) (hst : st0 = As.reverse ++ .ref a :: rest) (hsum : (rest.map fun v => v.category).sum ≤ 8) (hf : cells ≤ R.cells ∧ slots ≤ R.slots) (hdg : decode cc pc = .ok (.invokevirtual index, 3)) (kk : ∀ (z : Int) (G' : GS) (T' : YS) (H1 : Heap) (locs1 : List Loc), P z G' T' → aH A (cAdr A) (CW A G' T') s H1 locs1 → W p l e R s m args below meth c H1 locs1 cells slots Q (F0 m (pc + 3) ls (.int (iI z) :: rest))) : W p l e R s m args below meth c H locs cells slots Q (F0 m pc ls st0) := by
  refine va_calli (A1 := aFr (cAdr A) H.size) (va_runV (As := As) (rest := rest) X.1 (hM H.size) (hcw.W X.1.2.2.2.2) ⟨aPre_blind, hre, fun U hU hW => ⟨rfl, by rw [hU], by rw [hU]; exact hC.1, va_K.moved hW.alike X.2.1, X.2.2⟩⟩ rfl hn hsz hst (lv_room hsum) hdg hf) hC.2 (fun q _ h => aFr_mono hC.2 q h) (fun q h => aFr_mono hC.2 q h) (fun r u t H1 locs1 ht _ hp hB _ _ hS => ?_)
  obtain ⟨z, rfl, hq⟩ := hp
  exact kk z u.1 u.2 H1 locs1 hq ⟨by rw [← ht]; exact hB, hS⟩
theorem c_callis {P : Int → GS → YS → Prop} (X : aX p s m c cc nL args Ts own A (cAdr A)) (hC : aH A (cAdr A) (CW A G Y) s H locs) (hM : cMi l y ws rm A As G Y P) (hcw : aCallS R Ts own index y bytes maxL ret ws rm n) (hn : As.length = n) (hsz : ls.size = nL) (hst : st0 = As.reverse ++ rest) (hsum : (rest.map fun v => v.category).sum ≤ 8) (hf : cells ≤ R.cells ∧ slots ≤ R.slots) (hdg : decode cc pc = .ok (.invokestatic index, 3)) (kk : ∀ (z : Int) (G' : GS) (T' : YS) (H1 : Heap) (locs1 : List Loc), P z G' T' → aH A (cAdr A) (CW A G' T') s H1 locs1 → W p l e R s m args below meth c H1 locs1 cells slots Q (F0 m (pc + 3) ls (.int (iI z) :: rest))) : W p l e R s m args below meth c H locs cells slots Q (F0 m pc ls st0) := by
  refine va_calli (A1 := aFr (cAdr A) H.size) (va_runS (As := As) (rest := rest) X.1 (hM H.size) (hcw.W X.1.2.2.2.2) ⟨aPre_blind, fun U hU hW => ⟨rfl, by rw [hU], by rw [hU]; exact hC.1, va_K.moved hW.alike X.2.1, X.2.2⟩⟩ rfl hn hsz hst (lv_room hsum) hdg hf) hC.2 (fun q _ h => aFr_mono hC.2 q h) (fun q h => aFr_mono hC.2 q h) (fun r u t H1 locs1 ht _ hp hB _ _ hS => ?_)
  obtain ⟨z, rfl, hq⟩ := hp
  exact kk z u.1 u.2 H1 locs1 hq ⟨by rw [← ht]; exact hB, hS⟩
theorem c_callix {v : Int} {G' : GS} {T' : YS} (X : aX p s m c cc nL args Ts own A (cAdr A)) (hC : aH A (cAdr A) (CW A G Y) s H locs) (hM : cMi l y ws rm A (.ref a :: As) G Y (xI v G' T')) (hcw : aCall R Ts own index y bytes maxL ret ws rm n) (hre : ∃ cell : Cell, H[a]? = some cell ∧ cell.vm.isStatics = false ∧ s.vm.findClass y.cls = some cell.cls) (hn : As.length = n) (hsz : ls.size = nL) (hst : st0 = As.reverse ++ .ref a :: rest) (hsum : (rest.map fun v => v.category).sum ≤ 8) (hf : cells ≤ R.cells ∧ slots ≤ R.slots) (hdg : decode cc pc = .ok (.invokevirtual index, 3)) (kk : ∀ (H1 : Heap) (locs1 : List Loc), aH A (cAdr A) (CW A G' T') s H1 locs1 → W p l e R s m args below meth c H1 locs1 cells slots Q (F0 m (pc + 3) ls (.int (iI v) :: rest))) : W p l e R s m args below meth c H locs cells slots Q (F0 m pc ls st0) := c_calli X hC hM hcw hre hn hsz hst hsum hf hdg (fun z g t H1 locs1 hq h => by obtain ⟨rfl, rfl, rfl⟩ := hq; exact kk H1 locs1 h)
theorem c_callisx {v : Int} {G' : GS} {T' : YS} (X : aX p s m c cc nL args Ts own A (cAdr A)) (hC : aH A (cAdr A) (CW A G Y) s H locs) (hM : cMi l y ws rm A As G Y (xI v G' T')) (hcw : aCallS R Ts own index y bytes maxL ret ws rm n) (hn : As.length = n) (hsz : ls.size = nL) (hst : st0 = As.reverse ++ rest) (hsum : (rest.map fun v => v.category).sum ≤ 8) (hf : cells ≤ R.cells ∧ slots ≤ R.slots) (hdg : decode cc pc = .ok (.invokestatic index, 3)) (kk : ∀ (H1 : Heap) (locs1 : List Loc), aH A (cAdr A) (CW A G' T') s H1 locs1 → W p l e R s m args below meth c H1 locs1 cells slots Q (F0 m (pc + 3) ls (.int (iI v) :: rest))) : W p l e R s m args below meth c H locs cells slots Q (F0 m pc ls st0) := c_callis X hC hM hcw hn hsz hst hsum hf hdg (fun z g t H1 locs1 hq h => by obtain ⟨rfl, rfl, rfl⟩ := hq; exact kk H1 locs1 h)
theorem c_calll {P : Int64 → GS → YS → Prop} (X : aX p s m c cc nL args Ts own A (cAdr A)) (hC : aH A (cAdr A) (CW A G Y) s H locs) (hM : cMl l y ws rm A (.ref a :: As) G Y P) (hcw : aCall R Ts own index y bytes maxL ret ws rm n) (hre : ∃ cell : Cell, H[a]? = some cell ∧ cell.vm.isStatics = false ∧ s.vm.findClass y.cls = some cell.cls) (hn : As.length = n) (hsz : ls.size = nL) (hst : st0 = As.reverse ++ .ref a :: rest) (hsum : (rest.map fun v => v.category).sum ≤ 8) (hf : cells ≤ R.cells ∧ slots ≤ R.slots) (hdg : decode cc pc = .ok (.invokevirtual index, 3)) (kk : ∀ (z : Int64) (G' : GS) (T' : YS) (H1 : Heap) (locs1 : List Loc), P z G' T' → aH A (cAdr A) (CW A G' T') s H1 locs1 → W p l e R s m args below meth c H1 locs1 cells slots Q (F0 m (pc + 3) ls (.long z :: rest))) : W p l e R s m args below meth c H locs cells slots Q (F0 m pc ls st0) := by
  refine va_calll (A1 := aFr (cAdr A) H.size) (va_runV (As := As) (rest := rest) X.1 (hM H.size) (hcw.W X.1.2.2.2.2) ⟨aPre_blind, hre, fun U hU hW => ⟨rfl, by rw [hU], by rw [hU]; exact hC.1, va_K.moved hW.alike X.2.1, X.2.2⟩⟩ rfl hn hsz hst (lv_room hsum) hdg hf) hC.2 (fun q _ h => aFr_mono hC.2 q h) (fun q h => aFr_mono hC.2 q h) (fun r u t H1 locs1 ht _ hp hB _ _ hS => ?_)
  exact kk r u.1 u.2 H1 locs1 hp ⟨by rw [← ht]; exact hB, hS⟩
theorem c_callls {P : Int64 → GS → YS → Prop} (X : aX p s m c cc nL args Ts own A (cAdr A)) (hC : aH A (cAdr A) (CW A G Y) s H locs) (hM : cMl l y ws rm A As G Y P) (hcw : aCallS R Ts own index y bytes maxL ret ws rm n) (hn : As.length = n) (hsz : ls.size = nL) (hst : st0 = As.reverse ++ rest) (hsum : (rest.map fun v => v.category).sum ≤ 8) (hf : cells ≤ R.cells ∧ slots ≤ R.slots) (hdg : decode cc pc = .ok (.invokestatic index, 3)) (kk : ∀ (z : Int64) (G' : GS) (T' : YS) (H1 : Heap) (locs1 : List Loc), P z G' T' → aH A (cAdr A) (CW A G' T') s H1 locs1 → W p l e R s m args below meth c H1 locs1 cells slots Q (F0 m (pc + 3) ls (.long z :: rest))) : W p l e R s m args below meth c H locs cells slots Q (F0 m pc ls st0) := by
  refine va_calll (A1 := aFr (cAdr A) H.size) (va_runS (As := As) (rest := rest) X.1 (hM H.size) (hcw.W X.1.2.2.2.2) ⟨aPre_blind, fun U hU hW => ⟨rfl, by rw [hU], by rw [hU]; exact hC.1, va_K.moved hW.alike X.2.1, X.2.2⟩⟩ rfl hn hsz hst (lv_room hsum) hdg hf) hC.2 (fun q _ h => aFr_mono hC.2 q h) (fun q h => aFr_mono hC.2 q h) (fun r u t H1 locs1 ht _ hp hB _ _ hS => ?_)
  exact kk r u.1 u.2 H1 locs1 hp ⟨by rw [← ht]; exact hB, hS⟩
theorem c_calllx {v : Int64} {G' : GS} {T' : YS} (X : aX p s m c cc nL args Ts own A (cAdr A)) (hC : aH A (cAdr A) (CW A G Y) s H locs) (hM : cMl l y ws rm A (.ref a :: As) G Y (xL v G' T')) (hcw : aCall R Ts own index y bytes maxL ret ws rm n) (hre : ∃ cell : Cell, H[a]? = some cell ∧ cell.vm.isStatics = false ∧ s.vm.findClass y.cls = some cell.cls) (hn : As.length = n) (hsz : ls.size = nL) (hst : st0 = As.reverse ++ .ref a :: rest) (hsum : (rest.map fun v => v.category).sum ≤ 8) (hf : cells ≤ R.cells ∧ slots ≤ R.slots) (hdg : decode cc pc = .ok (.invokevirtual index, 3)) (kk : ∀ (H1 : Heap) (locs1 : List Loc), aH A (cAdr A) (CW A G' T') s H1 locs1 → W p l e R s m args below meth c H1 locs1 cells slots Q (F0 m (pc + 3) ls (.long v :: rest))) : W p l e R s m args below meth c H locs cells slots Q (F0 m pc ls st0) := c_calll X hC hM hcw hre hn hsz hst hsum hf hdg (fun z g t H1 locs1 hq h => by obtain ⟨rfl, rfl, rfl⟩ := hq; exact kk H1 locs1 h)
theorem c_calllsx {v : Int64} {G' : GS} {T' : YS} (X : aX p s m c cc nL args Ts own A (cAdr A)) (hC : aH A (cAdr A) (CW A G Y) s H locs) (hM : cMl l y ws rm A As G Y (xL v G' T')) (hcw : aCallS R Ts own index y bytes maxL ret ws rm n) (hn : As.length = n) (hsz : ls.size = nL) (hst : st0 = As.reverse ++ rest) (hsum : (rest.map fun v => v.category).sum ≤ 8) (hf : cells ≤ R.cells ∧ slots ≤ R.slots) (hdg : decode cc pc = .ok (.invokestatic index, 3)) (kk : ∀ (H1 : Heap) (locs1 : List Loc), aH A (cAdr A) (CW A G' T') s H1 locs1 → W p l e R s m args below meth c H1 locs1 cells slots Q (F0 m (pc + 3) ls (.long v :: rest))) : W p l e R s m args below meth c H locs cells slots Q (F0 m pc ls st0) := c_callls X hC hM hcw hn hsz hst hsum hf hdg (fun z g t H1 locs1 hq h => by obtain ⟨rfl, rfl, rfl⟩ := hq; exact kk H1 locs1 h)
theorem c_callv {P : GS → YS → Prop} (X : aX p s m c cc nL args Ts own A (cAdr A)) (hC : aH A (cAdr A) (CW A G Y) s H locs) (hM : cMv l y ws rm A (.ref a :: As) G Y P) (hcw : aCall R Ts own index y bytes maxL ret ws rm n) (hre : ∃ cell : Cell, H[a]? = some cell ∧ cell.vm.isStatics = false ∧ s.vm.findClass y.cls = some cell.cls) (hn : As.length = n) (hsz : ls.size = nL) (hst : st0 = As.reverse ++ .ref a :: rest) (hsum : (rest.map fun v => v.category).sum ≤ 8) (hf : cells ≤ R.cells ∧ slots ≤ R.slots) (hdg : decode cc pc = .ok (.invokevirtual index, 3)) (kk : ∀ (G' : GS) (T' : YS) (H1 : Heap) (locs1 : List Loc), P G' T' → aH A (cAdr A) (CW A G' T') s H1 locs1 → W p l e R s m args below meth c H1 locs1 cells slots Q (F0 m (pc + 3) ls rest)) : W p l e R s m args below meth c H locs cells slots Q (F0 m pc ls st0) := by
  refine va_callv (A1 := aFr (cAdr A) H.size) (va_runV (As := As) (rest := rest) X.1 (hM H.size) (hcw.W X.1.2.2.2.2) ⟨aPre_blind, hre, fun U hU hW => ⟨rfl, by rw [hU], by rw [hU]; exact hC.1, va_K.moved hW.alike X.2.1, X.2.2⟩⟩ rfl hn hsz hst (lv_room hsum) hdg hf) hC.2 (fun q _ h => aFr_mono hC.2 q h) (fun q h => aFr_mono hC.2 q h) (fun u t H1 locs1 ht _ hp hB _ _ hS => ?_)
  exact kk u.1 u.2 H1 locs1 hp ⟨by rw [← ht]; exact hB, hS⟩
theorem c_callvs {P : GS → YS → Prop} (X : aX p s m c cc nL args Ts own A (cAdr A)) (hC : aH A (cAdr A) (CW A G Y) s H locs) (hM : cMv l y ws rm A As G Y P) (hcw : aCallS R Ts own index y bytes maxL ret ws rm n) (hn : As.length = n) (hsz : ls.size = nL) (hst : st0 = As.reverse ++ rest) (hsum : (rest.map fun v => v.category).sum ≤ 8) (hf : cells ≤ R.cells ∧ slots ≤ R.slots) (hdg : decode cc pc = .ok (.invokestatic index, 3)) (kk : ∀ (G' : GS) (T' : YS) (H1 : Heap) (locs1 : List Loc), P G' T' → aH A (cAdr A) (CW A G' T') s H1 locs1 → W p l e R s m args below meth c H1 locs1 cells slots Q (F0 m (pc + 3) ls rest)) : W p l e R s m args below meth c H locs cells slots Q (F0 m pc ls st0) := by
  refine va_callv (A1 := aFr (cAdr A) H.size) (va_runS (As := As) (rest := rest) X.1 (hM H.size) (hcw.W X.1.2.2.2.2) ⟨aPre_blind, fun U hU hW => ⟨rfl, by rw [hU], by rw [hU]; exact hC.1, va_K.moved hW.alike X.2.1, X.2.2⟩⟩ rfl hn hsz hst (lv_room hsum) hdg hf) hC.2 (fun q _ h => aFr_mono hC.2 q h) (fun q h => aFr_mono hC.2 q h) (fun u t H1 locs1 ht _ hp hB _ _ hS => ?_)
  exact kk u.1 u.2 H1 locs1 hp ⟨by rw [← ht]; exact hB, hS⟩
theorem c_callvx {G' : GS} {T' : YS} (X : aX p s m c cc nL args Ts own A (cAdr A)) (hC : aH A (cAdr A) (CW A G Y) s H locs) (hM : cMv l y ws rm A (.ref a :: As) G Y (xV G' T')) (hcw : aCall R Ts own index y bytes maxL ret ws rm n) (hre : ∃ cell : Cell, H[a]? = some cell ∧ cell.vm.isStatics = false ∧ s.vm.findClass y.cls = some cell.cls) (hn : As.length = n) (hsz : ls.size = nL) (hst : st0 = As.reverse ++ .ref a :: rest) (hsum : (rest.map fun v => v.category).sum ≤ 8) (hf : cells ≤ R.cells ∧ slots ≤ R.slots) (hdg : decode cc pc = .ok (.invokevirtual index, 3)) (kk : ∀ (H1 : Heap) (locs1 : List Loc), aH A (cAdr A) (CW A G' T') s H1 locs1 → W p l e R s m args below meth c H1 locs1 cells slots Q (F0 m (pc + 3) ls rest)) : W p l e R s m args below meth c H locs cells slots Q (F0 m pc ls st0) := c_callv X hC hM hcw hre hn hsz hst hsum hf hdg (fun g t H1 locs1 hq h => by obtain ⟨rfl, rfl⟩ := hq; exact kk H1 locs1 h)
theorem c_callvsx {G' : GS} {T' : YS} (X : aX p s m c cc nL args Ts own A (cAdr A)) (hC : aH A (cAdr A) (CW A G Y) s H locs) (hM : cMv l y ws rm A As G Y (xV G' T')) (hcw : aCallS R Ts own index y bytes maxL ret ws rm n) (hn : As.length = n) (hsz : ls.size = nL) (hst : st0 = As.reverse ++ rest) (hsum : (rest.map fun v => v.category).sum ≤ 8) (hf : cells ≤ R.cells ∧ slots ≤ R.slots) (hdg : decode cc pc = .ok (.invokestatic index, 3)) (kk : ∀ (H1 : Heap) (locs1 : List Loc), aH A (cAdr A) (CW A G' T') s H1 locs1 → W p l e R s m args below meth c H1 locs1 cells slots Q (F0 m (pc + 3) ls rest)) : W p l e R s m args below meth c H locs cells slots Q (F0 m pc ls st0) := c_callvs X hC hM hcw hn hsz hst hsum hf hdg (fun g t H1 locs1 hq h => by obtain ⟨rfl, rfl⟩ := hq; exact kk H1 locs1 h)
theorem d_calli {P : Int → GS → ZS → Prop} (X : aX p s m c cc nL args Ts own A (dAdr A)) (hC : aH A (dAdr A) (DW A G Z) s H locs) (hM : dMi l y ws rm A (.ref a :: As) G Z P) (hcw : aCall R Ts own index y bytes maxL ret ws rm n) (hre : ∃ cell : Cell, H[a]? = some cell ∧ cell.vm.isStatics = false ∧ s.vm.findClass y.cls = some cell.cls) (hn : As.length = n) (hsz : ls.size = nL) (hst : st0 = As.reverse ++ .ref a :: rest) (hsum : (rest.map fun v => v.category).sum ≤ 8) (hf : cells ≤ R.cells ∧ slots ≤ R.slots) (hdg : decode cc pc = .ok (.invokevirtual index, 3)) (kk : ∀ (z : Int) (G' : GS) (T' : ZS) (H1 : Heap) (locs1 : List Loc), P z G' T' → aH A (dAdr A) (DW A G' T') s H1 locs1 → W p l e R s m args below meth c H1 locs1 cells slots Q (F0 m (pc + 3) ls (.int (iI z) :: rest))) : W p l e R s m args below meth c H locs cells slots Q (F0 m pc ls st0) := by
  refine va_calli (A1 := aFr (dAdr A) H.size) (va_runV (As := As) (rest := rest) X.1 (hM H.size) (hcw.W X.1.2.2.2.2) ⟨aPre_blind, hre, fun U hU hW => ⟨rfl, by rw [hU], by rw [hU]; exact hC.1, va_K.moved hW.alike X.2.1, X.2.2⟩⟩ rfl hn hsz hst (lv_room hsum) hdg hf) hC.2 (fun q _ h => aFr_mono hC.2 q h) (fun q h => aFr_mono hC.2 q h) (fun r u t H1 locs1 ht _ hp hB _ _ hS => ?_)
  obtain ⟨z, rfl, hq⟩ := hp
  exact kk z u.1 u.2 H1 locs1 hq ⟨by rw [← ht]; exact hB, hS⟩
theorem d_callis {P : Int → GS → ZS → Prop} (X : aX p s m c cc nL args Ts own A (dAdr A)) (hC : aH A (dAdr A) (DW A G Z) s H locs) (hM : dMi l y ws rm A As G Z P) (hcw : aCallS R Ts own index y bytes maxL ret ws rm n) (hn : As.length = n) (hsz : ls.size = nL) (hst : st0 = As.reverse ++ rest) (hsum : (rest.map fun v => v.category).sum ≤ 8) (hf : cells ≤ R.cells ∧ slots ≤ R.slots) (hdg : decode cc pc = .ok (.invokestatic index, 3)) (kk : ∀ (z : Int) (G' : GS) (T' : ZS) (H1 : Heap) (locs1 : List Loc), P z G' T' → aH A (dAdr A) (DW A G' T') s H1 locs1 → W p l e R s m args below meth c H1 locs1 cells slots Q (F0 m (pc + 3) ls (.int (iI z) :: rest))) : W p l e R s m args below meth c H locs cells slots Q (F0 m pc ls st0) := by
  refine va_calli (A1 := aFr (dAdr A) H.size) (va_runS (As := As) (rest := rest) X.1 (hM H.size) (hcw.W X.1.2.2.2.2) ⟨aPre_blind, fun U hU hW => ⟨rfl, by rw [hU], by rw [hU]; exact hC.1, va_K.moved hW.alike X.2.1, X.2.2⟩⟩ rfl hn hsz hst (lv_room hsum) hdg hf) hC.2 (fun q _ h => aFr_mono hC.2 q h) (fun q h => aFr_mono hC.2 q h) (fun r u t H1 locs1 ht _ hp hB _ _ hS => ?_)
  obtain ⟨z, rfl, hq⟩ := hp
  exact kk z u.1 u.2 H1 locs1 hq ⟨by rw [← ht]; exact hB, hS⟩
theorem d_callix {v : Int} {G' : GS} {T' : ZS} (X : aX p s m c cc nL args Ts own A (dAdr A)) (hC : aH A (dAdr A) (DW A G Z) s H locs) (hM : dMi l y ws rm A (.ref a :: As) G Z (xI v G' T')) (hcw : aCall R Ts own index y bytes maxL ret ws rm n) (hre : ∃ cell : Cell, H[a]? = some cell ∧ cell.vm.isStatics = false ∧ s.vm.findClass y.cls = some cell.cls) (hn : As.length = n) (hsz : ls.size = nL) (hst : st0 = As.reverse ++ .ref a :: rest) (hsum : (rest.map fun v => v.category).sum ≤ 8) (hf : cells ≤ R.cells ∧ slots ≤ R.slots) (hdg : decode cc pc = .ok (.invokevirtual index, 3)) (kk : ∀ (H1 : Heap) (locs1 : List Loc), aH A (dAdr A) (DW A G' T') s H1 locs1 → W p l e R s m args below meth c H1 locs1 cells slots Q (F0 m (pc + 3) ls (.int (iI v) :: rest))) : W p l e R s m args below meth c H locs cells slots Q (F0 m pc ls st0) := d_calli X hC hM hcw hre hn hsz hst hsum hf hdg (fun z g t H1 locs1 hq h => by obtain ⟨rfl, rfl, rfl⟩ := hq; exact kk H1 locs1 h)
theorem d_callisx {v : Int} {G' : GS} {T' : ZS} (X : aX p s m c cc nL args Ts own A (dAdr A)) (hC : aH A (dAdr A) (DW A G Z) s H locs) (hM : dMi l y ws rm A As G Z (xI v G' T')) (hcw : aCallS R Ts own index y bytes maxL ret ws rm n) (hn : As.length = n) (hsz : ls.size = nL) (hst : st0 = As.reverse ++ rest) (hsum : (rest.map fun v => v.category).sum ≤ 8) (hf : cells ≤ R.cells ∧ slots ≤ R.slots) (hdg : decode cc pc = .ok (.invokestatic index, 3)) (kk : ∀ (H1 : Heap) (locs1 : List Loc), aH A (dAdr A) (DW A G' T') s H1 locs1 → W p l e R s m args below meth c H1 locs1 cells slots Q (F0 m (pc + 3) ls (.int (iI v) :: rest))) : W p l e R s m args below meth c H locs cells slots Q (F0 m pc ls st0) := d_callis X hC hM hcw hn hsz hst hsum hf hdg (fun z g t H1 locs1 hq h => by obtain ⟨rfl, rfl, rfl⟩ := hq; exact kk H1 locs1 h)
theorem d_calll {P : Int64 → GS → ZS → Prop} (X : aX p s m c cc nL args Ts own A (dAdr A)) (hC : aH A (dAdr A) (DW A G Z) s H locs) (hM : dMl l y ws rm A (.ref a :: As) G Z P) (hcw : aCall R Ts own index y bytes maxL ret ws rm n) (hre : ∃ cell : Cell, H[a]? = some cell ∧ cell.vm.isStatics = false ∧ s.vm.findClass y.cls = some cell.cls) (hn : As.length = n) (hsz : ls.size = nL) (hst : st0 = As.reverse ++ .ref a :: rest) (hsum : (rest.map fun v => v.category).sum ≤ 8) (hf : cells ≤ R.cells ∧ slots ≤ R.slots) (hdg : decode cc pc = .ok (.invokevirtual index, 3)) (kk : ∀ (z : Int64) (G' : GS) (T' : ZS) (H1 : Heap) (locs1 : List Loc), P z G' T' → aH A (dAdr A) (DW A G' T') s H1 locs1 → W p l e R s m args below meth c H1 locs1 cells slots Q (F0 m (pc + 3) ls (.long z :: rest))) : W p l e R s m args below meth c H locs cells slots Q (F0 m pc ls st0) := by
  refine va_calll (A1 := aFr (dAdr A) H.size) (va_runV (As := As) (rest := rest) X.1 (hM H.size) (hcw.W X.1.2.2.2.2) ⟨aPre_blind, hre, fun U hU hW => ⟨rfl, by rw [hU], by rw [hU]; exact hC.1, va_K.moved hW.alike X.2.1, X.2.2⟩⟩ rfl hn hsz hst (lv_room hsum) hdg hf) hC.2 (fun q _ h => aFr_mono hC.2 q h) (fun q h => aFr_mono hC.2 q h) (fun r u t H1 locs1 ht _ hp hB _ _ hS => ?_)
  exact kk r u.1 u.2 H1 locs1 hp ⟨by rw [← ht]; exact hB, hS⟩
theorem d_callls {P : Int64 → GS → ZS → Prop} (X : aX p s m c cc nL args Ts own A (dAdr A)) (hC : aH A (dAdr A) (DW A G Z) s H locs) (hM : dMl l y ws rm A As G Z P) (hcw : aCallS R Ts own index y bytes maxL ret ws rm n) (hn : As.length = n) (hsz : ls.size = nL) (hst : st0 = As.reverse ++ rest) (hsum : (rest.map fun v => v.category).sum ≤ 8) (hf : cells ≤ R.cells ∧ slots ≤ R.slots) (hdg : decode cc pc = .ok (.invokestatic index, 3)) (kk : ∀ (z : Int64) (G' : GS) (T' : ZS) (H1 : Heap) (locs1 : List Loc), P z G' T' → aH A (dAdr A) (DW A G' T') s H1 locs1 → W p l e R s m args below meth c H1 locs1 cells slots Q (F0 m (pc + 3) ls (.long z :: rest))) : W p l e R s m args below meth c H locs cells slots Q (F0 m pc ls st0) := by
  refine va_calll (A1 := aFr (dAdr A) H.size) (va_runS (As := As) (rest := rest) X.1 (hM H.size) (hcw.W X.1.2.2.2.2) ⟨aPre_blind, fun U hU hW => ⟨rfl, by rw [hU], by rw [hU]; exact hC.1, va_K.moved hW.alike X.2.1, X.2.2⟩⟩ rfl hn hsz hst (lv_room hsum) hdg hf) hC.2 (fun q _ h => aFr_mono hC.2 q h) (fun q h => aFr_mono hC.2 q h) (fun r u t H1 locs1 ht _ hp hB _ _ hS => ?_)
  exact kk r u.1 u.2 H1 locs1 hp ⟨by rw [← ht]; exact hB, hS⟩
theorem d_calllx {v : Int64} {G' : GS} {T' : ZS} (X : aX p s m c cc nL args Ts own A (dAdr A)) (hC : aH A (dAdr A) (DW A G Z) s H locs) (hM : dMl l y ws rm A (.ref a :: As) G Z (xL v G' T')) (hcw : aCall R Ts own index y bytes maxL ret ws rm n) (hre : ∃ cell : Cell, H[a]? = some cell ∧ cell.vm.isStatics = false ∧ s.vm.findClass y.cls = some cell.cls) (hn : As.length = n) (hsz : ls.size = nL) (hst : st0 = As.reverse ++ .ref a :: rest) (hsum : (rest.map fun v => v.category).sum ≤ 8) (hf : cells ≤ R.cells ∧ slots ≤ R.slots) (hdg : decode cc pc = .ok (.invokevirtual index, 3)) (kk : ∀ (H1 : Heap) (locs1 : List Loc), aH A (dAdr A) (DW A G' T') s H1 locs1 → W p l e R s m args below meth c H1 locs1 cells slots Q (F0 m (pc + 3) ls (.long v :: rest))) : W p l e R s m args below meth c H locs cells slots Q (F0 m pc ls st0) := d_calll X hC hM hcw hre hn hsz hst hsum hf hdg (fun z g t H1 locs1 hq h => by obtain ⟨rfl, rfl, rfl⟩ := hq; exact kk H1 locs1 h)
theorem d_calllsx {v : Int64} {G' : GS} {T' : ZS} (X : aX p s m c cc nL args Ts own A (dAdr A)) (hC : aH A (dAdr A) (DW A G Z) s H locs) (hM : dMl l y ws rm A As G Z (xL v G' T')) (hcw : aCallS R Ts own index y bytes maxL ret ws rm n) (hn : As.length = n) (hsz : ls.size = nL) (hst : st0 = As.reverse ++ rest) (hsum : (rest.map fun v => v.category).sum ≤ 8) (hf : cells ≤ R.cells ∧ slots ≤ R.slots) (hdg : decode cc pc = .ok (.invokestatic index, 3)) (kk : ∀ (H1 : Heap) (locs1 : List Loc), aH A (dAdr A) (DW A G' T') s H1 locs1 → W p l e R s m args below meth c H1 locs1 cells slots Q (F0 m (pc + 3) ls (.long v :: rest))) : W p l e R s m args below meth c H locs cells slots Q (F0 m pc ls st0) := d_callls X hC hM hcw hn hsz hst hsum hf hdg (fun z g t H1 locs1 hq h => by obtain ⟨rfl, rfl, rfl⟩ := hq; exact kk H1 locs1 h)
theorem d_callv {P : GS → ZS → Prop} (X : aX p s m c cc nL args Ts own A (dAdr A)) (hC : aH A (dAdr A) (DW A G Z) s H locs) (hM : dMv l y ws rm A (.ref a :: As) G Z P) (hcw : aCall R Ts own index y bytes maxL ret ws rm n) (hre : ∃ cell : Cell, H[a]? = some cell ∧ cell.vm.isStatics = false ∧ s.vm.findClass y.cls = some cell.cls) (hn : As.length = n) (hsz : ls.size = nL) (hst : st0 = As.reverse ++ .ref a :: rest) (hsum : (rest.map fun v => v.category).sum ≤ 8) (hf : cells ≤ R.cells ∧ slots ≤ R.slots) (hdg : decode cc pc = .ok (.invokevirtual index, 3)) (kk : ∀ (G' : GS) (T' : ZS) (H1 : Heap) (locs1 : List Loc), P G' T' → aH A (dAdr A) (DW A G' T') s H1 locs1 → W p l e R s m args below meth c H1 locs1 cells slots Q (F0 m (pc + 3) ls rest)) : W p l e R s m args below meth c H locs cells slots Q (F0 m pc ls st0) := by
  refine va_callv (A1 := aFr (dAdr A) H.size) (va_runV (As := As) (rest := rest) X.1 (hM H.size) (hcw.W X.1.2.2.2.2) ⟨aPre_blind, hre, fun U hU hW => ⟨rfl, by rw [hU], by rw [hU]; exact hC.1, va_K.moved hW.alike X.2.1, X.2.2⟩⟩ rfl hn hsz hst (lv_room hsum) hdg hf) hC.2 (fun q _ h => aFr_mono hC.2 q h) (fun q h => aFr_mono hC.2 q h) (fun u t H1 locs1 ht _ hp hB _ _ hS => ?_)
  exact kk u.1 u.2 H1 locs1 hp ⟨by rw [← ht]; exact hB, hS⟩
theorem d_callvs {P : GS → ZS → Prop} (X : aX p s m c cc nL args Ts own A (dAdr A)) (hC : aH A (dAdr A) (DW A G Z) s H locs) (hM : dMv l y ws rm A As G Z P) (hcw : aCallS R Ts own index y bytes maxL ret ws rm n) (hn : As.length = n) (hsz : ls.size = nL) (hst : st0 = As.reverse ++ rest) (hsum : (rest.map fun v => v.category).sum ≤ 8) (hf : cells ≤ R.cells ∧ slots ≤ R.slots) (hdg : decode cc pc = .ok (.invokestatic index, 3)) (kk : ∀ (G' : GS) (T' : ZS) (H1 : Heap) (locs1 : List Loc), P G' T' → aH A (dAdr A) (DW A G' T') s H1 locs1 → W p l e R s m args below meth c H1 locs1 cells slots Q (F0 m (pc + 3) ls rest)) : W p l e R s m args below meth c H locs cells slots Q (F0 m pc ls st0) := by
  refine va_callv (A1 := aFr (dAdr A) H.size) (va_runS (As := As) (rest := rest) X.1 (hM H.size) (hcw.W X.1.2.2.2.2) ⟨aPre_blind, fun U hU hW => ⟨rfl, by rw [hU], by rw [hU]; exact hC.1, va_K.moved hW.alike X.2.1, X.2.2⟩⟩ rfl hn hsz hst (lv_room hsum) hdg hf) hC.2 (fun q _ h => aFr_mono hC.2 q h) (fun q h => aFr_mono hC.2 q h) (fun u t H1 locs1 ht _ hp hB _ _ hS => ?_)
  exact kk u.1 u.2 H1 locs1 hp ⟨by rw [← ht]; exact hB, hS⟩
theorem d_callvx {G' : GS} {T' : ZS} (X : aX p s m c cc nL args Ts own A (dAdr A)) (hC : aH A (dAdr A) (DW A G Z) s H locs) (hM : dMv l y ws rm A (.ref a :: As) G Z (xV G' T')) (hcw : aCall R Ts own index y bytes maxL ret ws rm n) (hre : ∃ cell : Cell, H[a]? = some cell ∧ cell.vm.isStatics = false ∧ s.vm.findClass y.cls = some cell.cls) (hn : As.length = n) (hsz : ls.size = nL) (hst : st0 = As.reverse ++ .ref a :: rest) (hsum : (rest.map fun v => v.category).sum ≤ 8) (hf : cells ≤ R.cells ∧ slots ≤ R.slots) (hdg : decode cc pc = .ok (.invokevirtual index, 3)) (kk : ∀ (H1 : Heap) (locs1 : List Loc), aH A (dAdr A) (DW A G' T') s H1 locs1 → W p l e R s m args below meth c H1 locs1 cells slots Q (F0 m (pc + 3) ls rest)) : W p l e R s m args below meth c H locs cells slots Q (F0 m pc ls st0) := d_callv X hC hM hcw hre hn hsz hst hsum hf hdg (fun g t H1 locs1 hq h => by obtain ⟨rfl, rfl⟩ := hq; exact kk H1 locs1 h)
theorem d_callvsx {G' : GS} {T' : ZS} (X : aX p s m c cc nL args Ts own A (dAdr A)) (hC : aH A (dAdr A) (DW A G Z) s H locs) (hM : dMv l y ws rm A As G Z (xV G' T')) (hcw : aCallS R Ts own index y bytes maxL ret ws rm n) (hn : As.length = n) (hsz : ls.size = nL) (hst : st0 = As.reverse ++ rest) (hsum : (rest.map fun v => v.category).sum ≤ 8) (hf : cells ≤ R.cells ∧ slots ≤ R.slots) (hdg : decode cc pc = .ok (.invokestatic index, 3)) (kk : ∀ (H1 : Heap) (locs1 : List Loc), aH A (dAdr A) (DW A G' T') s H1 locs1 → W p l e R s m args below meth c H1 locs1 cells slots Q (F0 m (pc + 3) ls rest)) : W p l e R s m args below meth c H locs cells slots Q (F0 m pc ls st0) := d_callvs X hC hM hcw hn hsz hst hsum hf hdg (fun g t H1 locs1 hq h => by obtain ⟨rfl, rfl⟩ := hq; exact kk H1 locs1 h)
end AE
end
