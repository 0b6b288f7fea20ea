/-! the class reads: leaves -/
theorem rdAll : ∀ l : Nat, l < 6 → jAi 25 (l : Int) ≤ 190 ∧ jRi 25 (l : Int) = 28 + 2 * l := by decide +kernel
theorem rsAll : ∀ l : Nat, l < 5 → jAi 26 (l : Int) ≤ 190 ∧ jRi 26 (l : Int) = 40 + 2 * l := by decide +kernel
theorem rd_f {t : Nat} {l : Int} (ht : 190 ≤ t) (h0 : 0 ≤ l) (h1 : l ≤ 5) : jAi 25 l ≤ t ∧ jRi 25 l = 28 + 2 * l := by
  obtain ⟨a1, a2⟩ := rdAll l.toNat (by omega)
  rw [show ((l.toNat : Nat) : Int) = l from by omega] at a1 a2
  exact ⟨Nat.le_trans a1 ht, a2⟩
theorem rs_f {t : Nat} {l : Int} (ht : 190 ≤ t) (h0 : 0 ≤ l) (h1 : l ≤ 4) : jAi 26 l ≤ t ∧ jRi 26 l = 40 + 2 * l := by
  obtain ⟨a1, a2⟩ := rsAll l.toNat (by omega)
  rw [show ((l.toNat : Nat) : Int) = l from by omega] at a1 a2
  exact ⟨Nat.le_trans a1 ht, a2⟩
def cSt (R N F : Int) (T : Int → Int) (pl : Int) (sp : Prop) (g : hkG) : Prop := RB g R N ∧ g 24 0 = F ∧ (∀ k : Int, 0 ≤ k → k < F → g 27 k = T k) ∧ g 24 2 = -1 ∧ g 24 7 = pl ∧ g 24 3 = hkTf sp
section SP
variable {t d : Nat} {R N F pl : Int} {T : Int → Int} {sp : Prop} {g : hkG} {Q : Option hkV → Nat → hkG → Prop}
theorem sx_sees {b : Int} (ht : 190 ≤ t) (hS : cSt R N F T pl sp g) (F60 : F ≤ 60) (p0 : 0 ≤ pl) (hb : b ≠ -1) : Xp 80 d 0 [(2, 24), (0, b)] [] t g Q = Q (some (0, hkTf (hrC T F pl = b))) t g := by
  obtain ⟨-, h0, hT, h2, h7, -⟩ := hS
  refine Xp_ev (d := 0) (Ev_of ?_) (Nat.zero_le _)
  by_cases hp : pl < F
  · have e : hrC T F pl = T pl := by unfold hrC; rw [if_pos hp]
    have eT := hT pl p0 hp
    rw [e]
    by_cases hc : T pl = b
    · rw [hkTf_t hc]
      simp only [x_80_0, x_80_1, x_80_4, x_80_5, x_80_8, x_80_9, x_80_12, x_80_13, x_80_16, x_80_19, x_80_20, x_80_23, x_80_24, x_80_27, x_80_28, x_80_29, x_80_32, x_80_33, x_80_36, x_80_37, hkJK_24, hkJK_27, jA_24_6, jL_27, jR_24_6, hkP1_0, hkP1_2, hkP1_u, hkC8, List.map_cons, List.map_nil, List.sum_cons, List.sum_nil, hkCat_0, hkCat_1, hkCat_2, Nat.reduceAdd, Nat.reduceLeDiff, hkPush_s, hkPush_n, true_and, and_true, implies_true, true_implies, not_true_eq_false, not_false_eq_true, false_implies, hkTf_0, hkTf_n1, hkOr01, hkOr11, Int.reduceEq, Int.reduceLT, Int.reduceLE, hk102a, hk102b, hk102c, Nat.reduceEqDiff, or_true, true_or, or_false, false_or, and_false, false_and, Classical.not_not, true_implies, List.set_cons_zero, List.set_cons_succ, ne_eq, hkLe_t ht, h0, h2, h7, eT]
      repeat' (first | rfl | refine And.intro ?_ ?_ | intro _ | trivial | omega | (exfalso; omega))
    · rw [hkTf_f hc]
      simp only [x_80_0, x_80_1, x_80_4, x_80_5, x_80_8, x_80_9, x_80_12, x_80_13, x_80_16, x_80_19, x_80_20, x_80_23, x_80_24, x_80_27, x_80_28, x_80_29, x_80_32, x_80_33, x_80_36, x_80_37, hkJK_24, hkJK_27, jA_24_6, jL_27, jR_24_6, hkP1_0, hkP1_2, hkP1_u, hkC8, List.map_cons, List.map_nil, List.sum_cons, List.sum_nil, hkCat_0, hkCat_1, hkCat_2, Nat.reduceAdd, Nat.reduceLeDiff, hkPush_s, hkPush_n, true_and, and_true, implies_true, true_implies, not_true_eq_false, not_false_eq_true, false_implies, hkTf_0, hkTf_n1, hkOr01, hkOr11, Int.reduceEq, Int.reduceLT, Int.reduceLE, hk102a, hk102b, hk102c, Nat.reduceEqDiff, or_true, true_or, or_false, false_or, and_false, false_and, Classical.not_not, true_implies, List.set_cons_zero, List.set_cons_succ, ne_eq, hkLe_t ht, h0, h2, h7, eT]
      repeat' (first | rfl | refine And.intro ?_ ?_ | intro _ | trivial | omega | (exfalso; omega))
  · have e : hrC T F pl = -1 := by unfold hrC; rw [if_neg hp]
    rw [e, hkTf_f (fun h => hb h.symm)]
    simp only [x_80_0, x_80_1, x_80_4, x_80_5, x_80_8, x_80_9, x_80_12, x_80_13, x_80_16, x_80_19, x_80_20, x_80_23, x_80_24, x_80_27, x_80_28, x_80_29, x_80_32, x_80_33, x_80_36, x_80_37, hkJK_24, hkJK_27, jA_24_6, jL_27, jR_24_6, hkP1_0, hkP1_2, hkP1_u, hkC8, List.map_cons, List.map_nil, List.sum_cons, List.sum_nil, hkCat_0, hkCat_1, hkCat_2, Nat.reduceAdd, Nat.reduceLeDiff, hkPush_s, hkPush_n, true_and, and_true, implies_true, true_implies, not_true_eq_false, not_false_eq_true, false_implies, hkTf_0, hkTf_n1, hkOr01, hkOr11, Int.reduceEq, Int.reduceLT, Int.reduceLE, hk102a, hk102b, hk102c, Nat.reduceEqDiff, or_true, true_or, or_false, false_or, and_false, false_and, Classical.not_not, true_implies, List.set_cons_zero, List.set_cons_succ, ne_eq, hkLe_t ht, h0, h2, h7]
    repeat' (first | rfl | refine And.intro ?_ ?_ | intro _ | trivial | omega | (exfalso; omega))
theorem sx_seesF {b : Int} (h : g 24 2 ≠ -1) : Xp 80 d 0 [(2, 24), (0, b)] [] t g Q = Q (some (0, 0)) t g := by
  refine Xp_ev (d := 0) (Ev_of ?_) (Nat.zero_le _)
  simp only [x_80_0, x_80_1, x_80_4, x_80_5, hkJK_24, hkJK_27, jA_24_6, jL_27, jR_24_6, hkP1_0, hkP1_2, hkP1_u, hkC8, List.map_cons, List.map_nil, List.sum_cons, List.sum_nil, hkCat_0, hkCat_1, hkCat_2, Nat.reduceAdd, Nat.reduceLeDiff, hkPush_s, hkPush_n, true_and, and_true, implies_true, true_implies, not_true_eq_false, not_false_eq_true, false_implies, hkTf_0, hkTf_n1, hkOr01, hkOr11, Int.reduceEq, Int.reduceLT, Int.reduceLE, hk102a, hk102b, hk102c, Nat.reduceEqDiff, or_true, true_or, or_false, false_or, and_false, false_and, Classical.not_not, true_implies, List.set_cons_zero, List.set_cons_succ, ne_eq, x_80_36, x_80_37, hkJK_24, hkJK_27, jA_24_6, jL_27, jR_24_6, hkP1_0, hkP1_2, hkP1_u, hkC8, List.map_cons, List.map_nil, List.sum_cons, List.sum_nil, hkCat_0, hkCat_1, hkCat_2, Nat.reduceAdd, Nat.reduceLeDiff, hkPush_s, hkPush_n, true_and, and_true, implies_true, true_implies, not_true_eq_false, not_false_eq_true, false_implies, hkTf_0, hkTf_n1, hkOr01, hkOr11, Int.reduceEq, Int.reduceLT, Int.reduceLE, hk102a, hk102b, hk102c, Nat.reduceEqDiff, or_true, true_or, or_false, false_or, and_false, false_and, Classical.not_not, true_implies, List.set_cons_zero, List.set_cons_succ, ne_eq]
  repeat' (first | rfl | refine And.intro ?_ ?_ | intro _ | trivial | contradiction)
theorem sx_seesD (ht : 190 ≤ t) (hS : cSt R N F T pl sp g) (F60 : F ≤ 60) (p0 : 0 ≤ pl) : Xp 84 d 0 [(2, 24)] [] t g Q = Q (some (0, hkTf (48 ≤ hrC T F pl ∧ hrC T F pl ≤ 57))) t g := by
  obtain ⟨-, h0, hT, h2, h7, -⟩ := hS
  refine Xp_ev (d := 0) (Ev_of ?_) (Nat.zero_le _)
  by_cases hp : pl < F
  · have e : hrC T F pl = T pl := by unfold hrC; rw [if_pos hp]
    have eT := hT pl p0 hp
    rw [e]
    by_cases hc : 48 ≤ T pl ∧ T pl ≤ 57
    · rw [hkTf_t hc]
      simp only [x_84_0, x_84_1, x_84_4, x_84_5, x_84_8, x_84_9, x_84_12, x_84_13, x_84_16, x_84_19, x_84_20, x_84_23, x_84_24, x_84_27, x_84_28, x_84_30, x_84_33, x_84_34, x_84_37, x_84_38, x_84_41, x_84_42, x_84_44, x_84_47, x_84_48, x_84_51, x_84_52, hkJK_24, hkJK_27, jA_24_6, jL_27, jR_24_6, hkP1_0, hkP1_2, hkP1_u, hkC8, List.map_cons, List.map_nil, List.sum_cons, List.sum_nil, hkCat_0, hkCat_1, hkCat_2, Nat.reduceAdd, Nat.reduceLeDiff, hkPush_s, hkPush_n, true_and, and_true, implies_true, true_implies, not_true_eq_false, not_false_eq_true, false_implies, hkTf_0, hkTf_n1, hkOr01, hkOr11, Int.reduceEq, Int.reduceLT, Int.reduceLE, hk102a, hk102b, hk102c, Nat.reduceEqDiff, or_true, true_or, or_false, false_or, and_false, false_and, Classical.not_not, true_implies, List.set_cons_zero, List.set_cons_succ, ne_eq, hkLe_t ht, h0, h2, h7, eT]
      repeat' (first | rfl | refine And.intro ?_ ?_ | intro _ | trivial | omega | (exfalso; omega))
    · rw [hkTf_f hc]
      simp only [x_84_0, x_84_1, x_84_4, x_84_5, x_84_8, x_84_9, x_84_12, x_84_13, x_84_16, x_84_19, x_84_20, x_84_23, x_84_24, x_84_27, x_84_28, x_84_30, x_84_33, x_84_34, x_84_37, x_84_38, x_84_41, x_84_42, x_84_44, x_84_47, x_84_48, x_84_51, x_84_52, hkJK_24, hkJK_27, jA_24_6, jL_27, jR_24_6, hkP1_0, hkP1_2, hkP1_u, hkC8, List.map_cons, List.map_nil, List.sum_cons, List.sum_nil, hkCat_0, hkCat_1, hkCat_2, Nat.reduceAdd, Nat.reduceLeDiff, hkPush_s, hkPush_n, true_and, and_true, implies_true, true_implies, not_true_eq_false, not_false_eq_true, false_implies, hkTf_0, hkTf_n1, hkOr01, hkOr11, Int.reduceEq, Int.reduceLT, Int.reduceLE, hk102a, hk102b, hk102c, Nat.reduceEqDiff, or_true, true_or, or_false, false_or, and_false, false_and, Classical.not_not, true_implies, List.set_cons_zero, List.set_cons_succ, ne_eq, hkLe_t ht, h0, h2, h7, eT]
      repeat' (first | rfl | refine And.intro ?_ ?_ | intro _ | trivial | omega | (exfalso; omega))
  · have e : hrC T F pl = -1 := by unfold hrC; rw [if_neg hp]
    rw [e, hkTf_f (by decide)]
    simp only [x_84_0, x_84_1, x_84_4, x_84_5, x_84_8, x_84_9, x_84_12, x_84_13, x_84_16, x_84_19, x_84_20, x_84_23, x_84_24, x_84_27, x_84_28, x_84_30, x_84_33, x_84_34, x_84_37, x_84_38, x_84_41, x_84_42, x_84_44, x_84_47, x_84_48, x_84_51, x_84_52, hkJK_24, hkJK_27, jA_24_6, jL_27, jR_24_6, hkP1_0, hkP1_2, hkP1_u, hkC8, List.map_cons, List.map_nil, List.sum_cons, List.sum_nil, hkCat_0, hkCat_1, hkCat_2, Nat.reduceAdd, Nat.reduceLeDiff, hkPush_s, hkPush_n, true_and, and_true, implies_true, true_implies, not_true_eq_false, not_false_eq_true, false_implies, hkTf_0, hkTf_n1, hkOr01, hkOr11, Int.reduceEq, Int.reduceLT, Int.reduceLE, hk102a, hk102b, hk102c, Nat.reduceEqDiff, or_true, true_or, or_false, false_or, and_false, false_and, Classical.not_not, true_implies, List.set_cons_zero, List.set_cons_succ, ne_eq, hkLe_t ht, h0, h2, h7]
    repeat' (first | rfl | refine And.intro ?_ ?_ | intro _ | trivial | omega | (exfalso; omega))
theorem sx_seesDF (h : g 24 2 ≠ -1) : Xp 84 d 0 [(2, 24)] [] t g Q = Q (some (0, 0)) t g := by
  refine Xp_ev (d := 0) (Ev_of ?_) (Nat.zero_le _)
  simp only [x_84_0, x_84_1, x_84_4, x_84_5, hkJK_24, hkJK_27, jA_24_6, jL_27, jR_24_6, hkP1_0, hkP1_2, hkP1_u, hkC8, List.map_cons, List.map_nil, List.sum_cons, List.sum_nil, hkCat_0, hkCat_1, hkCat_2, Nat.reduceAdd, Nat.reduceLeDiff, hkPush_s, hkPush_n, true_and, and_true, implies_true, true_implies, not_true_eq_false, not_false_eq_true, false_implies, hkTf_0, hkTf_n1, hkOr01, hkOr11, Int.reduceEq, Int.reduceLT, Int.reduceLE, hk102a, hk102b, hk102c, Nat.reduceEqDiff, or_true, true_or, or_false, false_or, and_false, false_and, Classical.not_not, true_implies, List.set_cons_zero, List.set_cons_succ, ne_eq, x_84_51, x_84_52, hkJK_24, hkJK_27, jA_24_6, jL_27, jR_24_6, hkP1_0, hkP1_2, hkP1_u, hkC8, List.map_cons, List.map_nil, List.sum_cons, List.sum_nil, hkCat_0, hkCat_1, hkCat_2, Nat.reduceAdd, Nat.reduceLeDiff, hkPush_s, hkPush_n, true_and, and_true, implies_true, true_implies, not_true_eq_false, not_false_eq_true, false_implies, hkTf_0, hkTf_n1, hkOr01, hkOr11, Int.reduceEq, Int.reduceLT, Int.reduceLE, hk102a, hk102b, hk102c, Nat.reduceEqDiff, or_true, true_or, or_false, false_or, and_false, false_and, Classical.not_not, true_implies, List.set_cons_zero, List.set_cons_succ, ne_eq]
  repeat' (first | rfl | refine And.intro ?_ ?_ | intro _ | trivial | contradiction)
theorem sx_goesOn : Xp 86 d 0 [(2, 24)] [] t g Q = Q (some (0, hkTf (g 24 2 = -1 ∧ g 24 3 = 0))) t g := by
  refine Xp_ev (d := 0) (Ev_of ?_) (Nat.zero_le _)
  simp only [x_86_0, x_86_1, x_86_4, x_86_5, x_86_8, x_86_9, x_86_12, x_86_15, x_86_16, x_86_19, x_86_20, hkJK_24, hkP1_0, hkP1_2, hkP1_u, hkC8, List.map_cons, List.map_nil, List.sum_cons, List.sum_nil, hkCat_0, hkCat_1, hkCat_2, Nat.reduceAdd, Nat.reduceLeDiff, hkPush_s, hkPush_n, true_and, and_true, implies_true, true_implies, not_true_eq_false, not_false_eq_true, false_implies, hkTf_0, hkTf_n1, hkOr01, hkOr11, Int.reduceEq, Int.reduceLT, Int.reduceLE, hk102a, hk102b, hk102c, Nat.reduceEqDiff, or_true, true_or, or_false, false_or, and_false, false_and, Classical.not_not, true_implies, List.set_cons_zero, List.set_cons_succ, ne_eq]
  by_cases h : g 24 2 = -1 ∧ g 24 3 = 0
  · rw [hkTf_t h]
    repeat' (first | rfl | refine And.intro ?_ ?_ | intro _ | trivial | omega | (exfalso; omega))
  · rw [hkTf_f h]
    repeat' (first | rfl | refine And.intro ?_ ?_ | intro _ | trivial | omega | (exfalso; omega))
theorem sx_fail0 {v : Int} (h : g 24 2 = -1) : Xp 82 d 0 [(2, 24), (0, v)] [] t g Q = Q none t (hkSet g 24 2 v) := by
  refine Xp_ev (d := 0) (Ev_of ?_) (Nat.zero_le _)
  simp only [x_82_0, x_82_1, x_82_4, x_82_5, x_82_8, x_82_9, x_82_10, x_82_13, hkJK_24, hkP1_0, hkP1_2, hkP1_u, hkC8, List.map_cons, List.map_nil, List.sum_cons, List.sum_nil, hkCat_0, hkCat_1, hkCat_2, Nat.reduceAdd, Nat.reduceLeDiff, hkPush_s, hkPush_n, true_and, and_true, implies_true, true_implies, not_true_eq_false, not_false_eq_true, false_implies, hkTf_0, hkTf_n1, hkOr01, hkOr11, Int.reduceEq, Int.reduceLT, Int.reduceLE, hk102a, hk102b, hk102c, Nat.reduceEqDiff, or_true, true_or, or_false, false_or, and_false, false_and, Classical.not_not, true_implies, List.set_cons_zero, List.set_cons_succ, ne_eq, h]
  repeat' (first | rfl | refine And.intro ?_ ?_ | intro _ | trivial | contradiction)
theorem sx_fail1 {v : Int} (h : g 24 2 ≠ -1) : Xp 82 d 0 [(2, 24), (0, v)] [] t g Q = Q none t g := by
  refine Xp_ev (d := 0) (Ev_of ?_) (Nat.zero_le _)
  simp only [x_82_0, x_82_1, x_82_4, x_82_5, x_82_8, x_82_9, x_82_10, x_82_13, hkJK_24, hkP1_0, hkP1_2, hkP1_u, hkC8, List.map_cons, List.map_nil, List.sum_cons, List.sum_nil, hkCat_0, hkCat_1, hkCat_2, Nat.reduceAdd, Nat.reduceLeDiff, hkPush_s, hkPush_n, true_and, and_true, implies_true, true_implies, not_true_eq_false, not_false_eq_true, false_implies, hkTf_0, hkTf_n1, hkOr01, hkOr11, Int.reduceEq, Int.reduceLT, Int.reduceLE, hk102a, hk102b, hk102c, Nat.reduceEqDiff, or_true, true_or, or_false, false_or, and_false, false_and, Classical.not_not, true_implies, List.set_cons_zero, List.set_cons_succ, ne_eq]
  repeat' (first | rfl | refine And.intro ?_ ?_ | intro _ | trivial | contradiction)
theorem cSt_at {pl' : Int} (hS : cSt R N F T pl sp g) : cSt R N F T pl' sp (hkSet g 24 7 pl') := by
  obtain ⟨hb, h0, hT, h2, h7, h3⟩ := hS
  refine ⟨RB_c hb (fun q hq => hkSet_row (by omega)), ?_, fun k k0 k1 => ?_, ?_, ?_, ?_⟩
  · rw [hkSet_rd, if_neg (by decide)]; exact h0
  · rw [hkSet_row (by decide)]; exact hT k k0 k1
  · rw [hkSet_rd, if_neg (by decide)]; exact h2
  · rw [hkSet_rd, if_pos ⟨rfl, rfl⟩]
  · rw [hkSet_rd, if_neg (by decide)]; exact h3
theorem pw4 : ∀ c : Nat, c < 5 → (10 : Int) ^ c ≤ 10000 := by decide
theorem l_rdn (ht : 190 ≤ t) (F60 : F ≤ 60) {p1 : Int} : ∀ (m c : Nat) (v pl : Int) (g : hkG), c + m = 4 → cSt R N F T pl sp g → 0 ≤ pl → 0 ≤ v → v < 10 ^ c → (∀ (c' : Int) (g' : hkG), (∀ q : Int, q ≠ 24 → g' q = g q) → (∀ k : Int, k ≠ 7 → g' 24 k = g 24 k) → g' 24 7 = pl + dgN T F m pl → Xp 85 (d + 1) 65 [(2, 24), (2, p1), (0, dgVl T (dgN T F m pl) pl v), (0, c')] [] t g' Q) →
    Xp 85 (d + 1) 19 [(2, 24), (2, p1), (0, v), (0, (c : Int))] [] t g Q := by
  intro m
  induction m with
  | zero =>
    intro c v pl g hc hS p0 v0 v1 hQ
    have e : c = 4 := by omega
    subst e
    have hq := hQ 4 g (fun _ _ => rfl) (fun _ _ => rfl) (by rw [hS.2.2.2.2.1]; unfold dgN; omega)
    rw [show ((4 : Nat) : Int) = 4 from rfl]
    rw [x_85_19]
    simp only [x_85_20, x_85_21, hkJK_24, hkJK_27, jA_24_6, jL_27, jR_24_6, hkP1_0, hkP1_2, hkP1_u, hkC8, List.map_cons, List.map_nil, List.sum_cons, List.sum_nil, hkCat_0, hkCat_1, hkCat_2, Nat.reduceAdd, Nat.reduceLeDiff, hkPush_s, hkPush_n, true_and, and_true, implies_true, true_implies, not_true_eq_false, not_false_eq_true, false_implies, hkTf_0, hkTf_n1, hkOr01, hkOr11, Int.reduceEq, Int.reduceLT, Int.reduceLE, hk102a, hk102b, hk102c, Nat.reduceEqDiff, or_true, true_or, or_false, false_or, and_false, false_and, Classical.not_not, true_implies, List.set_cons_zero, List.set_cons_succ, ne_eq]
    repeat' (first | exact hq | refine And.intro ?_ ?_ | intro _ | trivial | omega | (exfalso; omega))
  | succ m ih =>
    intro c v pl g hc hS p0 v0 v1 hQ
    have hs := sx_seesD (d := d) (Q := fun r t g => Xp 85 (d + 1) 28 [(2, 24), (2, p1), (0, v), (0, (c : Int))] (hkPush r []) t g Q) ht hS F60 p0
    have hu : dgN T F (m + 1) pl = if 48 ≤ hrC T F pl ∧ hrC T F pl ≤ 57 then dgN T F m (pl + 1) + 1 else 0 := rfl
    by_cases h : 48 ≤ hrC T F pl ∧ hrC T F pl ≤ 57
    · rw [if_pos h] at hu
      have hF := hrC_lt (T := T) (F := F) (p := pl) (by omega)
      have hTp : hrC T F pl = T pl := by unfold hrC; rw [if_pos hF]
      rw [hTp] at h
      have h24 := hS.2.2.2.2.1
      have h27 := hS.2.2.1 pl p0 hF
      have hp4 := pw4 c (by omega)
      have hp5 := pw4 (c + 1) (by omega)
      rw [Int.pow_succ] at hp5
      have IH := ih (c + 1) (v * 10 + T pl - 48) (pl + 1) (hkSet g 24 7 (pl + 1)) (by omega) (cSt_at hS) (by omega) (by omega) (by rw [Int.pow_succ]; omega) (fun c' g' k1 k2 k3 => by
        have hq := hQ c' g' (fun q hq => by rw [k1 q hq, hkSet_row hq]) (fun k hk => by rw [k2 k hk, hkSet_rd, if_neg (fun h => hk h.2)]) (by rw [k3, hu]; omega)
        rw [hu] at hq
        exact hq)
      obtain ⟨hw, e1, e2, e3, e4⟩ : hkW ((c : Int) + 1) = ((c + 1 : Nat) : Int) ∧ hkW (v * 10) = v * 10 ∧ hkW (v * 10 + T pl) = v * 10 + T pl ∧ hkW (v * 10 + T pl - 48) = v * 10 + T pl - 48 ∧ hkW (pl + 1) = pl + 1 := ⟨by rw [hkW_in (by omega) (by omega)]; omega, hkW_in (by omega) (by omega), hkW_in (by omega) (by omega), hkW_in (by omega) (by omega), hkW_in (by omega) (by omega)⟩
      rw [x_85_19]
      simp only [x_85_20, x_85_21, x_85_24, x_85_25, hkJK_24, hkJK_27, jA_24_6, jL_27, jR_24_6, hkP1_0, hkP1_2, hkP1_u, hkC8, List.map_cons, List.map_nil, List.sum_cons, List.sum_nil, hkCat_0, hkCat_1, hkCat_2, Nat.reduceAdd, Nat.reduceLeDiff, hkPush_s, hkPush_n, true_and, and_true, implies_true, true_implies, not_true_eq_false, not_false_eq_true, false_implies, hkTf_0, hkTf_n1, hkOr01, hkOr11, Int.reduceEq, Int.reduceLT, Int.reduceLE, hk102a, hk102b, hk102c, Nat.reduceEqDiff, or_true, true_or, or_false, false_or, and_false, false_and, Classical.not_not, true_implies, List.set_cons_zero, List.set_cons_succ, ne_eq, hs]
      rw [hkTf_t (show 48 ≤ hrC T F pl ∧ hrC T F pl ≤ 57 by rw [hTp]; exact h)]
      simp only [x_85_28, x_85_31, x_85_32, x_85_34, x_85_35, x_85_36, x_85_39, x_85_40, x_85_43, x_85_44, x_85_45, x_85_47, x_85_48, x_85_49, x_85_50, x_85_51, x_85_54, x_85_55, x_85_56, x_85_59, x_85_62, hkJK_24, hkJK_27, jA_24_6, jL_27, jR_24_6, hkP1_0, hkP1_2, hkP1_u, hkC8, List.map_cons, List.map_nil, List.sum_cons, List.sum_nil, hkCat_0, hkCat_1, hkCat_2, Nat.reduceAdd, Nat.reduceLeDiff, hkPush_s, hkPush_n, true_and, and_true, implies_true, true_implies, not_true_eq_false, not_false_eq_true, false_implies, hkTf_0, hkTf_n1, hkOr01, hkOr11, Int.reduceEq, Int.reduceLT, Int.reduceLE, hk102a, hk102b, hk102c, Nat.reduceEqDiff, or_true, true_or, or_false, false_or, and_false, false_and, Classical.not_not, true_implies, List.set_cons_zero, List.set_cons_succ, ne_eq, hkLe_t ht, h24, h27, e1, e2, e3, e4, hw]
      clear hw e1 e2 e3 e4
      repeat' (first | exact IH | refine And.intro ?_ ?_ | intro _ | trivial | omega | (exfalso; omega))
    · rw [if_neg h] at hu
      have hq := hQ c g (fun _ _ => rfl) (fun _ _ => rfl) (by rw [hS.2.2.2.2.1, hu]; omega)
      rw [hu] at hq
      rw [x_85_19]
      simp only [x_85_20, x_85_21, x_85_24, x_85_25, hkJK_24, hkJK_27, jA_24_6, jL_27, jR_24_6, hkP1_0, hkP1_2, hkP1_u, hkC8, List.map_cons, List.map_nil, List.sum_cons, List.sum_nil, hkCat_0, hkCat_1, hkCat_2, Nat.reduceAdd, Nat.reduceLeDiff, hkPush_s, hkPush_n, true_and, and_true, implies_true, true_implies, not_true_eq_false, not_false_eq_true, false_implies, hkTf_0, hkTf_n1, hkOr01, hkOr11, Int.reduceEq, Int.reduceLT, Int.reduceLE, hk102a, hk102b, hk102c, Nat.reduceEqDiff, or_true, true_or, or_false, false_or, and_false, false_and, Classical.not_not, true_implies, List.set_cons_zero, List.set_cons_succ, ne_eq, hs]
      rw [hkTf_f h]
      simp only [x_85_28, hkJK_24, hkJK_27, jA_24_6, jL_27, jR_24_6, hkP1_0, hkP1_2, hkP1_u, hkC8, List.map_cons, List.map_nil, List.sum_cons, List.sum_nil, hkCat_0, hkCat_1, hkCat_2, Nat.reduceAdd, Nat.reduceLeDiff, hkPush_s, hkPush_n, true_and, and_true, implies_true, true_implies, not_true_eq_false, not_false_eq_true, false_implies, hkTf_0, hkTf_n1, hkOr01, hkOr11, Int.reduceEq, Int.reduceLT, Int.reduceLE, hk102a, hk102b, hk102c, Nat.reduceEqDiff, or_true, true_or, or_false, false_or, and_false, false_and, Classical.not_not, true_implies, List.set_cons_zero, List.set_cons_succ, ne_eq]
      repeat' (first | exact hq | refine And.intro ?_ ?_ | intro _ | trivial | omega | (exfalso; omega))
theorem sx_readNumber (ht : 190 ≤ t) (F60 : F ≤ 60) {p1 q1 : Int} (hm : smOk p1 q1) (hS : cSt R N F T pl sp g) (p0 : 0 ≤ pl) (hq24 : q1 ≠ 24)
    (hY : (48 ≤ hrC T F pl ∧ hrC T F pl ≤ 57) → ∀ g' : hkG, (∀ q : Int, q ≠ 24 → q ≠ q1 → g' q = g q) → (∀ k : Int, k ≠ 7 → g' 24 k = g 24 k) → g' 24 7 = pl + dgN T F 4 pl → (∀ p : Int, g' q1 p = if p = 0 then dgVl T (dgN T F 4 pl) pl 0 else g q1 p) → Q none t g')
    (hN : ¬ (48 ≤ hrC T F pl ∧ hrC T F pl ≤ 57) → ∀ g' : hkG, (∀ q : Int, q ≠ 24 → q ≠ q1 → g' q = g q) → (∀ k : Int, k ≠ 2 → g' 24 k = g 24 k) → g' 24 2 = pl → Q none t g') : Xp 85 (d + 1) 0 [(2, 24), (2, p1), hkU, hkU] [] t g Q := by
  obtain ⟨m1, m2, m3, m4, m5⟩ := hm
  have mt : jA p1 0 ≤ t := Nat.le_trans m1 ht
  have hs := sx_seesD (d := d) (Q := fun r t g => Xp 85 (d + 1) 4 [(2, 24), (2, p1), hkU, hkU] (hkPush r []) t g Q) ht hS F60 p0
  by_cases h : 48 ≤ hrC T F pl ∧ hrC T F pl ≤ 57
  · have K := l_rdn (d := d) (Q := Q) (p1 := p1) ht F60 4 0 0 pl g (by decide) hS p0 (by decide) (by decide) (fun c' g1 k1 k2 k3 => by
      have hq := hY h (hkSet g1 q1 0 (dgVl T (dgN T F 4 pl) pl 0)) (fun q h1 h2 => by rw [hkSet_row h2, k1 q h1]) (fun k hk => by rw [hkSet_row (Ne.symm hq24), k2 k hk]) (by rw [hkSet_row (Ne.symm hq24)]; exact k3) (fun p => by
        rw [hkSet_rd, k1 q1 hq24]
        by_cases e : p = 0
        · rw [if_pos ⟨rfl, e⟩, if_pos e]
        · rw [if_neg (fun h => e h.2), if_neg e])
      simp only [x_85_65, x_85_66, x_85_69, x_85_70, x_85_71, x_85_72, hkJK_24, hkJK_27, jA_24_6, jL_27, jR_24_6, hkP1_0, hkP1_2, hkP1_u, hkC8, List.map_cons, List.map_nil, List.sum_cons, List.sum_nil, hkCat_0, hkCat_1, hkCat_2, Nat.reduceAdd, Nat.reduceLeDiff, hkPush_s, hkPush_n, true_and, and_true, implies_true, true_implies, not_true_eq_false, not_false_eq_true, false_implies, hkTf_0, hkTf_n1, hkOr01, hkOr11, Int.reduceEq, Int.reduceLT, Int.reduceLE, hk102a, hk102b, hk102c, Nat.reduceEqDiff, or_true, true_or, or_false, false_or, and_false, false_and, Classical.not_not, true_implies, List.set_cons_zero, List.set_cons_succ, ne_eq, m2, mt, m3, m4, m5]
      repeat' (first | exact hq | refine And.intro ?_ ?_ | intro _ | trivial | omega | (exfalso; omega)))
    simp only [x_85_0, x_85_1, hkJK_24, hkJK_27, jA_24_6, jL_27, jR_24_6, hkP1_0, hkP1_2, hkP1_u, hkC8, List.map_cons, List.map_nil, List.sum_cons, List.sum_nil, hkCat_0, hkCat_1, hkCat_2, Nat.reduceAdd, Nat.reduceLeDiff, hkPush_s, hkPush_n, true_and, and_true, implies_true, true_implies, not_true_eq_false, not_false_eq_true, false_implies, hkTf_0, hkTf_n1, hkOr01, hkOr11, Int.reduceEq, Int.reduceLT, Int.reduceLE, hk102a, hk102b, hk102c, Nat.reduceEqDiff, or_true, true_or, or_false, false_or, and_false, false_and, Classical.not_not, true_implies, List.set_cons_zero, List.set_cons_succ, ne_eq, hs]
    rw [hkTf_t h]
    simp only [x_85_4, x_85_7, x_85_8, x_85_9, x_85_12, x_85_15, x_85_16, x_85_17, x_85_18, hkJK_24, hkJK_27, jA_24_6, jL_27, jR_24_6, hkP1_0, hkP1_2, hkP1_u, hkC8, List.map_cons, List.map_nil, List.sum_cons, List.sum_nil, hkCat_0, hkCat_1, hkCat_2, Nat.reduceAdd, Nat.reduceLeDiff, hkPush_s, hkPush_n, true_and, and_true, implies_true, true_implies, not_true_eq_false, not_false_eq_true, false_implies, hkTf_0, hkTf_n1, hkOr01, hkOr11, Int.reduceEq, Int.reduceLT, Int.reduceLE, hk102a, hk102b, hk102c, Nat.reduceEqDiff, or_true, true_or, or_false, false_or, and_false, false_and, Classical.not_not, true_implies, List.set_cons_zero, List.set_cons_succ, ne_eq]
    repeat' (first | exact K | refine And.intro ?_ ?_ | intro _ | trivial | omega | (exfalso; omega))
  · have h2 := hS.2.2.2.1
    have h7 := hS.2.2.2.2.1
    have hne : hkSet g 24 2 pl 24 2 ≠ -1 := by rw [hkSet_rd, if_pos ⟨rfl, rfl⟩]; omega
    have hq := hN h (hkSet (hkSet g 24 2 pl) q1 0 0) (fun q h1 h2 => by rw [hkSet_row h2, hkSet_row h1]) (fun k hk => by rw [hkSet_row (Ne.symm hq24), hkSet_rd, if_neg (fun h => hk h.2)]) (by rw [hkSet_row (Ne.symm hq24), hkSet_rd, if_pos ⟨rfl, rfl⟩])
    simp only [x_85_0, x_85_1, hkJK_24, hkJK_27, jA_24_6, jL_27, jR_24_6, hkP1_0, hkP1_2, hkP1_u, hkC8, List.map_cons, List.map_nil, List.sum_cons, List.sum_nil, hkCat_0, hkCat_1, hkCat_2, Nat.reduceAdd, Nat.reduceLeDiff, hkPush_s, hkPush_n, true_and, and_true, implies_true, true_implies, not_true_eq_false, not_false_eq_true, false_implies, hkTf_0, hkTf_n1, hkOr01, hkOr11, Int.reduceEq, Int.reduceLT, Int.reduceLE, hk102a, hk102b, hk102c, Nat.reduceEqDiff, or_true, true_or, or_false, false_or, and_false, false_and, Classical.not_not, true_implies, List.set_cons_zero, List.set_cons_succ, ne_eq, hs]
    rw [hkTf_f h]
    simp only [x_85_4, x_85_7, x_85_8, x_85_9, x_85_12, x_85_15, x_85_16, x_85_17, x_85_18, hkJK_24, hkJK_27, jA_24_6, jL_27, jR_24_6, hkP1_0, hkP1_2, hkP1_u, hkC8, List.map_cons, List.map_nil, List.sum_cons, List.sum_nil, hkCat_0, hkCat_1, hkCat_2, Nat.reduceAdd, Nat.reduceLeDiff, hkPush_s, hkPush_n, true_and, and_true, implies_true, true_implies, not_true_eq_false, not_false_eq_true, false_implies, hkTf_0, hkTf_n1, hkOr01, hkOr11, Int.reduceEq, Int.reduceLT, Int.reduceLE, hk102a, hk102b, hk102c, Nat.reduceEqDiff, or_true, true_or, or_false, false_or, and_false, false_and, Classical.not_not, true_implies, List.set_cons_zero, List.set_cons_succ, ne_eq, h7, sx_fail0 h2]
    rw [x_85_19]
    simp only [x_85_20, x_85_21, x_85_24, x_85_25, x_85_28, hkJK_24, hkJK_27, jA_24_6, jL_27, jR_24_6, hkP1_0, hkP1_2, hkP1_u, hkC8, List.map_cons, List.map_nil, List.sum_cons, List.sum_nil, hkCat_0, hkCat_1, hkCat_2, Nat.reduceAdd, Nat.reduceLeDiff, hkPush_s, hkPush_n, true_and, and_true, implies_true, true_implies, not_true_eq_false, not_false_eq_true, false_implies, hkTf_0, hkTf_n1, hkOr01, hkOr11, Int.reduceEq, Int.reduceLT, Int.reduceLE, hk102a, hk102b, hk102c, Nat.reduceEqDiff, or_true, true_or, or_false, false_or, and_false, false_and, Classical.not_not, true_implies, List.set_cons_zero, List.set_cons_succ, ne_eq, x_85_65, x_85_66, x_85_69, x_85_70, x_85_71, x_85_72, hkJK_24, hkJK_27, jA_24_6, jL_27, jR_24_6, hkP1_0, hkP1_2, hkP1_u, hkC8, List.map_cons, List.map_nil, List.sum_cons, List.sum_nil, hkCat_0, hkCat_1, hkCat_2, Nat.reduceAdd, Nat.reduceLeDiff, hkPush_s, hkPush_n, true_and, and_true, implies_true, true_implies, not_true_eq_false, not_false_eq_true, false_implies, hkTf_0, hkTf_n1, hkOr01, hkOr11, Int.reduceEq, Int.reduceLT, Int.reduceLE, hk102a, hk102b, hk102c, Nat.reduceEqDiff, or_true, true_or, or_false, false_or, and_false, false_and, Classical.not_not, true_implies, List.set_cons_zero, List.set_cons_succ, ne_eq, sx_seesDF hne, m2, mt, m3, m4, m5]
    repeat' (first | exact hq | refine And.intro ?_ ?_ | intro _ | trivial | omega | (exfalso; omega))
theorem l_rds (ht : 190 ≤ t) (F60 : F ≤ 60) {p1 st : Int} : ∀ (m c : Nat) (v z pl : Int) (g : hkG), c + m = 4 → cSt R N F T pl sp g → 0 ≤ pl → 0 ≤ v → v < 10 ^ c → (z = 0 ∨ z = 1) → (∀ (c' : Int) (g' : hkG), (∀ q : Int, q ≠ 24 → g' q = g q) → (∀ k : Int, k ≠ 7 → g' 24 k = g 24 k) → g' 24 7 = pl + dgN T F m pl → 0 ≤ dgVl T (dgN T F m pl) pl v → dgVl T (dgN T F m pl) pl v ≤ 9999 → Xp 83 (d + 2) 94 [(2, 24), (2, p1), (0, st), (0, dgVl T (dgN T F m pl) pl v), (0, dgZ T (dgN T F m pl) pl z), (0, c')] [] t g' Q) →
    Xp 83 (d + 2) 23 [(2, 24), (2, p1), (0, st), (0, v), (0, z), (0, (c : Int))] [] t g Q := by
  intro m
  induction m with
  | zero =>
    intro c v z pl g hc hS p0 v0 v1 hz hQ
    have e : c = 4 := by omega
    subst e
    have hq := hQ 4 g (fun _ _ => rfl) (fun _ _ => rfl) (by rw [hS.2.2.2.2.1]; unfold dgN; omega) v0 (by show v ≤ 9999; omega)
    rw [show ((4 : Nat) : Int) = 4 from rfl]
    rw [x_83_23]
    simp only [x_83_25, x_83_26, hkJK_1, hkJK_24, hkJK_27, jA_24_6, jA_24_8, jL_27, jR_24_6, jR_24_8, hkP1_0, hkP1_2, hkP1_u, hkC8, List.map_cons, List.map_nil, List.sum_cons, List.sum_nil, hkCat_0, hkCat_1, hkCat_2, Nat.reduceAdd, Nat.reduceLeDiff, hkPush_s, hkPush_n, true_and, and_true, implies_true, true_implies, not_true_eq_false, not_false_eq_true, false_implies, hkTf_0, hkTf_n1, hkOr01, hkOr11, Int.reduceEq, Int.reduceLT, Int.reduceLE, hk102a, hk102b, hk102c, Nat.reduceEqDiff, or_true, true_or, or_false, false_or, and_false, false_and, Classical.not_not, true_implies, List.set_cons_zero, List.set_cons_succ, ne_eq]
    repeat' (first | exact hq | refine And.intro ?_ ?_ | intro _ | trivial | omega | (exfalso; omega))
  | succ m ih =>
    intro c v z pl g hc hS p0 v0 v1 hz hQ
    have hs := sx_seesD (d := d + 1) (Q := fun r t g => Xp 83 (d + 2) 33 [(2, 24), (2, p1), (0, st), (0, v), (0, z), (0, (c : Int))] (hkPush r []) t g Q) ht hS F60 p0
    have hu : dgN T F (m + 1) pl = if 48 ≤ hrC T F pl ∧ hrC T F pl ≤ 57 then dgN T F m (pl + 1) + 1 else 0 := rfl
    have hp4 := pw4 c (by omega)
    by_cases h : 48 ≤ hrC T F pl ∧ hrC T F pl ≤ 57
    · rw [if_pos h] at hu
      have hF := hrC_lt (T := T) (F := F) (p := pl) (by omega)
      have hTp : hrC T F pl = T pl := by unfold hrC; rw [if_pos hF]
      rw [hTp] at h
      have h24 := hS.2.2.2.2.1
      have h27 := hS.2.2.1 pl p0 hF
      have hp5 := pw4 (c + 1) (by omega)
      rw [Int.pow_succ] at hp5
      have IH := ih (c + 1) (v * 10 + T pl - 48) (if T pl = 48 then 1 else z) (pl + 1) (hkSet g 24 7 (pl + 1)) (by omega) (cSt_at hS) (by omega) (by omega) (by rw [Int.pow_succ]; omega) (by split; exact Or.inr rfl; exact hz) (fun c' g' k1 k2 k3 k4 k5 => by
        have hq := hQ c' g' (fun q hq => by rw [k1 q hq, hkSet_row hq]) (fun k hk => by rw [k2 k hk, hkSet_rd, if_neg (fun h => hk h.2)]) (by rw [k3, hu]; omega) (by rw [hu]; exact k4) (by rw [hu]; exact k5)
        rw [hu] at hq
        exact hq)
      have hor : hkOr z 1 = 1 ∧ hkOr z 0 = z := by rcases hz with e | e <;> subst e <;> decide
      obtain ⟨hor1, hor2⟩ := hor
      obtain ⟨hw, e1, e2, e3, e4⟩ : hkW ((c : Int) + 1) = ((c + 1 : Nat) : Int) ∧ hkW (v * 10) = v * 10 ∧ hkW (v * 10 + T pl) = v * 10 + T pl ∧ hkW (v * 10 + T pl - 48) = v * 10 + T pl - 48 ∧ hkW (pl + 1) = pl + 1 := ⟨by rw [hkW_in (by omega) (by omega)]; omega, hkW_in (by omega) (by omega), hkW_in (by omega) (by omega), hkW_in (by omega) (by omega), hkW_in (by omega) (by omega)⟩
      rw [x_83_23]
      simp only [x_83_25, x_83_26, x_83_29, x_83_30, hkJK_1, hkJK_24, hkJK_27, jA_24_6, jA_24_8, jL_27, jR_24_6, jR_24_8, hkP1_0, hkP1_2, hkP1_u, hkC8, List.map_cons, List.map_nil, List.sum_cons, List.sum_nil, hkCat_0, hkCat_1, hkCat_2, Nat.reduceAdd, Nat.reduceLeDiff, hkPush_s, hkPush_n, true_and, and_true, implies_true, true_implies, not_true_eq_false, not_false_eq_true, false_implies, hkTf_0, hkTf_n1, hkOr01, hkOr11, Int.reduceEq, Int.reduceLT, Int.reduceLE, hk102a, hk102b, hk102c, Nat.reduceEqDiff, or_true, true_or, or_false, false_or, and_false, false_and, Classical.not_not, true_implies, List.set_cons_zero, List.set_cons_succ, ne_eq, hs]
      rw [hkTf_t (show 48 ≤ hrC T F pl ∧ hrC T F pl ≤ 57 by rw [hTp]; exact h)]
      by_cases h48 : T pl = 48
      · rw [if_pos h48] at IH
        simp only [x_83_33, x_83_36, x_83_38, x_83_39, x_83_42, x_83_43, x_83_46, x_83_47, x_83_49, x_83_52, x_83_53, x_83_56, x_83_57, x_83_58, x_83_60, x_83_61, x_83_63, x_83_64, x_83_65, x_83_68, x_83_69, x_83_72, x_83_73, x_83_74, x_83_76, x_83_77, x_83_78, x_83_79, x_83_80, x_83_83, x_83_84, x_83_85, x_83_88, x_83_91, hkJK_1, hkJK_24, hkJK_27, jA_24_6, jA_24_8, jL_27, jR_24_6, jR_24_8, hkP1_0, hkP1_2, hkP1_u, hkC8, List.map_cons, List.map_nil, List.sum_cons, List.sum_nil, hkCat_0, hkCat_1, hkCat_2, Nat.reduceAdd, Nat.reduceLeDiff, hkPush_s, hkPush_n, true_and, and_true, implies_true, true_implies, not_true_eq_false, not_false_eq_true, false_implies, hkTf_0, hkTf_n1, hkOr01, hkOr11, Int.reduceEq, Int.reduceLT, Int.reduceLE, hk102a, hk102b, hk102c, Nat.reduceEqDiff, or_true, true_or, or_false, false_or, and_false, false_and, Classical.not_not, true_implies, List.set_cons_zero, List.set_cons_succ, ne_eq, hkLe_t ht, h24, h27, e1, e2, e3, e4, hor1, hor2, hw]
        clear hw e1 e2 e3 e4
        repeat' (first | exact IH | refine And.intro ?_ ?_ | intro _ | trivial | omega | (exfalso; omega))
      · rw [if_neg h48] at IH
        simp only [x_83_33, x_83_36, x_83_38, x_83_39, x_83_42, x_83_43, x_83_46, x_83_47, x_83_49, x_83_52, x_83_53, x_83_56, x_83_57, x_83_58, x_83_60, x_83_61, x_83_63, x_83_64, x_83_65, x_83_68, x_83_69, x_83_72, x_83_73, x_83_74, x_83_76, x_83_77, x_83_78, x_83_79, x_83_80, x_83_83, x_83_84, x_83_85, x_83_88, x_83_91, hkJK_1, hkJK_24, hkJK_27, jA_24_6, jA_24_8, jL_27, jR_24_6, jR_24_8, hkP1_0, hkP1_2, hkP1_u, hkC8, List.map_cons, List.map_nil, List.sum_cons, List.sum_nil, hkCat_0, hkCat_1, hkCat_2, Nat.reduceAdd, Nat.reduceLeDiff, hkPush_s, hkPush_n, true_and, and_true, implies_true, true_implies, not_true_eq_false, not_false_eq_true, false_implies, hkTf_0, hkTf_n1, hkOr01, hkOr11, Int.reduceEq, Int.reduceLT, Int.reduceLE, hk102a, hk102b, hk102c, Nat.reduceEqDiff, or_true, true_or, or_false, false_or, and_false, false_and, Classical.not_not, true_implies, List.set_cons_zero, List.set_cons_succ, ne_eq, hkLe_t ht, h24, h27, e1, e2, e3, e4, hor1, hor2, hw]
        clear hw e1 e2 e3 e4
        repeat' (first | exact IH | refine And.intro ?_ ?_ | intro _ | trivial | omega | (exfalso; omega))
    · rw [if_neg h] at hu
      have hq := hQ c g (fun _ _ => rfl) (fun _ _ => rfl) (by rw [hS.2.2.2.2.1, hu]; omega) (by rw [hu]; exact v0) (by rw [hu]; show v ≤ 9999; omega)
      rw [hu] at hq
      rw [x_83_23]
      simp only [x_83_25, x_83_26, x_83_29, x_83_30, hkJK_1, hkJK_24, hkJK_27, jA_24_6, jA_24_8, jL_27, jR_24_6, jR_24_8, hkP1_0, hkP1_2, hkP1_u, hkC8, List.map_cons, List.map_nil, List.sum_cons, List.sum_nil, hkCat_0, hkCat_1, hkCat_2, Nat.reduceAdd, Nat.reduceLeDiff, hkPush_s, hkPush_n, true_and, and_true, implies_true, true_implies, not_true_eq_false, not_false_eq_true, false_implies, hkTf_0, hkTf_n1, hkOr01, hkOr11, Int.reduceEq, Int.reduceLT, Int.reduceLE, hk102a, hk102b, hk102c, Nat.reduceEqDiff, or_true, true_or, or_false, false_or, and_false, false_and, Classical.not_not, true_implies, List.set_cons_zero, List.set_cons_succ, ne_eq, hs]
      rw [hkTf_f h]
      simp only [x_83_33, hkJK_1, hkJK_24, hkJK_27, jA_24_6, jA_24_8, jL_27, jR_24_6, jR_24_8, hkP1_0, hkP1_2, hkP1_u, hkC8, List.map_cons, List.map_nil, List.sum_cons, List.sum_nil, hkCat_0, hkCat_1, hkCat_2, Nat.reduceAdd, Nat.reduceLeDiff, hkPush_s, hkPush_n, true_and, and_true, implies_true, true_implies, not_true_eq_false, not_false_eq_true, false_implies, hkTf_0, hkTf_n1, hkOr01, hkOr11, Int.reduceEq, Int.reduceLT, Int.reduceLE, hk102a, hk102b, hk102c, Nat.reduceEqDiff, or_true, true_or, or_false, false_or, and_false, false_and, Classical.not_not, true_implies, List.set_cons_zero, List.set_cons_succ, ne_eq]
      repeat' (first | exact hq | refine And.intro ?_ ?_ | intro _ | trivial | omega | (exfalso; omega))
theorem sx_readShape (ht : 190 ≤ t) (F60 : F ≤ 60) {p1 q1 : Int} (hm : smOk p1 q1) (hS : cSt R N F T pl sp g) (p0 : 0 ≤ pl) (hp : hrC T F pl = 91) (hq24 : q1 ≠ 24) (hq28 : 28 ≤ q1 ∧ q1 ≤ 56)
    (h1 : rdS R N T (pl + 1) (dgN T F 4 (pl + 1)) = -1 → ∀ g' : hkG, (∀ q : Int, q ≠ 24 → q ≠ q1 → g' q = g q) → (∀ k : Int, k ≠ 2 → k ≠ 7 → g' 24 k = g 24 k) → g' 24 2 = pl → Q none t g')
    (h2 : rdS R N T (pl + 1) (dgN T F 4 (pl + 1)) ≠ -1 → hrC T F (pl + 1 + dgN T F 4 (pl + 1)) = 93 → ∀ g' : hkG, (∀ q : Int, q ≠ 24 → q ≠ q1 → g' q = g q) → (∀ k : Int, k ≠ 7 → g' 24 k = g 24 k) → g' 24 7 = pl + 1 + dgN T F 4 (pl + 1) + 1 → (∀ p : Int, g' q1 p = if p = rdS R N T (pl + 1) (dgN T F 4 (pl + 1)) then 1 else g q1 p) → Q none t g')
    (h3 : rdS R N T (pl + 1) (dgN T F 4 (pl + 1)) ≠ -1 → hrC T F (pl + 1 + dgN T F 4 (pl + 1)) ≠ 93 → ∀ g' : hkG, (∀ q : Int, q ≠ 24 → q ≠ q1 → g' q = g q) → (∀ k : Int, k ≠ 2 → k ≠ 7 → g' 24 k = g 24 k) → g' 24 2 = pl + 1 + dgN T F 4 (pl + 1) → Q none t g') : Xp 83 (d + 2) 0 [(2, 24), (2, p1), hkU, hkU, hkU, hkU] [] t g Q := by
  obtain ⟨m1, m2, m3, m4, m5⟩ := hm
  have mt : jA p1 0 ≤ t := Nat.le_trans m1 ht
  have ht18 : 18 ≤ t := Nat.le_trans (by decide) ht
  have hF := hrC_lt (T := T) (F := F) (p := pl) (by omega)
  have h24 := hS.2.2.2.2.1
  have hdN := dgN_b (T := T) (F := F) 4 (pl + 1) (by omega)
  have hc := bx_C hS.1.1.1
  have e4 : hkW (pl + 1) = pl + 1 := hkW_in (by omega) (by omega)
  have e5 : hkW (pl + 1 + dgN T F 4 (pl + 1) + 1) = pl + 1 + dgN T F 4 (pl + 1) + 1 := hkW_in (by omega) (by omega)
  have K := l_rds (d := d) (Q := Q) (p1 := p1) (st := pl) ht F60 4 0 0 0 (pl + 1) (hkSet g 24 7 (pl + 1)) (by decide) (cSt_at hS) (by clear e4 e5; omega) (by decide) (by decide) (Or.inl rfl) (fun c' g1 k1 k2 k3 v0 v1 => by
    have k1' : ∀ q : Int, q ≠ 24 → g1 q = g q := fun q hq => by rw [k1 q hq, hkSet_row hq]
    have k2' : ∀ k : Int, k ≠ 7 → g1 24 k = g 24 k := fun k hk => by rw [k2 k hk, hkSet_rd, if_neg (fun h => hk h.2)]
    have hS1 : cSt R N F T (pl + 1 + dgN T F 4 (pl + 1)) sp g1 := ⟨RB_c hS.1 (fun q hq => k1' q (by clear e4 e5; omega)), by rw [k2' 0 (by decide)]; exact hS.2.1, fun k k0 k4 => by rw [k1' 27 (by decide)]; exact hS.2.2.1 k k0 k4, by rw [k2' 2 (by decide)]; exact hS.2.2.2.1, k3, by rw [k2' 3 (by decide)]; exact hS.2.2.2.2.2⟩
    have h12 : g1 24 2 = -1 := hS1.2.2.2.1
    have hr := rdS_r (R := R) (N := N) (T := T) (p := pl + 1) hS.1.1.1 (dgN T F 4 (pl + 1)) hdN.2 (fun r hr => dgN_d 4 (pl + 1) r hr)
    have J : ∀ i : Int, i = rdS R N T (pl + 1) (dgN T F 4 (pl + 1)) → Xp 83 (d + 2) 111 [(2, 24), (2, p1), (0, pl), (0, dgVl T (dgN T F 4 (pl + 1)) (pl + 1) 0), (0, dgZ T (dgN T F 4 (pl + 1)) (pl + 1) 0), (0, c')] [(0, i)] t g1 Q := fun i hi => by
      by_cases hi1 : i = -1
      · have hq := h1 (by rw [← hi]; exact hi1) (hkSet g1 24 2 pl) (fun q q1 q2 => by rw [hkSet_row q1, k1' q q1]) (fun k a b => by rw [hkSet_rd, if_neg (fun h => a h.2), k2' k b]) (by rw [hkSet_rd, if_pos ⟨rfl, rfl⟩])
        clear e4 e5
        simp only [x_83_111, x_83_113, x_83_115, x_83_116, x_83_119, x_83_120, x_83_121, x_83_124, hkJK_1, hkJK_24, hkJK_27, jA_24_6, jA_24_8, jL_27, jR_24_6, jR_24_8, hkP1_0, hkP1_2, hkP1_u, hkC8, List.map_cons, List.map_nil, List.sum_cons, List.sum_nil, hkCat_0, hkCat_1, hkCat_2, Nat.reduceAdd, Nat.reduceLeDiff, hkPush_s, hkPush_n, true_and, and_true, implies_true, true_implies, not_true_eq_false, not_false_eq_true, false_implies, hkTf_0, hkTf_n1, hkOr01, hkOr11, Int.reduceEq, Int.reduceLT, Int.reduceLE, hk102a, hk102b, hk102c, Nat.reduceEqDiff, or_true, true_or, or_false, false_or, and_false, false_and, Classical.not_not, true_implies, List.set_cons_zero, List.set_cons_succ, ne_eq, x_83_165, hkJK_1, hkJK_24, hkJK_27, jA_24_6, jA_24_8, jL_27, jR_24_6, jR_24_8, hkP1_0, hkP1_2, hkP1_u, hkC8, List.map_cons, List.map_nil, List.sum_cons, List.sum_nil, hkCat_0, hkCat_1, hkCat_2, Nat.reduceAdd, Nat.reduceLeDiff, hkPush_s, hkPush_n, true_and, and_true, implies_true, true_implies, not_true_eq_false, not_false_eq_true, false_implies, hkTf_0, hkTf_n1, hkOr01, hkOr11, Int.reduceEq, Int.reduceLT, Int.reduceLE, hk102a, hk102b, hk102c, Nat.reduceEqDiff, or_true, true_or, or_false, false_or, and_false, false_and, Classical.not_not, true_implies, List.set_cons_zero, List.set_cons_succ, ne_eq, hi1, sx_fail0 h12]
        repeat' (first | exact hq | refine And.intro ?_ ?_ | intro _ | trivial | omega | (exfalso; omega))
      · have hi2 : rdS R N T (pl + 1) (dgN T F 4 (pl + 1)) ≠ -1 := by rw [← hi]; exact hi1
        have hir : 0 ≤ i ∧ i < bxC R N := by rcases hr with h | h; (exact absurd h hi2); (rw [hi]; exact h)
        have hs := sx_sees (d := d + 1) (b := 93) (Q := fun r t g => Xp 83 (d + 2) 133 [(2, 24), (2, p1), (0, pl), (0, dgVl T (dgN T F 4 (pl + 1)) (pl + 1) 0), (0, dgZ T (dgN T F 4 (pl + 1)) (pl + 1) 0), (0, i)] (hkPush r []) t g Q) ht hS1 F60 (by clear e4 e5; omega) (by decide)
        have K1 : Xp 83 (d + 2) 127 [(2, 24), (2, p1), (0, pl), (0, dgVl T (dgN T F 4 (pl + 1)) (pl + 1) 0), (0, dgZ T (dgN T F 4 (pl + 1)) (pl + 1) 0), (0, i)] [] t g1 Q := by
          simp only [x_83_127, x_83_128, x_83_130, hkJK_1, hkJK_24, hkJK_27, jA_24_6, jA_24_8, jL_27, jR_24_6, jR_24_8, hkP1_0, hkP1_2, hkP1_u, hkC8, List.map_cons, List.map_nil, List.sum_cons, List.sum_nil, hkCat_0, hkCat_1, hkCat_2, Nat.reduceAdd, Nat.reduceLeDiff, hkPush_s, hkPush_n, true_and, and_true, implies_true, true_implies, not_true_eq_false, not_false_eq_true, false_implies, hkTf_0, hkTf_n1, hkOr01, hkOr11, Int.reduceEq, Int.reduceLT, Int.reduceLE, hk102a, hk102b, hk102c, Nat.reduceEqDiff, or_true, true_or, or_false, false_or, and_false, false_and, Classical.not_not, true_implies, List.set_cons_zero, List.set_cons_succ, ne_eq, hs]
          by_cases h93 : hrC T F (pl + 1 + dgN T F 4 (pl + 1)) = 93
          · have hq := h2 hi2 h93 (hkSet (hkSet g1 24 7 (pl + 1 + dgN T F 4 (pl + 1) + 1)) q1 i 1) (fun q q1 q2 => by rw [hkSet_row q2, hkSet_row q1, k1' q q1]) (fun k hk => by rw [hkSet_row (Ne.symm hq24), hkSet_rd, if_neg (fun h => hk h.2), k2' k hk]) (by rw [hkSet_row (Ne.symm hq24), hkSet_rd, if_pos ⟨rfl, rfl⟩]) (fun p => by
              rw [hkSet_rd, hkSet_row hq24, k1' q1 hq24, ← hi]
              by_cases e : p = i
              · rw [if_pos ⟨rfl, e⟩, if_pos e]
              · rw [if_neg (fun h => e h.2), if_neg e])
            rw [hkTf_t h93]
            simp only [x_83_133, x_83_136, x_83_137, x_83_138, x_83_141, x_83_142, x_83_143, x_83_146, x_83_147, x_83_150, x_83_152, x_83_153, x_83_154, hkJK_1, hkJK_24, hkJK_27, jA_24_6, jA_24_8, jL_27, jR_24_6, jR_24_8, hkP1_0, hkP1_2, hkP1_u, hkC8, List.map_cons, List.map_nil, List.sum_cons, List.sum_nil, hkCat_0, hkCat_1, hkCat_2, Nat.reduceAdd, Nat.reduceLeDiff, hkPush_s, hkPush_n, true_and, and_true, implies_true, true_implies, not_true_eq_false, not_false_eq_true, false_implies, hkTf_0, hkTf_n1, hkOr01, hkOr11, Int.reduceEq, Int.reduceLT, Int.reduceLE, hk102a, hk102b, hk102c, Nat.reduceEqDiff, or_true, true_or, or_false, false_or, and_false, false_and, Classical.not_not, true_implies, List.set_cons_zero, List.set_cons_succ, ne_eq, x_83_165, hkJK_1, hkJK_24, hkJK_27, jA_24_6, jA_24_8, jL_27, jR_24_6, jR_24_8, hkP1_0, hkP1_2, hkP1_u, hkC8, List.map_cons, List.map_nil, List.sum_cons, List.sum_nil, hkCat_0, hkCat_1, hkCat_2, Nat.reduceAdd, Nat.reduceLeDiff, hkPush_s, hkPush_n, true_and, and_true, implies_true, true_implies, not_true_eq_false, not_false_eq_true, false_implies, hkTf_0, hkTf_n1, hkOr01, hkOr11, Int.reduceEq, Int.reduceLT, Int.reduceLE, hk102a, hk102b, hk102c, Nat.reduceEqDiff, or_true, true_or, or_false, false_or, and_false, false_and, Classical.not_not, true_implies, List.set_cons_zero, List.set_cons_succ, ne_eq, k3, e5, m2, mt, m3, m4, m5]
            clear e4 e5
            repeat' (first | exact hq | refine And.intro ?_ ?_ | intro _ | trivial | omega | (exfalso; omega))
          · have hq := h3 hi2 h93 (hkSet g1 24 2 (pl + 1 + dgN T F 4 (pl + 1))) (fun q q1 q2 => by rw [hkSet_row q1, k1' q q1]) (fun k a b => by rw [hkSet_rd, if_neg (fun h => a h.2), k2' k b]) (by rw [hkSet_rd, if_pos ⟨rfl, rfl⟩])
            rw [hkTf_f h93]
            clear e4 e5
            simp only [x_83_133, hkJK_1, hkJK_24, hkJK_27, jA_24_6, jA_24_8, jL_27, jR_24_6, jR_24_8, hkP1_0, hkP1_2, hkP1_u, hkC8, List.map_cons, List.map_nil, List.sum_cons, List.sum_nil, hkCat_0, hkCat_1, hkCat_2, Nat.reduceAdd, Nat.reduceLeDiff, hkPush_s, hkPush_n, true_and, and_true, implies_true, true_implies, not_true_eq_false, not_false_eq_true, false_implies, hkTf_0, hkTf_n1, hkOr01, hkOr11, Int.reduceEq, Int.reduceLT, Int.reduceLE, hk102a, hk102b, hk102c, Nat.reduceEqDiff, or_true, true_or, or_false, false_or, and_false, false_and, Classical.not_not, true_implies, List.set_cons_zero, List.set_cons_succ, ne_eq, x_83_157, x_83_158, x_83_159, x_83_162, x_83_165, hkJK_1, hkJK_24, hkJK_27, jA_24_6, jA_24_8, jL_27, jR_24_6, jR_24_8, hkP1_0, hkP1_2, hkP1_u, hkC8, List.map_cons, List.map_nil, List.sum_cons, List.sum_nil, hkCat_0, hkCat_1, hkCat_2, Nat.reduceAdd, Nat.reduceLeDiff, hkPush_s, hkPush_n, true_and, and_true, implies_true, true_implies, not_true_eq_false, not_false_eq_true, false_implies, hkTf_0, hkTf_n1, hkOr01, hkOr11, Int.reduceEq, Int.reduceLT, Int.reduceLE, hk102a, hk102b, hk102c, Nat.reduceEqDiff, or_true, true_or, or_false, false_or, and_false, false_and, Classical.not_not, true_implies, List.set_cons_zero, List.set_cons_succ, ne_eq, k3, sx_fail0 h12]
            repeat' (first | exact hq | refine And.intro ?_ ?_ | intro _ | trivial | omega | (exfalso; omega))
        clear e4 e5
        simp only [x_83_111, x_83_113, x_83_115, x_83_116, hkJK_1, hkJK_24, hkJK_27, jA_24_6, jA_24_8, jL_27, jR_24_6, jR_24_8, hkP1_0, hkP1_2, hkP1_u, hkC8, List.map_cons, List.map_nil, List.sum_cons, List.sum_nil, hkCat_0, hkCat_1, hkCat_2, Nat.reduceAdd, Nat.reduceLeDiff, hkPush_s, hkPush_n, true_and, and_true, implies_true, true_implies, not_true_eq_false, not_false_eq_true, false_implies, hkTf_0, hkTf_n1, hkOr01, hkOr11, Int.reduceEq, Int.reduceLT, Int.reduceLE, hk102a, hk102b, hk102c, Nat.reduceEqDiff, or_true, true_or, or_false, false_or, and_false, false_and, Classical.not_not, true_implies, List.set_cons_zero, List.set_cons_succ, ne_eq]
        repeat' (first | exact K1 | refine And.intro ?_ ?_ | intro _ | trivial | omega | (exfalso; omega))
    by_cases hz : dgZ T (dgN T F 4 (pl + 1)) (pl + 1) 0 = 0
    · have J1 := J (nbV R N (dgVl T (dgN T F 4 (pl + 1)) (pl + 1) 0)) (by unfold rdS; rw [if_pos hz])
      rw [hz] at J1 ⊢
      simp only [x_83_94, x_83_96, x_83_99, x_83_100, x_83_103, x_83_104, x_83_107, x_83_108, hkJK_1, hkJK_24, hkJK_27, jA_24_6, jA_24_8, jL_27, jR_24_6, jR_24_8, hkP1_0, hkP1_2, hkP1_u, hkC8, List.map_cons, List.map_nil, List.sum_cons, List.sum_nil, hkCat_0, hkCat_1, hkCat_2, Nat.reduceAdd, Nat.reduceLeDiff, hkPush_s, hkPush_n, true_and, and_true, implies_true, true_implies, not_true_eq_false, not_false_eq_true, false_implies, hkTf_0, hkTf_n1, hkOr01, hkOr11, Int.reduceEq, Int.reduceLT, Int.reduceLE, hk102a, hk102b, hk102c, Nat.reduceEqDiff, or_true, true_or, or_false, false_or, and_false, false_and, Classical.not_not, true_implies, List.set_cons_zero, List.set_cons_succ, ne_eq, hkLe_t ht, sx_numbered ht18 hS1.1.1 v0 (show dgVl T (dgN T F 4 (pl + 1)) (pl + 1) 0 ≤ 2147483647 by clear e4 e5; omega)]
      clear e4 e5
      repeat' (first | exact J1 | refine And.intro ?_ ?_ | intro _ | trivial | omega | (exfalso; omega))
    · have J1 := J (-1) (by unfold rdS; rw [if_neg hz])
      simp only [x_83_94, x_83_96, x_83_99, x_83_100, hkJK_1, hkJK_24, hkJK_27, jA_24_6, jA_24_8, jL_27, jR_24_6, jR_24_8, hkP1_0, hkP1_2, hkP1_u, hkC8, List.map_cons, List.map_nil, List.sum_cons, List.sum_nil, hkCat_0, hkCat_1, hkCat_2, Nat.reduceAdd, Nat.reduceLeDiff, hkPush_s, hkPush_n, true_and, and_true, implies_true, true_implies, not_true_eq_false, not_false_eq_true, false_implies, hkTf_0, hkTf_n1, hkOr01, hkOr11, Int.reduceEq, Int.reduceLT, Int.reduceLE, hk102a, hk102b, hk102c, Nat.reduceEqDiff, or_true, true_or, or_false, false_or, and_false, false_and, Classical.not_not, true_implies, List.set_cons_zero, List.set_cons_succ, ne_eq]
      clear e4 e5
      repeat' (first | exact J1 | refine And.intro ?_ ?_ | intro _ | trivial | omega | (exfalso; omega)))
  simp only [x_83_0, x_83_1, x_83_4, x_83_5, x_83_6, x_83_7, x_83_10, x_83_11, x_83_12, x_83_15, x_83_16, x_83_17, x_83_18, x_83_20, x_83_21, hkJK_1, hkJK_24, hkJK_27, jA_24_6, jA_24_8, jL_27, jR_24_6, jR_24_8, hkP1_0, hkP1_2, hkP1_u, hkC8, List.map_cons, List.map_nil, List.sum_cons, List.sum_nil, hkCat_0, hkCat_1, hkCat_2, Nat.reduceAdd, Nat.reduceLeDiff, hkPush_s, hkPush_n, true_and, and_true, implies_true, true_implies, not_true_eq_false, not_false_eq_true, false_implies, hkTf_0, hkTf_n1, hkOr01, hkOr11, Int.reduceEq, Int.reduceLT, Int.reduceLE, hk102a, hk102b, hk102c, Nat.reduceEqDiff, or_true, true_or, or_false, false_or, and_false, false_and, Classical.not_not, true_implies, List.set_cons_zero, List.set_cons_succ, ne_eq, h24, e4]
  clear e4 e5
  repeat' (first | exact K | refine And.intro ?_ ?_ | intro _ | trivial | omega | (exfalso; omega))
end SP
