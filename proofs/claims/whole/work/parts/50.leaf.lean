/-! leaves: methods without loops and calls that answer a number and change nothing -/
section SP
variable {t : Nat} {g : hkG}
theorem s_compare {a b : Int} : Ev 172 0 [(0, a), (0, b)] t g (some (0, hkCmp a b)) t g := by
  apply Ev_of
  simp only [x_172_0, x_172_1, x_172_2, x_172_5, x_172_6, x_172_9, x_172_10, x_172_11, x_172_14, x_172_15, x_172_18, x_172_19, hkP1_0, hkP1_2, hkP1_u, hkC8, List.map_cons, List.map_nil, List.sum_cons, List.sum_nil, hkCat_0, hkCat_1, hkCat_2, Nat.reduceAdd, Nat.reduceLeDiff, hkPush_s, hkPush_n, true_and, and_true, implies_true, true_implies, not_true_eq_false, not_false_eq_true, false_implies, hkTf_0, hkTf_n1, hkOr01, hkOr11, Int.reduceEq, Int.reduceLT, Int.reduceLE, hk102a, hk102b, hk102c, Nat.reduceEqDiff, or_true, true_or, or_false, false_or, and_false, false_and, Classical.not_not, true_implies, List.set_cons_zero, List.set_cons_succ, ne_eq]
  unfold hkCmp
  refine ⟨fun h1 => ⟨fun h2 => ?_, fun h2 => ?_⟩, fun h1 => ?_⟩
  · rw [if_neg (by omega), if_neg (by omega)]
  · rw [if_neg (by omega), if_pos (by omega)]
  · rw [if_pos (by omega)]
theorem s_max {a b : Int} : Ev 175 0 [(0, a), (0, b)] t g (some (0, max a b)) t g := by
  apply Ev_of
  simp only [x_175_0, x_175_1, x_175_2, x_175_5, x_175_6, x_175_9, x_175_10, hkP1_0, hkP1_2, hkP1_u, hkC8, List.map_cons, List.map_nil, List.sum_cons, List.sum_nil, hkCat_0, hkCat_1, hkCat_2, Nat.reduceAdd, Nat.reduceLeDiff, hkPush_s, hkPush_n, true_and, and_true, implies_true, true_implies, not_true_eq_false, not_false_eq_true, false_implies, hkTf_0, hkTf_n1, hkOr01, hkOr11, Int.reduceEq, Int.reduceLT, Int.reduceLE, hk102a, hk102b, hk102c, Nat.reduceEqDiff, or_true, true_or, or_false, false_or, and_false, false_and, Classical.not_not, true_implies, List.set_cons_zero, List.set_cons_succ, ne_eq]
  refine ⟨fun h1 => ?_, fun h1 => ?_⟩
  · rw [Int.max_eq_right (by omega)]
  · rw [Int.max_eq_left (by omega)]
theorem s_min {a b : Int} : Ev 174 0 [(0, a), (0, b)] t g (some (0, min a b)) t g := by
  apply Ev_of
  simp only [x_174_0, x_174_1, x_174_2, x_174_5, x_174_6, x_174_9, x_174_10, hkP1_0, hkP1_2, hkP1_u, hkC8, List.map_cons, List.map_nil, List.sum_cons, List.sum_nil, hkCat_0, hkCat_1, hkCat_2, Nat.reduceAdd, Nat.reduceLeDiff, hkPush_s, hkPush_n, true_and, and_true, implies_true, true_implies, not_true_eq_false, not_false_eq_true, false_implies, hkTf_0, hkTf_n1, hkOr01, hkOr11, Int.reduceEq, Int.reduceLT, Int.reduceLE, hk102a, hk102b, hk102c, Nat.reduceEqDiff, or_true, true_or, or_false, false_or, and_false, false_and, Classical.not_not, true_implies, List.set_cons_zero, List.set_cons_succ, ne_eq]
  refine ⟨fun h1 => ?_, fun h1 => ?_⟩
  · rw [Int.min_eq_right (by omega)]
  · rw [Int.min_eq_left (by omega)]
theorem s_abs {a : Int} : Ev 178 0 [(0, a)] t g (some (0, if a < 0 then hkW (-a) else a)) t g := by
  apply Ev_of
  simp only [x_178_0, x_178_1, x_178_4, x_178_5, x_178_6, x_178_9, x_178_10, hkP1_0, hkP1_2, hkP1_u, hkC8, List.map_cons, List.map_nil, List.sum_cons, List.sum_nil, hkCat_0, hkCat_1, hkCat_2, Nat.reduceAdd, Nat.reduceLeDiff, hkPush_s, hkPush_n, true_and, and_true, implies_true, true_implies, not_true_eq_false, not_false_eq_true, false_implies, hkTf_0, hkTf_n1, hkOr01, hkOr11, Int.reduceEq, Int.reduceLT, Int.reduceLE, hk102a, hk102b, hk102c, Nat.reduceEqDiff, or_true, true_or, or_false, false_or, and_false, false_and, Classical.not_not, true_implies, List.set_cons_zero, List.set_cons_succ, ne_eq]
  refine ⟨fun h1 => ?_, fun h1 => ?_⟩
  · rw [if_neg (by omega)]
  · rw [if_pos (by omega)]
theorem s_absL {a : Int} : Ev 177 0 [(1, a), hkU] t g (some (1, if a < 0 then hkL (-a) else a)) t g := by
  apply Ev_of
  simp only [x_177_0, x_177_1, x_177_2, x_177_3, x_177_6, x_177_7, x_177_8, x_177_11, x_177_12, hkP1_0, hkP1_2, hkP1_u, hkC8, List.map_cons, List.map_nil, List.sum_cons, List.sum_nil, hkCat_0, hkCat_1, hkCat_2, Nat.reduceAdd, Nat.reduceLeDiff, hkPush_s, hkPush_n, true_and, and_true, implies_true, true_implies, not_true_eq_false, not_false_eq_true, false_implies, hkTf_0, hkTf_n1, hkOr01, hkOr11, Int.reduceEq, Int.reduceLT, Int.reduceLE, hk102a, hk102b, hk102c, Nat.reduceEqDiff, or_true, true_or, or_false, false_or, and_false, false_and, Classical.not_not, true_implies, List.set_cons_zero, List.set_cons_succ, ne_eq]
  unfold hkCmp
  refine ⟨fun h1 => ?_, fun h1 => ?_⟩
  · rw [if_neg]
    intro h2
    rw [if_pos h2] at h1
    omega
  · rw [if_pos]
    by_cases h2 : a < 0
    · exact h2
    · rw [if_neg h2] at h1
      split at h1 <;> omega
theorem s_isOff {a b c : Int} : Ev 2 0 [(0, a), (0, b), (0, c)] t g (some (0, hkTf (a < b ∨ c < a))) t g := by
  apply Ev_of
  simp only [x_2_0, x_2_1, x_2_2, x_2_5, x_2_6, x_2_7, x_2_10, x_2_11, x_2_14, x_2_15, hkP1_0, hkP1_2, hkP1_u, hkC8, List.map_cons, List.map_nil, List.sum_cons, List.sum_nil, hkCat_0, hkCat_1, hkCat_2, Nat.reduceAdd, Nat.reduceLeDiff, hkPush_s, hkPush_n, true_and, and_true, implies_true, true_implies, not_true_eq_false, not_false_eq_true, false_implies, hkTf_0, hkTf_n1, hkOr01, hkOr11, Int.reduceEq, Int.reduceLT, Int.reduceLE, hk102a, hk102b, hk102c, Nat.reduceEqDiff, or_true, true_or, or_false, false_or, and_false, false_and, Classical.not_not, true_implies, List.set_cons_zero, List.set_cons_succ, ne_eq]
  ((repeat' first | apply And.intro | intro _) <;> first | rfl | (rw [hkTf_t (by omega)]; done) | (rw [hkTf_f (by omega)]; done) | (exfalso; omega))
theorem s_isNoByte {a d : Int} {D : Nat} (hD : 1 ≤ D) : Ev 19 D [(0, a)] t g (some (0, hkTf (a < 0 ∨ 255 < a))) t g := by
  refine Ev_deep (d := 1) (Ev_of ?_) hD
  simp only [x_19_0, x_19_1, x_19_2, x_19_5, x_19_8, hkP1_0, hkP1_2, hkP1_u, hkC8, List.map_cons, List.map_nil, List.sum_cons, List.sum_nil, hkCat_0, hkCat_1, hkCat_2, Nat.reduceAdd, Nat.reduceLeDiff, hkPush_s, hkPush_n, true_and, and_true, implies_true, true_implies, not_true_eq_false, not_false_eq_true, false_implies, hkTf_0, hkTf_n1, hkOr01, hkOr11, Int.reduceEq, Int.reduceLT, Int.reduceLE, hk102a, hk102b, hk102c, Nat.reduceEqDiff, or_true, true_or, or_false, false_or, and_false, false_and, Classical.not_not, true_implies, List.set_cons_zero, List.set_cons_succ, ne_eq, Xp_ev s_isOff (Nat.le_refl _)]
theorem s_isNoSheet {a : Int} {D : Nat} (hD : 1 ≤ D) : Ev 12 D [(0, a)] t g (some (0, hkTf (a < 0 ∨ 3 < a))) t g := by
  refine Ev_deep (d := 1) (Ev_of ?_) hD
  simp only [x_12_0, x_12_1, x_12_2, x_12_3, x_12_6, hkP1_0, hkP1_2, hkP1_u, hkC8, List.map_cons, List.map_nil, List.sum_cons, List.sum_nil, hkCat_0, hkCat_1, hkCat_2, Nat.reduceAdd, Nat.reduceLeDiff, hkPush_s, hkPush_n, true_and, and_true, implies_true, true_implies, not_true_eq_false, not_false_eq_true, false_implies, hkTf_0, hkTf_n1, hkOr01, hkOr11, Int.reduceEq, Int.reduceLT, Int.reduceLE, hk102a, hk102b, hk102c, Nat.reduceEqDiff, or_true, true_or, or_false, false_or, and_false, false_and, Classical.not_not, true_implies, List.set_cons_zero, List.set_cons_succ, ne_eq, Xp_ev s_isOff (Nat.le_refl _)]
theorem s_isShape {i : Int} (ht : 190 ≤ t) : Ev 39 0 [(2, 1), (0, i)] t g (some (0, hkTf (0 ≤ i ∧ i < g 1 3))) t g := by
  apply Ev_of
  simp only [x_39_0, x_39_1, x_39_4, x_39_5, x_39_6, x_39_9, x_39_12, x_39_13, x_39_16, x_39_17, hkJK_1, hkP1_0, hkP1_2, hkP1_u, hkC8, List.map_cons, List.map_nil, List.sum_cons, List.sum_nil, hkCat_0, hkCat_1, hkCat_2, Nat.reduceAdd, Nat.reduceLeDiff, hkPush_s, hkPush_n, true_and, and_true, implies_true, true_implies, not_true_eq_false, not_false_eq_true, false_implies, hkTf_0, hkTf_n1, hkOr01, hkOr11, Int.reduceEq, Int.reduceLT, Int.reduceLE, hk102a, hk102b, hk102c, Nat.reduceEqDiff, or_true, true_or, or_false, false_or, and_false, false_and, Classical.not_not, true_implies, List.set_cons_zero, List.set_cons_succ, ne_eq]
  ((repeat' first | apply And.intro | intro _) <;> first | rfl | (rw [hkTf_t (by omega)]; done) | (rw [hkTf_f (by omega)]; done) | (exfalso; omega))
theorem s_beadOf {x r : Int} : Ev 37 0 [(2, 1), (0, x), (0, r)] t g (some (0, hkW (hkW (hkW (x + g 1 0) - 1) - r))) t g := by
  apply Ev_of
  simp only [x_37_0, x_37_1, x_37_2, x_37_5, x_37_6, x_37_7, x_37_8, x_37_9, x_37_10, hkJK_1, hkP1_0, hkP1_2, hkP1_u, hkC8, List.map_cons, List.map_nil, List.sum_cons, List.sum_nil, hkCat_0, hkCat_1, hkCat_2, Nat.reduceAdd, Nat.reduceLeDiff, hkPush_s, hkPush_n, true_and, and_true, implies_true, true_implies, not_true_eq_false, not_false_eq_true, false_implies, hkTf_0, hkTf_n1, hkOr01, hkOr11, Int.reduceEq, Int.reduceLT, Int.reduceLE, hk102a, hk102b, hk102c, Nat.reduceEqDiff, or_true, true_or, or_false, false_or, and_false, false_and, Classical.not_not, true_implies, List.set_cons_zero, List.set_cons_succ, ne_eq]
theorem s_fullWord : Ev 46 0 [(2, 1)] t g (some (0, hkW (hkShl 1 (g 1 1) - 1))) t g := by
  apply Ev_of
  simp only [x_46_0, x_46_1, x_46_2, x_46_5, x_46_6, x_46_7, x_46_8, hkJK_1, hkP1_0, hkP1_2, hkP1_u, hkC8, List.map_cons, List.map_nil, List.sum_cons, List.sum_nil, hkCat_0, hkCat_1, hkCat_2, Nat.reduceAdd, Nat.reduceLeDiff, hkPush_s, hkPush_n, true_and, and_true, implies_true, true_implies, not_true_eq_false, not_false_eq_true, false_implies, hkTf_0, hkTf_n1, hkOr01, hkOr11, Int.reduceEq, Int.reduceLT, Int.reduceLE, hk102a, hk102b, hk102c, Nat.reduceEqDiff, or_true, true_or, or_false, false_or, and_false, false_and, Classical.not_not, true_implies, List.set_cons_zero, List.set_cons_succ, ne_eq]
theorem s_mWidth : Ev 103 0 [(2, 66)] t g (some (0, hkW (g 66 1 - g 66 0))) t g := by
  apply Ev_of
  simp only [x_103_0, x_103_1, x_103_4, x_103_5, x_103_8, x_103_9, hkJK_66, hkP1_0, hkP1_2, hkP1_u, hkC8, List.map_cons, List.map_nil, List.sum_cons, List.sum_nil, hkCat_0, hkCat_1, hkCat_2, Nat.reduceAdd, Nat.reduceLeDiff, hkPush_s, hkPush_n, true_and, and_true, implies_true, true_implies, not_true_eq_false, not_false_eq_true, false_implies, hkTf_0, hkTf_n1, hkOr01, hkOr11, Int.reduceEq, Int.reduceLT, Int.reduceLE, hk102a, hk102b, hk102c, Nat.reduceEqDiff, or_true, true_or, or_false, false_or, and_false, false_and, Classical.not_not, true_implies, List.set_cons_zero, List.set_cons_succ, ne_eq]
end SP
