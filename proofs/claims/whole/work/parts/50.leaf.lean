/-! leaves: methods without loops and calls that answer a number and change nothing -/
section SP
variable {t : Nat} {g : hkG}
theorem s_compare {a b : Int} : Ev 172 0 [(0, a), (0, b)] t g (some (0, hkCmp a b)) t g := by
  apply Ev_of
  simp only [x_172_0, x_172_1, x_172_2, x_172_5, x_172_6, x_172_9, x_172_10, x_172_11, x_172_14, x_172_15, x_172_18, x_172_19, hkP1_0, hkP1_2, hkP1_u, hkC8, List.map_cons, List.map_nil, List.sum_cons, List.sum_nil, hkCat_0, hkCat_1, hkCat_2, Nat.reduceAdd, Nat.reduceLeDiff, hkPush_s, hkPush_n, true_and, and_true, implies_true, true_implies, not_true_eq_false, not_false_eq_true, false_implies, hkTf_0, hkTf_01, hkOr01, hkOr11, Int.reduceEq, Int.reduceLT, Int.reduceLE, hk102a, hk102b, hk102c, Nat.reduceLeDiff, Nat.reduceEqDiff]
  unfold hkCmp
  refine ⟨fun h1 => ⟨fun h2 => ?_, fun h2 => ?_⟩, fun h1 => ?_⟩
  · rw [if_neg (by omega), if_pos h2]
  · rw [if_neg (by omega), if_neg h2]
  · rw [if_pos (by omega)]
theorem s_max {a b : Int} : Ev 175 0 [(0, a), (0, b)] t g (some (0, max a b)) t g := by
  apply Ev_of
  simp only [x_175_0, x_175_1, x_175_2, x_175_5, x_175_6, x_175_9, x_175_10, hkP1_0, hkP1_2, hkP1_u, hkC8, List.map_cons, List.map_nil, List.sum_cons, List.sum_nil, hkCat_0, hkCat_1, hkCat_2, Nat.reduceAdd, Nat.reduceLeDiff, hkPush_s, hkPush_n, true_and, and_true, implies_true, true_implies, not_true_eq_false, not_false_eq_true, false_implies, hkTf_0, hkTf_01, hkOr01, hkOr11, Int.reduceEq, Int.reduceLT, Int.reduceLE, hk102a, hk102b, hk102c, Nat.reduceLeDiff, Nat.reduceEqDiff]
  refine ⟨fun h1 => ?_, fun h1 => ?_⟩
  · rw [Int.max_eq_right (by omega)]
  · rw [Int.max_eq_left (by omega)]
theorem s_isOff {a b c : Int} : Ev 2 0 [(0, a), (0, b), (0, c)] t g (some (0, hkTf (a < b ∨ c < a))) t g := by
  apply Ev_of
  simp only [x_2_0, x_2_1, x_2_2, x_2_5, x_2_6, x_2_7, x_2_10, x_2_11, x_2_14, x_2_15, hkP1_0, hkP1_2, hkP1_u, hkC8, List.map_cons, List.map_nil, List.sum_cons, List.sum_nil, hkCat_0, hkCat_1, hkCat_2, Nat.reduceAdd, Nat.reduceLeDiff, hkPush_s, hkPush_n, true_and, and_true, implies_true, true_implies, not_true_eq_false, not_false_eq_true, false_implies, hkTf_0, hkTf_01, hkOr01, hkOr11, Int.reduceEq, Int.reduceLT, Int.reduceLE, hk102a, hk102b, hk102c, Nat.reduceLeDiff, Nat.reduceEqDiff]
  refine ⟨fun h1 => ?_, fun h1 => ⟨fun h2 => ?_, fun h2 => ?_⟩⟩
  · rw [hkTf_t (by omega)]
  · rw [hkTf_f (by omega)]
  · rw [hkTf_t (by omega)]
theorem s_isShape {i : Int} (ht : 190 ≤ t) : Ev 39 0 [(2, 1), (0, i)] t g (some (0, hkTf (0 ≤ i ∧ i < g 1 3))) t g := by
  apply Ev_of
  simp only [x_39_0, x_39_1, x_39_4, x_39_5, x_39_6, x_39_9, x_39_12, x_39_13, x_39_16, x_39_17, hkJK_1, hkP1_0, hkP1_2, hkP1_u, hkC8, List.map_cons, List.map_nil, List.sum_cons, List.sum_nil, hkCat_0, hkCat_1, hkCat_2, Nat.reduceAdd, Nat.reduceLeDiff, hkPush_s, hkPush_n, true_and, and_true, implies_true, true_implies, not_true_eq_false, not_false_eq_true, false_implies, hkTf_0, hkTf_01, hkOr01, hkOr11, Int.reduceEq, Int.reduceLT, Int.reduceLE, hk102a, hk102b, hk102c, Nat.reduceLeDiff, Nat.reduceEqDiff]
  refine ⟨fun h1 => ?_, fun h1 => ⟨fun h2 => ?_, fun h2 => ?_⟩⟩
  · rw [hkTf_f (by omega)]
  · rw [hkTf_f (by omega)]
  · rw [hkTf_t (by omega)]
end SP
