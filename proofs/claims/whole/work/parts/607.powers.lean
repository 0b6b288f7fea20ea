/-! Roots: a row of powers -/
section SP
variable {t d : Nat} {Q : Option hkV → Nat → hkG → Prop}
theorem l_fillPowers {p row x : Int} (hk : hkJK p = 100) (hL : jL p = 49) (hr0 : 0 ≤ row) (hr : row < 7) (hx0 : 0 ≤ x) (hx : x < 2521) : ∀ (m k : Nat) (g : hkG), k + m = 7 →
    (∀ g' : hkG, (∀ q : Int, q ≠ p → g' q = g q) → (∀ j : Int, j < 7 * row + k ∨ 7 * row + 7 ≤ j → g' p j = g p j) → (∀ j : Nat, k ≤ j → j < 7 → g' p (7 * row + j) = x ^ j % 2521) → Q none t g') →
    Xp 65 d 6 [(2, 17), (2, p), (0, row), (0, x), (0, x ^ k % 2521), (0, (k : Int))] [] t g Q := by
  intro m
  induction m with
  | zero =>
    intro k g hkm hQ
    rw [x_65_6]
    simp only [x_65_8, x_65_10, hkP1_0, hkP1_2, hkP1_u, hkC8, List.map_cons, List.map_nil, List.sum_cons, List.sum_nil, hkCat_0, hkCat_1, hkCat_2, Nat.reduceAdd, Nat.reduceLeDiff, hkPush_s, hkPush_n, true_and, and_true, implies_true, true_implies, not_true_eq_false, not_false_eq_true, false_implies, hkTf_0, hkTf_n1, hkOr01, hkOr11, Int.reduceEq, Int.reduceLT, Int.reduceLE, hk102a, hk102b, hk102c, Nat.reduceEqDiff, or_true, true_or, or_false, false_or, and_false, false_and, Classical.not_not, true_implies, List.set_cons_zero, List.set_cons_succ, ne_eq, x_65_40, hkP1_0, hkP1_2, hkP1_u, hkC8, List.map_cons, List.map_nil, List.sum_cons, List.sum_nil, hkCat_0, hkCat_1, hkCat_2, Nat.reduceAdd, Nat.reduceLeDiff, hkPush_s, hkPush_n, true_and, and_true, implies_true, true_implies, not_true_eq_false, not_false_eq_true, false_implies, hkTf_0, hkTf_n1, hkOr01, hkOr11, Int.reduceEq, Int.reduceLT, Int.reduceLE, hk102a, hk102b, hk102c, Nat.reduceEqDiff, or_true, true_or, or_false, false_or, and_false, false_and, Classical.not_not, true_implies, List.set_cons_zero, List.set_cons_succ, ne_eq]
    exact ⟨fun _ => hQ g (fun _ _ => rfl) (fun _ _ => rfl) (fun j _ _ => by omega), fun h => absurd (by omega) h⟩
  | succ m ih =>
    intro k g hkm hQ
    have q0 : 0 ≤ x ^ k % 2521 := Int.emod_nonneg _ (by decide)
    have q1 : x ^ k % 2521 < 2521 := Int.emod_lt_of_pos _ (by decide)
    obtain ⟨a1, a2⟩ := mul_lt2521 q0 q1 hx0 hx
    obtain ⟨e1, e2, e3, e4⟩ : hkW (row * 7) = row * 7 ∧ hkW (row * 7 + k) = 7 * row + k ∧ hkW (x ^ k % 2521 * x) = x ^ k % 2521 * x ∧ hkW ((k : Int) + 1) = ((k + 1 : Nat) : Int) := ⟨hkW_in (by omega) (by omega), by rw [hkW_in (by omega) (by omega)]; omega, hkW_in (by omega) (by omega), by rw [hkW_in (by omega) (by omega)]; omega⟩
    have em : (x ^ k % 2521 * x).tmod 2521 = x ^ (k + 1) % 2521 := by
      rw [Int.tmod_eq_emod_of_nonneg a1, Int.pow_succ, Int.mul_emod, Int.emod_emod, ← Int.mul_emod]
    rw [x_65_6]
    simp only [x_65_8, x_65_10, x_65_13, x_65_14, x_65_15, x_65_17, x_65_18, x_65_20, x_65_21, x_65_23, x_65_24, x_65_26, x_65_27, x_65_28, x_65_31, x_65_32, x_65_34, x_65_37, hkP1_0, hkP1_2, hkP1_u, hkC8, List.map_cons, List.map_nil, List.sum_cons, List.sum_nil, hkCat_0, hkCat_1, hkCat_2, Nat.reduceAdd, Nat.reduceLeDiff, hkPush_s, hkPush_n, true_and, and_true, implies_true, true_implies, not_true_eq_false, not_false_eq_true, false_implies, hkTf_0, hkTf_n1, hkOr01, hkOr11, Int.reduceEq, Int.reduceLT, Int.reduceLE, hk102a, hk102b, hk102c, Nat.reduceEqDiff, or_true, true_or, or_false, false_or, and_false, false_and, Classical.not_not, true_implies, List.set_cons_zero, List.set_cons_succ, ne_eq, x_65_40, hkP1_0, hkP1_2, hkP1_u, hkC8, List.map_cons, List.map_nil, List.sum_cons, List.sum_nil, hkCat_0, hkCat_1, hkCat_2, Nat.reduceAdd, Nat.reduceLeDiff, hkPush_s, hkPush_n, true_and, and_true, implies_true, true_implies, not_true_eq_false, not_false_eq_true, false_implies, hkTf_0, hkTf_n1, hkOr01, hkOr11, Int.reduceEq, Int.reduceLT, Int.reduceLE, hk102a, hk102b, hk102c, Nat.reduceEqDiff, or_true, true_or, or_false, false_or, and_false, false_and, Classical.not_not, true_implies, List.set_cons_zero, List.set_cons_succ, ne_eq, e1, e2, e3, e4, em, hk, hL]
    clear e1 e2 e3 e4
    refine ⟨fun h => absurd h (by omega), fun _ => ⟨by omega, ?_⟩⟩
    refine ih (k + 1) (hkSet g p (7 * row + k) (x ^ k % 2521)) (by omega) (fun g' h1 h2 h3 => hQ g' (fun q hq => by rw [h1 q hq, hkSet_row hq]) (fun j hj => ?_) (fun j j0 j1 => ?_))
    · rw [h2 j (by omega), hkSet_rd, if_neg (by omega)]
    · by_cases e : j = k
      · subst e
        rw [h2 _ (by omega), hkSet_rd, if_pos ⟨rfl, rfl⟩]
      · exact h3 j (by omega) j1
theorem sx_fillPowers {g : hkG} {p row x : Int} (hk : hkJK p = 100) (hL : jL p = 49) (hr0 : 0 ≤ row) (hr : row < 7) (hx0 : 0 ≤ x) (hx : x < 2521)
    (hQ : ∀ g' : hkG, (∀ q : Int, q ≠ p → g' q = g q) → (∀ j : Int, j < 7 * row ∨ 7 * row + 7 ≤ j → g' p j = g p j) → (∀ j : Nat, j < 7 → g' p (7 * row + j) = x ^ j % 2521) → Q none t g') :
    Xp 65 d 0 [(2, 17), (2, p), (0, row), (0, x), hkU, hkU] [] t g Q := by
  simp only [x_65_0, x_65_1, x_65_3, x_65_4, hkP1_0, hkP1_2, hkP1_u, hkC8, List.map_cons, List.map_nil, List.sum_cons, List.sum_nil, hkCat_0, hkCat_1, hkCat_2, Nat.reduceAdd, Nat.reduceLeDiff, hkPush_s, hkPush_n, true_and, and_true, implies_true, true_implies, not_true_eq_false, not_false_eq_true, false_implies, hkTf_0, hkTf_n1, hkOr01, hkOr11, Int.reduceEq, Int.reduceLT, Int.reduceLE, hk102a, hk102b, hk102c, Nat.reduceEqDiff, or_true, true_or, or_false, false_or, and_false, false_and, Classical.not_not, true_implies, List.set_cons_zero, List.set_cons_succ, ne_eq]
  have := l_fillPowers (t := t) (d := d) (Q := Q) hk hL hr0 hr hx0 hx 7 0 g rfl (fun g' h1 h2 h3 => hQ g' h1 (fun j hj => h2 j (by omega)) (fun j hj => h3 j (by omega) hj))
  rw [Int.pow_zero] at this
  exact this
end SP
