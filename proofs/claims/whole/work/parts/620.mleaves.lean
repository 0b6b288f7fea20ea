/-! the reference: leaves -/
section SP
variable {t d : Nat} {g : hkG} {R N : Int} {Q : Option hkV → Nat → hkG → Prop}
theorem sx_mIsIn {v a b : Int} : Xp 107 d 0 [(1, v), hkU, (1, a), hkU, (1, b), hkU] [] t g Q = Q (some (0, hkTf (a ≤ v ∧ v ≤ b))) t g := by
  refine Xp_ev (d := 0) (Ev_of ?_) (Nat.zero_le _)
  simp only [x_107_0, x_107_1, x_107_2, x_107_3, x_107_6, x_107_7, x_107_9, x_107_10, x_107_13, x_107_14, x_107_17, x_107_18, hkP1_0, hkP1_2, hkP1_u, hkC8, List.map_cons, List.map_nil, List.sum_cons, List.sum_nil, hkCat_0, hkCat_1, hkCat_2, Nat.reduceAdd, Nat.reduceLeDiff, hkPush_s, hkPush_n, true_and, and_true, implies_true, true_implies, not_true_eq_false, not_false_eq_true, false_implies, hkTf_0, hkTf_n1, hkOr01, hkOr11, Int.reduceEq, Int.reduceLT, Int.reduceLE, hk102a, hk102b, hk102c, Nat.reduceEqDiff, or_true, true_or, or_false, false_or, and_false, false_and, Classical.not_not, true_implies, List.set_cons_zero, List.set_cons_succ, ne_eq]
  unfold hkCmp
  refine ⟨fun h1 => ?_, fun h1 => ?_⟩
  · rw [hkTf_f]
    intro h2
    split at h1
    · omega
    · split at h1 <;> omega
  · refine ⟨fun h3 => ?_, fun h3 => ?_⟩
    · rw [hkTf_f]
      intro h2
      split at h3
      · omega
      · split at h3 <;> omega
    · rw [hkTf_t]
      refine ⟨?_, ?_⟩
      · split at h1 <;> omega
      · split at h3
        · omega
        · split at h3 <;> omega
theorem sx_mIsShape (ht : 190 ≤ t) (hX : MX g R N) {i : Int} : Xp 109 (d + 1) 0 [(2, 66), (0, i)] [] t g Q = Q (some (0, hkTf (0 ≤ i ∧ i < bxC R N))) t g := by
  have hc := bx_C hX.1
  obtain ⟨x1, x2, x3, x4, x5⟩ := MX_f hX
  have e : hkW (bxC R N - 1) = bxC R N - 1 := hkW_in (by omega) (by omega)
  have e2 : (0 ≤ i ∧ i ≤ bxC R N - 1) = (0 ≤ i ∧ i < bxC R N) := propext (by omega)
  simp only [x_109_0, x_109_1, x_109_2, x_109_3, x_109_4, x_109_7, x_109_8, x_109_9, x_109_10, x_109_13, hkJK_66, hkP1_0, hkP1_2, hkP1_u, hkC8, List.map_cons, List.map_nil, List.sum_cons, List.sum_nil, hkCat_0, hkCat_1, hkCat_2, Nat.reduceAdd, Nat.reduceLeDiff, hkPush_s, hkPush_n, true_and, and_true, implies_true, true_implies, not_true_eq_false, not_false_eq_true, false_implies, hkTf_0, hkTf_n1, hkOr01, hkOr11, Int.reduceEq, Int.reduceLT, Int.reduceLE, hk102a, hk102b, hk102c, Nat.reduceEqDiff, or_true, true_or, or_false, false_or, and_false, false_and, Classical.not_not, true_implies, List.set_cons_zero, List.set_cons_succ, ne_eq, x3, e, sx_mIsIn, e2]
theorem sx_mTurnsOf (ht : 190 ≤ t) (hX : MX g R N) {i j l : Int} (hi0 : 0 ≤ i) (hi : i < bxC R N) (hj0 : 0 ≤ j) (hj : j < bxC R N) (hl0 : 0 ≤ l) (hl : l < bxC R N) :
    Xp 126 d 0 [(2, 66), (0, i), (0, j), (0, l)] [] t g Q = Q (some (0, (bxZ R N i + bxZ R N j - bxZ R N l).tdiv N)) t g := by
  refine Xp_ev (d := 0) (Ev_of ?_) (Nat.zero_le _)
  have hb := hX.1
  obtain ⟨b1, b2, b3, b4⟩ := id hb
  obtain ⟨c1, c2⟩ := bx_C hb
  obtain ⟨x1, x2, x3, x4, x5⟩ := MX_f hX
  obtain ⟨yi, -⟩ := x5 i hi0 hi
  obtain ⟨yj, -⟩ := x5 j hj0 hj
  obtain ⟨yl, -⟩ := x5 l hl0 hl
  have zi := bx_zq hb hi0 hi
  have zj := bx_zq hb hj0 hj
  have zl := bx_zq hb hl0 hl
  have hN0 : ¬ N = 0 := by omega
  obtain ⟨e1, e2⟩ : hkW (bxZ R N i + bxZ R N j) = bxZ R N i + bxZ R N j ∧ hkW (bxZ R N i + bxZ R N j - bxZ R N l) = bxZ R N i + bxZ R N j - bxZ R N l := ⟨hkW_in (by omega) (by omega), hkW_in (by omega) (by omega)⟩
  simp only [x_126_0, x_126_1, x_126_4, x_126_5, x_126_6, x_126_7, x_126_10, x_126_11, x_126_12, x_126_13, x_126_14, x_126_17, x_126_18, x_126_19, x_126_20, x_126_21, x_126_24, x_126_25, hkJK_66, hkJK_69, jA_66_5, jL_69, jR_66_5, hkP1_0, hkP1_2, hkP1_u, hkC8, List.map_cons, List.map_nil, List.sum_cons, List.sum_nil, hkCat_0, hkCat_1, hkCat_2, Nat.reduceAdd, Nat.reduceLeDiff, hkPush_s, hkPush_n, true_and, and_true, implies_true, true_implies, not_true_eq_false, not_false_eq_true, false_implies, hkTf_0, hkTf_n1, hkOr01, hkOr11, Int.reduceEq, Int.reduceLT, Int.reduceLE, hk102a, hk102b, hk102c, Nat.reduceEqDiff, or_true, true_or, or_false, false_or, and_false, false_and, Classical.not_not, true_implies, List.set_cons_zero, List.set_cons_succ, ne_eq, hkLe_t ht, yi, yj, yl, e1, e2, x2, hN0]
  clear e1 e2
  refine ⟨by omega, by omega, by omega, ?_⟩
  have h1 : -24 ≤ (bxZ R N i + bxZ R N j - bxZ R N l).tdiv N ∧ (bxZ R N i + bxZ R N j - bxZ R N l).tdiv N ≤ 24 := by
    generalize hx : bxZ R N i + bxZ R N j - bxZ R N l = x
    by_cases hx0 : 0 ≤ x
    · rw [Int.tdiv_eq_ediv_of_nonneg hx0]
      have a1 := Int.ediv_nonneg hx0 (show 0 ≤ N by omega)
      have a2 := Int.ediv_le_self N hx0
      omega
    · have a1 := Int.ediv_nonneg (show 0 ≤ -x by omega) (show 0 ≤ N by omega)
      have a2 := Int.ediv_le_self N (show 0 ≤ -x by omega)
      have a3 : x.tdiv N = -((-x) / N) := by
        rw [← Int.tdiv_eq_ediv_of_nonneg (show 0 ≤ -x by omega), Int.neg_tdiv, Int.neg_neg]
      omega
  rw [hkW_in (by omega) (by omega)]
theorem l_mFull (ht : 190 ≤ t) (hX : MX g R N) {i : Int} (hi0 : 0 ≤ i) (hi : i < bxC R N) : ∀ (k : Nat) (r c : Int) (Q : Option hkV → Nat → hkG → Prop), r + k = R → 0 ≤ r → 0 ≤ c → c ≤ r → Q (some (0, flC (bxL R N i) k r c)) t g → Xp 115 (d + 1) 4 [(2, 66), (0, i), (0, c), (0, r)] [] t g Q := by
  obtain ⟨b1, b2, b3, b4⟩ := id hX.1
  obtain ⟨x1, x2, x3, x4, x5⟩ := MX_f hX
  intro k
  induction k with
  | zero =>
    intro r c Q hk h0 hc0 hc4 hq
    rw [x_115_4]
    simp only [x_115_5, x_115_6, x_115_9, hkJK_66, hkP1_0, hkP1_2, hkP1_u, hkC8, List.map_cons, List.map_nil, List.sum_cons, List.sum_nil, hkCat_0, hkCat_1, hkCat_2, Nat.reduceAdd, Nat.reduceLeDiff, hkPush_s, hkPush_n, true_and, and_true, implies_true, true_implies, not_true_eq_false, not_false_eq_true, false_implies, hkTf_0, hkTf_n1, hkOr01, hkOr11, Int.reduceEq, Int.reduceLT, Int.reduceLE, hk102a, hk102b, hk102c, Nat.reduceEqDiff, or_true, true_or, or_false, false_or, and_false, false_and, Classical.not_not, true_implies, List.set_cons_zero, List.set_cons_succ, ne_eq, x_115_35, x_115_36, hkJK_66, hkP1_0, hkP1_2, hkP1_u, hkC8, List.map_cons, List.map_nil, List.sum_cons, List.sum_nil, hkCat_0, hkCat_1, hkCat_2, Nat.reduceAdd, Nat.reduceLeDiff, hkPush_s, hkPush_n, true_and, and_true, implies_true, true_implies, not_true_eq_false, not_false_eq_true, false_implies, hkTf_0, hkTf_n1, hkOr01, hkOr11, Int.reduceEq, Int.reduceLT, Int.reduceLE, hk102a, hk102b, hk102c, Nat.reduceEqDiff, or_true, true_or, or_false, false_or, and_false, false_and, Classical.not_not, true_implies, List.set_cons_zero, List.set_cons_succ, ne_eq, hkLe_t ht, x1]
    exact ⟨fun _ => hq, fun h => absurd (by omega) h⟩
  | succ k ih =>
    intro r c Q hk h0 hc0 hc4 hq
    obtain ⟨e3, e4, e5⟩ : hkW (c + 1) = c + 1 ∧ hkW (r + 1) = r + 1 ∧ hkW (c + 0) = c := ⟨hkW_in (by omega) (by omega), hkW_in (by omega) (by omega), by rw [hkW_in (by omega) (by omega)]; omega⟩
    unfold flC at hq
    rw [x_115_4]
    simp only [x_115_5, x_115_6, x_115_9, x_115_12, x_115_13, x_115_14, x_115_15, x_115_16, x_115_19, x_115_22, x_115_23, x_115_26, x_115_27, x_115_28, x_115_29, x_115_32, hkJK_66, hkP1_0, hkP1_2, hkP1_u, hkC8, List.map_cons, List.map_nil, List.sum_cons, List.sum_nil, hkCat_0, hkCat_1, hkCat_2, Nat.reduceAdd, Nat.reduceLeDiff, hkPush_s, hkPush_n, true_and, and_true, implies_true, true_implies, not_true_eq_false, not_false_eq_true, false_implies, hkTf_0, hkTf_n1, hkOr01, hkOr11, Int.reduceEq, Int.reduceLT, Int.reduceLE, hk102a, hk102b, hk102c, Nat.reduceEqDiff, or_true, true_or, or_false, false_or, and_false, false_and, Classical.not_not, true_implies, List.set_cons_zero, List.set_cons_succ, ne_eq, hkLe_t ht, x1, sx_mAt ht hX hi0 hi h0 (show r < 4 by omega), e3, e4, e5]
    clear e3 e4 e5
    refine ⟨fun h => by omega, fun _ => ⟨fun h => ?_, fun h => ?_⟩⟩
    · rw [if_neg (by omega)] at hq
      exact ih (r + 1) c Q (by omega) (by omega) hc0 (by omega) hq
    · rw [if_pos (by omega)] at hq
      exact ih (r + 1) (c + 1) Q (by omega) (by omega) (by omega) (by omega) hq
theorem sx_mFull (ht : 190 ≤ t) (hX : MX g R N) {i : Int} (hi0 : 0 ≤ i) (hi : i < bxC R N) : Xp 115 (d + 1) 0 [(2, 66), (0, i), hkU, hkU] [] t g Q = Q (some (0, bxF R N i)) t g := by
  obtain ⟨b1, b2, b3, b4⟩ := hX.1
  refine Xp_ev (d := 1) (Ev_of ?_) (by omega)
  simp only [x_115_0, x_115_1, x_115_2, x_115_3, hkJK_66, hkP1_0, hkP1_2, hkP1_u, hkC8, List.map_cons, List.map_nil, List.sum_cons, List.sum_nil, hkCat_0, hkCat_1, hkCat_2, Nat.reduceAdd, Nat.reduceLeDiff, hkPush_s, hkPush_n, true_and, and_true, implies_true, true_implies, not_true_eq_false, not_false_eq_true, false_implies, hkTf_0, hkTf_n1, hkOr01, hkOr11, Int.reduceEq, Int.reduceLT, Int.reduceLE, hk102a, hk102b, hk102c, Nat.reduceEqDiff, or_true, true_or, or_false, false_or, and_false, false_and, Classical.not_not, true_implies, List.set_cons_zero, List.set_cons_succ, ne_eq]
  exact l_mFull (d := 0) ht hX hi0 hi R.toNat 0 0 _ (by omega) (by omega) (by omega) (by omega) ⟨rfl, rfl, rfl⟩
end SP
/-- the word of the shape that is found -/
theorem bxI_w {R N w : Int} : ∀ (k : Nat) (i : Int), bxI R N w k = i → 0 ≤ i → bxW R N i = w ∧ i < k := by
  intro k
  induction k with
  | zero => intro i h h0; unfold bxI at h; omega
  | succ k ih =>
    intro i h h0
    unfold bxI at h
    by_cases e : bxW R N k = w
    · rw [if_pos e] at h
      subst h
      exact ⟨e, by omega⟩
    · rw [if_neg e] at h
      have := ih i h h0
      exact ⟨this.1, by omega⟩
