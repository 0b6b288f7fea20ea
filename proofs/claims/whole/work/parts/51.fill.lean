/-! rows filled; the memory's own algebra -/
def hkFil (g : hkG) (p a b v : Int) : hkG := fun q j => if q = p ∧ a ≤ j ∧ j < b then v else g q j
theorem hkFil_0 {g : hkG} {p a v : Int} : hkFil g p a a v = g := by
  funext q j; unfold hkFil; rw [if_neg (by omega)]
theorem hkFil_s {g : hkG} {p a b v : Int} (h : a ≤ b) : hkSet (hkFil g p a b v) p b v = hkFil g p a (b + 1) v := by
  funext q j
  unfold hkSet hkFil
  by_cases h1 : q = p ∧ j = b
  · rw [if_pos h1, if_pos (by omega)]
  · rw [if_neg h1]
    by_cases h2 : q = p ∧ a ≤ j ∧ j < b
    · rw [if_pos h2, if_pos (by omega)]
    · rw [if_neg h2, if_neg (by omega)]
theorem hkFil_in {g : hkG} {p a b v j : Int} (h1 : a ≤ j) (h2 : j < b) : hkFil g p a b v p j = v := by unfold hkFil; rw [if_pos ⟨rfl, h1, h2⟩]
theorem hkFil_out {g : hkG} {p a b v q j : Int} (h : ¬ (q = p ∧ a ≤ j ∧ j < b)) : hkFil g p a b v q j = g q j := by unfold hkFil; rw [if_neg h]
theorem hkFil_row {g : hkG} {p a b v q : Int} (h : q ≠ p) : hkFil g p a b v q = g q := by funext j; exact hkFil_out (fun h2 => h h2.1)
theorem hkCpy_in {g : hkG} {p i q j n k : Int} (h1 : j ≤ k) (h2 : k < j + n) : hkCpy g p i q j n q k = g p (i + (k - j)) := by unfold hkCpy; rw [if_pos ⟨rfl, h1, h2⟩]
theorem hkCpy_out {g : hkG} {p i q j n r k : Int} (h : ¬ (r = q ∧ j ≤ k ∧ k < j + n)) : hkCpy g p i q j n r k = g r k := by unfold hkCpy; rw [if_neg h]
theorem hkCpy_row {g : hkG} {p i q j n r : Int} (h : r ≠ q) : hkCpy g p i q j n r = g r := by funext k; exact hkCpy_out (fun h2 => h h2.1)
theorem hkSet_rd {g : hkG} {p i v q j : Int} : hkSet g p i v q j = if q = p ∧ j = i then v else g q j := rfl
theorem hkFil_rd {g : hkG} {p a b v q j : Int} : hkFil g p a b v q j = if q = p ∧ a ≤ j ∧ j < b then v else g q j := rfl
theorem hkCpy_rd {g : hkG} {p i q j n r k : Int} : hkCpy g p i q j n r k = if r = q ∧ j ≤ k ∧ k < j + n then g p (i + (k - j)) else g r k := rfl
section SP
variable {t d : Nat} {g : hkG} {Q : Option hkV → Nat → hkG → Prop}
theorem l_fill {p v : Int} (hk : hkJK p = 100) (hL : jL p ≤ 100000) : ∀ (k : Nat) (i : Int) (g0 : hkG), i + k = jL p → 0 ≤ i → Q none t (hkFil g0 p i (jL p) v) → Xp 179 d 5 [(2, p), (0, v), (0, i), (0, jL p)] [] t g0 Q := by
  intro k
  induction k with
  | zero =>
    intro i g0 hi h0 hq
    rw [show i = jL p from by omega] at hq ⊢
    rw [x_179_5]
    simp only [x_179_0, x_179_1, x_179_2, x_179_3, x_179_4, x_179_6, x_179_7, x_179_10, x_179_11, x_179_12, x_179_13, x_179_14, x_179_17, x_179_20, hkP1_0, hkP1_2, hkP1_u, hkC8, List.map_cons, List.map_nil, List.sum_cons, List.sum_nil, hkCat_0, hkCat_1, hkCat_2, Nat.reduceAdd, Nat.reduceLeDiff, hkPush_s, hkPush_n, true_and, and_true, implies_true, true_implies, not_true_eq_false, not_false_eq_true, false_implies, hkTf_0, hkTf_n1, hkOr01, hkOr11, Int.reduceEq, Int.reduceLT, Int.reduceLE, hk102a, hk102b, hk102c, Nat.reduceEqDiff, or_true, true_or, or_false, false_or, and_false, false_and, Classical.not_not, true_implies, List.set_cons_zero, List.set_cons_succ, ne_eq]
    refine ⟨fun _ => ?_, fun h => absurd (Int.le_refl _) h⟩
    rw [hkFil_0] at hq
    exact hq
  | succ k ih =>
    intro i g0 hi h0 hq
    rw [x_179_5]
    simp only [x_179_0, x_179_1, x_179_2, x_179_3, x_179_4, x_179_6, x_179_7, x_179_10, x_179_11, x_179_12, x_179_13, x_179_14, x_179_17, x_179_20, hkP1_0, hkP1_2, hkP1_u, hkC8, List.map_cons, List.map_nil, List.sum_cons, List.sum_nil, hkCat_0, hkCat_1, hkCat_2, Nat.reduceAdd, Nat.reduceLeDiff, hkPush_s, hkPush_n, true_and, and_true, implies_true, true_implies, not_true_eq_false, not_false_eq_true, false_implies, hkTf_0, hkTf_n1, hkOr01, hkOr11, Int.reduceEq, Int.reduceLT, Int.reduceLE, hk102a, hk102b, hk102c, Nat.reduceEqDiff, or_true, true_or, or_false, false_or, and_false, false_and, Classical.not_not, true_implies, List.set_cons_zero, List.set_cons_succ, ne_eq, hk]
    refine ⟨fun h => by omega, fun _ => ⟨⟨h0, by omega⟩, ?_⟩⟩
    rw [hkW_in (by omega) (by omega)]
    refine ih (i + 1) (hkSet g0 p i v) (by omega) (by omega) ?_
    have : hkFil (hkSet g0 p i v) p (i + 1) (jL p) v = hkFil g0 p i (jL p) v := by
      (funext q j; simp only [hkSet, hkFil, hkCpy]; (repeat' split) <;> first | rfl | (exfalso; omega) | (congr 1; omega))
    rw [this]; exact hq
theorem sx_fill {p v : Int} (hk : hkJK p = 100) (hL : 0 ≤ jL p ∧ jL p ≤ 100000) : Xp 179 d 0 [(2, p), (0, v), hkU, hkU] [] t g Q = Q none t (hkFil g p 0 (jL p) v) := by
  refine Xp_ev (d := 0) (Ev_of ?_) (Nat.zero_le _)
  simp only [x_179_0, x_179_1, x_179_2, x_179_3, x_179_4, hkP1_0, hkP1_2, hkP1_u, hkC8, List.map_cons, List.map_nil, List.sum_cons, List.sum_nil, hkCat_0, hkCat_1, hkCat_2, Nat.reduceAdd, Nat.reduceLeDiff, hkPush_s, hkPush_n, true_and, and_true, implies_true, true_implies, not_true_eq_false, not_false_eq_true, false_implies, hkTf_0, hkTf_n1, hkOr01, hkOr11, Int.reduceEq, Int.reduceLT, Int.reduceLE, hk102a, hk102b, hk102c, Nat.reduceEqDiff, or_true, true_or, or_false, false_or, and_false, false_and, Classical.not_not, true_implies, List.set_cons_zero, List.set_cons_succ, ne_eq, hk]
  exact l_fill hk hL.2 (jL p).toNat 0 g (by omega) (Int.le_refl _) ⟨rfl, rfl, rfl⟩
theorem l_fillr {p v b : Int} (hk : hkJK p = 100) (hb : b ≤ jL p) (hL : jL p ≤ 100000) {a : Int} : ∀ (k : Nat) (i : Int) (g0 : hkG), i + k = b → 0 ≤ i → Q none t (hkFil g0 p i b v) → Xp 180 d 10 [(2, p), (0, a), (0, b), (0, v), (0, i)] [] t g0 Q := by
  intro k
  induction k with
  | zero =>
    intro i g0 hi h0 hq
    rw [show i = b from by omega] at hq ⊢
    rw [x_180_10]
    simp only [x_180_0, x_180_1, x_180_2, x_180_3, x_180_4, x_180_7, x_180_8, x_180_12, x_180_13, x_180_16, x_180_17, x_180_19, x_180_20, x_180_21, x_180_24, x_180_27, hkP1_0, hkP1_2, hkP1_u, hkC8, List.map_cons, List.map_nil, List.sum_cons, List.sum_nil, hkCat_0, hkCat_1, hkCat_2, Nat.reduceAdd, Nat.reduceLeDiff, hkPush_s, hkPush_n, true_and, and_true, implies_true, true_implies, not_true_eq_false, not_false_eq_true, false_implies, hkTf_0, hkTf_n1, hkOr01, hkOr11, Int.reduceEq, Int.reduceLT, Int.reduceLE, hk102a, hk102b, hk102c, Nat.reduceEqDiff, or_true, true_or, or_false, false_or, and_false, false_and, Classical.not_not, true_implies, List.set_cons_zero, List.set_cons_succ, ne_eq]
    refine ⟨fun _ => ?_, fun h => absurd (Int.le_refl _) h⟩
    rw [hkFil_0] at hq
    exact hq
  | succ k ih =>
    intro i g0 hi h0 hq
    rw [x_180_10]
    simp only [x_180_0, x_180_1, x_180_2, x_180_3, x_180_4, x_180_7, x_180_8, x_180_12, x_180_13, x_180_16, x_180_17, x_180_19, x_180_20, x_180_21, x_180_24, x_180_27, hkP1_0, hkP1_2, hkP1_u, hkC8, List.map_cons, List.map_nil, List.sum_cons, List.sum_nil, hkCat_0, hkCat_1, hkCat_2, Nat.reduceAdd, Nat.reduceLeDiff, hkPush_s, hkPush_n, true_and, and_true, implies_true, true_implies, not_true_eq_false, not_false_eq_true, false_implies, hkTf_0, hkTf_n1, hkOr01, hkOr11, Int.reduceEq, Int.reduceLT, Int.reduceLE, hk102a, hk102b, hk102c, Nat.reduceEqDiff, or_true, true_or, or_false, false_or, and_false, false_and, Classical.not_not, true_implies, List.set_cons_zero, List.set_cons_succ, ne_eq, hk]
    refine ⟨fun h => by omega, fun _ => ⟨⟨h0, by omega⟩, ?_⟩⟩
    rw [hkW_in (by omega) (by omega)]
    refine ih (i + 1) (hkSet g0 p i v) (by omega) (by omega) ?_
    have : hkFil (hkSet g0 p i v) p (i + 1) b v = hkFil g0 p i b v := by
      (funext q j; simp only [hkSet, hkFil, hkCpy]; (repeat' split) <;> first | rfl | (exfalso; omega) | (congr 1; omega))
    rw [this]; exact hq
theorem sx_rchk {L a b : Int} (h1 : 0 ≤ a) (h2 : a ≤ b) (h3 : b ≤ L) : Xp 181 d 0 [(0, L), (0, a), (0, b)] [] t g Q = Q none t g := by
  refine Xp_ev (d := 0) (Ev_of ?_) (Nat.zero_le _)
  simp only [x_181_0, x_181_1, x_181_2, x_181_21, x_181_30, x_181_46, x_181_47, x_181_54, x_181_59, x_181_60, x_181_61, x_181_68, x_181_73, hkP1_0, hkP1_2, hkP1_u, hkC8, List.map_cons, List.map_nil, List.sum_cons, List.sum_nil, hkCat_0, hkCat_1, hkCat_2, Nat.reduceAdd, Nat.reduceLeDiff, hkPush_s, hkPush_n, true_and, and_true, implies_true, true_implies, not_true_eq_false, not_false_eq_true, false_implies, hkTf_0, hkTf_n1, hkOr01, hkOr11, Int.reduceEq, Int.reduceLT, Int.reduceLE, hk102a, hk102b, hk102c, Nat.reduceEqDiff, or_true, true_or, or_false, false_or, and_false, false_and, Classical.not_not, true_implies, List.set_cons_zero, List.set_cons_succ, ne_eq]
  exact ⟨fun _ => ⟨fun _ => fun h => absurd h3 h, fun h => absurd h1 h⟩, fun h => absurd h2 h⟩
theorem sx_fillr {p v a b : Int} (hk : hkJK p = 100) (h1 : 0 ≤ a) (h2 : a ≤ b) (h3 : b ≤ jL p) (hL : jL p ≤ 100000) : Xp 180 (d + 1) 0 [(2, p), (0, a), (0, b), (0, v), hkU] [] t g Q = Q none t (hkFil g p a b v) := by
  refine Xp_ev (d := 1) (Ev_of ?_) (Nat.le_add_left _ _)
  simp only [x_180_0, x_180_1, x_180_2, x_180_3, x_180_4, x_180_7, x_180_8, hkP1_0, hkP1_2, hkP1_u, hkC8, List.map_cons, List.map_nil, List.sum_cons, List.sum_nil, hkCat_0, hkCat_1, hkCat_2, Nat.reduceAdd, Nat.reduceLeDiff, hkPush_s, hkPush_n, true_and, and_true, implies_true, true_implies, not_true_eq_false, not_false_eq_true, false_implies, hkTf_0, hkTf_n1, hkOr01, hkOr11, Int.reduceEq, Int.reduceLT, Int.reduceLE, hk102a, hk102b, hk102c, Nat.reduceEqDiff, or_true, true_or, or_false, false_or, and_false, false_and, Classical.not_not, true_implies, List.set_cons_zero, List.set_cons_succ, ne_eq, hk, sx_rchk h1 h2 h3]
  exact l_fillr hk h3 hL (b - a).toNat a g (by omega) h1 ⟨rfl, rfl, rfl⟩
theorem l_fillL {p v : Int} (hk : hkJK p = 101) (hL : jL p ≤ 100000) : ∀ (k : Nat) (i : Int) (g0 : hkG), i + k = jL p → 0 ≤ i → Q none t (hkFil g0 p i (jL p) v) → Xp 182 d 6 [(2, p), (1, v), hkU, (0, i), (0, jL p)] [] t g0 Q := by
  intro k
  induction k with
  | zero =>
    intro i g0 hi h0 hq
    rw [show i = jL p from by omega] at hq ⊢
    rw [x_182_6]
    simp only [x_182_0, x_182_1, x_182_2, x_182_3, x_182_4, x_182_7, x_182_9, x_182_12, x_182_13, x_182_14, x_182_15, x_182_16, x_182_19, x_182_22, hkP1_0, hkP1_2, hkP1_u, hkC8, List.map_cons, List.map_nil, List.sum_cons, List.sum_nil, hkCat_0, hkCat_1, hkCat_2, Nat.reduceAdd, Nat.reduceLeDiff, hkPush_s, hkPush_n, true_and, and_true, implies_true, true_implies, not_true_eq_false, not_false_eq_true, false_implies, hkTf_0, hkTf_n1, hkOr01, hkOr11, Int.reduceEq, Int.reduceLT, Int.reduceLE, hk102a, hk102b, hk102c, Nat.reduceEqDiff, or_true, true_or, or_false, false_or, and_false, false_and, Classical.not_not, true_implies, List.set_cons_zero, List.set_cons_succ, ne_eq]
    refine ⟨fun _ => ?_, fun h => absurd (Int.le_refl _) h⟩
    rw [hkFil_0] at hq
    exact hq
  | succ k ih =>
    intro i g0 hi h0 hq
    rw [x_182_6]
    simp only [x_182_0, x_182_1, x_182_2, x_182_3, x_182_4, x_182_7, x_182_9, x_182_12, x_182_13, x_182_14, x_182_15, x_182_16, x_182_19, x_182_22, hkP1_0, hkP1_2, hkP1_u, hkC8, List.map_cons, List.map_nil, List.sum_cons, List.sum_nil, hkCat_0, hkCat_1, hkCat_2, Nat.reduceAdd, Nat.reduceLeDiff, hkPush_s, hkPush_n, true_and, and_true, implies_true, true_implies, not_true_eq_false, not_false_eq_true, false_implies, hkTf_0, hkTf_n1, hkOr01, hkOr11, Int.reduceEq, Int.reduceLT, Int.reduceLE, hk102a, hk102b, hk102c, Nat.reduceEqDiff, or_true, true_or, or_false, false_or, and_false, false_and, Classical.not_not, true_implies, List.set_cons_zero, List.set_cons_succ, ne_eq, hk]
    refine ⟨fun h => by omega, fun _ => ⟨⟨h0, by omega⟩, ?_⟩⟩
    rw [hkW_in (by omega) (by omega)]
    refine ih (i + 1) (hkSet g0 p i v) (by omega) (by omega) ?_
    have : hkFil (hkSet g0 p i v) p (i + 1) (jL p) v = hkFil g0 p i (jL p) v := by
      (funext q j; simp only [hkSet, hkFil, hkCpy]; (repeat' split) <;> first | rfl | (exfalso; omega) | (congr 1; omega))
    rw [this]; exact hq
theorem sx_fillL {p v : Int} (hk : hkJK p = 101) (hL : 0 ≤ jL p ∧ jL p ≤ 100000) : Xp 182 d 0 [(2, p), (1, v), hkU, hkU, hkU] [] t g Q = Q none t (hkFil g p 0 (jL p) v) := by
  refine Xp_ev (d := 0) (Ev_of ?_) (Nat.zero_le _)
  simp only [x_182_0, x_182_1, x_182_2, x_182_3, x_182_4, hkP1_0, hkP1_2, hkP1_u, hkC8, List.map_cons, List.map_nil, List.sum_cons, List.sum_nil, hkCat_0, hkCat_1, hkCat_2, Nat.reduceAdd, Nat.reduceLeDiff, hkPush_s, hkPush_n, true_and, and_true, implies_true, true_implies, not_true_eq_false, not_false_eq_true, false_implies, hkTf_0, hkTf_n1, hkOr01, hkOr11, Int.reduceEq, Int.reduceLT, Int.reduceLE, hk102a, hk102b, hk102c, Nat.reduceEqDiff, or_true, true_or, or_false, false_or, and_false, false_and, Classical.not_not, true_implies, List.set_cons_zero, List.set_cons_succ, ne_eq, hk]
  exact l_fillL hk hL.2 (jL p).toNat 0 g (by omega) (Int.le_refl _) ⟨rfl, rfl, rfl⟩
end SP
