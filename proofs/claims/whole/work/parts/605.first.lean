/-! Products: the first shape of a product -/
section SP
variable {t d : Nat} {R N : Int}
/-- the first slot from s on, of k, that is taken -/
def fstS (R N i j q : Int) : Nat → Int → Int
  | 0, _ => -1
  | k + 1, s => if OFS R N i j s = 0 then fstS R N i j q k (s + 1) else bxA R N q s
def FSC (R N i j : Int) : Int := fstS R N i j ((bxZ R N i + bxZ R N j) % N) (bxK R N ((bxZ R N i + bxZ R N j) % N)) 0
theorem l_firstIn {g : hkG} {Q : Option hkV → Nat → hkG → Prop} (ht : 35 ≤ t) (hX : BX g R N) {i j q : Int} (hi0 : 0 ≤ i) (hi : i < 35) (hj0 : 0 ≤ j) (hj : j < 35) (hq0 : 0 ≤ q) (hq : q < N) (hO : ∀ s : Int, 0 ≤ s → s < 5 → g 14 ((35 * i + j) * 5 + s) = OFS R N i j s) : ∀ (k : Nat) (s : Int), s + k = bxK R N q → 0 ≤ s → Q (some (0, fstS R N i j q k s)) t g →
    Xp 59 d 18 [(2, 12), (0, i), (0, j), (0, q), (0, (35 * i + j) * 5), (0, s)] [] t g Q := by
  have hb := hX.1
  obtain ⟨b1, b2, b3, b4⟩ := id hb
  obtain ⟨x1, x2, x3, x4, x5, x6, x7, x8⟩ := BX_f hX
  obtain ⟨y1, y2⟩ := bx_A hb hq0 hq
  have hcq : g 6 q = (bxK R N q : Int) := by
    rw [x7 q hq0 hq]
    have := (bxCq_0 (R := R) (N := N) (q := q) (bxC R N).toNat).1
    unfold bxK; omega
  intro k
  induction k with
  | zero =>
    intro s hs hs0 hQ
    rw [x_59_18]
    simp only [x_59_20, x_59_21, x_59_24, x_59_27, x_59_28, x_59_29, hkJK_1, hkJK_12, hkJK_14, hkJK_5, hkJK_6, jA_12_0, jA_12_3, jA_1_7, jA_1_8, jL_14, jL_5, jL_6, jR_12_0, jR_12_3, jR_1_7, jR_1_8, hkP1_0, hkP1_2, hkP1_u, hkC8, List.map_cons, List.map_nil, List.sum_cons, List.sum_nil, hkCat_0, hkCat_1, hkCat_2, Nat.reduceAdd, Nat.reduceLeDiff, hkPush_s, hkPush_n, true_and, and_true, implies_true, true_implies, not_true_eq_false, not_false_eq_true, false_implies, hkTf_0, hkTf_n1, hkOr01, hkOr11, Int.reduceEq, Int.reduceLT, Int.reduceLE, hk102a, hk102b, hk102c, Nat.reduceEqDiff, or_true, true_or, or_false, false_or, and_false, false_and, Classical.not_not, true_implies, List.set_cons_zero, List.set_cons_succ, ne_eq, x_59_66, x_59_67, hkJK_1, hkJK_12, hkJK_14, hkJK_5, hkJK_6, jA_12_0, jA_12_3, jA_1_7, jA_1_8, jL_14, jL_5, jL_6, jR_12_0, jR_12_3, jR_1_7, jR_1_8, hkP1_0, hkP1_2, hkP1_u, hkC8, List.map_cons, List.map_nil, List.sum_cons, List.sum_nil, hkCat_0, hkCat_1, hkCat_2, Nat.reduceAdd, Nat.reduceLeDiff, hkPush_s, hkPush_n, true_and, and_true, implies_true, true_implies, not_true_eq_false, not_false_eq_true, false_implies, hkTf_0, hkTf_n1, hkOr01, hkOr11, Int.reduceEq, Int.reduceLT, Int.reduceLE, hk102a, hk102b, hk102c, Nat.reduceEqDiff, or_true, true_or, or_false, false_or, and_false, false_and, Classical.not_not, true_implies, List.set_cons_zero, List.set_cons_succ, ne_eq, hkLe_t ht, hcq]
    exact ⟨by omega, fun _ => hQ, fun h => absurd (by omega) h⟩
  | succ k ih =>
    intro s hs hs0 hQ
    obtain ⟨e1, e2, e3, e4⟩ : hkW ((35 * i + j) * 5 + s) = (35 * i + j) * 5 + s ∧ hkW (q * 5) = q * 5 ∧ hkW (q * 5 + s) = q * 5 + s ∧ hkW (s + 1) = s + 1 := ⟨hkW_in (by omega) (by omega), hkW_in (by omega) (by omega), hkW_in (by omega) (by omega), hkW_in (by omega) (by omega)⟩
    have hal : g 5 (q * 5 + s) = bxA R N q s := by
      obtain ⟨a1, a2, a3, a4⟩ := y2 s.toNat (by omega)
      rw [show ((s.toNat : Nat) : Int) = s from by omega] at a1 a2 a3 a4
      have := (x6 _ a1 a2).2.2.2
      rw [a3, a4] at this
      rw [← this, show 5 * q + s = q * 5 + s from by omega]
    rw [x_59_18]
    simp only [x_59_20, x_59_21, x_59_24, x_59_27, x_59_28, x_59_29, x_59_32, x_59_33, x_59_36, x_59_38, x_59_40, x_59_41, x_59_42, x_59_45, x_59_46, x_59_49, x_59_52, x_59_53, x_59_54, x_59_55, x_59_57, x_59_58, x_59_59, x_59_60, x_59_63, hkJK_1, hkJK_12, hkJK_14, hkJK_5, hkJK_6, jA_12_0, jA_12_3, jA_1_7, jA_1_8, jL_14, jL_5, jL_6, jR_12_0, jR_12_3, jR_1_7, jR_1_8, hkP1_0, hkP1_2, hkP1_u, hkC8, List.map_cons, List.map_nil, List.sum_cons, List.sum_nil, hkCat_0, hkCat_1, hkCat_2, Nat.reduceAdd, Nat.reduceLeDiff, hkPush_s, hkPush_n, true_and, and_true, implies_true, true_implies, not_true_eq_false, not_false_eq_true, false_implies, hkTf_0, hkTf_n1, hkOr01, hkOr11, Int.reduceEq, Int.reduceLT, Int.reduceLE, hk102a, hk102b, hk102c, Nat.reduceEqDiff, or_true, true_or, or_false, false_or, and_false, false_and, Classical.not_not, true_implies, List.set_cons_zero, List.set_cons_succ, ne_eq, hkLe_t ht, hcq, e1, e2, e3, e4, hal, hO s hs0 (by omega)]
    clear e1 e2 e3 e4
    unfold fstS at hQ
    refine ⟨by omega, fun h => absurd h (by omega), fun _ => ⟨by omega, fun h => ?_, fun h => ⟨by omega, ?_⟩⟩⟩
    · rw [if_pos h] at hQ
      exact ih (s + 1) (by omega) (by omega) hQ
    · rw [if_neg h] at hQ
      exact hQ
theorem sx_firstIn {g : hkG} {Q : Option hkV → Nat → hkG → Prop} (ht : 35 ≤ t) (hX : BX g R N) (hP : PST g R N) (hT : TBI g R N) {i j : Int} (hi0 : 0 ≤ i) (hi : i < bxC R N) (hj0 : 0 ≤ j) (hj : j < bxC R N)
    (hQ : ∀ g' : hkG, tbKeep g g' → TBI g' R N → Q (some (0, FSC R N i j)) t g') :
    Xp 59 (d + 9) 0 [(2, 12), (0, i), (0, j), hkU, hkU, hkU] [] t g Q := by
  have hb := hX.1
  obtain ⟨b1, b2, b3, b4⟩ := id hb
  obtain ⟨c1, c2⟩ := bx_C hb
  have zi := bx_zq hb hi0 hi
  have zj := bx_zq hb hj0 hj
  simp only [x_59_0, x_59_1, x_59_2, x_59_3, x_59_6, x_59_7, x_59_8, x_59_9, x_59_10, hkJK_1, hkJK_12, hkJK_14, hkJK_5, hkJK_6, jA_12_0, jA_12_3, jA_1_7, jA_1_8, jL_14, jL_5, jL_6, jR_12_0, jR_12_3, jR_1_7, jR_1_8, hkP1_0, hkP1_2, hkP1_u, hkC8, List.map_cons, List.map_nil, List.sum_cons, List.sum_nil, hkCat_0, hkCat_1, hkCat_2, Nat.reduceAdd, Nat.reduceLeDiff, hkPush_s, hkPush_n, true_and, and_true, implies_true, true_implies, not_true_eq_false, not_false_eq_true, false_implies, hkTf_0, hkTf_n1, hkOr01, hkOr11, Int.reduceEq, Int.reduceLT, Int.reduceLE, hk102a, hk102b, hk102c, Nat.reduceEqDiff, or_true, true_or, or_false, false_or, and_false, false_and, Classical.not_not, true_implies, List.set_cons_zero, List.set_cons_succ, ne_eq, hkLe_t ht, sx_restOf ht hX hi0 hi hj0 hj]
  refine sx_placeOf ht hX hP hT hi0 hi hj0 hj (fun g' k1 k2 k3 => ?_)
  simp only [x_59_13, x_59_15, x_59_16, hkJK_1, hkJK_12, hkJK_14, hkJK_5, hkJK_6, jA_12_0, jA_12_3, jA_1_7, jA_1_8, jL_14, jL_5, jL_6, jR_12_0, jR_12_3, jR_1_7, jR_1_8, hkP1_0, hkP1_2, hkP1_u, hkC8, List.map_cons, List.map_nil, List.sum_cons, List.sum_nil, hkCat_0, hkCat_1, hkCat_2, Nat.reduceAdd, Nat.reduceLeDiff, hkPush_s, hkPush_n, true_and, and_true, implies_true, true_implies, not_true_eq_false, not_false_eq_true, false_implies, hkTf_0, hkTf_n1, hkOr01, hkOr11, Int.reduceEq, Int.reduceLT, Int.reduceLE, hk102a, hk102b, hk102c, Nat.reduceEqDiff, or_true, true_or, or_false, false_or, and_false, false_and, Classical.not_not, true_implies, List.set_cons_zero, List.set_cons_succ, ne_eq]
  exact l_firstIn ht (BX_row hX (fun p p1 p2 => k1 p (by omega) (by omega))) hi0 (by omega) hj0 (by omega) (Int.emod_nonneg _ (by omega)) (Int.emod_lt_of_pos _ (by omega)) (fun s s0 s5 => (k3 s s0 s5).1) _ 0 (by omega) (by decide) (hQ g' k1 k2)
end SP
