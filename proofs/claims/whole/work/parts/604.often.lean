/-! Products: often, restOf, turnsTo, firstIn -/
theorem bx_zq {R N i : Int} (hb : bxOk R N) (hi0 : 0 ≤ i) (hi : i < bxC R N) : 0 ≤ bxZ R N i ∧ bxZ R N i ≤ 12 := by
  obtain ⟨b1, b2, b3, b4⟩ := id hb
  obtain ⟨s1, s2, s3, s4, s5, s6⟩ := bx_sh hb hi0 hi
  have h0 := s1 0 (by decide) (by decide)
  have h1 := s1 1 (by decide) (by decide)
  have h2 := s1 2 (by decide) (by decide)
  have h3 := s1 3 (by decide) (by decide)
  omega
section SP
variable {t d : Nat} {R N : Int}
/-- the class's answer to OFTEN -/
def OFC (R N i j l : Int) : Int := if (bxZ R N i + bxZ R N j - bxZ R N l).tmod N = 0 then OFS R N i j (bxSl R N l) else 0
theorem sx_often {g : hkG} {Q : Option hkV → Nat → hkG → Prop} (ht : 35 ≤ t) (hX : BX g R N) (hP : PST g R N) (hT : TBI g R N) {i j l : Int} (hi0 : 0 ≤ i) (hi : i < bxC R N) (hj0 : 0 ≤ j) (hj : j < bxC R N) (hl0 : 0 ≤ l) (hl : l < bxC R N)
    (hQ : ∀ g' : hkG, tbKeep g g' → TBI g' R N → Q (some (0, OFC R N i j l)) t g') :
    Xp 53 (d + 9) 0 [(2, 12), (0, i), (0, j), (0, l)] [] t g Q := by
  have hb := hX.1
  obtain ⟨b1, b2, b3, b4⟩ := id hb
  obtain ⟨c1, c2⟩ := bx_C hb
  obtain ⟨x1, x2, x3, x4, x5, x6, x7, x8⟩ := BX_f hX
  obtain ⟨yi, -⟩ := x6 i hi0 hi
  obtain ⟨yj, -⟩ := x6 j hj0 hj
  obtain ⟨yl, -, yl7, -⟩ := x6 l hl0 hl
  have zi := bx_zq hb hi0 hi
  have zj := bx_zq hb hj0 hj
  have zl := bx_zq hb hl0 hl
  have hN0 : ¬ N = 0 := by omega
  have s4 := (bx_sh hb hl0 hl).2.2.2.1
  have hS0 : 0 ≤ bxSl R N l := (bxCq_0 _).1
  obtain ⟨e1, e2⟩ : hkW (bxZ R N i + bxZ R N j) = bxZ R N i + bxZ R N j ∧ hkW (bxZ R N i + bxZ R N j - bxZ R N l) = bxZ R N i + bxZ R N j - bxZ R N l := ⟨hkW_in (by omega) (by omega), hkW_in (by omega) (by omega)⟩
  simp only [x_53_0, x_53_1, x_53_4, x_53_7, x_53_8, x_53_9, x_53_10, x_53_13, x_53_16, x_53_17, x_53_18, x_53_19, x_53_20, x_53_23, x_53_26, x_53_27, x_53_28, x_53_29, x_53_30, x_53_33, x_53_36, x_53_37, x_53_40, x_53_41, x_53_42, x_53_43, x_53_46, x_53_47, x_53_48, x_53_49, x_53_52, x_53_53, x_53_56, x_53_59, x_53_60, x_53_61, x_53_62, x_53_63, hkJK_1, hkJK_12, hkJK_14, hkJK_3, hkJK_7, jA_12_0, jA_12_3, jA_1_5, jA_1_9, jL_14, jL_3, jL_7, jR_12_0, jR_12_3, jR_1_5, jR_1_9, hkP1_0, hkP1_2, hkP1_u, hkC8, List.map_cons, List.map_nil, List.sum_cons, List.sum_nil, hkCat_0, hkCat_1, hkCat_2, Nat.reduceAdd, Nat.reduceLeDiff, hkPush_s, hkPush_n, true_and, and_true, implies_true, true_implies, not_true_eq_false, not_false_eq_true, false_implies, hkTf_0, hkTf_n1, hkOr01, hkOr11, Int.reduceEq, Int.reduceLT, Int.reduceLE, hk102a, hk102b, hk102c, Nat.reduceEqDiff, or_true, true_or, or_false, false_or, and_false, false_and, Classical.not_not, true_implies, List.set_cons_zero, List.set_cons_succ, ne_eq, hkLe_t ht, yi, yj, yl, e1, e2, x2, hN0]
  clear e1 e2
  refine ⟨by omega, by omega, by omega, fun h => ?_, fun h => ?_⟩
  · refine sx_placeOf ht hX hP hT hi0 hi hj0 hj (fun g' k1 k2 k3 => ?_)
    refine ⟨by omega, by omega, by omega, ?_⟩
    have e1 : hkW ((35 * i + j) * 5 + bxSl R N l) = (35 * i + j) * 5 + bxSl R N l := hkW_in (by omega) (by omega)
    rw [show g' 7 l = bxSl R N l from by rw [k1 7 (by decide) (by decide)]; exact yl7]
    simp only [x_53_61, x_53_62, x_53_63, hkJK_1, hkJK_12, hkJK_14, hkJK_3, hkJK_7, jA_12_0, jA_12_3, jA_1_5, jA_1_9, jL_14, jL_3, jL_7, jR_12_0, jR_12_3, jR_1_5, jR_1_9, hkP1_0, hkP1_2, hkP1_u, hkC8, List.map_cons, List.map_nil, List.sum_cons, List.sum_nil, hkCat_0, hkCat_1, hkCat_2, Nat.reduceAdd, Nat.reduceLeDiff, hkPush_s, hkPush_n, true_and, and_true, implies_true, true_implies, not_true_eq_false, not_false_eq_true, false_implies, hkTf_0, hkTf_n1, hkOr01, hkOr11, Int.reduceEq, Int.reduceLT, Int.reduceLE, hk102a, hk102b, hk102c, Nat.reduceEqDiff, or_true, true_or, or_false, false_or, and_false, false_and, Classical.not_not, true_implies, List.set_cons_zero, List.set_cons_succ, ne_eq, e1, (k3 (bxSl R N l) hS0 (by omega)).1]
    clear e1
    refine ⟨by omega, ?_⟩
    have := hQ g' k1 k2
    unfold OFC at this
    rw [if_pos h] at this
    exact this
  · have := hQ g (fun _ _ _ => rfl) hT
    unfold OFC at this
    rw [if_neg h] at this
    exact this
theorem sx_restOf {g : hkG} {Q : Option hkV → Nat → hkG → Prop} (ht : 35 ≤ t) (hX : BX g R N) {i j : Int} (hi0 : 0 ≤ i) (hi : i < bxC R N) (hj0 : 0 ≤ j) (hj : j < bxC R N) :
    Xp 58 d 0 [(2, 12), (0, i), (0, j)] [] t g Q = Q (some (0, (bxZ R N i + bxZ R N j) % N)) t g := by
  refine Xp_ev (d := 0) (Ev_of ?_) (Nat.zero_le _)
  have hb := hX.1
  obtain ⟨b1, b2, b3, b4⟩ := id hb
  obtain ⟨c1, c2⟩ := bx_C hb
  obtain ⟨x1, x2, x3, x4, x5, x6, x7, x8⟩ := BX_f hX
  obtain ⟨yi, -⟩ := x6 i hi0 hi
  obtain ⟨yj, -⟩ := x6 j hj0 hj
  have zi := bx_zq hb hi0 hi
  have zj := bx_zq hb hj0 hj
  have hN0 : ¬ N = 0 := by omega
  have e1 : hkW (bxZ R N i + bxZ R N j) = bxZ R N i + bxZ R N j := hkW_in (by omega) (by omega)
  simp only [x_58_0, x_58_1, x_58_4, x_58_7, x_58_8, x_58_9, x_58_10, x_58_13, x_58_16, x_58_17, x_58_18, x_58_19, x_58_20, x_58_23, x_58_26, x_58_27, hkJK_1, hkJK_12, hkJK_3, jA_12_0, jA_1_5, jL_3, jR_12_0, jR_1_5, hkP1_0, hkP1_2, hkP1_u, hkC8, List.map_cons, List.map_nil, List.sum_cons, List.sum_nil, hkCat_0, hkCat_1, hkCat_2, Nat.reduceAdd, Nat.reduceLeDiff, hkPush_s, hkPush_n, true_and, and_true, implies_true, true_implies, not_true_eq_false, not_false_eq_true, false_implies, hkTf_0, hkTf_n1, hkOr01, hkOr11, Int.reduceEq, Int.reduceLT, Int.reduceLE, hk102a, hk102b, hk102c, Nat.reduceEqDiff, or_true, true_or, or_false, false_or, and_false, false_and, Classical.not_not, true_implies, List.set_cons_zero, List.set_cons_succ, ne_eq, hkLe_t ht, yi, yj, e1, x2, hN0]
  clear e1
  exact ⟨by omega, by omega, by rw [Int.tmod_eq_emod_of_nonneg (by omega)]⟩
theorem sx_turnsTo {g : hkG} {Q : Option hkV → Nat → hkG → Prop} (ht : 35 ≤ t) (hX : BX g R N) {i j l : Int} (hi0 : 0 ≤ i) (hi : i < bxC R N) (hj0 : 0 ≤ j) (hj : j < bxC R N) (hl0 : 0 ≤ l) (hl : l < bxC R N) :
    Xp 57 d 0 [(2, 12), (0, i), (0, j), (0, l)] [] t g Q = Q (some (0, (bxZ R N i + bxZ R N j - bxZ R N l).tdiv N)) t g := by
  refine Xp_ev (d := 0) (Ev_of ?_) (Nat.zero_le _)
  have hb := hX.1
  obtain ⟨b1, b2, b3, b4⟩ := id hb
  obtain ⟨c1, c2⟩ := bx_C hb
  obtain ⟨x1, x2, x3, x4, x5, x6, x7, x8⟩ := BX_f hX
  obtain ⟨yi, -⟩ := x6 i hi0 hi
  obtain ⟨yj, -⟩ := x6 j hj0 hj
  obtain ⟨yl, -⟩ := x6 l hl0 hl
  have zi := bx_zq hb hi0 hi
  have zj := bx_zq hb hj0 hj
  have zl := bx_zq hb hl0 hl
  have hN0 : ¬ N = 0 := by omega
  obtain ⟨e1, e2⟩ : hkW (bxZ R N i + bxZ R N j) = bxZ R N i + bxZ R N j ∧ hkW (bxZ R N i + bxZ R N j - bxZ R N l) = bxZ R N i + bxZ R N j - bxZ R N l := ⟨hkW_in (by omega) (by omega), hkW_in (by omega) (by omega)⟩
  simp only [x_57_0, x_57_1, x_57_4, x_57_7, x_57_8, x_57_9, x_57_10, x_57_13, x_57_16, x_57_17, x_57_18, x_57_19, x_57_20, x_57_23, x_57_26, x_57_27, x_57_28, x_57_29, x_57_30, x_57_33, x_57_36, x_57_37, hkJK_1, hkJK_12, hkJK_3, jA_12_0, jA_1_5, jL_3, jR_12_0, jR_1_5, hkP1_0, hkP1_2, hkP1_u, hkC8, List.map_cons, List.map_nil, List.sum_cons, List.sum_nil, hkCat_0, hkCat_1, hkCat_2, Nat.reduceAdd, Nat.reduceLeDiff, hkPush_s, hkPush_n, true_and, and_true, implies_true, true_implies, not_true_eq_false, not_false_eq_true, false_implies, hkTf_0, hkTf_n1, hkOr01, hkOr11, Int.reduceEq, Int.reduceLT, Int.reduceLE, hk102a, hk102b, hk102c, Nat.reduceEqDiff, or_true, true_or, or_false, false_or, and_false, false_and, Classical.not_not, true_implies, List.set_cons_zero, List.set_cons_succ, ne_eq, hkLe_t ht, yi, yj, yl, e1, e2, x2, hN0]
  clear e1 e2
  refine ⟨by omega, by omega, by omega, ?_⟩
  have h1 : -24 ≤ (bxZ R N i + bxZ R N j - bxZ R N l).tdiv N ∧ (bxZ R N i + bxZ R N j - bxZ R N l).tdiv N ≤ 24 := by
    generalize hx : bxZ R N i + bxZ R N j - bxZ R N l = x
    by_cases hx0 : 0 ≤ x
    · rw [Int.tdiv_eq_ediv_of_nonneg hx0]
      have a1 := Int.ediv_nonneg hx0 (show 0 ≤ N by omega)
      have a2 := Int.ediv_le_self N hx0
      omega
    · have a1 := Int.ediv_nonneg (show 0 ≤ -x by omega) (show 0 ≤ N by omega)
      have a2 := Int.ediv_le_self N (show 0 ≤ -x by omega)
      have a3 : x.tdiv N = -((-x) / N) := by
        rw [← Int.tdiv_eq_ediv_of_nonneg (show 0 ≤ -x by omega), Int.neg_tdiv, Int.neg_neg]
      omega
  rw [hkW_in (by omega) (by omega)]
end SP
