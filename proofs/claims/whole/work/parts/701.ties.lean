/-! ties: often, times -/
section SP
variable {t d : Nat} {g : hkG} {R N : Int} {Q : Option hkV → Nat → hkG → Prop}
theorem sx_isOff {a b c : Int} : Xp 2 d 0 [(0, a), (0, b), (0, c)] [] t g Q = Q (some (0, hkTf (a < b ∨ c < a))) t g := Xp_ev s_isOff (Nat.zero_le _)
theorem sx_isShape (ht : 190 ≤ t) (hX : BX g R N) {i : Int} : Xp 39 d 0 [(2, 1), (0, i)] [] t g Q = Q (some (0, hkTf (0 ≤ i ∧ i < bxC R N))) t g := by
  rw [Xp_ev (s_isShape ht) (Nat.zero_le _), (BX_f hX).2.2.2.1]
theorem RB_tb {g' : hkG} (hb : RB g R N) (k1 : tbKeep g g') (k2 : TBI g' R N) : RB g' R N := by
  obtain ⟨hX, hP, hT, hRD, hM, hF⟩ := id hb
  exact RB_q hb (qKeep_tb k1) k2 (by rw [k1 17 (by decide) (by decide)]; rcases hRD with h | h; exact Or.inl h; exact Or.inr ⟨h.1, RDY_row h.2 (k1 19 (by decide) (by decide)) (k1 20 (by decide) (by decide))⟩) (by unfold MF; rw [k1 71 (by decide) (by decide), k1 70 (by decide) (by decide)]; exact hF)
theorem RB_mf {g' : hkG} (hb : RB g R N) (k1 : mfKeep g g') (k2 : MF g' R N) : RB g' R N := by
  obtain ⟨hX, hP, hT, hRD, hM, hF⟩ := id hb
  have f : ∀ q : Int, q ≤ 60 → g' q = g q := fun q hq => k1.1 q (by omega) (by omega) (by omega) (by omega) (by omega) (by omega) (by omega) (by omega)
  exact RB_q hb (qKeep_mf k1) (by unfold TBI; rw [f 14 (by decide)]; exact hT) (by rw [f 17 (by decide)]; rcases hRD with h | h; exact Or.inl h; exact Or.inr ⟨h.1, RDY_row h.2 (f 19 (by decide)) (f 20 (by decide))⟩) k2
theorem r_often (ht : 190 ≤ t) (hb : RB g R N) {i j l : Int} (i0 : 0 ≤ i) (i1 : i < bxC R N) (j0 : 0 ≤ j) (j1 : j < bxC R N) (l0 : 0 ≤ l) (l1 : l < bxC R N) (hQ : ∀ g' : hkG, qKeep g g' → RB g' R N → Q (some (0, OFC R N i j l)) t g') :
    Xp 53 (d + 9) 0 [(2, 12), (0, i), (0, j), (0, l)] [] t g Q := by
  obtain ⟨hX, hP, hT, hRD, hM, hF⟩ := id hb
  exact sx_often (Nat.le_trans (by decide) ht) hX hP hT i0 i1 j0 j1 l0 l1 (fun g1 k1 k2 => hQ g1 (qKeep_tb k1) (RB_tb hb k1 k2))
theorem r_moften (ht : 190 ≤ t) (hb : RB g R N) {i j l : Int} (i0 : 0 ≤ i) (i1 : i < bxC R N) (j0 : 0 ≤ j) (j1 : j < bxC R N) (l0 : 0 ≤ l) (l1 : l < bxC R N) (hQ : ∀ g' : hkG, qKeep g g' → RB g' R N → Q (some (0, OFC R N i j l)) t g') :
    Xp 121 (d + 11) 0 [(2, 66), (0, i), (0, j), (0, l), hkU] [] t g Q := by
  obtain ⟨hX, hP, hT, hRD, hM, hF⟩ := id hb
  exact sx_moftenOf ht hM hF i0 i1 j0 j1 l0 l1 (fun g1 k1 k2 => hQ g1 (qKeep_mf k1) (RB_mf hb k1 k2))
def tmsV (R N i j l w : Int) : Int := if w = 0 then OFC R N i j l else if OFC R N i j l = 0 then -1 else (bxZ R N i + bxZ R N j - bxZ R N l).tdiv N
def tmsOk (R N i j l w : Int) : Prop := (0 ≤ i ∧ i < bxC R N) ∧ (0 ≤ j ∧ j < bxC R N) ∧ (0 ≤ l ∧ l < bxC R N) ∧ (0 ≤ w ∧ w ≤ 1)
theorem c_times (ht : 190 ≤ t) (hb : RB g R N) {i j l w : Int} (h1 : ¬ tmsOk R N i j l w → Q (some (0, -2)) t g) (hQ : tmsOk R N i j l w → ∀ g' : hkG, qKeep g g' → RB g' R N → Q (some (0, tmsV R N i j l w)) t g') :
    Xp 8 (d + 12) 0 [(2, 0), (0, i), (0, j), (0, l), (0, w), hkU] [] t g Q := by
  obtain ⟨hX, hP, hT, hRD, hM, hF⟩ := id hb
  unfold tmsOk at h1 hQ
  simp only [x_8_0, x_8_1, x_8_4, x_8_5, x_8_8, x_8_11, x_8_12, x_8_15, x_8_16, x_8_19, x_8_22, x_8_23, x_8_26, x_8_27, x_8_30, x_8_33, x_8_35, x_8_36, x_8_37, x_8_40, x_8_43, x_8_45, hkJK_0, hkJK_1, hkJK_12, jA_0_0, jA_0_2, jR_0_0, jR_0_2, hkP1_0, hkP1_2, hkP1_u, hkC8, List.map_cons, List.map_nil, List.sum_cons, List.sum_nil, hkCat_0, hkCat_1, hkCat_2, Nat.reduceAdd, Nat.reduceLeDiff, hkPush_s, hkPush_n, true_and, and_true, implies_true, true_implies, not_true_eq_false, not_false_eq_true, false_implies, hkTf_0, hkTf_n1, hkOr01, hkOr11, Int.reduceEq, Int.reduceLT, Int.reduceLE, hk102a, hk102b, hk102c, Nat.reduceEqDiff, or_true, true_or, or_false, false_or, and_false, false_and, Classical.not_not, true_implies, List.set_cons_zero, List.set_cons_succ, ne_eq, hkLe_t ht, sx_isShape ht hX, sx_isOff]
  by_cases hv : (0 ≤ i ∧ i < bxC R N) ∧ (0 ≤ j ∧ j < bxC R N) ∧ (0 ≤ l ∧ l < bxC R N) ∧ (0 ≤ w ∧ w ≤ 1)
  · have hQ1 := hQ hv
    obtain ⟨⟨i0, i1⟩, ⟨j0, j1⟩, ⟨l0, l1⟩, ⟨w0, w1⟩⟩ := hv
    have K : Xp 8 (d + 12) 46 [(2, 0), (0, i), (0, j), (0, l), (0, w), hkU] [] t g Q := by
      simp only [x_8_46, x_8_47, x_8_50, x_8_51, x_8_52, x_8_53, hkJK_0, hkJK_1, hkJK_12, jA_0_0, jA_0_2, jR_0_0, jR_0_2, hkP1_0, hkP1_2, hkP1_u, hkC8, List.map_cons, List.map_nil, List.sum_cons, List.sum_nil, hkCat_0, hkCat_1, hkCat_2, Nat.reduceAdd, Nat.reduceLeDiff, hkPush_s, hkPush_n, true_and, and_true, implies_true, true_implies, not_true_eq_false, not_false_eq_true, false_implies, hkTf_0, hkTf_n1, hkOr01, hkOr11, Int.reduceEq, Int.reduceLT, Int.reduceLE, hk102a, hk102b, hk102c, Nat.reduceEqDiff, or_true, true_or, or_false, false_or, and_false, false_and, Classical.not_not, true_implies, List.set_cons_zero, List.set_cons_succ, ne_eq, hkLe_t ht]
      refine r_often ht hb i0 i1 j0 j1 l0 l1 (fun g1 k1 hb1 => ?_)
      have hq := hQ1 g1 k1 hb1
      unfold tmsV at hq
      simp only [x_8_56, x_8_58, x_8_60, x_8_63, x_8_65, x_8_66, x_8_68, x_8_71, x_8_72, x_8_75, x_8_76, x_8_79, x_8_80, x_8_81, x_8_82, x_8_85, hkJK_0, hkJK_1, hkJK_12, jA_0_0, jA_0_2, jR_0_0, jR_0_2, hkP1_0, hkP1_2, hkP1_u, hkC8, List.map_cons, List.map_nil, List.sum_cons, List.sum_nil, hkCat_0, hkCat_1, hkCat_2, Nat.reduceAdd, Nat.reduceLeDiff, hkPush_s, hkPush_n, true_and, and_true, implies_true, true_implies, not_true_eq_false, not_false_eq_true, false_implies, hkTf_0, hkTf_n1, hkOr01, hkOr11, Int.reduceEq, Int.reduceLT, Int.reduceLE, hk102a, hk102b, hk102c, Nat.reduceEqDiff, or_true, true_or, or_false, false_or, and_false, false_and, Classical.not_not, true_implies, List.set_cons_zero, List.set_cons_succ, ne_eq, hkLe_t ht, sx_turnsTo (Nat.le_trans (by decide) ht) hb1.1 i0 i1 j0 j1 l0 l1]
      refine And.intro (fun h => And.intro (fun h2 => ?_) (fun h2 => ?_)) (fun h => ?_)
      · rw [if_neg h, if_neg h2] at hq; exact hq
      · rw [if_neg h, if_pos h2] at hq; exact hq
      · rw [if_pos h] at hq; exact hq
    repeat' (first | exact K | refine And.intro ?_ ?_ | intro _ | (exfalso; omega))
  · have hq := h1 hv
    repeat' (first | exact hq | refine And.intro ?_ ?_ | intro _ | (exfalso; omega))
theorem m_times (ht : 190 ≤ t) (hb : RB g R N) {i j l w : Int} (h1 : ¬ tmsOk R N i j l w → Q (some (0, -2)) t g) (hQ : tmsOk R N i j l w → ∀ g' : hkG, qKeep g g' → RB g' R N → Q (some (0, tmsV R N i j l w)) t g') :
    Xp 120 (d + 12) 0 [(2, 66), (0, i), (0, j), (0, l), (0, w), hkU] [] t g Q := by
  obtain ⟨hX, hP, hT, hRD, hM, hF⟩ := id hb
  unfold tmsOk at h1 hQ
  simp only [x_120_0, x_120_1, x_120_2, x_120_5, x_120_8, x_120_9, x_120_10, x_120_13, x_120_16, x_120_17, x_120_18, x_120_21, x_120_24, x_120_26, x_120_27, x_120_28, x_120_29, x_120_32, x_120_35, x_120_37, hkJK_66, hkP1_0, hkP1_2, hkP1_u, hkC8, List.map_cons, List.map_nil, List.sum_cons, List.sum_nil, hkCat_0, hkCat_1, hkCat_2, Nat.reduceAdd, Nat.reduceLeDiff, hkPush_s, hkPush_n, true_and, and_true, implies_true, true_implies, not_true_eq_false, not_false_eq_true, false_implies, hkTf_0, hkTf_n1, hkOr01, hkOr11, Int.reduceEq, Int.reduceLT, Int.reduceLE, hk102a, hk102b, hk102c, Nat.reduceEqDiff, or_true, true_or, or_false, false_or, and_false, false_and, Classical.not_not, true_implies, List.set_cons_zero, List.set_cons_succ, ne_eq, hkLe_t ht, sx_mIsShape ht hM, sx_mIsIn]
  by_cases hv : (0 ≤ i ∧ i < bxC R N) ∧ (0 ≤ j ∧ j < bxC R N) ∧ (0 ≤ l ∧ l < bxC R N) ∧ (0 ≤ w ∧ w ≤ 1)
  · have hQ1 := hQ hv
    obtain ⟨⟨i0, i1⟩, ⟨j0, j1⟩, ⟨l0, l1⟩, ⟨w0, w1⟩⟩ := hv
    have K : Xp 120 (d + 12) 38 [(2, 66), (0, i), (0, j), (0, l), (0, w), hkU] [] t g Q := by
      simp only [x_120_38, x_120_39, x_120_40, x_120_41, x_120_42, hkJK_66, hkP1_0, hkP1_2, hkP1_u, hkC8, List.map_cons, List.map_nil, List.sum_cons, List.sum_nil, hkCat_0, hkCat_1, hkCat_2, Nat.reduceAdd, Nat.reduceLeDiff, hkPush_s, hkPush_n, true_and, and_true, implies_true, true_implies, not_true_eq_false, not_false_eq_true, false_implies, hkTf_0, hkTf_n1, hkOr01, hkOr11, Int.reduceEq, Int.reduceLT, Int.reduceLE, hk102a, hk102b, hk102c, Nat.reduceEqDiff, or_true, true_or, or_false, false_or, and_false, false_and, Classical.not_not, true_implies, List.set_cons_zero, List.set_cons_succ, ne_eq, hkLe_t ht]
      refine r_moften ht hb i0 i1 j0 j1 l0 l1 (fun g1 k1 hb1 => ?_)
      have hq := hQ1 g1 k1 hb1
      unfold tmsV at hq
      simp only [x_120_45, x_120_47, x_120_49, x_120_52, x_120_54, x_120_57, x_120_59, x_120_62, x_120_63, x_120_66, x_120_67, x_120_68, x_120_69, x_120_70, x_120_73, hkJK_66, hkP1_0, hkP1_2, hkP1_u, hkC8, List.map_cons, List.map_nil, List.sum_cons, List.sum_nil, hkCat_0, hkCat_1, hkCat_2, Nat.reduceAdd, Nat.reduceLeDiff, hkPush_s, hkPush_n, true_and, and_true, implies_true, true_implies, not_true_eq_false, not_false_eq_true, false_implies, hkTf_0, hkTf_n1, hkOr01, hkOr11, Int.reduceEq, Int.reduceLT, Int.reduceLE, hk102a, hk102b, hk102c, Nat.reduceEqDiff, or_true, true_or, or_false, false_or, and_false, false_and, Classical.not_not, true_implies, List.set_cons_zero, List.set_cons_succ, ne_eq, hkLe_t ht, sx_mTurnsOf ht hb1.2.2.2.2.1 i0 i1 j0 j1 l0 l1]
      refine And.intro (fun h => And.intro (fun h2 => ?_) (fun h2 => ?_)) (fun h => ?_)
      · rw [if_neg h, if_neg h2] at hq; exact hq
      · rw [if_neg h, if_pos h2] at hq; exact hq
      · rw [if_pos h] at hq; exact hq
    repeat' (first | exact K | refine And.intro ?_ ?_ | intro _ | (exfalso; omega))
  · have hq := h1 hv
    repeat' (first | exact hq | refine And.intro ?_ ?_ | intro _ | (exfalso; omega))
theorem tie_times {xs : Int → Int} {L i j l w : Int} (ht : 190 ≤ t) (hR : Rel xs L g) : Tie xs L 8 (d + 12) [(2, 0), (0, i), (0, j), (0, l), (0, w), hkU] 120 [(2, 66), (0, i), (0, j), (0, l), (0, w), hkU] t g := by
  obtain ⟨R, N, hb, hr⟩ := hR
  refine c_times ht hb (fun hv => ⟨_, rfl, rfl, ?_⟩) (fun hv g1 k1 hb1 => ⟨_, rfl, rfl, ?_⟩)
  · exact m_times ht hb (fun _ => ⟨rfl, rfl, R, N, hb, hr⟩) (fun h => absurd h hv)
  · exact m_times ht hb1 (fun h => absurd hv h) (fun _ g2 k2 hb2 => ⟨rfl, rfl, Rel_q hb2 (qKeep_t k1 k2) hr⟩)
end SP
