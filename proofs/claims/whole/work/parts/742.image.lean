/-! ties: image, back -/
section SP
variable {t d : Nat} {Q : Option hkV → Nat → hkG → Prop}
theorem l_mimage (ht : 190 ≤ t) {c : Int} : ∀ (m k : Nat) (g : hkG), k + m = 280 → g 66 2 = c → Q (some (0, c)) t (hkSet (hkCpy g 72 k 73 k m) 66 13 1) → Xp 165 d 18 [(2, 66), (0, (k : Int))] [] t g Q := by
  intro m
  induction m with
  | zero =>
    intro k g hk hc hQ
    have e : k = 280 := by omega
    subst e
    have hQ' : Q (some (0, c)) t (hkSet (hkCpy g 72 ((280 : Nat) : Int) 73 ((280 : Nat) : Int) 0) 66 13 1) := hQ
    rw [hkCpy_0] at hQ'
    have hc' : hkSet g 66 13 1 66 2 = c := by rw [hkSet_rd, if_neg (by decide)]; exact hc
    rw [show ((280 : Nat) : Int) = 280 from rfl]
    rw [x_165_18]
    simp only [x_165_19, x_165_22, hkJK_66, hkJK_72, hkJK_73, jA_66_8, jA_66_9, jL_72, jL_73, jR_66_8, jR_66_9, hkP1_0, hkP1_2, hkP1_u, hkC8, List.map_cons, List.map_nil, List.sum_cons, List.sum_nil, hkCat_0, hkCat_1, hkCat_2, Nat.reduceAdd, Nat.reduceLeDiff, hkPush_s, hkPush_n, true_and, and_true, implies_true, true_implies, not_true_eq_false, not_false_eq_true, false_implies, hkTf_0, hkTf_n1, hkOr01, hkOr11, Int.reduceEq, Int.reduceLT, Int.reduceLE, hk102a, hk102b, hk102c, Nat.reduceEqDiff, or_true, true_or, or_false, false_or, and_false, false_and, Classical.not_not, true_implies, List.set_cons_zero, List.set_cons_succ, ne_eq, x_165_43, x_165_44, x_165_45, x_165_48, x_165_49, x_165_52, hkJK_66, hkJK_72, hkJK_73, jA_66_8, jA_66_9, jL_72, jL_73, jR_66_8, jR_66_9, hkP1_0, hkP1_2, hkP1_u, hkC8, List.map_cons, List.map_nil, List.sum_cons, List.sum_nil, hkCat_0, hkCat_1, hkCat_2, Nat.reduceAdd, Nat.reduceLeDiff, hkPush_s, hkPush_n, true_and, and_true, implies_true, true_implies, not_true_eq_false, not_false_eq_true, false_implies, hkTf_0, hkTf_n1, hkOr01, hkOr11, Int.reduceEq, Int.reduceLT, Int.reduceLE, hk102a, hk102b, hk102c, Nat.reduceEqDiff, or_true, true_or, or_false, false_or, and_false, false_and, Classical.not_not, true_implies, List.set_cons_zero, List.set_cons_succ, ne_eq, hc', hkLe_t ht]
    repeat' (first | exact hQ' | refine And.intro ?_ ?_ | intro _ | trivial | omega | (exfalso; omega))
  | succ m ih =>
    intro k g hk hc hQ
    rw [show ((m + 1 : Nat) : Int) = (m : Int) + 1 from by omega, ← hkCpy_s (by decide) (by omega)] at hQ
    have IH := ih (k + 1) (hkSet g 73 k (g 72 k)) (by omega) (by rw [hkSet_row (by decide)]; exact hc) (by rw [show ((k + 1 : Nat) : Int) = (k : Int) + 1 from by omega]; exact hQ)
    have e1 : hkW ((k : Int) + 1) = ((k + 1 : Nat) : Int) := by rw [hkW_in (by omega) (by omega)]; omega
    rw [x_165_18]
    simp only [x_165_19, x_165_22, x_165_25, x_165_26, x_165_29, x_165_30, x_165_31, x_165_34, x_165_35, x_165_36, x_165_37, x_165_40, hkJK_66, hkJK_72, hkJK_73, jA_66_8, jA_66_9, jL_72, jL_73, jR_66_8, jR_66_9, hkP1_0, hkP1_2, hkP1_u, hkC8, List.map_cons, List.map_nil, List.sum_cons, List.sum_nil, hkCat_0, hkCat_1, hkCat_2, Nat.reduceAdd, Nat.reduceLeDiff, hkPush_s, hkPush_n, true_and, and_true, implies_true, true_implies, not_true_eq_false, not_false_eq_true, false_implies, hkTf_0, hkTf_n1, hkOr01, hkOr11, Int.reduceEq, Int.reduceLT, Int.reduceLE, hk102a, hk102b, hk102c, Nat.reduceEqDiff, or_true, true_or, or_false, false_or, and_false, false_and, Classical.not_not, true_implies, List.set_cons_zero, List.set_cons_succ, ne_eq, hkLe_t ht, e1]
    clear e1
    repeat' (first | exact IH | refine And.intro ?_ ?_ | intro _ | trivial | omega | (exfalso; omega))
theorem l_mback (ht : 190 ≤ t) {c : Int} : ∀ (m k : Nat) (g : hkG), k + m = 280 → g 66 2 = c → Q (some (0, c)) t (hkCpy g 73 k 72 k m) → Xp 166 d 32 [(2, 66), (0, (k : Int))] [] t g Q := by
  intro m
  induction m with
  | zero =>
    intro k g hk hc hQ
    have e : k = 280 := by omega
    subst e
    have hQ' : Q (some (0, c)) t (hkCpy g 73 ((280 : Nat) : Int) 72 ((280 : Nat) : Int) 0) := hQ
    rw [hkCpy_0] at hQ'
    rw [show ((280 : Nat) : Int) = 280 from rfl]
    rw [x_166_32]
    simp only [x_166_33, x_166_36, hkJK_66, hkJK_72, hkJK_73, jA_66_8, jA_66_9, jL_72, jL_73, jR_66_8, jR_66_9, hkP1_0, hkP1_2, hkP1_u, hkC8, List.map_cons, List.map_nil, List.sum_cons, List.sum_nil, hkCat_0, hkCat_1, hkCat_2, Nat.reduceAdd, Nat.reduceLeDiff, hkPush_s, hkPush_n, true_and, and_true, implies_true, true_implies, not_true_eq_false, not_false_eq_true, false_implies, hkTf_0, hkTf_n1, hkOr01, hkOr11, Int.reduceEq, Int.reduceLT, Int.reduceLE, hk102a, hk102b, hk102c, Nat.reduceEqDiff, or_true, true_or, or_false, false_or, and_false, false_and, Classical.not_not, true_implies, List.set_cons_zero, List.set_cons_succ, ne_eq, x_166_57, x_166_58, x_166_61, hkJK_66, hkJK_72, hkJK_73, jA_66_8, jA_66_9, jL_72, jL_73, jR_66_8, jR_66_9, hkP1_0, hkP1_2, hkP1_u, hkC8, List.map_cons, List.map_nil, List.sum_cons, List.sum_nil, hkCat_0, hkCat_1, hkCat_2, Nat.reduceAdd, Nat.reduceLeDiff, hkPush_s, hkPush_n, true_and, and_true, implies_true, true_implies, not_true_eq_false, not_false_eq_true, false_implies, hkTf_0, hkTf_n1, hkOr01, hkOr11, Int.reduceEq, Int.reduceLT, Int.reduceLE, hk102a, hk102b, hk102c, Nat.reduceEqDiff, or_true, true_or, or_false, false_or, and_false, false_and, Classical.not_not, true_implies, List.set_cons_zero, List.set_cons_succ, ne_eq, hc]
    repeat' (first | exact hQ' | refine And.intro ?_ ?_ | intro _ | trivial | omega | (exfalso; omega))
  | succ m ih =>
    intro k g hk hc hQ
    rw [show ((m + 1 : Nat) : Int) = (m : Int) + 1 from by omega, ← hkCpy_s (by decide) (by omega)] at hQ
    have IH := ih (k + 1) (hkSet g 72 k (g 73 k)) (by omega) (by rw [hkSet_row (by decide)]; exact hc) (by rw [show ((k + 1 : Nat) : Int) = (k : Int) + 1 from by omega]; exact hQ)
    have e1 : hkW ((k : Int) + 1) = ((k + 1 : Nat) : Int) := by rw [hkW_in (by omega) (by omega)]; omega
    rw [x_166_32]
    simp only [x_166_33, x_166_36, x_166_39, x_166_40, x_166_43, x_166_44, x_166_45, x_166_48, x_166_49, x_166_50, x_166_51, x_166_54, hkJK_66, hkJK_72, hkJK_73, jA_66_8, jA_66_9, jL_72, jL_73, jR_66_8, jR_66_9, hkP1_0, hkP1_2, hkP1_u, hkC8, List.map_cons, List.map_nil, List.sum_cons, List.sum_nil, hkCat_0, hkCat_1, hkCat_2, Nat.reduceAdd, Nat.reduceLeDiff, hkPush_s, hkPush_n, true_and, and_true, implies_true, true_implies, not_true_eq_false, not_false_eq_true, false_implies, hkTf_0, hkTf_n1, hkOr01, hkOr11, Int.reduceEq, Int.reduceLT, Int.reduceLE, hk102a, hk102b, hk102c, Nat.reduceEqDiff, or_true, true_or, or_false, false_or, and_false, false_and, Classical.not_not, true_implies, List.set_cons_zero, List.set_cons_succ, ne_eq, hkLe_t ht, e1]
    clear e1
    repeat' (first | exact IH | refine And.intro ?_ ?_ | intro _ | trivial | omega | (exfalso; omega))
theorem tie_image {g : hkG} {xs : Int → Int} {L : Int} (ht : 190 ≤ t) (hR : Rel xs L g) : Tie xs L 26 (d + 12) [(2, 0)] 165 [(2, 66), hkU] t g := by
  obtain ⟨R, N, hb, hr⟩ := id hR
  obtain ⟨hX, hP, hT, hRD, hM, hF⟩ := id hb
  obtain ⟨x1, x2, x3, x4, x5, x6, x7, x8⟩ := BX_f hX
  obtain ⟨y1, y2, y3, y4, y5⟩ := MX_f hM
  unfold Tie
  have z2 : hkSet g 0 10 R 1 1 = N := by rw [hkSet_row (by decide)]; exact x2
  have z3 : hkCpy (hkSet (hkSet g 0 10 R) 0 11 N) 52 0 56 0 280 1 3 = bxC R N := by rw [hkCpy_row (by decide), hkSet_row (by decide), hkSet_row (by decide)]; exact x4
  simp only [x_26_0, x_26_1, x_26_2, x_26_5, x_26_8, x_26_11, x_26_12, x_26_13, x_26_16, x_26_19, x_26_22, x_26_23, x_26_26, x_26_27, x_26_30, x_26_33, x_26_34, x_26_37, x_26_40, hkJK_0, hkJK_1, hkJK_51, hkJK_55, jA_0_0, jA_0_7, jA_0_9, jR_0_0, jR_0_7, jR_0_9, hkP1_0, hkP1_2, hkP1_u, hkC8, List.map_cons, List.map_nil, List.sum_cons, List.sum_nil, hkCat_0, hkCat_1, hkCat_2, Nat.reduceAdd, Nat.reduceLeDiff, hkPush_s, hkPush_n, true_and, and_true, implies_true, true_implies, not_true_eq_false, not_false_eq_true, false_implies, hkTf_0, hkTf_n1, hkOr01, hkOr11, Int.reduceEq, Int.reduceLT, Int.reduceLE, hk102a, hk102b, hk102c, Nat.reduceEqDiff, or_true, true_or, or_false, false_or, and_false, false_and, Classical.not_not, true_implies, List.set_cons_zero, List.set_cons_succ, ne_eq, hkLe_t ht, sx_sbec ht sm_55 sm_51, x1, z2, z3]
  first | refine ⟨_, rfl, rfl, ?_⟩ | refine ⟨_, rfl, ?_⟩
  generalize hg1 : hkCpy (hkSet (hkSet g 0 10 R) 0 11 N) 52 0 56 0 280 = g1
  have k0 : ∀ q : Int, q ≠ 0 → q ≠ 56 → g1 q = g q := fun q q0 q1 => by rw [← hg1, hkCpy_row q1, hkSet_row q0, hkSet_row q0]
  have w1 : g1 66 0 = R := by rw [k0 66 (by decide) (by decide)]; exact y1
  have w2 : hkSet g1 66 10 R 66 1 = N := by rw [hkSet_rd, if_neg (by decide), k0 66 (by decide) (by decide)]; exact y2
  simp only [x_165_0, x_165_1, x_165_2, x_165_5, x_165_8, x_165_9, x_165_10, x_165_13, x_165_16, x_165_17, hkJK_66, hkJK_72, hkJK_73, jA_66_8, jA_66_9, jL_72, jL_73, jR_66_8, jR_66_9, hkP1_0, hkP1_2, hkP1_u, hkC8, List.map_cons, List.map_nil, List.sum_cons, List.sum_nil, hkCat_0, hkCat_1, hkCat_2, Nat.reduceAdd, Nat.reduceLeDiff, hkPush_s, hkPush_n, true_and, and_true, implies_true, true_implies, not_true_eq_false, not_false_eq_true, false_implies, hkTf_0, hkTf_n1, hkOr01, hkOr11, Int.reduceEq, Int.reduceLT, Int.reduceLE, hk102a, hk102b, hk102c, Nat.reduceEqDiff, or_true, true_or, or_false, false_or, and_false, false_and, Classical.not_not, true_implies, List.set_cons_zero, List.set_cons_succ, ne_eq, w1, w2]
  refine l_mimage (c := bxC R N) ht 280 0 _ rfl (by rw [hkSet_rd, if_neg (by decide), hkSet_rd, if_neg (by decide), k0 66 (by decide) (by decide)]; exact y3) ⟨rfl, rfl, R, N, ?_, ?_, ?_, ?_, ?_, ?_⟩
  · refine RB_s (RB_c hb (g' := g1) (fun q hq => k0 q (by omega) (by omega))) (fun q q1 q2 => by rw [hkSet_row q2, hkCpy_row (by omega), hkSet_row q2, hkSet_row q2]) (fun k h1 h2 => by rw [hkSet_rd, if_neg (by omega), hkCpy_row (by decide), hkSet_rd, if_neg (by omega), hkSet_rd, if_neg (by omega)])
  · exact RS_row hr.1 (by rw [hkSet_row (by decide), hkCpy_row (by decide), hkSet_row (by decide), hkSet_row (by decide), k0 52 (by decide) (by decide)]) (by rw [hkSet_row (by decide), hkCpy_row (by decide), hkSet_row (by decide), hkSet_row (by decide), k0 72 (by decide) (by decide)]) (by rw [hkSet_rd, if_neg (by decide), hkCpy_row (by decide), hkSet_rd, if_neg (by decide), hkSet_rd, if_neg (by decide), k0 66 (by decide) (by decide)])
  · have u10 : hkSet (hkCpy (hkSet (hkSet g1 66 10 R) 66 11 N) 72 0 73 0 280) 66 13 1 66 10 = R := by
      rw [hkSet_rd, if_neg (by decide), hkCpy_row (by decide), hkSet_rd, if_neg (by decide), hkSet_rd, if_pos ⟨rfl, rfl⟩]
    have u11 : hkSet (hkCpy (hkSet (hkSet g1 66 10 R) 66 11 N) 72 0 73 0 280) 66 13 1 66 11 = N := by
      rw [hkSet_rd, if_neg (by decide), hkCpy_row (by decide), hkSet_rd, if_pos ⟨rfl, rfl⟩]
    have v : ∀ k : Int, hkSet (hkCpy (hkSet (hkSet g1 66 10 R) 66 11 N) 72 0 73 0 280) 66 13 1 0 k = hkSet (hkSet g 0 10 R) 0 11 N 0 k := fun k => by
      rw [hkSet_row (by decide), hkCpy_row (by decide), hkSet_row (by decide), hkSet_row (by decide), ← hg1, hkCpy_row (by decide)]
    refine Or.inr ⟨by rw [hkSet_rd, if_pos ⟨rfl, rfl⟩], ?_, ?_, ?_, fun p p0 p1 => ?_⟩
    · refine Eq.trans ?_ u10.symm
      refine (v 10).trans ?_
      rw [hkSet_rd, if_neg (by decide), hkSet_rd, if_pos ⟨rfl, rfl⟩]
    · refine Eq.trans ?_ u11.symm
      refine (v 11).trans ?_
      rw [hkSet_rd, if_pos ⟨rfl, rfl⟩]
    · refine (show bxOk _ _ from ?_)
      exact Eq.mpr (congr (congrArg bxOk u10) u11) hX.1
    · have a1 : hkSet (hkCpy (hkSet (hkSet g1 66 10 R) 66 11 N) 72 0 73 0 280) 66 13 1 56 p = g 52 p := by
        rw [hkSet_row (by decide), hkCpy_row (by decide), hkSet_row (by decide), hkSet_row (by decide), ← hg1, hkCpy_rd, if_pos ⟨rfl, p0, by omega⟩, hkSet_row (by decide), hkSet_row (by decide)]
        congr 1; omega
      have a2 : hkSet (hkCpy (hkSet (hkSet g1 66 10 R) 66 11 N) 72 0 73 0 280) 66 13 1 73 p = g 72 p := by
        rw [hkSet_row (by decide), hkCpy_rd, if_pos ⟨rfl, p0, by omega⟩, hkSet_row (by decide), hkSet_row (by decide), k0 72 (by decide) (by decide)]
        congr 1; omega
      obtain ⟨h1, h2, h3⟩ := hr.1 p p0 p1
      refine ⟨a1.trans (h1.trans a2.symm), a2.symm ▸ h2, fun h => ?_⟩
      refine a2.trans (h3 ?_)
      rw [y3]
      exact Eq.mp (congrArg (fun z => z ≤ p % 35) (congr (congrArg bxC u10) u11)) h
  · exact RT_row hr.2.2.1 (by rw [hkSet_row (by decide), hkCpy_row (by decide), hkSet_row (by decide), hkSet_row (by decide), k0 24 (by decide) (by decide)]) (by rw [hkSet_row (by decide), hkCpy_row (by decide), hkSet_row (by decide), hkSet_row (by decide), k0 24 (by decide) (by decide)]) (by rw [hkSet_row (by decide), hkCpy_row (by decide), hkSet_row (by decide), hkSet_row (by decide), k0 27 (by decide) (by decide)]) (by rw [hkSet_row (by decide), hkCpy_row (by decide), hkSet_row (by decide), hkSet_row (by decide), k0 85 (by decide) (by decide)]) (by rw [hkSet_rd, if_neg (by decide), hkCpy_row (by decide), hkSet_rd, if_neg (by decide), hkSet_rd, if_neg (by decide), k0 66 (by decide) (by decide)]) (by rw [hkSet_rd, if_neg (by decide), hkCpy_row (by decide), hkSet_rd, if_neg (by decide), hkSet_rd, if_neg (by decide), k0 66 (by decide) (by decide)])
  · exact RH_row hr.2.2.2.1 (fun q hq => by rw [hkSet_row (by omega), hkCpy_row (by omega), hkSet_row (by omega), hkSet_row (by omega), k0 q (by omega) (by omega)])
  · exact RL_row hr.2.2.2.2 (by rw [hkSet_row (by decide), hkCpy_row (by decide), hkSet_row (by decide), hkSet_row (by decide), k0 (-1) (by decide) (by decide)]) (by rw [hkSet_row (by decide), hkCpy_row (by decide), hkSet_row (by decide), hkSet_row (by decide), k0 (-2) (by decide) (by decide)])
theorem tie_back {g : hkG} {xs : Int → Int} {L : Int} (ht : 190 ≤ t) (hR : Rel xs L g) : Tie xs L 27 (d + 12) [(2, 0)] 166 [(2, 66), hkU] t g := by
  obtain ⟨R, N, hb, hr⟩ := id hR
  rcases hr.2.1 with ⟨h1, h2⟩ | ⟨h1, h2, h3, h4, h5⟩
  · refine tie_still (v := (0, -3)) hR (fun Q hq => ?_) (fun Q hq => ?_)
    · simp only [x_27_0, x_27_1, x_27_4, x_27_7, x_27_9, hkJK_0, hkJK_1, hkJK_51, hkJK_55, jA_0_0, jA_0_7, jA_0_9, jR_0_0, jR_0_7, jR_0_9, hkP1_0, hkP1_2, hkP1_u, hkC8, List.map_cons, List.map_nil, List.sum_cons, List.sum_nil, hkCat_0, hkCat_1, hkCat_2, Nat.reduceAdd, Nat.reduceLeDiff, hkPush_s, hkPush_n, true_and, and_true, implies_true, true_implies, not_true_eq_false, not_false_eq_true, false_implies, hkTf_0, hkTf_n1, hkOr01, hkOr11, Int.reduceEq, Int.reduceLT, Int.reduceLE, hk102a, hk102b, hk102c, Nat.reduceEqDiff, or_true, true_or, or_false, false_or, and_false, false_and, Classical.not_not, true_implies, List.set_cons_zero, List.set_cons_succ, ne_eq, h1]
      repeat' (first | exact hq | refine And.intro ?_ ?_ | intro _ | trivial | omega | (exfalso; omega))
    · simp only [x_166_0, x_166_1, x_166_4, x_166_7, x_166_9, hkJK_66, hkJK_72, hkJK_73, jA_66_8, jA_66_9, jL_72, jL_73, jR_66_8, jR_66_9, hkP1_0, hkP1_2, hkP1_u, hkC8, List.map_cons, List.map_nil, List.sum_cons, List.sum_nil, hkCat_0, hkCat_1, hkCat_2, Nat.reduceAdd, Nat.reduceLeDiff, hkPush_s, hkPush_n, true_and, and_true, implies_true, true_implies, not_true_eq_false, not_false_eq_true, false_implies, hkTf_0, hkTf_n1, hkOr01, hkOr11, Int.reduceEq, Int.reduceLT, Int.reduceLE, hk102a, hk102b, hk102c, Nat.reduceEqDiff, or_true, true_or, or_false, false_or, and_false, false_and, Classical.not_not, true_implies, List.set_cons_zero, List.set_cons_succ, ne_eq, h2]
      repeat' (first | exact hq | refine And.intro ?_ ?_ | intro _ | trivial | omega | (exfalso; omega))
  · have hne : ¬ g 0 10 = 0 := by rw [h2]; have := h4.1; omega
    have hne2 : ¬ g 66 13 = 0 := by rw [h1]; decide
    have hK : Xp 27 (d + 12) 10 [(2, 0)] [] t g (fun r t1 g1 => ∃ v, r = some v ∧ t1 = t ∧ Xp 166 (d + 12) 0 [(2, 66), hkU] [] t g1 (fun r2 t2 g2 => r2 = some v ∧ t2 = t ∧ Rel xs L g2)) := by
      simp only [x_27_10, x_27_11, x_27_12, x_27_15, x_27_16, x_27_19, hkJK_0, hkJK_1, hkJK_51, hkJK_55, jA_0_0, jA_0_7, jA_0_9, jR_0_0, jR_0_7, jR_0_9, hkP1_0, hkP1_2, hkP1_u, hkC8, List.map_cons, List.map_nil, List.sum_cons, List.sum_nil, hkCat_0, hkCat_1, hkCat_2, Nat.reduceAdd, Nat.reduceLeDiff, hkPush_s, hkPush_n, true_and, and_true, implies_true, true_implies, not_true_eq_false, not_false_eq_true, false_implies, hkTf_0, hkTf_n1, hkOr01, hkOr11, Int.reduceEq, Int.reduceLT, Int.reduceLE, hk102a, hk102b, hk102c, Nat.reduceEqDiff, or_true, true_or, or_false, false_or, and_false, false_and, Classical.not_not, true_implies, List.set_cons_zero, List.set_cons_succ, ne_eq, hkLe_t ht, h2, h3]
      refine r_changeBox (d := d + 2) ht hb h4 (fun g1 k1 X1 P1 T1 D1 => ?_)
      have hx : hkCpy g1 56 0 52 0 280 1 3 = bxC (g 66 10) (g 66 11) := by rw [hkCpy_row (by decide)]; exact (BX_f X1).2.2.2.1
      simp only [x_27_22, x_27_23, x_27_26, x_27_27, x_27_30, x_27_33, x_27_34, x_27_37, x_27_40, hkJK_0, hkJK_1, hkJK_51, hkJK_55, jA_0_0, jA_0_7, jA_0_9, jR_0_0, jR_0_7, jR_0_9, hkP1_0, hkP1_2, hkP1_u, hkC8, List.map_cons, List.map_nil, List.sum_cons, List.sum_nil, hkCat_0, hkCat_1, hkCat_2, Nat.reduceAdd, Nat.reduceLeDiff, hkPush_s, hkPush_n, true_and, and_true, implies_true, true_implies, not_true_eq_false, not_false_eq_true, false_implies, hkTf_0, hkTf_n1, hkOr01, hkOr11, Int.reduceEq, Int.reduceLT, Int.reduceLE, hk102a, hk102b, hk102c, Nat.reduceEqDiff, or_true, true_or, or_false, false_or, and_false, false_and, Classical.not_not, true_implies, List.set_cons_zero, List.set_cons_succ, ne_eq, hkLe_t ht, sx_sbec ht sm_51 sm_55, hx]
      first | refine ⟨_, rfl, rfl, ?_⟩ | refine ⟨_, rfl, ?_⟩
      generalize hg2 : hkCpy g1 56 0 52 0 280 = g2
      have k2 : ∀ q : Int, q ≠ 52 → g2 q = g1 q := fun q hq => by rw [← hg2, hkCpy_row hq]
      have k66 : g2 66 = g 66 := by rw [k2 66 (by decide), k1 66 (by decide)]
      have n13 : ¬ g2 66 13 = 0 := by rw [k66]; exact hne2
      have n10 : g2 66 10 = g 66 10 := by rw [k66]
      have n11 : hkSet g2 66 0 (g 66 10) 66 11 = g 66 11 := by rw [hkSet_rd, if_neg (by decide), k66]
      have hK2 : Xp 166 (d + 12) 10 [(2, 66), hkU] [] t g2 (fun r2 t2 g3 => r2 = some (0, bxC (g 66 10) (g 66 11)) ∧ t2 = t ∧ Rel xs L g3) := by
        simp only [x_166_10, x_166_11, x_166_12, x_166_15, x_166_18, x_166_19, x_166_20, x_166_23, x_166_26, x_166_27, hkJK_66, hkJK_72, hkJK_73, jA_66_8, jA_66_9, jL_72, jL_73, jR_66_8, jR_66_9, hkP1_0, hkP1_2, hkP1_u, hkC8, List.map_cons, List.map_nil, List.sum_cons, List.sum_nil, hkCat_0, hkCat_1, hkCat_2, Nat.reduceAdd, Nat.reduceLeDiff, hkPush_s, hkPush_n, true_and, and_true, implies_true, true_implies, not_true_eq_false, not_false_eq_true, false_implies, hkTf_0, hkTf_n1, hkOr01, hkOr11, Int.reduceEq, Int.reduceLT, Int.reduceLE, hk102a, hk102b, hk102c, Nat.reduceEqDiff, or_true, true_or, or_false, false_or, and_false, false_and, Classical.not_not, true_implies, List.set_cons_zero, List.set_cons_succ, ne_eq, hkLe_t ht, n10, n11]
        refine sx_shapesOfI (d := d + 10) ht h4 (by rw [hkSet_rd, if_neg (by decide), hkSet_rd, if_pos ⟨rfl, rfl⟩]) (by rw [hkSet_rd, if_pos ⟨rfl, rfl⟩]) (fun g3 M3 k3 m3 z3 => ?_)
        have hc := bx_C h4
        have q3 : ∀ q : Int, q < 66 ∨ q = 70 ∨ q = 72 ∨ q = 73 ∨ 75 ≤ q → g3 q = g2 q := fun q hq => by rw [k3 q (by omega) (by omega) (by omega) (by omega) (by omega) (by omega), hkSet_row (by omega), hkSet_row (by omega)]
        have q66 : ∀ k : Int, 3 ≤ k → g3 66 k = g 66 k := fun k hk => by rw [m3 k (by omega), hkSet_rd, if_neg (by omega), hkSet_rd, if_neg (by omega), k66]
        simp only [x_166_30, x_166_31, hkJK_66, hkJK_72, hkJK_73, jA_66_8, jA_66_9, jL_72, jL_73, jR_66_8, jR_66_9, hkP1_0, hkP1_2, hkP1_u, hkC8, List.map_cons, List.map_nil, List.sum_cons, List.sum_nil, hkCat_0, hkCat_1, hkCat_2, Nat.reduceAdd, Nat.reduceLeDiff, hkPush_s, hkPush_n, true_and, and_true, implies_true, true_implies, not_true_eq_false, not_false_eq_true, false_implies, hkTf_0, hkTf_n1, hkOr01, hkOr11, Int.reduceEq, Int.reduceLT, Int.reduceLE, hk102a, hk102b, hk102c, Nat.reduceEqDiff, or_true, true_or, or_false, false_or, and_false, false_and, Classical.not_not, true_implies, List.set_cons_zero, List.set_cons_succ, ne_eq]
        refine l_mback (c := bxC (g 66 10) (g 66 11)) ht 280 0 g3 rfl (MX_f M3).2.2.1 ⟨rfl, rfl, g 66 10, g 66 11, ⟨?_, ?_, ?_, ?_, ?_, ?_⟩, ?_, ?_, ?_, ?_, ?_⟩
        · exact BX_row X1 (fun p p1 p2 => by rw [hkCpy_row (by omega), q3 p (by omega), k2 p (by omega)])
        · intro i n' s c1 c2 c3 c4 c5 c6
          rw [hkCpy_row (by decide), q3 13 (by decide), k2 13 (by decide)]
          exact P1 i n' s c1 c2 c3 c4 c5 c6
        · unfold TBI
          rw [hkCpy_row (by decide), q3 14 (by decide), k2 14 (by decide)]
          exact T1
        · rw [hkCpy_row (by decide), q3 17 (by decide), k2 17 (by decide)]
          rcases D1 with h | h
          · exact Or.inl h
          · exact Or.inr ⟨h.1, RDY_row h.2 (by rw [hkCpy_row (by decide), q3 19 (by decide), k2 19 (by decide)]) (by rw [hkCpy_row (by decide), q3 20 (by decide), k2 20 (by decide)])⟩
        · exact MX_row M3 (fun k _ => by rw [hkCpy_row (by decide)]) (by rw [hkCpy_row (by decide)]) (by rw [hkCpy_row (by decide)]) (by rw [hkCpy_row (by decide)])
        · intro i j i0 i1 j0 j1
          rw [hkCpy_row (by decide)]
          exact Or.inl (z3 _ (by omega) (by omega))
        · intro p p0 p1
          obtain ⟨s1, s2, s3⟩ := h5 p p0 p1
          have a1 : hkCpy g3 73 0 72 0 280 52 p = g 56 p := by
            rw [hkCpy_row (by decide), q3 52 (by decide), ← hg2, hkCpy_rd, if_pos ⟨rfl, p0, by omega⟩, k1 56 (by decide)]
            congr 1; omega
          have a2 : hkCpy g3 73 0 72 0 280 72 p = g 73 p := by
            rw [hkCpy_rd, if_pos ⟨rfl, p0, by omega⟩, q3 73 (by decide), k2 73 (by decide), k1 73 (by decide)]
            congr 1; omega
          refine ⟨a1.trans (s1.trans a2.symm), a2.symm ▸ s2, fun h => a2.trans (s3 ?_)⟩
          have h' : hkCpy g3 73 0 72 0 280 66 2 ≤ p % 35 := h
          rw [hkCpy_row (by decide), (MX_f M3).2.2.1] at h'
          exact h'
        · exact RK_row hr.2.1 (by rw [hkCpy_row (by decide), q3 0 (by decide), k2 0 (by decide), k1 0 (by decide)]) (by rw [hkCpy_row (by decide), q3 56 (by decide), k2 56 (by decide), k1 56 (by decide)]) (by rw [hkCpy_row (by decide), q3 73 (by decide), k2 73 (by decide), k1 73 (by decide)]) (fun k u1 u2 => by rw [hkCpy_row (by decide), q66 k (by omega)])
        · exact RT_row hr.2.2.1 (by rw [hkCpy_row (by decide), q3 24 (by decide), k2 24 (by decide), k1 24 (by decide)]) (by rw [hkCpy_row (by decide), q3 24 (by decide), k2 24 (by decide), k1 24 (by decide)]) (by rw [hkCpy_row (by decide), q3 27 (by decide), k2 27 (by decide), k1 27 (by decide)]) (by rw [hkCpy_row (by decide), q3 85 (by decide), k2 85 (by decide), k1 85 (by decide)]) (by rw [hkCpy_row (by decide), q66 12 (by decide)]) (by rw [hkCpy_row (by decide), q66 32 (by decide)])
        · exact RH_row hr.2.2.2.1 (fun q hq => by rw [hkCpy_row (by omega), q3 q (by omega), k2 q (by omega), k1 q (by omega)])
        · exact RL_row hr.2.2.2.2 (by rw [hkCpy_row (by decide), q3 (-1) (by decide), k2 (-1) (by decide), k1 (-1) (by decide)]) (by rw [hkCpy_row (by decide), q3 (-2) (by decide), k2 (-2) (by decide), k1 (-2) (by decide)])
      simp only [x_166_0, x_166_1, x_166_4, x_166_7, x_166_9, hkJK_66, hkJK_72, hkJK_73, jA_66_8, jA_66_9, jL_72, jL_73, jR_66_8, jR_66_9, hkP1_0, hkP1_2, hkP1_u, hkC8, List.map_cons, List.map_nil, List.sum_cons, List.sum_nil, hkCat_0, hkCat_1, hkCat_2, Nat.reduceAdd, Nat.reduceLeDiff, hkPush_s, hkPush_n, true_and, and_true, implies_true, true_implies, not_true_eq_false, not_false_eq_true, false_implies, hkTf_0, hkTf_n1, hkOr01, hkOr11, Int.reduceEq, Int.reduceLT, Int.reduceLE, hk102a, hk102b, hk102c, Nat.reduceEqDiff, or_true, true_or, or_false, false_or, and_false, false_and, Classical.not_not, true_implies, List.set_cons_zero, List.set_cons_succ, ne_eq]
      repeat' (first | exact hK2 | refine And.intro ?_ ?_ | intro _ | trivial | omega | (exfalso; omega))
    unfold Tie
    simp only [x_27_0, x_27_1, x_27_4, x_27_7, x_27_9, hkJK_0, hkJK_1, hkJK_51, hkJK_55, jA_0_0, jA_0_7, jA_0_9, jR_0_0, jR_0_7, jR_0_9, hkP1_0, hkP1_2, hkP1_u, hkC8, List.map_cons, List.map_nil, List.sum_cons, List.sum_nil, hkCat_0, hkCat_1, hkCat_2, Nat.reduceAdd, Nat.reduceLeDiff, hkPush_s, hkPush_n, true_and, and_true, implies_true, true_implies, not_true_eq_false, not_false_eq_true, false_implies, hkTf_0, hkTf_n1, hkOr01, hkOr11, Int.reduceEq, Int.reduceLT, Int.reduceLE, hk102a, hk102b, hk102c, Nat.reduceEqDiff, or_true, true_or, or_false, false_or, and_false, false_and, Classical.not_not, true_implies, List.set_cons_zero, List.set_cons_succ, ne_eq]
    repeat' (first | exact hK | refine And.intro ?_ ?_ | intro _ | trivial | omega | (exfalso; omega))
end SP
