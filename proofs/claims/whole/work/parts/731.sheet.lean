/-! ties: sheet -/
section SP
variable {t d : Nat} {g : hkG} {R N : Int} {Q : Option hkV → Nat → hkG → Prop}
theorem l_mzero (ht : 190 ≤ t) {s so n : Int} (s0 : 0 ≤ s) (s3 : s ≤ 3) : ∀ (m k : Nat) (g : hkG), k + m = 40 → (∀ g' : hkG, (∀ q : Int, q ≠ 89 → g' q = g q) → (∀ x : Int, k ≤ x → x < 40 → g' 89 (40 * s + x) = 0) → (∀ y : Int, y < 40 * s + k ∨ 40 * s + 40 ≤ y → g' 89 y = g 89 y) → Q (some (0, 1)) t g') →
    Xp 169 d 71 [(2, 66), (0, s), (0, so), (0, n), (0, (k : Int))] [] t g Q := by
  intro m
  induction m with
  | zero =>
    intro k g hk hQ
    have hq := hQ g (fun _ _ => rfl) (fun x h0 h1 => by omega) (fun _ _ => rfl)
    rw [x_169_71]
    simp only [x_169_73, x_169_75, hkJK_66, hkJK_87, hkJK_88, hkJK_89, jA_66_36, jA_66_37, jA_66_38, jL_87, jL_88, jL_89, jR_66_36, jR_66_37, jR_66_38, hkP1_0, hkP1_2, hkP1_u, hkC8, List.map_cons, List.map_nil, List.sum_cons, List.sum_nil, hkCat_0, hkCat_1, hkCat_2, Nat.reduceAdd, Nat.reduceLeDiff, hkPush_s, hkPush_n, true_and, and_true, implies_true, true_implies, not_true_eq_false, not_false_eq_true, false_implies, hkTf_0, hkTf_n1, hkOr01, hkOr11, Int.reduceEq, Int.reduceLT, Int.reduceLE, hk102a, hk102b, hk102c, Nat.reduceEqDiff, or_true, true_or, or_false, false_or, and_false, false_and, Classical.not_not, true_implies, List.set_cons_zero, List.set_cons_succ, ne_eq, x_169_97, x_169_98, hkJK_66, hkJK_87, hkJK_88, hkJK_89, jA_66_36, jA_66_37, jA_66_38, jL_87, jL_88, jL_89, jR_66_36, jR_66_37, jR_66_38, hkP1_0, hkP1_2, hkP1_u, hkC8, List.map_cons, List.map_nil, List.sum_cons, List.sum_nil, hkCat_0, hkCat_1, hkCat_2, Nat.reduceAdd, Nat.reduceLeDiff, hkPush_s, hkPush_n, true_and, and_true, implies_true, true_implies, not_true_eq_false, not_false_eq_true, false_implies, hkTf_0, hkTf_n1, hkOr01, hkOr11, Int.reduceEq, Int.reduceLT, Int.reduceLE, hk102a, hk102b, hk102c, Nat.reduceEqDiff, or_true, true_or, or_false, false_or, and_false, false_and, Classical.not_not, true_implies, List.set_cons_zero, List.set_cons_succ, ne_eq]
    repeat' (first | exact hq | refine And.intro ?_ ?_ | intro _ | trivial | omega | (exfalso; omega))
  | succ m ih =>
    intro k g hk hQ
    have IH := ih (k + 1) (hkSet g 89 (40 * s + k) 0) (by omega) (fun g' k1 k2 k3 => hQ g' (fun q hq => by rw [k1 q hq, hkSet_row hq]) (fun x h0 h1 => by
      by_cases e : x = k
      · rw [e, k3 _ (by omega), hkSet_rd, if_pos ⟨rfl, rfl⟩]
      · exact k2 x (by omega) h1) (fun y hy => by rw [k3 y (by omega), hkSet_rd, if_neg (by omega)]))
    obtain ⟨e1, e2, e3⟩ : hkW ((k : Int) + 1) = ((k + 1 : Nat) : Int) ∧ hkW (40 * s) = 40 * s ∧ hkW (40 * s + k) = 40 * s + k := ⟨by rw [hkW_in (by omega) (by omega)]; omega, hkW_in (by omega) (by omega), hkW_in (by omega) (by omega)⟩
    rw [x_169_71]
    simp only [x_169_73, x_169_75, x_169_78, x_169_79, x_169_82, x_169_84, x_169_85, x_169_86, x_169_88, x_169_89, x_169_90, x_169_91, x_169_94, hkJK_66, hkJK_87, hkJK_88, hkJK_89, jA_66_36, jA_66_37, jA_66_38, jL_87, jL_88, jL_89, jR_66_36, jR_66_37, jR_66_38, hkP1_0, hkP1_2, hkP1_u, hkC8, List.map_cons, List.map_nil, List.sum_cons, List.sum_nil, hkCat_0, hkCat_1, hkCat_2, Nat.reduceAdd, Nat.reduceLeDiff, hkPush_s, hkPush_n, true_and, and_true, implies_true, true_implies, not_true_eq_false, not_false_eq_true, false_implies, hkTf_0, hkTf_n1, hkOr01, hkOr11, Int.reduceEq, Int.reduceLT, Int.reduceLE, hk102a, hk102b, hk102c, Nat.reduceEqDiff, or_true, true_or, or_false, false_or, and_false, false_and, Classical.not_not, true_implies, List.set_cons_zero, List.set_cons_succ, ne_eq, hkLe_t ht, e1, e2, e3]
    clear e1 e2 e3
    repeat' (first | exact IH | refine And.intro ?_ ?_ | intro _ | trivial | omega | (exfalso; omega))
theorem tie_sheet {xs : Int → Int} {L s so n : Int} (ht : 190 ≤ t) (hR : Rel xs L g) : Tie xs L 30 (d + 12) [(2, 0), (0, s), (0, so), (0, n)] 169 [(2, 66), (0, s), (0, so), (0, n), hkU] t g := by
  obtain ⟨R, N, hb, hr⟩ := id hR
  by_cases hs : (0 ≤ s ∧ s ≤ 3) ∧ (-1 ≤ so ∧ so ≤ 1)
  · obtain ⟨⟨s0, s3⟩, o0, o1⟩ := id hs
    obtain ⟨a1, a2, a3, a4, a5, a6, a7⟩ := sh_f ht s0 s3
    -- what both do to a sheet
    have BOTH : ∀ n' : Int, 0 ≤ n' → n' ≤ 40 → (so = -1 → n' = 0) → (so ≠ -1 → n' = n) → Xp 169 (d + 12) 0 [(2, 66), (0, s), (0, so), (0, n), hkU] [] t (bcM g s so n') (fun r2 t2 g2 => r2 = some (0, 1) ∧ t2 = t ∧ Rel xs L g2) := by
      intro n' n0 n1 hn1 hn2
      have LP : Xp 169 (d + 12) 71 [(2, 66), (0, s), (0, so), (0, n), (0, 0)] [] t (hkSet (hkSet (bcM g s so n') 87 s so) 88 s n') (fun r2 t2 g2 => r2 = some (0, 1) ∧ t2 = t ∧ Rel xs L g2) := by
        refine l_mzero ht s0 s3 40 0 _ rfl (fun g' k1 k2 k3 => ⟨rfl, rfl, ?_⟩)
        have e : ∀ q : Int, q ≠ 87 → q ≠ 88 → q ≠ 89 → g' q = bcM g s so n' q := fun q q1 q2 q3 => by rw [k1 q q3, hkSet_row q2, hkSet_row q1]
        have e2 : ∀ q : Int, q ≠ 58 + 2 * s → q ≠ 59 + 2 * s → bcM g s so n' q = g q := fun q q1 q2 => by unfold bcM; rw [hkFil_row q2, hkSet_row q1, hkSet_row q1]
        refine Rel_sh hb hr (fun q q1 q2 => by rw [e q (by omega) (by omega) (by omega), e2 q (by omega) (by omega)]) (fun s' s0' s4' => ?_)
        obtain ⟨b1, b2, b3, b4, b5, b6⟩ := hr.2.2.2.1 s' s0' s4'
        rw [e (58 + 2 * s') (by omega) (by omega) (by omega), e (59 + 2 * s') (by omega) (by omega) (by omega), k1 87 (by decide), k1 88 (by decide)]
        by_cases es : s' = s
        · subst es
          refine ⟨?_, ?_, ?_, ?_, ?_, fun k k0 k4' => ?_⟩
          · unfold bcM
            rw [hkFil_row (by omega), hkSet_rd, if_neg (by omega), hkSet_rd, if_pos ⟨rfl, rfl⟩, hkSet_rd, if_neg (by omega), hkSet_rd, if_pos ⟨rfl, rfl⟩]
          · unfold bcM
            rw [hkFil_row (by omega), hkSet_rd, if_pos ⟨rfl, rfl⟩, hkSet_rd, if_pos ⟨rfl, rfl⟩]
          · rw [hkSet_row (by decide), hkSet_rd, if_pos ⟨rfl, rfl⟩]; omega
          · rw [hkSet_rd, if_pos ⟨rfl, rfl⟩]; exact n0
          · rw [hkSet_rd, if_pos ⟨rfl, rfl⟩]; exact n1
          · have k4 : k < 40 := by rw [hkSet_rd, if_pos ⟨rfl, rfl⟩] at k4'; omega
            rw [k2 k k0 k4]
            unfold bcM
            rw [hkFil_rd, if_pos ⟨rfl, k0, k4⟩]
        · rw [e2 _ (by omega) (by omega), e2 _ (by omega) (by omega)]
          have r87 : bcM g s so n' 87 = g 87 := e2 87 (by omega) (by omega)
          have r88 : bcM g s so n' 88 = g 88 := e2 88 (by omega) (by omega)
          have r89 : bcM g s so n' 89 = g 89 := e2 89 (by omega) (by omega)
          refine ⟨?_, ?_, ?_, ?_, ?_, fun k k0 k4' => ?_⟩
          · rw [hkSet_row (by decide), hkSet_rd, if_neg (by omega), r87]; exact b1
          · rw [hkSet_rd, if_neg (by omega), hkSet_row (by decide), r88]; exact b2
          · rw [hkSet_row (by decide), hkSet_rd, if_neg (by omega), r87]; exact b3
          · rw [hkSet_rd, if_neg (by omega), hkSet_row (by decide), r88]; exact b4
          · rw [hkSet_rd, if_neg (by omega), hkSet_row (by decide), r88]; exact b5
          · have k4 : k < g 88 s' := by rw [hkSet_rd, if_neg (by omega), hkSet_row (by decide), r88] at k4'; exact k4'
            rw [k3 _ (by omega), hkSet_row (by decide), hkSet_row (by decide), r89]; exact b6 k k0 k4
      by_cases ho : so = -1
      · have hn' := hn1 ho
        subst hn'
        simp only [x_169_0, x_169_1, x_169_4, x_169_7, x_169_8, x_169_9, x_169_12, x_169_13, x_169_16, x_169_19, x_169_20, x_169_21, x_169_24, x_169_25, x_169_27, x_169_30, x_169_32, x_169_33, x_169_34, x_169_35, x_169_38, x_169_39, x_169_42, x_169_44, x_169_45, x_169_46, x_169_49, x_169_50, x_169_51, x_169_52, x_169_53, x_169_56, x_169_57, x_169_58, x_169_59, x_169_62, x_169_63, x_169_66, x_169_67, x_169_68, x_169_69, hkJK_66, hkJK_87, hkJK_88, hkJK_89, jA_66_36, jA_66_37, jA_66_38, jL_87, jL_88, jL_89, jR_66_36, jR_66_37, jR_66_38, hkP1_0, hkP1_2, hkP1_u, hkC8, List.map_cons, List.map_nil, List.sum_cons, List.sum_nil, hkCat_0, hkCat_1, hkCat_2, Nat.reduceAdd, Nat.reduceLeDiff, hkPush_s, hkPush_n, true_and, and_true, implies_true, true_implies, not_true_eq_false, not_false_eq_true, false_implies, hkTf_0, hkTf_n1, hkOr01, hkOr11, Int.reduceEq, Int.reduceLT, Int.reduceLE, hk102a, hk102b, hk102c, Nat.reduceEqDiff, or_true, true_or, or_false, false_or, and_false, false_and, Classical.not_not, true_implies, List.set_cons_zero, List.set_cons_succ, ne_eq, hkLe_t ht, sx_mIsSheet, sx_mIsIn]
        repeat' (first | exact LP | refine And.intro ?_ ?_ | intro _ | trivial | omega | (exfalso; omega))
      · have hn' := hn2 ho
        subst hn'
        simp only [x_169_0, x_169_1, x_169_4, x_169_7, x_169_8, x_169_9, x_169_12, x_169_13, x_169_16, x_169_19, x_169_20, x_169_21, x_169_24, x_169_25, x_169_27, x_169_30, x_169_32, x_169_33, x_169_34, x_169_35, x_169_38, x_169_39, x_169_42, x_169_44, x_169_45, x_169_46, x_169_49, x_169_50, x_169_51, x_169_52, x_169_53, x_169_56, x_169_57, x_169_58, x_169_59, x_169_62, x_169_63, x_169_66, x_169_67, x_169_68, x_169_69, hkJK_66, hkJK_87, hkJK_88, hkJK_89, jA_66_36, jA_66_37, jA_66_38, jL_87, jL_88, jL_89, jR_66_36, jR_66_37, jR_66_38, hkP1_0, hkP1_2, hkP1_u, hkC8, List.map_cons, List.map_nil, List.sum_cons, List.sum_nil, hkCat_0, hkCat_1, hkCat_2, Nat.reduceAdd, Nat.reduceLeDiff, hkPush_s, hkPush_n, true_and, and_true, implies_true, true_implies, not_true_eq_false, not_false_eq_true, false_implies, hkTf_0, hkTf_n1, hkOr01, hkOr11, Int.reduceEq, Int.reduceLT, Int.reduceLE, hk102a, hk102b, hk102c, Nat.reduceEqDiff, or_true, true_or, or_false, false_or, and_false, false_and, Classical.not_not, true_implies, List.set_cons_zero, List.set_cons_succ, ne_eq, hkLe_t ht, sx_mIsSheet, sx_mIsIn]
        repeat' (first | exact LP | refine And.intro ?_ ?_ | intro _ | trivial | omega | (exfalso; omega))
    by_cases ho : so = -1
    · have B := BOTH 0 (by decide) (by decide) (fun _ => rfl) (fun h => absurd ho h)
      subst ho
      have C : ∀ Q : Option hkV → Nat → hkG → Prop, Q (some (0, 1)) t (bcM g s (-1) 0) → Xp 30 (d + 12) 0 [(2, 0), (0, s), (0, -1), (0, n)] [] t g Q := by
        intro Q hq
        simp only [x_30_0, x_30_1, x_30_4, x_30_7, x_30_8, x_30_9, x_30_10, x_30_13, x_30_16, x_30_18, x_30_19, x_30_20, x_30_21, x_30_24, x_30_25, x_30_28, x_30_29, x_30_30, x_30_31, x_30_32, x_30_35, x_30_36, hkJK_0, hkJK_57, jA_0_12, jL_57, jR_0_12, hkP1_0, hkP1_2, hkP1_u, hkC8, List.map_cons, List.map_nil, List.sum_cons, List.sum_nil, hkCat_0, hkCat_1, hkCat_2, Nat.reduceAdd, Nat.reduceLeDiff, hkPush_s, hkPush_n, true_and, and_true, implies_true, true_implies, not_true_eq_false, not_false_eq_true, false_implies, hkTf_0, hkTf_n1, hkOr01, hkOr11, Int.reduceEq, Int.reduceLT, Int.reduceLE, hk102a, hk102b, hk102c, Nat.reduceEqDiff, or_true, true_or, or_false, false_or, and_false, false_and, Classical.not_not, true_implies, List.set_cons_zero, List.set_cons_succ, ne_eq, hkLe_t ht, sx_isNoSheet, sx_isOff, hkJK_57, jL_57, a1, a2, a3, sx_bec ht s0 s3]
        repeat' (first | exact hq | refine And.intro ?_ ?_ | intro _ | trivial | omega | (exfalso; omega))
      exact C _ ⟨_, rfl, rfl, B⟩
    · by_cases hn : n < 0 ∨ 40 < n
      · refine tie_still (v := (0, if 40 < n then -2 else -14)) hR (fun Q hq => ?_) (fun Q hq => ?_)
        · by_cases h40 : 40 < n
          · rw [if_pos h40] at hq
            simp only [x_30_0, x_30_1, x_30_4, x_30_7, x_30_8, x_30_9, x_30_10, x_30_13, x_30_16, x_30_18, x_30_19, x_30_20, x_30_21, x_30_24, x_30_25, x_30_28, x_30_29, x_30_30, x_30_31, x_30_32, x_30_35, x_30_36, x_30_37, x_30_38, x_30_40, x_30_43, x_30_45, x_30_46, x_30_47, x_30_50, x_30_52, hkJK_0, hkJK_57, jA_0_12, jL_57, jR_0_12, hkP1_0, hkP1_2, hkP1_u, hkC8, List.map_cons, List.map_nil, List.sum_cons, List.sum_nil, hkCat_0, hkCat_1, hkCat_2, Nat.reduceAdd, Nat.reduceLeDiff, hkPush_s, hkPush_n, true_and, and_true, implies_true, true_implies, not_true_eq_false, not_false_eq_true, false_implies, hkTf_0, hkTf_n1, hkOr01, hkOr11, Int.reduceEq, Int.reduceLT, Int.reduceLE, hk102a, hk102b, hk102c, Nat.reduceEqDiff, or_true, true_or, or_false, false_or, and_false, false_and, Classical.not_not, true_implies, List.set_cons_zero, List.set_cons_succ, ne_eq, hkLe_t ht, sx_isNoSheet, sx_isOff, hkJK_57, jL_57, a1, a2]
            repeat' (first | exact hq | refine And.intro ?_ ?_ | intro _ | trivial | omega | (exfalso; omega))
          · rw [if_neg h40] at hq
            simp only [x_30_0, x_30_1, x_30_4, x_30_7, x_30_8, x_30_9, x_30_10, x_30_13, x_30_16, x_30_18, x_30_19, x_30_20, x_30_21, x_30_24, x_30_25, x_30_28, x_30_29, x_30_30, x_30_31, x_30_32, x_30_35, x_30_36, x_30_37, x_30_38, x_30_40, x_30_43, x_30_45, x_30_46, x_30_47, x_30_50, x_30_52, hkJK_0, hkJK_57, jA_0_12, jL_57, jR_0_12, hkP1_0, hkP1_2, hkP1_u, hkC8, List.map_cons, List.map_nil, List.sum_cons, List.sum_nil, hkCat_0, hkCat_1, hkCat_2, Nat.reduceAdd, Nat.reduceLeDiff, hkPush_s, hkPush_n, true_and, and_true, implies_true, true_implies, not_true_eq_false, not_false_eq_true, false_implies, hkTf_0, hkTf_n1, hkOr01, hkOr11, Int.reduceEq, Int.reduceLT, Int.reduceLE, hk102a, hk102b, hk102c, Nat.reduceEqDiff, or_true, true_or, or_false, false_or, and_false, false_and, Classical.not_not, true_implies, List.set_cons_zero, List.set_cons_succ, ne_eq, hkLe_t ht, sx_isNoSheet, sx_isOff, hkJK_57, jL_57, a1, a2]
            repeat' (first | exact hq | refine And.intro ?_ ?_ | intro _ | trivial | omega | (exfalso; omega))
        · by_cases h40 : 40 < n
          · rw [if_pos h40] at hq
            simp only [x_169_0, x_169_1, x_169_4, x_169_7, x_169_8, x_169_9, x_169_12, x_169_13, x_169_16, x_169_19, x_169_20, x_169_21, x_169_24, x_169_25, x_169_27, x_169_30, x_169_32, x_169_33, x_169_34, x_169_35, x_169_38, x_169_39, x_169_42, x_169_44, hkJK_66, hkJK_87, hkJK_88, hkJK_89, jA_66_36, jA_66_37, jA_66_38, jL_87, jL_88, jL_89, jR_66_36, jR_66_37, jR_66_38, hkP1_0, hkP1_2, hkP1_u, hkC8, List.map_cons, List.map_nil, List.sum_cons, List.sum_nil, hkCat_0, hkCat_1, hkCat_2, Nat.reduceAdd, Nat.reduceLeDiff, hkPush_s, hkPush_n, true_and, and_true, implies_true, true_implies, not_true_eq_false, not_false_eq_true, false_implies, hkTf_0, hkTf_n1, hkOr01, hkOr11, Int.reduceEq, Int.reduceLT, Int.reduceLE, hk102a, hk102b, hk102c, Nat.reduceEqDiff, or_true, true_or, or_false, false_or, and_false, false_and, Classical.not_not, true_implies, List.set_cons_zero, List.set_cons_succ, ne_eq, hkLe_t ht, sx_mIsSheet, sx_mIsIn]
            repeat' (first | exact hq | refine And.intro ?_ ?_ | intro _ | trivial | omega | (exfalso; omega))
          · rw [if_neg h40] at hq
            simp only [x_169_0, x_169_1, x_169_4, x_169_7, x_169_8, x_169_9, x_169_12, x_169_13, x_169_16, x_169_19, x_169_20, x_169_21, x_169_24, x_169_25, x_169_27, x_169_30, x_169_32, x_169_33, x_169_34, x_169_35, x_169_38, x_169_39, x_169_42, x_169_44, hkJK_66, hkJK_87, hkJK_88, hkJK_89, jA_66_36, jA_66_37, jA_66_38, jL_87, jL_88, jL_89, jR_66_36, jR_66_37, jR_66_38, hkP1_0, hkP1_2, hkP1_u, hkC8, List.map_cons, List.map_nil, List.sum_cons, List.sum_nil, hkCat_0, hkCat_1, hkCat_2, Nat.reduceAdd, Nat.reduceLeDiff, hkPush_s, hkPush_n, true_and, and_true, implies_true, true_implies, not_true_eq_false, not_false_eq_true, false_implies, hkTf_0, hkTf_n1, hkOr01, hkOr11, Int.reduceEq, Int.reduceLT, Int.reduceLE, hk102a, hk102b, hk102c, Nat.reduceEqDiff, or_true, true_or, or_false, false_or, and_false, false_and, Classical.not_not, true_implies, List.set_cons_zero, List.set_cons_succ, ne_eq, hkLe_t ht, sx_mIsSheet, sx_mIsIn]
            repeat' (first | exact hq | refine And.intro ?_ ?_ | intro _ | trivial | omega | (exfalso; omega))
      · have B := BOTH n (by omega) (by omega) (fun h => absurd h ho) (fun _ => rfl)
        have C : ∀ Q : Option hkV → Nat → hkG → Prop, Q (some (0, 1)) t (bcM g s so n) → Xp 30 (d + 12) 0 [(2, 0), (0, s), (0, so), (0, n)] [] t g Q := by
          intro Q hq
          simp only [x_30_0, x_30_1, x_30_4, x_30_7, x_30_8, x_30_9, x_30_10, x_30_13, x_30_16, x_30_18, x_30_19, x_30_20, x_30_21, x_30_24, x_30_25, x_30_28, x_30_29, x_30_30, x_30_31, x_30_32, x_30_35, x_30_36, x_30_37, x_30_38, x_30_40, x_30_43, x_30_45, x_30_46, x_30_47, x_30_50, x_30_52, x_30_53, x_30_54, x_30_57, x_30_58, x_30_59, x_30_60, x_30_61, x_30_64, x_30_65, hkJK_0, hkJK_57, jA_0_12, jL_57, jR_0_12, hkP1_0, hkP1_2, hkP1_u, hkC8, List.map_cons, List.map_nil, List.sum_cons, List.sum_nil, hkCat_0, hkCat_1, hkCat_2, Nat.reduceAdd, Nat.reduceLeDiff, hkPush_s, hkPush_n, true_and, and_true, implies_true, true_implies, not_true_eq_false, not_false_eq_true, false_implies, hkTf_0, hkTf_n1, hkOr01, hkOr11, Int.reduceEq, Int.reduceLT, Int.reduceLE, hk102a, hk102b, hk102c, Nat.reduceEqDiff, or_true, true_or, or_false, false_or, and_false, false_and, Classical.not_not, true_implies, List.set_cons_zero, List.set_cons_succ, ne_eq, hkLe_t ht, sx_isNoSheet, sx_isOff, hkJK_57, jL_57, a1, a2, a3, sx_bec ht s0 s3]
          repeat' (first | exact hq | refine And.intro ?_ ?_ | intro _ | trivial | omega | (exfalso; omega))
        exact C _ ⟨_, rfl, rfl, B⟩
  · refine tie_still (v := (0, -2)) hR (fun Q hq => ?_) (fun Q hq => ?_)
    · simp only [x_30_0, x_30_1, x_30_4, x_30_7, x_30_8, x_30_9, x_30_10, x_30_13, x_30_16, x_30_18, hkJK_0, hkJK_57, jA_0_12, jL_57, jR_0_12, hkP1_0, hkP1_2, hkP1_u, hkC8, List.map_cons, List.map_nil, List.sum_cons, List.sum_nil, hkCat_0, hkCat_1, hkCat_2, Nat.reduceAdd, Nat.reduceLeDiff, hkPush_s, hkPush_n, true_and, and_true, implies_true, true_implies, not_true_eq_false, not_false_eq_true, false_implies, hkTf_0, hkTf_n1, hkOr01, hkOr11, Int.reduceEq, Int.reduceLT, Int.reduceLE, hk102a, hk102b, hk102c, Nat.reduceEqDiff, or_true, true_or, or_false, false_or, and_false, false_and, Classical.not_not, true_implies, List.set_cons_zero, List.set_cons_succ, ne_eq, sx_isNoSheet, sx_isOff]
      repeat' (first | exact hq | refine And.intro ?_ ?_ | intro _ | trivial | omega | (exfalso; omega))
    · simp only [x_169_0, x_169_1, x_169_4, x_169_7, x_169_8, x_169_9, x_169_12, x_169_13, x_169_16, x_169_19, x_169_20, x_169_21, x_169_24, x_169_25, x_169_27, x_169_30, x_169_32, hkJK_66, hkJK_87, hkJK_88, hkJK_89, jA_66_36, jA_66_37, jA_66_38, jL_87, jL_88, jL_89, jR_66_36, jR_66_37, jR_66_38, hkP1_0, hkP1_2, hkP1_u, hkC8, List.map_cons, List.map_nil, List.sum_cons, List.sum_nil, hkCat_0, hkCat_1, hkCat_2, Nat.reduceAdd, Nat.reduceLeDiff, hkPush_s, hkPush_n, true_and, and_true, implies_true, true_implies, not_true_eq_false, not_false_eq_true, false_implies, hkTf_0, hkTf_n1, hkOr01, hkOr11, Int.reduceEq, Int.reduceLT, Int.reduceLE, hk102a, hk102b, hk102c, Nat.reduceEqDiff, or_true, true_or, or_false, false_or, and_false, false_and, Classical.not_not, true_implies, List.set_cons_zero, List.set_cons_succ, ne_eq, sx_mIsSheet, sx_mIsIn]
      repeat' (first | exact hq | refine And.intro ?_ ?_ | intro _ | trivial | omega | (exfalso; omega))
end SP
