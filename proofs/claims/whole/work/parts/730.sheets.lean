/-! sheets: leaves; ties: put, sheet -/
theorem shAll : ∀ s : Nat, s < 4 → jAi 57 (s : Int) ≤ 190 ∧ jRi 57 (s : Int) = 58 + 2 * s ∧ hkJK (58 + 2 * (s : Int)) = 9 ∧ jA (58 + 2 * (s : Int)) 2 ≤ 190 ∧ jR (58 + 2 * (s : Int)) 2 = 59 + 2 * s ∧ hkJK (59 + 2 * (s : Int)) = 100 ∧ jL (59 + 2 * (s : Int)) = 40 := by decide +kernel
theorem sh_f {t : Nat} {s : Int} (ht : 190 ≤ t) (h0 : 0 ≤ s) (h3 : s ≤ 3) : jAi 57 s ≤ t ∧ jRi 57 s = 58 + 2 * s ∧ hkJK (58 + 2 * s) = 9 ∧ jA (58 + 2 * s) 2 ≤ t ∧ jR (58 + 2 * s) 2 = 59 + 2 * s ∧ hkJK (59 + 2 * s) = 100 ∧ jL (59 + 2 * s) = 40 := by
  obtain ⟨a1, a2, a3, a4, a5, a6, a7⟩ := shAll s.toNat (by omega)
  rw [show ((s.toNat : Nat) : Int) = s from by omega] at a1 a2 a3 a4 a5 a6 a7
  exact ⟨Nat.le_trans a1 ht, a2, a3, Nat.le_trans a4 ht, a5, a6, a7⟩
section SP
variable {t d : Nat} {g : hkG} {R N : Int} {Q : Option hkV → Nat → hkG → Prop}
theorem sx_isNoSheet {a : Int} : Xp 12 (d + 1) 0 [(0, a)] [] t g Q = Q (some (0, hkTf (a < 0 ∨ 3 < a))) t g := Xp_ev (s_isNoSheet (D := 1) (Nat.le_refl _)) (by omega)
theorem sx_isNoByte {a : Int} : Xp 19 (d + 1) 0 [(0, a)] [] t g Q = Q (some (0, hkTf (a < 0 ∨ 255 < a))) t g := Xp_ev (s_isNoByte (d := 0) (D := 1) (Nat.le_refl _)) (by omega)
theorem sx_mIsSheet {a : Int} : Xp 130 (d + 1) 0 [(0, a)] [] t g Q = Q (some (0, hkTf (0 ≤ a ∧ a ≤ 3))) t g := by
  simp only [x_130_0, x_130_1, x_130_2, x_130_3, x_130_6, x_130_9, hkP1_0, hkP1_2, hkP1_u, hkC8, List.map_cons, List.map_nil, List.sum_cons, List.sum_nil, hkCat_0, hkCat_1, hkCat_2, Nat.reduceAdd, Nat.reduceLeDiff, hkPush_s, hkPush_n, true_and, and_true, implies_true, true_implies, not_true_eq_false, not_false_eq_true, false_implies, hkTf_0, hkTf_n1, hkOr01, hkOr11, Int.reduceEq, Int.reduceLT, Int.reduceLE, hk102a, hk102b, hk102c, Nat.reduceEqDiff, or_true, true_or, or_false, false_or, and_false, false_and, Classical.not_not, true_implies, List.set_cons_zero, List.set_cons_succ, ne_eq, sx_mIsIn]
theorem sx_isMissing {p : Int} (h : hkJK p = 9) : Xp 95 d 0 [(2, p)] [] t g Q = Q (some (0, hkTf (g p 0 = -1))) t g := by
  refine Xp_ev (d := 0) (Ev_of ?_) (Nat.zero_le _)
  simp only [x_95_0, x_95_1, x_95_4, x_95_5, x_95_8, x_95_9, x_95_12, x_95_13, hkP1_0, hkP1_2, hkP1_u, hkC8, List.map_cons, List.map_nil, List.sum_cons, List.sum_nil, hkCat_0, hkCat_1, hkCat_2, Nat.reduceAdd, Nat.reduceLeDiff, hkPush_s, hkPush_n, true_and, and_true, implies_true, true_implies, not_true_eq_false, not_false_eq_true, false_implies, hkTf_0, hkTf_n1, hkOr01, hkOr11, Int.reduceEq, Int.reduceLT, Int.reduceLE, hk102a, hk102b, hk102c, Nat.reduceEqDiff, or_true, true_or, or_false, false_or, and_false, false_and, Classical.not_not, true_implies, List.set_cons_zero, List.set_cons_succ, ne_eq, h]
  by_cases e : g p 0 = -1
  · rw [hkTf_t e]; exact ⟨fun h2 => absurd e h2, fun _ => rfl⟩
  · rw [hkTf_f e]; exact ⟨fun _ => rfl, fun h2 => absurd h2 e⟩
theorem sx_hasItem {p i : Int} (h : hkJK p = 9) : Xp 99 d 0 [(2, p), (0, i)] [] t g Q = Q (some (0, hkTf (0 ≤ i ∧ i < g p 1))) t g := by
  refine Xp_ev (d := 0) (Ev_of ?_) (Nat.zero_le _)
  simp only [x_99_0, x_99_1, x_99_4, x_99_5, x_99_6, x_99_9, x_99_12, x_99_13, x_99_16, x_99_17, hkP1_0, hkP1_2, hkP1_u, hkC8, List.map_cons, List.map_nil, List.sum_cons, List.sum_nil, hkCat_0, hkCat_1, hkCat_2, Nat.reduceAdd, Nat.reduceLeDiff, hkPush_s, hkPush_n, true_and, and_true, implies_true, true_implies, not_true_eq_false, not_false_eq_true, false_implies, hkTf_0, hkTf_n1, hkOr01, hkOr11, Int.reduceEq, Int.reduceLT, Int.reduceLE, hk102a, hk102b, hk102c, Nat.reduceEqDiff, or_true, true_or, or_false, false_or, and_false, false_and, Classical.not_not, true_implies, List.set_cons_zero, List.set_cons_succ, ne_eq, h]
  by_cases e : 0 ≤ i ∧ i < g p 1
  · rw [hkTf_t e]
    repeat' (first | rfl | refine And.intro ?_ ?_ | intro _ | trivial | omega | (exfalso; omega))
  · rw [hkTf_f e]
    repeat' (first | rfl | refine And.intro ?_ ?_ | intro _ | trivial | omega | (exfalso; omega))
theorem sx_hasStretch {p i n : Int} (h : hkJK p = 9) (hs : 0 ≤ g p 1 ∧ g p 1 ≤ 40) (hi : inI i) : Xp 100 d 0 [(2, p), (0, i), (0, n)] [] t g Q = Q (some (0, hkTf (0 ≤ n ∧ 0 ≤ i ∧ i ≤ g p 1 - n))) t g := by
  unfold inI at hi
  refine Xp_ev (d := 0) (Ev_of ?_) (Nat.zero_le _)
  simp only [x_100_0, x_100_1, x_100_4, x_100_5, x_100_6, x_100_9, x_100_12, x_100_13, x_100_16, x_100_17, x_100_18, x_100_21, x_100_22, x_100_23, x_100_26, x_100_27, x_100_30, x_100_31, hkP1_0, hkP1_2, hkP1_u, hkC8, List.map_cons, List.map_nil, List.sum_cons, List.sum_nil, hkCat_0, hkCat_1, hkCat_2, Nat.reduceAdd, Nat.reduceLeDiff, hkPush_s, hkPush_n, true_and, and_true, implies_true, true_implies, not_true_eq_false, not_false_eq_true, false_implies, hkTf_0, hkTf_n1, hkOr01, hkOr11, Int.reduceEq, Int.reduceLT, Int.reduceLE, hk102a, hk102b, hk102c, Nat.reduceEqDiff, or_true, true_or, or_false, false_or, and_false, false_and, Classical.not_not, true_implies, List.set_cons_zero, List.set_cons_succ, ne_eq, h]
  by_cases e : 0 ≤ n ∧ 0 ≤ i ∧ i ≤ g p 1 - n
  · rw [hkTf_t e, hkW_in (by omega) (by omega)]
    repeat' (first | rfl | refine And.intro ?_ ?_ | intro _ | trivial | omega | (exfalso; omega))
  · rw [hkTf_f e]
    by_cases e2 : 0 ≤ n ∧ n ≤ g p 1
    · rw [hkW_in (by omega) (by omega)]
      repeat' (first | rfl | refine And.intro ?_ ?_ | intro _ | trivial | omega | (exfalso; omega))
    · repeat' (first | rfl | refine And.intro ?_ ?_ | intro _ | trivial | omega | (exfalso; omega))
def shV2 (so v : Int) : Int := if so = 0 then Int.bmod v 65536 else v
theorem sx_set {s i v : Int} (ht : 190 ≤ t) (s0 : 0 ≤ s) (s3 : s ≤ 3) (hv : 0 ≤ i ∧ i < g (58 + 2 * s) 1) (hs : g (58 + 2 * s) 1 ≤ 40) : Xp 98 (d + 1) 0 [(2, 58 + 2 * s), (0, i), (0, v)] [] t g Q = Q none t (hkSet g (59 + 2 * s) i (shV2 (g (58 + 2 * s) 0) v)) := by
  obtain ⟨a1, a2, a3, a4, a5, a6, a7⟩ := sh_f ht s0 s3
  refine Xp_ev (d := 1) (Ev_of ?_) (by omega)
  simp only [x_98_0, x_98_1, x_98_2, x_98_5, x_98_8, x_98_9, x_98_12, x_98_13, x_98_14, x_98_17, x_98_20, x_98_21, x_98_22, x_98_25, x_98_26, x_98_27, hkP1_0, hkP1_2, hkP1_u, hkC8, List.map_cons, List.map_nil, List.sum_cons, List.sum_nil, hkCat_0, hkCat_1, hkCat_2, Nat.reduceAdd, Nat.reduceLeDiff, hkPush_s, hkPush_n, true_and, and_true, implies_true, true_implies, not_true_eq_false, not_false_eq_true, false_implies, hkTf_0, hkTf_n1, hkOr01, hkOr11, Int.reduceEq, Int.reduceLT, Int.reduceLE, hk102a, hk102b, hk102c, Nat.reduceEqDiff, or_true, true_or, or_false, false_or, and_false, false_and, Classical.not_not, true_implies, List.set_cons_zero, List.set_cons_succ, ne_eq, sx_hasItem a3, a3, a4, a5, a6, a7]
  unfold shV2
  by_cases e : g (58 + 2 * s) 0 = 0
  · simp only [if_pos e]
    repeat' (first | rfl | refine And.intro ?_ ?_ | intro _ | trivial | omega | (exfalso; omega))
  · simp only [if_neg e]
    repeat' (first | rfl | refine And.intro ?_ ?_ | intro _ | trivial | omega | (exfalso; omega))
def bcM (g : hkG) (s so n : Int) : hkG := hkFil (hkSet (hkSet g (58 + 2 * s) 0 so) (58 + 2 * s) 1 n) (59 + 2 * s) 0 40 0
theorem sx_bec {s so n : Int} (ht : 190 ≤ t) (s0 : 0 ≤ s) (s3 : s ≤ 3) : Xp 97 (d + 1) 0 [(2, 58 + 2 * s), (0, so), (0, n)] [] t g Q = Q none t (bcM g s so n) := by
  obtain ⟨a1, a2, a3, a4, a5, a6, a7⟩ := sh_f ht s0 s3
  refine Xp_ev (d := 1) (Ev_of ?_) (by omega)
  simp only [x_97_0, x_97_1, x_97_2, x_97_5, x_97_6, x_97_7, x_97_10, x_97_11, x_97_14, x_97_15, x_97_18, hkP1_0, hkP1_2, hkP1_u, hkC8, List.map_cons, List.map_nil, List.sum_cons, List.sum_nil, hkCat_0, hkCat_1, hkCat_2, Nat.reduceAdd, Nat.reduceLeDiff, hkPush_s, hkPush_n, true_and, and_true, implies_true, true_implies, not_true_eq_false, not_false_eq_true, false_implies, hkTf_0, hkTf_n1, hkOr01, hkOr11, Int.reduceEq, Int.reduceLT, Int.reduceLE, hk102a, hk102b, hk102c, Nat.reduceEqDiff, or_true, true_or, or_false, false_or, and_false, false_and, Classical.not_not, true_implies, List.set_cons_zero, List.set_cons_succ, ne_eq, a3, a4, a5]
  rw [sx_fill a6 (by rw [a7]; decide), a7]
  simp only [x_97_18, hkP1_0, hkP1_2, hkP1_u, hkC8, List.map_cons, List.map_nil, List.sum_cons, List.sum_nil, hkCat_0, hkCat_1, hkCat_2, Nat.reduceAdd, Nat.reduceLeDiff, hkPush_s, hkPush_n, true_and, and_true, implies_true, true_implies, not_true_eq_false, not_false_eq_true, false_implies, hkTf_0, hkTf_n1, hkOr01, hkOr11, Int.reduceEq, Int.reduceLT, Int.reduceLE, hk102a, hk102b, hk102c, Nat.reduceEqDiff, or_true, true_or, or_false, false_or, and_false, false_and, Classical.not_not, true_implies, List.set_cons_zero, List.set_cons_succ, ne_eq]
  exact rfl
/-- the rest, over rows of the sheets alone -/
theorem Rel_sh {g' : hkG} {xs : Int → Int} {L : Int} (hb : RB g R N) (hr : RS g ∧ RK g ∧ RT g ∧ RH g ∧ RL xs L g) (k : ∀ q : Int, ¬ (58 ≤ q ∧ q ≤ 65) → ¬ (87 ≤ q ∧ q ≤ 90) → g' q = g q) (hH : RH g') : Rel xs L g' := by
  obtain ⟨h1, h2, h3, h4, h5⟩ := hr
  have f : ∀ q : Int, q < 58 ∨ (66 ≤ q ∧ q ≤ 86) → g' q = g q := fun q hq => k q (by omega) (by omega)
  refine ⟨R, N, RB_c hb (fun q hq => f q (by omega)), ?_, ?_, ?_, hH, ?_⟩
  · unfold RS; rw [f 52 (by omega), f 72 (by omega), f 66 (by omega)]; exact h1
  · unfold RK; rw [f 0 (by omega), f 56 (by omega), f 73 (by omega), f 66 (by omega)]; exact h2
  · unfold RT; rw [f 27 (by omega), f 85 (by omega), f 24 (by omega), f 66 (by omega)]; exact h3
  · unfold RL; rw [f (-1) (by omega), f (-2) (by omega)]; exact h5
theorem tie_put {xs : Int → Int} {L s i v : Int} (ht : 190 ≤ t) (hI : inI i) (hR : Rel xs L g) : Tie xs L 31 (d + 12) [(2, 0), (0, s), (0, i), (0, v), hkU] 170 [(2, 66), (0, s), (0, i), (0, v)] t g := by
  obtain ⟨R, N, hb, hr⟩ := id hR
  by_cases hs : 0 ≤ s ∧ s ≤ 3
  · obtain ⟨s0, s3⟩ := hs
    obtain ⟨a1, a2, a3, a4, a5, a6, a7⟩ := sh_f ht s0 s3
    obtain ⟨c1, c2, c3, c4, c5, c6⟩ := hr.2.2.2.1 s s0 (by omega)
    have C : ∀ Q : Option hkV → Nat → hkG → Prop, Xp 31 (d + 12) 18 [(2, 0), (0, s), (0, i), (0, v), (2, 58 + 2 * s)] [] t g Q → Xp 31 (d + 12) 0 [(2, 0), (0, s), (0, i), (0, v), hkU] [] t g Q := by
      intro Q hq
      simp only [x_31_0, x_31_1, x_31_4, x_31_7, x_31_9, x_31_10, x_31_11, x_31_14, x_31_15, x_31_16, hkJK_0, hkJK_57, jA_0_12, jL_57, jR_0_12, hkP1_0, hkP1_2, hkP1_u, hkC8, List.map_cons, List.map_nil, List.sum_cons, List.sum_nil, hkCat_0, hkCat_1, hkCat_2, Nat.reduceAdd, Nat.reduceLeDiff, hkPush_s, hkPush_n, true_and, and_true, implies_true, true_implies, not_true_eq_false, not_false_eq_true, false_implies, hkTf_0, hkTf_n1, hkOr01, hkOr11, Int.reduceEq, Int.reduceLT, Int.reduceLE, hk102a, hk102b, hk102c, Nat.reduceEqDiff, or_true, true_or, or_false, false_or, and_false, false_and, Classical.not_not, true_implies, List.set_cons_zero, List.set_cons_succ, ne_eq, hkLe_t ht, sx_isNoSheet, hkJK_57, jL_57, a1, a2]
      repeat' (first | exact hq | refine And.intro ?_ ?_ | intro _ | trivial | omega | (exfalso; omega))
    have M0 : ∀ (g : hkG) (Q : Option hkV → Nat → hkG → Prop), Xp 170 (d + 12) 10 [(2, 66), (0, s), (0, i), (0, v)] [] t g Q → Xp 170 (d + 12) 0 [(2, 66), (0, s), (0, i), (0, v)] [] t g Q := by
      intro g Q hq
      simp only [x_170_0, x_170_1, x_170_4, x_170_7, x_170_9, hkJK_66, hkJK_87, hkJK_88, hkJK_89, jA_66_36, jA_66_37, jA_66_38, jL_87, jL_88, jL_89, jR_66_36, jR_66_37, jR_66_38, hkP1_0, hkP1_2, hkP1_u, hkC8, List.map_cons, List.map_nil, List.sum_cons, List.sum_nil, hkCat_0, hkCat_1, hkCat_2, Nat.reduceAdd, Nat.reduceLeDiff, hkPush_s, hkPush_n, true_and, and_true, implies_true, true_implies, not_true_eq_false, not_false_eq_true, false_implies, hkTf_0, hkTf_n1, hkOr01, hkOr11, Int.reduceEq, Int.reduceLT, Int.reduceLE, hk102a, hk102b, hk102c, Nat.reduceEqDiff, or_true, true_or, or_false, false_or, and_false, false_and, Classical.not_not, true_implies, List.set_cons_zero, List.set_cons_succ, ne_eq, sx_mIsSheet]
      repeat' (first | exact hq | refine And.intro ?_ ?_ | intro _ | trivial | omega | (exfalso; omega))
    have e1 : hkW (g 88 s - 1) = g 88 s - 1 := hkW_in (by omega) (by omega)
    by_cases hm : g 87 s = -1
    · refine tie_still (v := (0, -11)) hR (fun Q hq => C Q ?_) (fun Q hq => M0 g Q ?_)
      · clear e1
        simp only [x_31_18, x_31_20, x_31_23, x_31_26, x_31_28, hkJK_0, hkJK_57, jA_0_12, jL_57, jR_0_12, hkP1_0, hkP1_2, hkP1_u, hkC8, List.map_cons, List.map_nil, List.sum_cons, List.sum_nil, hkCat_0, hkCat_1, hkCat_2, Nat.reduceAdd, Nat.reduceLeDiff, hkPush_s, hkPush_n, true_and, and_true, implies_true, true_implies, not_true_eq_false, not_false_eq_true, false_implies, hkTf_0, hkTf_n1, hkOr01, hkOr11, Int.reduceEq, Int.reduceLT, Int.reduceLE, hk102a, hk102b, hk102c, Nat.reduceEqDiff, or_true, true_or, or_false, false_or, and_false, false_and, Classical.not_not, true_implies, List.set_cons_zero, List.set_cons_succ, ne_eq, sx_isMissing a3, c1]
        repeat' (first | exact hq | refine And.intro ?_ ?_ | intro _ | trivial | omega | (exfalso; omega))
      · clear e1
        simp only [x_170_10, x_170_11, x_170_14, x_170_15, x_170_16, x_170_17, x_170_20, x_170_22, hkJK_66, hkJK_87, hkJK_88, hkJK_89, jA_66_36, jA_66_37, jA_66_38, jL_87, jL_88, jL_89, jR_66_36, jR_66_37, jR_66_38, hkP1_0, hkP1_2, hkP1_u, hkC8, List.map_cons, List.map_nil, List.sum_cons, List.sum_nil, hkCat_0, hkCat_1, hkCat_2, Nat.reduceAdd, Nat.reduceLeDiff, hkPush_s, hkPush_n, true_and, and_true, implies_true, true_implies, not_true_eq_false, not_false_eq_true, false_implies, hkTf_0, hkTf_n1, hkOr01, hkOr11, Int.reduceEq, Int.reduceLT, Int.reduceLE, hk102a, hk102b, hk102c, Nat.reduceEqDiff, or_true, true_or, or_false, false_or, and_false, false_and, Classical.not_not, true_implies, List.set_cons_zero, List.set_cons_succ, ne_eq, hkLe_t ht]
        repeat' (first | exact hq | refine And.intro ?_ ?_ | intro _ | trivial | omega | (exfalso; omega))
    · by_cases hi : 0 ≤ i ∧ i < g 88 s
      · have hi2 : 0 ≤ i ∧ i < g (58 + 2 * s) 1 := by rw [c2]; exact hi
        have hs40 : g (58 + 2 * s) 1 ≤ 40 := by rw [c2]; exact c5
        refine C _ ?_
        have K : Xp 31 (d + 12) 41 [(2, 0), (0, s), (0, i), (0, v), (2, 58 + 2 * s)] [] t g (fun r t1 g1 => ∃ v_1, r = some v_1 ∧ t1 = t ∧ Xp 170 (d + 12) 0 [(2, 66), (0, s), (0, i), (0, v)] [] t g1 (fun r2 t2 g2 => r2 = some v_1 ∧ t2 = t ∧ Rel xs L g2)) := by
          clear e1
          simp only [x_31_41, x_31_43, x_31_44, x_31_45, x_31_48, x_31_49, hkJK_0, hkJK_57, jA_0_12, jL_57, jR_0_12, hkP1_0, hkP1_2, hkP1_u, hkC8, List.map_cons, List.map_nil, List.sum_cons, List.sum_nil, hkCat_0, hkCat_1, hkCat_2, Nat.reduceAdd, Nat.reduceLeDiff, hkPush_s, hkPush_n, true_and, and_true, implies_true, true_implies, not_true_eq_false, not_false_eq_true, false_implies, hkTf_0, hkTf_n1, hkOr01, hkOr11, Int.reduceEq, Int.reduceLT, Int.reduceLE, hk102a, hk102b, hk102c, Nat.reduceEqDiff, or_true, true_or, or_false, false_or, and_false, false_and, Classical.not_not, true_implies, List.set_cons_zero, List.set_cons_succ, ne_eq, sx_set ht s0 s3 hi2 hs40]
          refine And.intro a3 ⟨_, rfl, M0 _ _ ?_⟩
          obtain ⟨e1, e2, e3⟩ : hkW (g 88 s - 1) = g 88 s - 1 ∧ hkW (40 * s) = 40 * s ∧ hkW (40 * s + i) = 40 * s + i := ⟨hkW_in (by omega) (by omega), hkW_in (by omega) (by omega), hkW_in (by omega) (by omega)⟩
          have r87 : hkSet g (59 + 2 * s) i (shV2 (g (58 + 2 * s) 0) v) 87 = g 87 := hkSet_row (by omega)
          have r88 : hkSet g (59 + 2 * s) i (shV2 (g (58 + 2 * s) 0) v) 88 = g 88 := hkSet_row (by omega)
          have F : Rel xs L (hkSet (hkSet g (59 + 2 * s) i (shV2 (g (58 + 2 * s) 0) v)) 89 (40 * s + i) (shV2 (g 87 s) v)) := by
            clear e1 e2 e3
            refine Rel_sh hb hr (fun q q1 q2 => by rw [hkSet_row (by omega), hkSet_row (by omega)]) (fun s' s0' s4' => ?_)
            obtain ⟨b1, b2, b3, b4, b5, b6⟩ := hr.2.2.2.1 s' s0' s4'
            simp only [hkSet_rd]
            rw [if_neg (by omega), if_neg (by omega), if_neg (by omega), if_neg (by omega), if_neg (by omega), if_neg (by omega), if_neg (by omega), if_neg (by omega)]
            refine ⟨b1, b2, b3, b4, b5, fun k k0 k4' => ?_⟩
            have k4 : k < 40 := by omega
            rw [if_neg (by omega)]
            by_cases e : s' = s ∧ k = i
            · obtain ⟨u1, u2⟩ := e
              subst u1
              subst u2
              rw [if_pos (by first | exact ⟨rfl, rfl⟩ | exact ⟨trivial, rfl⟩ | trivial), if_pos (by first | exact ⟨rfl, rfl⟩ | exact ⟨trivial, rfl⟩ | trivial), c1]
            · rw [if_neg (by omega), if_neg (by omega), if_neg (by omega)]
              exact b6 k k0 k4'
          by_cases hz : g 87 s = 0
          · have hsv : shV2 (g 87 s) v = Int.bmod v 65536 := by unfold shV2; rw [if_pos hz]
            rw [hsv] at F
            simp only [x_170_10, x_170_11, x_170_14, x_170_15, x_170_16, x_170_17, x_170_20, x_170_22, x_170_23, x_170_24, x_170_25, x_170_26, x_170_27, x_170_30, x_170_31, x_170_32, x_170_33, x_170_34, x_170_35, x_170_38, x_170_41, x_170_43, x_170_44, x_170_45, x_170_48, x_170_50, x_170_51, x_170_52, x_170_53, x_170_54, x_170_55, x_170_58, x_170_59, x_170_60, x_170_63, x_170_64, x_170_65, x_170_68, x_170_69, x_170_70, x_170_71, hkJK_66, hkJK_87, hkJK_88, hkJK_89, jA_66_36, jA_66_37, jA_66_38, jL_87, jL_88, jL_89, jR_66_36, jR_66_37, jR_66_38, hkP1_0, hkP1_2, hkP1_u, hkC8, List.map_cons, List.map_nil, List.sum_cons, List.sum_nil, hkCat_0, hkCat_1, hkCat_2, Nat.reduceAdd, Nat.reduceLeDiff, hkPush_s, hkPush_n, true_and, and_true, implies_true, true_implies, not_true_eq_false, not_false_eq_true, false_implies, hkTf_0, hkTf_n1, hkOr01, hkOr11, Int.reduceEq, Int.reduceLT, Int.reduceLE, hk102a, hk102b, hk102c, Nat.reduceEqDiff, or_true, true_or, or_false, false_or, and_false, false_and, Classical.not_not, true_implies, List.set_cons_zero, List.set_cons_succ, ne_eq, hkLe_t ht, sx_mIsIn, e1, e2, e3, r87, r88]
            clear e1 e2 e3
            repeat' (first | exact F | refine And.intro ?_ ?_ | intro _ | trivial | omega | (exfalso; omega))
          · have hsv : shV2 (g 87 s) v = v := by unfold shV2; rw [if_neg hz]
            rw [hsv] at F
            simp only [x_170_10, x_170_11, x_170_14, x_170_15, x_170_16, x_170_17, x_170_20, x_170_22, x_170_23, x_170_24, x_170_25, x_170_26, x_170_27, x_170_30, x_170_31, x_170_32, x_170_33, x_170_34, x_170_35, x_170_38, x_170_41, x_170_43, x_170_44, x_170_45, x_170_48, x_170_50, x_170_51, x_170_52, x_170_53, x_170_54, x_170_55, x_170_58, x_170_59, x_170_60, x_170_63, x_170_64, x_170_65, x_170_68, x_170_69, x_170_70, x_170_71, hkJK_66, hkJK_87, hkJK_88, hkJK_89, jA_66_36, jA_66_37, jA_66_38, jL_87, jL_88, jL_89, jR_66_36, jR_66_37, jR_66_38, hkP1_0, hkP1_2, hkP1_u, hkC8, List.map_cons, List.map_nil, List.sum_cons, List.sum_nil, hkCat_0, hkCat_1, hkCat_2, Nat.reduceAdd, Nat.reduceLeDiff, hkPush_s, hkPush_n, true_and, and_true, implies_true, true_implies, not_true_eq_false, not_false_eq_true, false_implies, hkTf_0, hkTf_n1, hkOr01, hkOr11, Int.reduceEq, Int.reduceLT, Int.reduceLE, hk102a, hk102b, hk102c, Nat.reduceEqDiff, or_true, true_or, or_false, false_or, and_false, false_and, Classical.not_not, true_implies, List.set_cons_zero, List.set_cons_succ, ne_eq, hkLe_t ht, sx_mIsIn, e1, e2, e3, r87, r88]
            clear e1 e2 e3
            repeat' (first | exact F | refine And.intro ?_ ?_ | intro _ | trivial | omega | (exfalso; omega))
        clear e1
        simp only [x_31_18, x_31_20, x_31_23, x_31_26, x_31_28, x_31_29, x_31_31, x_31_32, x_31_35, x_31_38, x_31_40, hkJK_0, hkJK_57, jA_0_12, jL_57, jR_0_12, hkP1_0, hkP1_2, hkP1_u, hkC8, List.map_cons, List.map_nil, List.sum_cons, List.sum_nil, hkCat_0, hkCat_1, hkCat_2, Nat.reduceAdd, Nat.reduceLeDiff, hkPush_s, hkPush_n, true_and, and_true, implies_true, true_implies, not_true_eq_false, not_false_eq_true, false_implies, hkTf_0, hkTf_n1, hkOr01, hkOr11, Int.reduceEq, Int.reduceLT, Int.reduceLE, hk102a, hk102b, hk102c, Nat.reduceEqDiff, or_true, true_or, or_false, false_or, and_false, false_and, Classical.not_not, true_implies, List.set_cons_zero, List.set_cons_succ, ne_eq, sx_isMissing a3, sx_hasItem a3, c1, c2]
        repeat' (first | exact K | refine And.intro ?_ ?_ | intro _ | trivial | omega | (exfalso; omega))
      · refine tie_still (v := (0, -12)) hR (fun Q hq => C Q ?_) (fun Q hq => M0 g Q ?_)
        · clear e1
          simp only [x_31_18, x_31_20, x_31_23, x_31_26, x_31_28, x_31_29, x_31_31, x_31_32, x_31_35, x_31_38, x_31_40, hkJK_0, hkJK_57, jA_0_12, jL_57, jR_0_12, hkP1_0, hkP1_2, hkP1_u, hkC8, List.map_cons, List.map_nil, List.sum_cons, List.sum_nil, hkCat_0, hkCat_1, hkCat_2, Nat.reduceAdd, Nat.reduceLeDiff, hkPush_s, hkPush_n, true_and, and_true, implies_true, true_implies, not_true_eq_false, not_false_eq_true, false_implies, hkTf_0, hkTf_n1, hkOr01, hkOr11, Int.reduceEq, Int.reduceLT, Int.reduceLE, hk102a, hk102b, hk102c, Nat.reduceEqDiff, or_true, true_or, or_false, false_or, and_false, false_and, Classical.not_not, true_implies, List.set_cons_zero, List.set_cons_succ, ne_eq, sx_isMissing a3, sx_hasItem a3, c1, c2]
          repeat' (first | exact hq | refine And.intro ?_ ?_ | intro _ | trivial | omega | (exfalso; omega))
        · simp only [x_170_10, x_170_11, x_170_14, x_170_15, x_170_16, x_170_17, x_170_20, x_170_22, x_170_23, x_170_24, x_170_25, x_170_26, x_170_27, x_170_30, x_170_31, x_170_32, x_170_33, x_170_34, x_170_35, x_170_38, x_170_41, x_170_43, hkJK_66, hkJK_87, hkJK_88, hkJK_89, jA_66_36, jA_66_37, jA_66_38, jL_87, jL_88, jL_89, jR_66_36, jR_66_37, jR_66_38, hkP1_0, hkP1_2, hkP1_u, hkC8, List.map_cons, List.map_nil, List.sum_cons, List.sum_nil, hkCat_0, hkCat_1, hkCat_2, Nat.reduceAdd, Nat.reduceLeDiff, hkPush_s, hkPush_n, true_and, and_true, implies_true, true_implies, not_true_eq_false, not_false_eq_true, false_implies, hkTf_0, hkTf_n1, hkOr01, hkOr11, Int.reduceEq, Int.reduceLT, Int.reduceLE, hk102a, hk102b, hk102c, Nat.reduceEqDiff, or_true, true_or, or_false, false_or, and_false, false_and, Classical.not_not, true_implies, List.set_cons_zero, List.set_cons_succ, ne_eq, hkLe_t ht, sx_mIsIn, e1]
          clear e1
          repeat' (first | exact hq | refine And.intro ?_ ?_ | intro _ | trivial | omega | (exfalso; omega))
  · refine tie_still (v := (0, -2)) hR (fun Q hq => ?_) (fun Q hq => ?_)
    · simp only [x_31_0, x_31_1, x_31_4, x_31_7, x_31_9, hkJK_0, hkJK_57, jA_0_12, jL_57, jR_0_12, hkP1_0, hkP1_2, hkP1_u, hkC8, List.map_cons, List.map_nil, List.sum_cons, List.sum_nil, hkCat_0, hkCat_1, hkCat_2, Nat.reduceAdd, Nat.reduceLeDiff, hkPush_s, hkPush_n, true_and, and_true, implies_true, true_implies, not_true_eq_false, not_false_eq_true, false_implies, hkTf_0, hkTf_n1, hkOr01, hkOr11, Int.reduceEq, Int.reduceLT, Int.reduceLE, hk102a, hk102b, hk102c, Nat.reduceEqDiff, or_true, true_or, or_false, false_or, and_false, false_and, Classical.not_not, true_implies, List.set_cons_zero, List.set_cons_succ, ne_eq, sx_isNoSheet]
      repeat' (first | exact hq | refine And.intro ?_ ?_ | intro _ | trivial | omega | (exfalso; omega))
    · simp only [x_170_0, x_170_1, x_170_4, x_170_7, x_170_9, hkJK_66, hkJK_87, hkJK_88, hkJK_89, jA_66_36, jA_66_37, jA_66_38, jL_87, jL_88, jL_89, jR_66_36, jR_66_37, jR_66_38, hkP1_0, hkP1_2, hkP1_u, hkC8, List.map_cons, List.map_nil, List.sum_cons, List.sum_nil, hkCat_0, hkCat_1, hkCat_2, Nat.reduceAdd, Nat.reduceLeDiff, hkPush_s, hkPush_n, true_and, and_true, implies_true, true_implies, not_true_eq_false, not_false_eq_true, false_implies, hkTf_0, hkTf_n1, hkOr01, hkOr11, Int.reduceEq, Int.reduceLT, Int.reduceLE, hk102a, hk102b, hk102c, Nat.reduceEqDiff, or_true, true_or, or_false, false_or, and_false, false_and, Classical.not_not, true_implies, List.set_cons_zero, List.set_cons_succ, ne_eq, sx_mIsSheet]
      repeat' (first | exact hq | refine And.intro ?_ ?_ | intro _ | trivial | omega | (exfalso; omega))
end SP
