/-! ties: box, image, back -/
section SP
variable {t d : Nat} {Q : Option hkV → Nat → hkG → Prop}
theorem l_mbox (ht : 190 ≤ t) {c a b : Int} : ∀ (m k : Nat) (g : hkG), k + m = 280 → g 66 2 = c → Q (some (0, c)) t (hkFil g 72 k 280 0) → Xp 106 d 46 [(2, 66), (0, a), (0, b), (0, (k : Int))] [] t g Q := by
  intro m
  induction m with
  | zero =>
    intro k g hk hc hQ
    have e : k = 280 := by omega
    subst e
    rw [show ((280 : Nat) : Int) = 280 from rfl] at hQ ⊢
    rw [hkFil_0] at hQ
    rw [x_106_46]
    simp only [x_106_47, x_106_50, hkJK_66, hkJK_72, jA_66_8, jL_72, jR_66_8, hkP1_0, hkP1_2, hkP1_u, hkC8, List.map_cons, List.map_nil, List.sum_cons, List.sum_nil, hkCat_0, hkCat_1, hkCat_2, Nat.reduceAdd, Nat.reduceLeDiff, hkPush_s, hkPush_n, true_and, and_true, implies_true, true_implies, not_true_eq_false, not_false_eq_true, false_implies, hkTf_0, hkTf_n1, hkOr01, hkOr11, Int.reduceEq, Int.reduceLT, Int.reduceLE, hk102a, hk102b, hk102c, Nat.reduceEqDiff, or_true, true_or, or_false, false_or, and_false, false_and, Classical.not_not, true_implies, List.set_cons_zero, List.set_cons_succ, ne_eq, x_106_66, x_106_67, x_106_70, hkJK_66, hkJK_72, jA_66_8, jL_72, jR_66_8, hkP1_0, hkP1_2, hkP1_u, hkC8, List.map_cons, List.map_nil, List.sum_cons, List.sum_nil, hkCat_0, hkCat_1, hkCat_2, Nat.reduceAdd, Nat.reduceLeDiff, hkPush_s, hkPush_n, true_and, and_true, implies_true, true_implies, not_true_eq_false, not_false_eq_true, false_implies, hkTf_0, hkTf_n1, hkOr01, hkOr11, Int.reduceEq, Int.reduceLT, Int.reduceLE, hk102a, hk102b, hk102c, Nat.reduceEqDiff, or_true, true_or, or_false, false_or, and_false, false_and, Classical.not_not, true_implies, List.set_cons_zero, List.set_cons_succ, ne_eq, hc]
    repeat' (first | exact hQ | refine And.intro ?_ ?_ | intro _ | trivial | omega | (exfalso; omega))
  | succ m ih =>
    intro k g hk hc hQ
    have IH := ih (k + 1) (hkSet g 72 k 0) (by omega) (by rw [hkSet_row (by decide)]; exact hc) (by rw [show ((k + 1 : Nat) : Int) = (k : Int) + 1 from by omega, hkFil_n (by omega)]; exact hQ)
    have e1 : hkW ((k : Int) + 1) = ((k + 1 : Nat) : Int) := by rw [hkW_in (by omega) (by omega)]; omega
    rw [x_106_46]
    simp only [x_106_47, x_106_50, x_106_53, x_106_54, x_106_57, x_106_58, x_106_59, x_106_60, x_106_63, hkJK_66, hkJK_72, jA_66_8, jL_72, jR_66_8, hkP1_0, hkP1_2, hkP1_u, hkC8, List.map_cons, List.map_nil, List.sum_cons, List.sum_nil, hkCat_0, hkCat_1, hkCat_2, Nat.reduceAdd, Nat.reduceLeDiff, hkPush_s, hkPush_n, true_and, and_true, implies_true, true_implies, not_true_eq_false, not_false_eq_true, false_implies, hkTf_0, hkTf_n1, hkOr01, hkOr11, Int.reduceEq, Int.reduceLT, Int.reduceLE, hk102a, hk102b, hk102c, Nat.reduceEqDiff, or_true, true_or, or_false, false_or, and_false, false_and, Classical.not_not, true_implies, List.set_cons_zero, List.set_cons_succ, ne_eq, hkLe_t ht, e1]
    clear e1
    repeat' (first | exact IH | refine And.intro ?_ ?_ | intro _ | trivial | omega | (exfalso; omega))
def mbKeep (g g' : hkG) : Prop := (∀ q : Int, q < 66 ∨ q = 70 ∨ q = 73 ∨ 75 ≤ q → g' q = g q) ∧ ∀ k : Int, 3 ≤ k → g' 66 k = g 66 k
theorem m_box {g : hkG} {R N : Int} (ht : 190 ≤ t) (hb : bxOk R N) (hQ : ∀ g' : hkG, mbKeep g g' → MX g' R N → MF g' R N → (∀ p : Int, 0 ≤ p → p < 280 → g' 72 p = 0) → Q (some (0, bxC R N)) t g') : Xp 106 (d + 12) 0 [(2, 66), (0, R), (0, N), hkU] [] t g Q := by
  obtain ⟨b1, b2, b3, b4⟩ := id hb
  have K : Xp 106 (d + 12) 30 [(2, 66), (0, R), (0, N), hkU] [] t g Q := by
    simp only [x_106_30, x_106_31, x_106_32, x_106_35, x_106_36, x_106_37, x_106_40, x_106_41, hkJK_66, hkJK_72, jA_66_8, jL_72, jR_66_8, hkP1_0, hkP1_2, hkP1_u, hkC8, List.map_cons, List.map_nil, List.sum_cons, List.sum_nil, hkCat_0, hkCat_1, hkCat_2, Nat.reduceAdd, Nat.reduceLeDiff, hkPush_s, hkPush_n, true_and, and_true, implies_true, true_implies, not_true_eq_false, not_false_eq_true, false_implies, hkTf_0, hkTf_n1, hkOr01, hkOr11, Int.reduceEq, Int.reduceLT, Int.reduceLE, hk102a, hk102b, hk102c, Nat.reduceEqDiff, or_true, true_or, or_false, false_or, and_false, false_and, Classical.not_not, true_implies, List.set_cons_zero, List.set_cons_succ, ne_eq, hkLe_t ht]
    refine sx_shapesOfI (d := d + 10) ht hb (by rw [hkSet_rd, if_neg (by decide), hkSet_rd, if_pos ⟨rfl, rfl⟩]) (by rw [hkSet_rd, if_pos ⟨rfl, rfl⟩]) (fun g1 M1 k1 k2 k3 => ?_)
    simp only [x_106_44, x_106_45, hkJK_66, hkJK_72, jA_66_8, jL_72, jR_66_8, hkP1_0, hkP1_2, hkP1_u, hkC8, List.map_cons, List.map_nil, List.sum_cons, List.sum_nil, hkCat_0, hkCat_1, hkCat_2, Nat.reduceAdd, Nat.reduceLeDiff, hkPush_s, hkPush_n, true_and, and_true, implies_true, true_implies, not_true_eq_false, not_false_eq_true, false_implies, hkTf_0, hkTf_n1, hkOr01, hkOr11, Int.reduceEq, Int.reduceLT, Int.reduceLE, hk102a, hk102b, hk102c, Nat.reduceEqDiff, or_true, true_or, or_false, false_or, and_false, false_and, Classical.not_not, true_implies, List.set_cons_zero, List.set_cons_succ, ne_eq]
    refine l_mbox ht 280 0 g1 rfl (MX_f M1).2.2.1 (hQ _ ⟨fun q hq => ?_, fun k hk => ?_⟩ (MX_row M1 (fun k _ => ?_) ?_ ?_ ?_) ?_ (fun p p0 p1 => ?_))
    · rw [hkFil_row (by omega), k1 q (by omega) (by omega) (by omega) (by omega) (by omega) (by omega), hkSet_row (by omega), hkSet_row (by omega)]
    · rw [hkFil_row (by decide), k2 k (by omega), hkSet_rd, if_neg (by omega), hkSet_rd, if_neg (by omega)]
    · rw [hkFil_row (by decide)]
    · rw [hkFil_row (by decide)]
    · rw [hkFil_row (by decide)]
    · rw [hkFil_row (by decide)]
    · have hc := bx_C hb
      intro i j i0 i1 j0 j1
      rw [hkFil_row (by decide)]
      exact Or.inl (k3 _ (by omega) (by omega))
    · exact hkFil_in p0 p1
  have e1 : hkW (R + 1) = R + 1 := hkW_in (by omega) (by omega)
  simp only [x_106_0, x_106_1, x_106_2, x_106_3, x_106_6, x_106_9, x_106_12, x_106_13, x_106_14, x_106_15, x_106_16, x_106_17, x_106_18, x_106_21, x_106_24, x_106_27, x_106_29, hkJK_66, hkJK_72, jA_66_8, jL_72, jR_66_8, hkP1_0, hkP1_2, hkP1_u, hkC8, List.map_cons, List.map_nil, List.sum_cons, List.sum_nil, hkCat_0, hkCat_1, hkCat_2, Nat.reduceAdd, Nat.reduceLeDiff, hkPush_s, hkPush_n, true_and, and_true, implies_true, true_implies, not_true_eq_false, not_false_eq_true, false_implies, hkTf_0, hkTf_n1, hkOr01, hkOr11, Int.reduceEq, Int.reduceLT, Int.reduceLE, hk102a, hk102b, hk102c, Nat.reduceEqDiff, or_true, true_or, or_false, false_or, and_false, false_and, Classical.not_not, true_implies, List.set_cons_zero, List.set_cons_succ, ne_eq, sx_mIsIn, e1]
  clear e1
  repeat' (first | exact K | refine And.intro ?_ ?_ | intro _ | trivial | omega | (exfalso; omega))
theorem tie_box {g : hkG} {xs : Int → Int} {L m n : Int} (ht : 190 ≤ t) (hR : Rel xs L g) : Tie xs L 1 (d + 12) [(2, 0), (0, m), (0, n)] 106 [(2, 66), (0, m), (0, n), hkU] t g := by
  obtain ⟨R, N, hb, hr⟩ := id hR
  by_cases hv : (1 ≤ m ∧ m ≤ 4) ∧ (m + 1 ≤ n ∧ n ≤ 7)
  · have hb' : bxOk m n := ⟨by omega, by omega, by omega, by omega⟩
    have K : Xp 1 (d + 12) 24 [(2, 0), (0, m), (0, n)] [] t g (fun r t1 g1 => ∃ v, r = some v ∧ t1 = t ∧ Xp 106 (d + 12) 0 [(2, 66), (0, m), (0, n), hkU] [] t g1 (fun r2 t2 g2 => r2 = some v ∧ t2 = t ∧ Rel xs L g2)) := by
      simp only [x_1_24, x_1_25, x_1_26, x_1_27, hkJK_0, hkJK_1, hkJK_51, jA_0_0, jA_0_7, jR_0_0, jR_0_7, hkP1_0, hkP1_2, hkP1_u, hkC8, List.map_cons, List.map_nil, List.sum_cons, List.sum_nil, hkCat_0, hkCat_1, hkCat_2, Nat.reduceAdd, Nat.reduceLeDiff, hkPush_s, hkPush_n, true_and, and_true, implies_true, true_implies, not_true_eq_false, not_false_eq_true, false_implies, hkTf_0, hkTf_n1, hkOr01, hkOr11, Int.reduceEq, Int.reduceLT, Int.reduceLE, hk102a, hk102b, hk102c, Nat.reduceEqDiff, or_true, true_or, or_false, false_or, and_false, false_and, Classical.not_not, true_implies, List.set_cons_zero, List.set_cons_succ, ne_eq, hkLe_t ht]
      refine r_changeBox (d := d + 2) ht hb hb' (fun g1 k1 X1 P1 T1 D1 => ?_)
      have hx : hkFil g1 52 0 280 0 1 3 = bxC m n := by rw [hkFil_row (by decide)]; exact (BX_f X1).2.2.2.1
      simp only [x_1_30, x_1_31, x_1_34, x_1_37, x_1_38, x_1_41, x_1_44, hkJK_0, hkJK_1, hkJK_51, jA_0_0, jA_0_7, jR_0_0, jR_0_7, hkP1_0, hkP1_2, hkP1_u, hkC8, List.map_cons, List.map_nil, List.sum_cons, List.sum_nil, hkCat_0, hkCat_1, hkCat_2, Nat.reduceAdd, Nat.reduceLeDiff, hkPush_s, hkPush_n, true_and, and_true, implies_true, true_implies, not_true_eq_false, not_false_eq_true, false_implies, hkTf_0, hkTf_n1, hkOr01, hkOr11, Int.reduceEq, Int.reduceLT, Int.reduceLE, hk102a, hk102b, hk102c, Nat.reduceEqDiff, or_true, true_or, or_false, false_or, and_false, false_and, Classical.not_not, true_implies, List.set_cons_zero, List.set_cons_succ, ne_eq, hkLe_t ht, sx_sclr ht sm_51, hx]
      first | refine ⟨_, rfl, rfl, ?_⟩ | refine ⟨_, rfl, ?_⟩
      refine m_box ht hb' (fun g2 k2 M2 F2 z2 => ⟨rfl, rfl, m, n, ?_, ?_, ?_, ?_, ?_, ?_⟩)
      · have e : ∀ q : Int, q < 52 → g2 q = g1 q := fun q hq => by rw [k2.1 q (by omega), hkFil_row (by omega)]
        refine ⟨BX_row X1 (fun p p1 p2 => e p (by omega)), fun i n' s c1 c2 c3 c4 c5 c6 => by rw [e 13 (by decide)]; exact P1 i n' s c1 c2 c3 c4 c5 c6, by unfold TBI; rw [e 14 (by decide)]; exact T1, ?_, M2, F2⟩
        rw [e 17 (by decide)]
        rcases D1 with h | h
        · exact Or.inl h
        · exact Or.inr ⟨h.1, RDY_row h.2 (e 19 (by decide)) (e 20 (by decide))⟩
      · intro p p0 p1
        rw [z2 p p0 p1, k2.1 52 (by decide), hkFil_in p0 p1]
        exact ⟨rfl, by unfold rngS; decide, fun _ => rfl⟩
      · exact RK_row hr.2.1 (by rw [k2.1 0 (by decide), hkFil_row (by decide), k1 0 (by decide)]) (by rw [k2.1 56 (by decide), hkFil_row (by decide), k1 56 (by decide)]) (by rw [k2.1 73 (by decide), hkFil_row (by decide), k1 73 (by decide)]) (fun k h1 h2 => by rw [k2.2 k (by omega), hkFil_row (by decide), k1 66 (by decide)])
      · exact RT_row hr.2.2.1 (by rw [k2.1 24 (by decide), hkFil_row (by decide), k1 24 (by decide)]) (by rw [k2.1 24 (by decide), hkFil_row (by decide), k1 24 (by decide)]) (by rw [k2.1 27 (by decide), hkFil_row (by decide), k1 27 (by decide)]) (by rw [k2.1 85 (by decide), hkFil_row (by decide), k1 85 (by decide)]) (by rw [k2.2 12 (by decide), hkFil_row (by decide), k1 66 (by decide)]) (by rw [k2.2 32 (by decide), hkFil_row (by decide), k1 66 (by decide)])
      · exact RH_row hr.2.2.2.1 (fun q hq => by rw [k2.1 q (by omega), hkFil_row (by omega), k1 q (by omega)])
      · exact RL_row hr.2.2.2.2 (by rw [k2.1 (-1) (by decide), hkFil_row (by decide), k1 (-1) (by decide)]) (by rw [k2.1 (-2) (by decide), hkFil_row (by decide), k1 (-2) (by decide)])
    have e1 : hkW (m + 1) = m + 1 := hkW_in (by omega) (by omega)
    unfold Tie
    simp only [x_1_0, x_1_1, x_1_2, x_1_3, x_1_6, x_1_9, x_1_10, x_1_11, x_1_12, x_1_13, x_1_15, x_1_18, x_1_21, x_1_23, hkJK_0, hkJK_1, hkJK_51, jA_0_0, jA_0_7, jR_0_0, jR_0_7, hkP1_0, hkP1_2, hkP1_u, hkC8, List.map_cons, List.map_nil, List.sum_cons, List.sum_nil, hkCat_0, hkCat_1, hkCat_2, Nat.reduceAdd, Nat.reduceLeDiff, hkPush_s, hkPush_n, true_and, and_true, implies_true, true_implies, not_true_eq_false, not_false_eq_true, false_implies, hkTf_0, hkTf_n1, hkOr01, hkOr11, Int.reduceEq, Int.reduceLT, Int.reduceLE, hk102a, hk102b, hk102c, Nat.reduceEqDiff, or_true, true_or, or_false, false_or, and_false, false_and, Classical.not_not, true_implies, List.set_cons_zero, List.set_cons_succ, ne_eq, sx_isOff, e1]
    clear e1
    repeat' (first | exact K | refine And.intro ?_ ?_ | intro _ | trivial | omega | (exfalso; omega))
  · refine tie_still (v := (0, -2)) hR (fun Q hq => ?_) (fun Q hq => ?_)
    · by_cases hm : 1 ≤ m ∧ m ≤ 4
      · have e1 : hkW (m + 1) = m + 1 := hkW_in (by omega) (by omega)
        simp only [x_1_0, x_1_1, x_1_2, x_1_3, x_1_6, x_1_9, x_1_10, x_1_11, x_1_12, x_1_13, x_1_15, x_1_18, x_1_21, x_1_23, hkJK_0, hkJK_1, hkJK_51, jA_0_0, jA_0_7, jR_0_0, jR_0_7, hkP1_0, hkP1_2, hkP1_u, hkC8, List.map_cons, List.map_nil, List.sum_cons, List.sum_nil, hkCat_0, hkCat_1, hkCat_2, Nat.reduceAdd, Nat.reduceLeDiff, hkPush_s, hkPush_n, true_and, and_true, implies_true, true_implies, not_true_eq_false, not_false_eq_true, false_implies, hkTf_0, hkTf_n1, hkOr01, hkOr11, Int.reduceEq, Int.reduceLT, Int.reduceLE, hk102a, hk102b, hk102c, Nat.reduceEqDiff, or_true, true_or, or_false, false_or, and_false, false_and, Classical.not_not, true_implies, List.set_cons_zero, List.set_cons_succ, ne_eq, sx_isOff, e1]
        clear e1
        repeat' (first | exact hq | refine And.intro ?_ ?_ | intro _ | trivial | omega | (exfalso; omega))
      · simp only [x_1_0, x_1_1, x_1_2, x_1_3, x_1_6, x_1_9, x_1_10, x_1_11, x_1_12, x_1_13, x_1_15, x_1_18, x_1_21, x_1_23, hkJK_0, hkJK_1, hkJK_51, jA_0_0, jA_0_7, jR_0_0, jR_0_7, hkP1_0, hkP1_2, hkP1_u, hkC8, List.map_cons, List.map_nil, List.sum_cons, List.sum_nil, hkCat_0, hkCat_1, hkCat_2, Nat.reduceAdd, Nat.reduceLeDiff, hkPush_s, hkPush_n, true_and, and_true, implies_true, true_implies, not_true_eq_false, not_false_eq_true, false_implies, hkTf_0, hkTf_n1, hkOr01, hkOr11, Int.reduceEq, Int.reduceLT, Int.reduceLE, hk102a, hk102b, hk102c, Nat.reduceEqDiff, or_true, true_or, or_false, false_or, and_false, false_and, Classical.not_not, true_implies, List.set_cons_zero, List.set_cons_succ, ne_eq, sx_isOff]
        repeat' (first | exact hq | refine And.intro ?_ ?_ | intro _ | trivial | omega | (exfalso; omega))
    · by_cases hm : 1 ≤ m ∧ m ≤ 4
      · have e1 : hkW (m + 1) = m + 1 := hkW_in (by omega) (by omega)
        simp only [x_106_0, x_106_1, x_106_2, x_106_3, x_106_6, x_106_9, x_106_12, x_106_13, x_106_14, x_106_15, x_106_16, x_106_17, x_106_18, x_106_21, x_106_24, x_106_27, x_106_29, hkJK_66, hkJK_72, jA_66_8, jL_72, jR_66_8, hkP1_0, hkP1_2, hkP1_u, hkC8, List.map_cons, List.map_nil, List.sum_cons, List.sum_nil, hkCat_0, hkCat_1, hkCat_2, Nat.reduceAdd, Nat.reduceLeDiff, hkPush_s, hkPush_n, true_and, and_true, implies_true, true_implies, not_true_eq_false, not_false_eq_true, false_implies, hkTf_0, hkTf_n1, hkOr01, hkOr11, Int.reduceEq, Int.reduceLT, Int.reduceLE, hk102a, hk102b, hk102c, Nat.reduceEqDiff, or_true, true_or, or_false, false_or, and_false, false_and, Classical.not_not, true_implies, List.set_cons_zero, List.set_cons_succ, ne_eq, sx_mIsIn, e1]
        clear e1
        repeat' (first | exact hq | refine And.intro ?_ ?_ | intro _ | trivial | omega | (exfalso; omega))
      · simp only [x_106_0, x_106_1, x_106_2, x_106_3, x_106_6, x_106_9, x_106_12, x_106_13, x_106_14, x_106_15, x_106_16, x_106_17, x_106_18, x_106_21, x_106_24, x_106_27, x_106_29, hkJK_66, hkJK_72, jA_66_8, jL_72, jR_66_8, hkP1_0, hkP1_2, hkP1_u, hkC8, List.map_cons, List.map_nil, List.sum_cons, List.sum_nil, hkCat_0, hkCat_1, hkCat_2, Nat.reduceAdd, Nat.reduceLeDiff, hkPush_s, hkPush_n, true_and, and_true, implies_true, true_implies, not_true_eq_false, not_false_eq_true, false_implies, hkTf_0, hkTf_n1, hkOr01, hkOr11, Int.reduceEq, Int.reduceLT, Int.reduceLE, hk102a, hk102b, hk102c, Nat.reduceEqDiff, or_true, true_or, or_false, false_or, and_false, false_and, Classical.not_not, true_implies, List.set_cons_zero, List.set_cons_succ, ne_eq, sx_mIsIn]
        repeat' (first | exact hq | refine And.intro ?_ ?_ | intro _ | trivial | omega | (exfalso; omega))
end SP
