/-! ties: roots, term, scaled, row, count -/
def rtF2 (i j : Int) : Int → Int := fun k => if k = 0 then i else j
def rtsOk (R N i j l : Int) : Prop := (0 ≤ i ∧ i < bxC R N) ∧ (0 ≤ j ∧ j < bxC R N) ∧ (0 ≤ l ∧ l < bxC R N)
section SP
variable {t d : Nat} {R N : Int} {Q : Option hkV → Nat → hkG → Prop}
theorem RDY_or {g g' : hkG} (h : g 17 5 = 0 ∨ (g 17 5 = 1 ∧ RDY g R N)) (h1 : g' 17 5 = g 17 5) (h2 : g' 19 = g 19) (h3 : g' 20 = g 20) : g' 17 5 = 0 ∨ (g' 17 5 = 1 ∧ RDY g' R N) := by
  rw [h1]
  rcases h with h | h
  · exact Or.inl h
  · exact Or.inr ⟨h.1, RDY_row h.2 h2 h3⟩
/-- the class's own roots have been used -/
theorem RB_ro {g g' : hkG} (hb : RB g R N) (k1 : ∀ q : Int, q ≠ 17 → q ≠ 18 → q ≠ 19 → q ≠ 20 → q ≠ 21 → g' q = g q) (k2 : g' 17 5 = 1) (k3 : RDY g' R N) : qKeep g g' ∧ RB g' R N := by
  obtain ⟨hX, hP, hT, hRD, hM, hF⟩ := id hb
  have k : qKeep g g' := ⟨fun q a => k1 q (by unfold scr at a; omega) (by unfold scr at a; omega) (by unfold scr at a; omega) (by unfold scr at a; omega) (by unfold scr at a; omega), fun k _ => by rw [k1 66 (by decide) (by decide) (by decide) (by decide) (by decide)], by rw [k1 24 (by decide) (by decide) (by decide) (by decide) (by decide)], by rw [k1 24 (by decide) (by decide) (by decide) (by decide) (by decide)]⟩
  exact ⟨k, RB_q hb k (by unfold TBI; rw [k1 14 (by decide) (by decide) (by decide) (by decide) (by decide)]; exact hT) (Or.inr ⟨k2, k3⟩) (by unfold MF; rw [k1 71 (by decide) (by decide) (by decide) (by decide) (by decide), k1 70 (by decide) (by decide) (by decide) (by decide) (by decide)]; exact hF)⟩
theorem RB_mr {g g' : hkG} (hb : RB g R N) (k1 : ∀ q : Int, q ≠ 66 → q ≠ 80 → q ≠ 81 → q ≠ 82 → g' q = g q) (k2 : ∀ k : Int, k ≠ 26 → g' 66 k = g 66 k) : qKeep g g' ∧ RB g' R N := by
  obtain ⟨hX, hP, hT, hRD, hM, hF⟩ := id hb
  have k : qKeep g g' := ⟨fun q a => k1 q (by unfold scr at a; omega) (by unfold scr at a; omega) (by unfold scr at a; omega) (by unfold scr at a; omega), fun k a => k2 k (by unfold fld at a; omega), by rw [k1 24 (by decide) (by decide) (by decide) (by decide)], by rw [k1 24 (by decide) (by decide) (by decide) (by decide)]⟩
  exact ⟨k, RB_q hb k (by unfold TBI; rw [k1 14 (by decide) (by decide) (by decide) (by decide)]; exact hT) (RDY_or hRD (by rw [k1 17 (by decide) (by decide) (by decide) (by decide)]) (k1 19 (by decide) (by decide) (by decide) (by decide)) (k1 20 (by decide) (by decide) (by decide) (by decide))) (by unfold MF; rw [k1 71 (by decide) (by decide) (by decide) (by decide), k1 70 (by decide) (by decide) (by decide) (by decide)]; exact hF)⟩
theorem c_roots {g : hkG} (ht : 190 ≤ t) (hb : RB g R N) {i j l : Int} (h1 : ¬ rtsOk R N i j l → Q (some (0, -2)) t g) (hQ : rtsOk R N i j l → ∀ g' : hkG, qKeep g g' → RB g' R N → Q (some (0, RTS R N (rtF2 i j) 2 l)) t g') :
    Xp 13 (d + 12) 0 [(2, 0), (0, i), (0, j), (0, l)] [] t g Q := by
  have hc := bx_C hb.1.1
  obtain ⟨hX, hP, hT, hRD, hM, hF⟩ := id hb
  simp only [x_13_0, x_13_1, x_13_4, x_13_5, x_13_8, x_13_11, x_13_12, x_13_15, x_13_16, x_13_19, x_13_22, x_13_23, x_13_26, x_13_27, x_13_30, x_13_33, x_13_35, hkJK_0, hkJK_1, hkJK_17, hkJK_18, jA_0_0, jA_0_3, jA_17_0, jL_18, jR_0_0, jR_0_3, jR_17_0, hkP1_0, hkP1_2, hkP1_u, hkC8, List.map_cons, List.map_nil, List.sum_cons, List.sum_nil, hkCat_0, hkCat_1, hkCat_2, Nat.reduceAdd, Nat.reduceLeDiff, hkPush_s, hkPush_n, true_and, and_true, implies_true, true_implies, not_true_eq_false, not_false_eq_true, false_implies, hkTf_0, hkTf_n1, hkOr01, hkOr11, Int.reduceEq, Int.reduceLT, Int.reduceLE, hk102a, hk102b, hk102c, Nat.reduceEqDiff, or_true, true_or, or_false, false_or, and_false, false_and, Classical.not_not, true_implies, List.set_cons_zero, List.set_cons_succ, ne_eq, hkLe_t ht, sx_isShape ht hb.1]
  by_cases hv : rtsOk R N i j l
  · have hQ1 := hQ hv
    unfold rtsOk at hv
    have K : Xp 13 (d + 12) 36 [(2, 0), (0, i), (0, j), (0, l)] [] t g Q := by
      simp only [x_13_36, x_13_37, x_13_40, x_13_43, x_13_44, x_13_45, x_13_46, x_13_47, x_13_50, x_13_53, x_13_54, x_13_55, x_13_56, x_13_57, x_13_60, x_13_61, x_13_62, hkJK_0, hkJK_1, hkJK_17, hkJK_18, jA_0_0, jA_0_3, jA_17_0, jL_18, jR_0_0, jR_0_3, jR_17_0, hkP1_0, hkP1_2, hkP1_u, hkC8, List.map_cons, List.map_nil, List.sum_cons, List.sum_nil, hkCat_0, hkCat_1, hkCat_2, Nat.reduceAdd, Nat.reduceLeDiff, hkPush_s, hkPush_n, true_and, and_true, implies_true, true_implies, not_true_eq_false, not_false_eq_true, false_implies, hkTf_0, hkTf_n1, hkOr01, hkOr11, Int.reduceEq, Int.reduceLT, Int.reduceLE, hk102a, hk102b, hk102c, Nat.reduceEqDiff, or_true, true_or, or_false, false_or, and_false, false_and, Classical.not_not, true_implies, List.set_cons_zero, List.set_cons_succ, ne_eq, hkLe_t ht]
      refine sx_rOften (d := d + 5) (R := R) (N := N) (n := 2) (F := rtF2 i j) (Nat.le_trans (by decide) ht) (BX_row hX (fun p p1 p2 => by rw [hkSet_row (by omega), hkSet_row (by omega)])) (by decide) hv.2.2.1 hv.2.2.2 (RDY_or hRD (by rw [hkSet_row (by decide), hkSet_row (by decide)]) (by rw [hkSet_row (by decide), hkSet_row (by decide)]) (by rw [hkSet_row (by decide), hkSet_row (by decide)])) (fun k k0 k2 => ?_) (fun g' k1 k2 k3 => ?_)
      · have hkc : k = 0 ∨ k = 1 := by omega
        unfold rtF2
        rcases hkc with h | h <;> subst h
        · rw [if_pos rfl, hkSet_rd, if_neg (by decide), hkSet_rd, if_pos ⟨rfl, rfl⟩]; exact ⟨rfl, hv.1⟩
        · rw [if_neg (by decide), hkSet_rd, if_pos ⟨rfl, rfl⟩]; exact ⟨rfl, hv.2.1⟩
      · obtain ⟨a1, a2⟩ := RB_ro hb (g' := g') (fun q q1 q2 q3 q4 q5 => by rw [k1 q q1 q3 q4 q5, hkSet_row q2, hkSet_row q2]) k2 k3
        simp only [x_13_65, hkJK_0, hkJK_1, hkJK_17, hkJK_18, jA_0_0, jA_0_3, jA_17_0, jL_18, jR_0_0, jR_0_3, jR_17_0, hkP1_0, hkP1_2, hkP1_u, hkC8, List.map_cons, List.map_nil, List.sum_cons, List.sum_nil, hkCat_0, hkCat_1, hkCat_2, Nat.reduceAdd, Nat.reduceLeDiff, hkPush_s, hkPush_n, true_and, and_true, implies_true, true_implies, not_true_eq_false, not_false_eq_true, false_implies, hkTf_0, hkTf_n1, hkOr01, hkOr11, Int.reduceEq, Int.reduceLT, Int.reduceLE, hk102a, hk102b, hk102c, Nat.reduceEqDiff, or_true, true_or, or_false, false_or, and_false, false_and, Classical.not_not, true_implies, List.set_cons_zero, List.set_cons_succ, ne_eq]
        exact hQ1 g' a1 a2
    repeat' (first | exact K | refine And.intro ?_ ?_ | intro _ | omega | (exfalso; omega))
  · have hq := h1 hv
    unfold rtsOk at hv
    repeat' (first | exact hq | refine And.intro ?_ ?_ | intro _ | omega | (exfalso; omega))
theorem m_roots {g : hkG} (ht : 190 ≤ t) (hb : RB g R N) {i j l : Int} (h1 : ¬ rtsOk R N i j l → Q (some (0, -2)) t g) (hQ : rtsOk R N i j l → ∀ g' : hkG, qKeep g g' → RB g' R N → Q (some (0, RTS R N (rtF2 i j) 2 l)) t g') :
    Xp 131 (d + 12) 0 [(2, 66), (0, i), (0, j), (0, l)] [] t g Q := by
  have hc := bx_C hb.1.1
  obtain ⟨hX, hP, hT, hRD, hM, hF⟩ := id hb
  simp only [x_131_0, x_131_1, x_131_2, x_131_5, x_131_8, x_131_9, x_131_10, x_131_13, x_131_16, x_131_17, x_131_18, x_131_21, x_131_24, x_131_26, hkJK_66, hkJK_82, jA_66_25, jL_82, jR_66_25, hkP1_0, hkP1_2, hkP1_u, hkC8, List.map_cons, List.map_nil, List.sum_cons, List.sum_nil, hkCat_0, hkCat_1, hkCat_2, Nat.reduceAdd, Nat.reduceLeDiff, hkPush_s, hkPush_n, true_and, and_true, implies_true, true_implies, not_true_eq_false, not_false_eq_true, false_implies, hkTf_0, hkTf_n1, hkOr01, hkOr11, Int.reduceEq, Int.reduceLT, Int.reduceLE, hk102a, hk102b, hk102c, Nat.reduceEqDiff, or_true, true_or, or_false, false_or, and_false, false_and, Classical.not_not, true_implies, List.set_cons_zero, List.set_cons_succ, ne_eq, hkLe_t ht, sx_mIsShape ht hM]
  by_cases hv : rtsOk R N i j l
  · have hQ1 := hQ hv
    unfold rtsOk at hv
    have K : Xp 131 (d + 12) 27 [(2, 66), (0, i), (0, j), (0, l)] [] t g Q := by
      simp only [x_131_27, x_131_28, x_131_31, x_131_32, x_131_33, x_131_34, x_131_35, x_131_38, x_131_39, x_131_40, x_131_41, x_131_42, x_131_43, x_131_46, x_131_47, x_131_48, hkJK_66, hkJK_82, jA_66_25, jL_82, jR_66_25, hkP1_0, hkP1_2, hkP1_u, hkC8, List.map_cons, List.map_nil, List.sum_cons, List.sum_nil, hkCat_0, hkCat_1, hkCat_2, Nat.reduceAdd, Nat.reduceLeDiff, hkPush_s, hkPush_n, true_and, and_true, implies_true, true_implies, not_true_eq_false, not_false_eq_true, false_implies, hkTf_0, hkTf_n1, hkOr01, hkOr11, Int.reduceEq, Int.reduceLT, Int.reduceLE, hk102a, hk102b, hk102c, Nat.reduceEqDiff, or_true, true_or, or_false, false_or, and_false, false_and, Classical.not_not, true_implies, List.set_cons_zero, List.set_cons_succ, ne_eq, hkLe_t ht]
      refine sx_mbyRoots (d := d + 4) (R := R) (N := N) (n := 2) (F := rtF2 i j) ht ?_ (by decide) (by rw [hkSet_rd, if_pos ⟨rfl, rfl⟩]; rfl) hv.2.2.1 hv.2.2.2 (fun k k0 k2 => ?_) (fun g' k1 => ?_)
      · exact MX_row hM (fun k hk => by rw [hkSet_rd, if_neg (by omega), hkSet_row (by decide), hkSet_row (by decide)]) (by rw [hkSet_row (by decide), hkSet_row (by decide), hkSet_row (by decide)]) (by rw [hkSet_row (by decide), hkSet_row (by decide), hkSet_row (by decide)]) (by rw [hkSet_row (by decide), hkSet_row (by decide), hkSet_row (by decide)])
      · have hkc : k = 0 ∨ k = 1 := by omega
        unfold rtF2
        rw [hkSet_row (by decide)]
        rcases hkc with h | h <;> subst h
        · rw [if_pos rfl, hkSet_rd, if_neg (by decide), hkSet_rd, if_pos ⟨rfl, rfl⟩]; exact ⟨rfl, hv.1⟩
        · rw [if_neg (by decide), hkSet_rd, if_pos ⟨rfl, rfl⟩]; exact ⟨rfl, hv.2.1⟩
      · obtain ⟨a1, a2⟩ := RB_mr hb (g' := g') (fun q q1 q2 q3 q4 => by rw [k1 q q2 q3, hkSet_row q1, hkSet_row q4, hkSet_row q4]) (fun k hk => by rw [k1 66 (by decide) (by decide), hkSet_rd, if_neg (fun h => hk h.2), hkSet_row (by decide), hkSet_row (by decide)])
        simp only [x_131_51, hkJK_66, hkJK_82, jA_66_25, jL_82, jR_66_25, hkP1_0, hkP1_2, hkP1_u, hkC8, List.map_cons, List.map_nil, List.sum_cons, List.sum_nil, hkCat_0, hkCat_1, hkCat_2, Nat.reduceAdd, Nat.reduceLeDiff, hkPush_s, hkPush_n, true_and, and_true, implies_true, true_implies, not_true_eq_false, not_false_eq_true, false_implies, hkTf_0, hkTf_n1, hkOr01, hkOr11, Int.reduceEq, Int.reduceLT, Int.reduceLE, hk102a, hk102b, hk102c, Nat.reduceEqDiff, or_true, true_or, or_false, false_or, and_false, false_and, Classical.not_not, true_implies, List.set_cons_zero, List.set_cons_succ, ne_eq]
        exact hQ1 g' a1 a2
    repeat' (first | exact K | refine And.intro ?_ ?_ | intro _ | omega | (exfalso; omega))
  · have hq := h1 hv
    unfold rtsOk at hv
    repeat' (first | exact hq | refine And.intro ?_ ?_ | intro _ | omega | (exfalso; omega))
theorem tie_roots {g : hkG} {xs : Int → Int} {L i j l : Int} (ht : 190 ≤ t) (hR : Rel xs L g) : Tie xs L 13 (d + 12) [(2, 0), (0, i), (0, j), (0, l)] 131 [(2, 66), (0, i), (0, j), (0, l)] t g := by
  obtain ⟨R, N, hb, hr⟩ := hR
  refine c_roots ht hb (fun hv => ⟨_, rfl, rfl, ?_⟩) (fun hv g1 k1 hb1 => ⟨_, rfl, rfl, ?_⟩)
  · exact m_roots ht hb (fun _ => ⟨rfl, rfl, R, N, hb, hr⟩) (fun h => absurd h hv)
  · exact m_roots ht hb1 (fun h => absurd hv h) (fun _ g2 k2 hb2 => ⟨rfl, rfl, Rel_q hb2 (qKeep_t k1 k2) hr⟩)
/-- answers that change nothing, of class and reference -/
theorem tie_still {g : hkG} {xs : Int → Int} {L : Int} {y y' : Nat} {as as' : List hkV} {v : hkV} (hR : Rel xs L g) (h1 : ∀ Q : Option hkV → Nat → hkG → Prop, Q (some v) t g → Xp y d 0 as [] t g Q) (h2 : ∀ Q : Option hkV → Nat → hkG → Prop, Q (some v) t g → Xp y' d 0 as' [] t g Q) : Tie xs L y d as y' as' t g :=
  h1 _ ⟨v, rfl, rfl, h2 _ ⟨rfl, rfl, hR⟩⟩
theorem sx_mIsTerm {g : hkG} (ht : 190 ≤ t) (hM : MX g R N) {dd l : Int} : Xp 140 (d + 2) 0 [(2, 66), (0, dd), (0, l)] [] t g Q = Q (some (0, hkTf ((0 ≤ dd ∧ dd ≤ 7) ∧ 0 ≤ l ∧ l < bxC R N))) t g := by
  refine Xp_ev (d := 2) (Ev_of ?_) (by omega)
  simp only [x_140_0, x_140_1, x_140_2, x_140_3, x_140_6, x_140_9, x_140_12, x_140_13, x_140_14, x_140_17, x_140_20, x_140_21, x_140_24, x_140_25, hkJK_66, hkP1_0, hkP1_2, hkP1_u, hkC8, List.map_cons, List.map_nil, List.sum_cons, List.sum_nil, hkCat_0, hkCat_1, hkCat_2, Nat.reduceAdd, Nat.reduceLeDiff, hkPush_s, hkPush_n, true_and, and_true, implies_true, true_implies, not_true_eq_false, not_false_eq_true, false_implies, hkTf_0, hkTf_n1, hkOr01, hkOr11, Int.reduceEq, Int.reduceLT, Int.reduceLE, hk102a, hk102b, hk102c, Nat.reduceEqDiff, or_true, true_or, or_false, false_or, and_false, false_and, Classical.not_not, true_implies, List.set_cons_zero, List.set_cons_succ, ne_eq, hkLe_t ht, sx_mIsShape ht hM, sx_mIsIn]
  by_cases h1 : 0 ≤ dd ∧ dd ≤ 7
  · by_cases h2 : 0 ≤ l ∧ l < bxC R N
    · refine And.intro (fun h => absurd h1 h) (fun _ => And.intro (fun h => absurd h2 h) (fun _ => ?_))
      rw [hkTf_t ⟨h1, h2⟩]
    · refine And.intro (fun h => absurd h1 h) (fun _ => And.intro (fun _ => ?_) (fun h => absurd h h2))
      rw [hkTf_f (fun h => h2 h.2)]
  · refine And.intro (fun _ => ?_) (fun h => absurd h h1)
    rw [hkTf_f (fun h => h1 h.1)]
theorem hkCmp_z {a b : Int} : (hkCmp a b = 0) = (a = b) := by
  unfold hkCmp
  apply propext
  constructor
  · intro h; split at h; omega; split at h <;> omega
  · intro h; rw [if_neg (by omega), if_pos h]
theorem tie_term {g : hkG} {xs : Int → Int} {L dd l : Int} (ht : 190 ≤ t) (hR : Rel xs L g) : Tie xs L 15 (d + 12) [(2, 0), (0, dd), (0, l)] 139 [(2, 66), (0, dd), (0, l)] t g := by
  obtain ⟨R, N, hb, hr⟩ := id hR
  obtain ⟨hX, hP, hT, hRD, hM, hF⟩ := id hb
  have hc := bx_C hX.1
  by_cases hv : (0 ≤ dd ∧ dd ≤ 7) ∧ 0 ≤ l ∧ l < bxC R N
  · have hS := hr.1 (35 * dd + l) (by omega) (by omega)
    obtain ⟨e1, e2, e3⟩ : hkW (dd * 35) = 35 * dd ∧ hkW (35 * dd + l) = 35 * dd + l ∧ hkW (35 * dd) = 35 * dd := ⟨by rw [hkW_in (by omega) (by omega)]; omega, hkW_in (by omega) (by omega), hkW_in (by omega) (by omega)⟩
    refine tie_still (v := (0, g 72 (35 * dd + l))) hR (fun Q hq => ?_) (fun Q hq => ?_)
    · simp only [x_15_0, x_15_1, x_15_2, x_15_4, x_15_7, x_15_10, x_15_11, x_15_14, x_15_15, x_15_18, x_15_21, x_15_22, x_15_25, x_15_26, x_15_29, x_15_32, x_15_33, x_15_35, x_15_36, x_15_37, x_15_38, x_15_39, hkJK_0, hkJK_1, hkJK_51, jA_0_0, jA_0_7, jR_0_0, jR_0_7, hkP1_0, hkP1_2, hkP1_u, hkC8, List.map_cons, List.map_nil, List.sum_cons, List.sum_nil, hkCat_0, hkCat_1, hkCat_2, Nat.reduceAdd, Nat.reduceLeDiff, hkPush_s, hkPush_n, true_and, and_true, implies_true, true_implies, not_true_eq_false, not_false_eq_true, false_implies, hkTf_0, hkTf_n1, hkOr01, hkOr11, Int.reduceEq, Int.reduceLT, Int.reduceLE, hk102a, hk102b, hk102c, Nat.reduceEqDiff, or_true, true_or, or_false, false_or, and_false, false_and, Classical.not_not, true_implies, List.set_cons_zero, List.set_cons_succ, ne_eq, hkLe_t ht, sx_isShape ht hX, sx_isOff, e1, e2, hS.1, jA_51_0, jR_51_0, hkJK_51, jL_52, hkJK_52, jA_53_0, jR_53_0, hkJK_53, jL_54, hkJK_54, jA_55_0, jR_55_0, hkJK_55, jL_56, hkJK_56, hkCmp_z]
      clear e1 e2 e3
      repeat' (first | exact hq | refine And.intro ?_ ?_ | intro _ | omega | (exfalso; omega))
    · simp only [x_139_0, x_139_1, x_139_2, x_139_3, x_139_6, x_139_9, x_139_10, x_139_13, x_139_15, x_139_16, x_139_17, x_139_18, x_139_19, x_139_20, x_139_23, x_139_24, hkJK_66, hkJK_72, jA_66_8, jL_72, jR_66_8, hkP1_0, hkP1_2, hkP1_u, hkC8, List.map_cons, List.map_nil, List.sum_cons, List.sum_nil, hkCat_0, hkCat_1, hkCat_2, Nat.reduceAdd, Nat.reduceLeDiff, hkPush_s, hkPush_n, true_and, and_true, implies_true, true_implies, not_true_eq_false, not_false_eq_true, false_implies, hkTf_0, hkTf_n1, hkOr01, hkOr11, Int.reduceEq, Int.reduceLT, Int.reduceLE, hk102a, hk102b, hk102c, Nat.reduceEqDiff, or_true, true_or, or_false, false_or, and_false, false_and, Classical.not_not, true_implies, List.set_cons_zero, List.set_cons_succ, ne_eq, hkLe_t ht, sx_mIsTerm ht hM, e3, e2, hkCmp_z]
      clear e1 e2 e3
      repeat' (first | exact hq | refine And.intro ?_ ?_ | intro _ | omega | (exfalso; omega))
  · refine tie_still (v := (0, 0)) hR (fun Q hq => ?_) (fun Q hq => ?_)
    · simp only [x_15_0, x_15_1, x_15_2, x_15_4, x_15_7, x_15_10, x_15_11, x_15_14, x_15_15, x_15_18, x_15_21, x_15_22, x_15_25, x_15_26, x_15_29, x_15_32, x_15_33, x_15_35, x_15_36, x_15_37, x_15_38, x_15_39, hkJK_0, hkJK_1, hkJK_51, jA_0_0, jA_0_7, jR_0_0, jR_0_7, hkP1_0, hkP1_2, hkP1_u, hkC8, List.map_cons, List.map_nil, List.sum_cons, List.sum_nil, hkCat_0, hkCat_1, hkCat_2, Nat.reduceAdd, Nat.reduceLeDiff, hkPush_s, hkPush_n, true_and, and_true, implies_true, true_implies, not_true_eq_false, not_false_eq_true, false_implies, hkTf_0, hkTf_n1, hkOr01, hkOr11, Int.reduceEq, Int.reduceLT, Int.reduceLE, hk102a, hk102b, hk102c, Nat.reduceEqDiff, or_true, true_or, or_false, false_or, and_false, false_and, Classical.not_not, true_implies, List.set_cons_zero, List.set_cons_succ, ne_eq, hkLe_t ht, sx_isShape ht hX, sx_isOff]
      repeat' (first | exact hq | refine And.intro ?_ ?_ | intro _ | omega | (exfalso; omega))
    · simp only [x_139_0, x_139_1, x_139_2, x_139_3, x_139_6, x_139_9, x_139_10, x_139_13, x_139_15, x_139_16, x_139_17, x_139_18, x_139_19, x_139_20, x_139_23, x_139_24, hkJK_66, hkJK_72, jA_66_8, jL_72, jR_66_8, hkP1_0, hkP1_2, hkP1_u, hkC8, List.map_cons, List.map_nil, List.sum_cons, List.sum_nil, hkCat_0, hkCat_1, hkCat_2, Nat.reduceAdd, Nat.reduceLeDiff, hkPush_s, hkPush_n, true_and, and_true, implies_true, true_implies, not_true_eq_false, not_false_eq_true, false_implies, hkTf_0, hkTf_n1, hkOr01, hkOr11, Int.reduceEq, Int.reduceLT, Int.reduceLE, hk102a, hk102b, hk102c, Nat.reduceEqDiff, or_true, true_or, or_false, false_or, and_false, false_and, Classical.not_not, true_implies, List.set_cons_zero, List.set_cons_succ, ne_eq, hkLe_t ht, sx_mIsTerm ht hM]
      repeat' (first | exact hq | refine And.intro ?_ ?_ | intro _ | omega | (exfalso; omega))
theorem tie_scaled {g : hkG} {xs : Int → Int} {L dd l b : Int} (ht : 190 ≤ t) (hR : Rel xs L g) : Tie xs L 16 (d + 12) [(2, 0), (0, dd), (0, l), (0, b), hkU, hkU] 141 [(2, 66), (0, dd), (0, l), (0, b), hkU, hkU] t g := by
  obtain ⟨R, N, hb, hr⟩ := id hR
  obtain ⟨hX, hP, hT, hRD, hM, hF⟩ := id hb
  have hc := bx_C hX.1
  by_cases hv : (0 ≤ dd ∧ dd ≤ 7) ∧ 0 ≤ l ∧ l < bxC R N
  · have hS := hr.1 (35 * dd + l) (by omega) (by omega)
    obtain ⟨e1, e2, e3⟩ : hkW (dd * 35) = 35 * dd ∧ hkW (35 * dd + l) = 35 * dd + l ∧ hkW (35 * dd) = 35 * dd := ⟨by rw [hkW_in (by omega) (by omega)]; omega, hkW_in (by omega) (by omega), hkW_in (by omega) (by omega)⟩
    refine tie_still (v := (1, if hkL (g 72 (35 * dd + l) * b) = hkW (hkL (g 72 (35 * dd + l) * b)) then hkL (g 72 (35 * dd + l) * b) else -9223372036854775808)) hR (fun Q hq => ?_) (fun Q hq => ?_)
    · simp only [x_16_0, x_16_1, x_16_2, x_16_4, x_16_7, x_16_10, x_16_11, x_16_14, x_16_15, x_16_18, x_16_21, x_16_24, x_16_25, x_16_26, x_16_29, x_16_32, x_16_33, x_16_35, x_16_36, x_16_37, x_16_38, x_16_39, x_16_40, x_16_41, x_16_42, x_16_43, x_16_45, x_16_47, x_16_49, x_16_50, x_16_51, x_16_52, x_16_55, x_16_57, x_16_60, x_16_63, hkJK_0, hkJK_1, hkJK_51, jA_0_0, jA_0_7, jR_0_0, jR_0_7, hkP1_0, hkP1_2, hkP1_u, hkC8, List.map_cons, List.map_nil, List.sum_cons, List.sum_nil, hkCat_0, hkCat_1, hkCat_2, Nat.reduceAdd, Nat.reduceLeDiff, hkPush_s, hkPush_n, true_and, and_true, implies_true, true_implies, not_true_eq_false, not_false_eq_true, false_implies, hkTf_0, hkTf_n1, hkOr01, hkOr11, Int.reduceEq, Int.reduceLT, Int.reduceLE, hk102a, hk102b, hk102c, Nat.reduceEqDiff, or_true, true_or, or_false, false_or, and_false, false_and, Classical.not_not, true_implies, List.set_cons_zero, List.set_cons_succ, ne_eq, hkLe_t ht, sx_isShape ht hX, sx_isOff, e1, e2, hS.1, jA_51_0, jR_51_0, hkJK_51, jL_52, hkJK_52, jA_53_0, jR_53_0, hkJK_53, jL_54, hkJK_54, jA_55_0, jR_55_0, hkJK_55, jL_56, hkJK_56, hkCmp_z]
      clear e1 e2 e3
      by_cases he : hkL (g 72 (35 * dd + l) * b) = hkW (hkL (g 72 (35 * dd + l) * b))
      · rw [if_pos he] at hq
        repeat' (first | exact hq | exact absurd he (by assumption) | refine And.intro ?_ ?_ | intro _ | omega | (exfalso; omega))
      · rw [if_neg he] at hq
        repeat' (first | exact hq | exact absurd (by assumption) he | refine And.intro ?_ ?_ | intro _ | omega | (exfalso; omega))
    · simp only [x_141_0, x_141_1, x_141_2, x_141_3, x_141_6, x_141_9, x_141_12, x_141_13, x_141_14, x_141_17, x_141_19, x_141_20, x_141_21, x_141_22, x_141_23, x_141_24, x_141_25, x_141_26, x_141_27, x_141_28, x_141_30, x_141_32, x_141_34, x_141_35, x_141_36, x_141_37, x_141_40, x_141_42, x_141_45, x_141_48, hkJK_66, hkJK_72, jA_66_8, jL_72, jR_66_8, hkP1_0, hkP1_2, hkP1_u, hkC8, List.map_cons, List.map_nil, List.sum_cons, List.sum_nil, hkCat_0, hkCat_1, hkCat_2, Nat.reduceAdd, Nat.reduceLeDiff, hkPush_s, hkPush_n, true_and, and_true, implies_true, true_implies, not_true_eq_false, not_false_eq_true, false_implies, hkTf_0, hkTf_n1, hkOr01, hkOr11, Int.reduceEq, Int.reduceLT, Int.reduceLE, hk102a, hk102b, hk102c, Nat.reduceEqDiff, or_true, true_or, or_false, false_or, and_false, false_and, Classical.not_not, true_implies, List.set_cons_zero, List.set_cons_succ, ne_eq, hkLe_t ht, sx_mIsTerm ht hM, e3, e2, hkCmp_z]
      clear e1 e2 e3
      by_cases he : hkL (g 72 (35 * dd + l) * b) = hkW (hkL (g 72 (35 * dd + l) * b))
      · rw [if_pos he] at hq
        repeat' (first | exact hq | exact absurd he (by assumption) | refine And.intro ?_ ?_ | intro _ | omega | (exfalso; omega))
      · rw [if_neg he] at hq
        repeat' (first | exact hq | exact absurd (by assumption) he | refine And.intro ?_ ?_ | intro _ | omega | (exfalso; omega))
  · refine tie_still (v := (1, -9223372036854775808)) hR (fun Q hq => ?_) (fun Q hq => ?_)
    · simp only [x_16_0, x_16_1, x_16_2, x_16_4, x_16_7, x_16_10, x_16_11, x_16_14, x_16_15, x_16_18, x_16_21, x_16_24, x_16_25, x_16_26, x_16_29, x_16_32, x_16_33, x_16_35, x_16_36, x_16_37, x_16_38, x_16_39, x_16_40, x_16_41, x_16_42, x_16_43, x_16_45, x_16_47, x_16_49, x_16_50, x_16_51, x_16_52, x_16_55, x_16_57, x_16_60, x_16_63, hkJK_0, hkJK_1, hkJK_51, jA_0_0, jA_0_7, jR_0_0, jR_0_7, hkP1_0, hkP1_2, hkP1_u, hkC8, List.map_cons, List.map_nil, List.sum_cons, List.sum_nil, hkCat_0, hkCat_1, hkCat_2, Nat.reduceAdd, Nat.reduceLeDiff, hkPush_s, hkPush_n, true_and, and_true, implies_true, true_implies, not_true_eq_false, not_false_eq_true, false_implies, hkTf_0, hkTf_n1, hkOr01, hkOr11, Int.reduceEq, Int.reduceLT, Int.reduceLE, hk102a, hk102b, hk102c, Nat.reduceEqDiff, or_true, true_or, or_false, false_or, and_false, false_and, Classical.not_not, true_implies, List.set_cons_zero, List.set_cons_succ, ne_eq, hkLe_t ht, sx_isShape ht hX, sx_isOff]
      repeat' (first | exact hq | refine And.intro ?_ ?_ | intro _ | omega | (exfalso; omega))
    · simp only [x_141_0, x_141_1, x_141_2, x_141_3, x_141_6, x_141_9, x_141_12, x_141_13, x_141_14, x_141_17, x_141_19, x_141_20, x_141_21, x_141_22, x_141_23, x_141_24, x_141_25, x_141_26, x_141_27, x_141_28, x_141_30, x_141_32, x_141_34, x_141_35, x_141_36, x_141_37, x_141_40, x_141_42, x_141_45, x_141_48, hkJK_66, hkJK_72, jA_66_8, jL_72, jR_66_8, hkP1_0, hkP1_2, hkP1_u, hkC8, List.map_cons, List.map_nil, List.sum_cons, List.sum_nil, hkCat_0, hkCat_1, hkCat_2, Nat.reduceAdd, Nat.reduceLeDiff, hkPush_s, hkPush_n, true_and, and_true, implies_true, true_implies, not_true_eq_false, not_false_eq_true, false_implies, hkTf_0, hkTf_n1, hkOr01, hkOr11, Int.reduceEq, Int.reduceLT, Int.reduceLE, hk102a, hk102b, hk102c, Nat.reduceEqDiff, or_true, true_or, or_false, false_or, and_false, false_and, Classical.not_not, true_implies, List.set_cons_zero, List.set_cons_succ, ne_eq, hkLe_t ht, sx_mIsTerm ht hM]
      repeat' (first | exact hq | refine And.intro ?_ ?_ | intro _ | omega | (exfalso; omega))
end SP
