/-! ties: roots, term, scaled, row, count -/
def rtF2 (i j : Int) : Int → Int := fun k => if k = 0 then i else j
def rtsOk (R N i j l : Int) : Prop := (0 ≤ i ∧ i < bxC R N) ∧ (0 ≤ j ∧ j < bxC R N) ∧ (0 ≤ l ∧ l < bxC R N)
section SP
variable {t d : Nat} {R N : Int} {Q : Option hkV → Nat → hkG → Prop}
theorem RDY_or {g g' : hkG} (h : g 17 5 = 0 ∨ (g 17 5 = 1 ∧ RDY g R N)) (h1 : g' 17 5 = g 17 5) (h2 : g' 19 = g 19) (h3 : g' 20 = g 20) : g' 17 5 = 0 ∨ (g' 17 5 = 1 ∧ RDY g' R N) := by
  rw [h1]
  rcases h with h | h
  · exact Or.inl h
  · exact Or.inr ⟨h.1, RDY_row h.2 h2 h3⟩
/-- the class's own roots have been used -/
theorem RB_ro {g g' : hkG} (hb : RB g R N) (k1 : ∀ q : Int, q ≠ 17 → q ≠ 18 → q ≠ 19 → q ≠ 20 → q ≠ 21 → g' q = g q) (k2 : g' 17 5 = 1) (k3 : RDY g' R N) : qKeep g g' ∧ RB g' R N := by
  obtain ⟨hX, hP, hT, hRD, hM, hF⟩ := id hb
  have k : qKeep g g' := ⟨fun q a => k1 q (by unfold scr at a; omega) (by unfold scr at a; omega) (by unfold scr at a; omega) (by unfold scr at a; omega) (by unfold scr at a; omega), fun k _ => by rw [k1 66 (by decide) (by decide) (by decide) (by decide) (by decide)], by rw [k1 24 (by decide) (by decide) (by decide) (by decide) (by decide)], by rw [k1 24 (by decide) (by decide) (by decide) (by decide) (by decide)]⟩
  exact ⟨k, RB_q hb k (by unfold TBI; rw [k1 14 (by decide) (by decide) (by decide) (by decide) (by decide)]; exact hT) (Or.inr ⟨k2, k3⟩) (by unfold MF; rw [k1 71 (by decide) (by decide) (by decide) (by decide) (by decide), k1 70 (by decide) (by decide) (by decide) (by decide) (by decide)]; exact hF)⟩
theorem RB_mr {g g' : hkG} (hb : RB g R N) (k1 : ∀ q : Int, q ≠ 66 → q ≠ 80 → q ≠ 81 → q ≠ 82 → g' q = g q) (k2 : ∀ k : Int, k ≠ 26 → g' 66 k = g 66 k) : qKeep g g' ∧ RB g' R N := by
  obtain ⟨hX, hP, hT, hRD, hM, hF⟩ := id hb
  have k : qKeep g g' := ⟨fun q a => k1 q (by unfold scr at a; omega) (by unfold scr at a; omega) (by unfold scr at a; omega) (by unfold scr at a; omega), fun k a => k2 k (by unfold fld at a; omega), by rw [k1 24 (by decide) (by decide) (by decide) (by decide)], by rw [k1 24 (by decide) (by decide) (by decide) (by decide)]⟩
  exact ⟨k, RB_q hb k (by unfold TBI; rw [k1 14 (by decide) (by decide) (by decide) (by decide)]; exact hT) (RDY_or hRD (by rw [k1 17 (by decide) (by decide) (by decide) (by decide)]) (k1 19 (by decide) (by decide) (by decide) (by decide)) (k1 20 (by decide) (by decide) (by decide) (by decide))) (by unfold MF; rw [k1 71 (by decide) (by decide) (by decide) (by decide), k1 70 (by decide) (by decide) (by decide) (by decide)]; exact hF)⟩
theorem c_roots {g : hkG} (ht : 190 ≤ t) (hb : RB g R N) {i j l : Int} (h1 : ¬ rtsOk R N i j l → Q (some (0, -2)) t g) (hQ : rtsOk R N i j l → ∀ g' : hkG, qKeep g g' → RB g' R N → Q (some (0, RTS R N (rtF2 i j) 2 l)) t g') :
    Xp 13 (d + 12) 0 [(2, 0), (0, i), (0, j), (0, l)] [] t g Q := by
  have hc := bx_C hb.1.1
  obtain ⟨hX, hP, hT, hRD, hM, hF⟩ := id hb
  simp only [x_13_0, x_13_1, x_13_4, x_13_5, x_13_8, x_13_11, x_13_12, x_13_15, x_13_16, x_13_19, x_13_22, x_13_23, x_13_26, x_13_27, x_13_30, x_13_33, x_13_35, hkJK_0, hkJK_1, hkJK_17, hkJK_18, jA_0_0, jA_0_3, jA_17_0, jL_18, jR_0_0, jR_0_3, jR_17_0, hkP1_0, hkP1_2, hkP1_u, hkC8, List.map_cons, List.map_nil, List.sum_cons, List.sum_nil, hkCat_0, hkCat_1, hkCat_2, Nat.reduceAdd, Nat.reduceLeDiff, hkPush_s, hkPush_n, true_and, and_true, implies_true, true_implies, not_true_eq_false, not_false_eq_true, false_implies, hkTf_0, hkTf_n1, hkOr01, hkOr11, Int.reduceEq, Int.reduceLT, Int.reduceLE, hk102a, hk102b, hk102c, Nat.reduceEqDiff, or_true, true_or, or_false, false_or, and_false, false_and, Classical.not_not, true_implies, List.set_cons_zero, List.set_cons_succ, ne_eq, hkLe_t ht, sx_isShape ht hb.1]
  by_cases hv : rtsOk R N i j l
  · have hQ1 := hQ hv
    unfold rtsOk at hv
    have K : Xp 13 (d + 12) 36 [(2, 0), (0, i), (0, j), (0, l)] [] t g Q := by
      simp only [x_13_36, x_13_37, x_13_40, x_13_43, x_13_44, x_13_45, x_13_46, x_13_47, x_13_50, x_13_53, x_13_54, x_13_55, x_13_56, x_13_57, x_13_60, x_13_61, x_13_62, hkJK_0, hkJK_1, hkJK_17, hkJK_18, jA_0_0, jA_0_3, jA_17_0, jL_18, jR_0_0, jR_0_3, jR_17_0, hkP1_0, hkP1_2, hkP1_u, hkC8, List.map_cons, List.map_nil, List.sum_cons, List.sum_nil, hkCat_0, hkCat_1, hkCat_2, Nat.reduceAdd, Nat.reduceLeDiff, hkPush_s, hkPush_n, true_and, and_true, implies_true, true_implies, not_true_eq_false, not_false_eq_true, false_implies, hkTf_0, hkTf_n1, hkOr01, hkOr11, Int.reduceEq, Int.reduceLT, Int.reduceLE, hk102a, hk102b, hk102c, Nat.reduceEqDiff, or_true, true_or, or_false, false_or, and_false, false_and, Classical.not_not, true_implies, List.set_cons_zero, List.set_cons_succ, ne_eq, hkLe_t ht]
      have S := sx_rOften (t := t) (d := d + 5) (R := R) (N := N) (g := hkSet (hkSet g 18 0 i) 18 1 j) (Q := Q) (Nat.le_trans (by decide) ht) (BX_row hX (fun p p1 p2 => by rw [hkSet_row (by omega), hkSet_row (by omega)])) (n := 2) (by decide) (F := rtF2 i j) hv.2.2.1 hv.2.2.2 (RDY_or hRD (by rw [hkSet_row (by decide), hkSet_row (by decide)]) (by rw [hkSet_row (by decide), hkSet_row (by decide)]) (by rw [hkSet_row (by decide), hkSet_row (by decide)])) (fun k k0 k2 => ?_) (fun g' k1 k2 k3 => ?_)
      · show False
        sorry
      · have hkc : k = 0 ∨ k = 1 := by omega
        unfold rtF2
        rcases hkc with h | h <;> subst h
        · rw [if_pos rfl, hkSet_rd, if_neg (by decide), hkSet_rd, if_pos ⟨rfl, rfl⟩]; exact ⟨rfl, hv.1⟩
        · rw [if_neg (by decide), hkSet_rd, if_pos ⟨rfl, rfl⟩]; exact ⟨rfl, hv.2.1⟩
      · obtain ⟨a1, a2⟩ := RB_ro hb (g' := g') (fun q q1 q2 q3 q4 q5 => by rw [k1 q q1 q3 q4 q5, hkSet_row q2, hkSet_row q2]) k2 k3
        exact hQ1 g' a1 a2
    repeat' (first | exact K | refine And.intro ?_ ?_ | intro _ | (exfalso; omega))
  · have hq := h1 hv
    unfold rtsOk at hv
    repeat' (first | exact hq | refine And.intro ?_ ?_ | intro _ | (exfalso; omega))
end SP
